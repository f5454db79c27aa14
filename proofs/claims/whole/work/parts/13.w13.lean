/-! ===== TwigMatches$Text.readDocument(LTwigMatches$Tree;)I ===== -/
theorem dX3_readDocument_0 : decode cX3_readDocument 0 = .ok (.aload_n 1, 1) := by decide +kernel
theorem dX3_readDocument_1 : decode cX3_readDocument 1 = .ok (.iconst 0, 1) := by decide +kernel
theorem dX3_readDocument_2 : decode cX3_readDocument 2 = .ok (.putfield 22, 3) := by decide +kernel
theorem dX3_readDocument_5 : decode cX3_readDocument 5 = .ok (.iconst 0, 1) := by decide +kernel
theorem dX3_readDocument_6 : decode cX3_readDocument 6 = .ok (.istore_n 2, 1) := by decide +kernel
theorem dX3_readDocument_7 : decode cX3_readDocument 7 = .ok (.iconst 1, 1) := by decide +kernel
theorem dX3_readDocument_8 : decode cX3_readDocument 8 = .ok (.istore_n 3, 1) := by decide +kernel
theorem dX3_readDocument_9 : decode cX3_readDocument 9 = .ok (.iconst 0, 1) := by decide +kernel
theorem dX3_readDocument_10 : decode cX3_readDocument 10 = .ok (.istore 4, 2) := by decide +kernel
theorem dX3_readDocument_12 : decode cX3_readDocument 12 = .ok (.iload 4, 2) := by decide +kernel
theorem dX3_readDocument_14 : decode cX3_readDocument 14 = .ok (.aload_n 0, 1) := by decide +kernel
theorem dX3_readDocument_15 : decode cX3_readDocument 15 = .ok (.getfield 15, 3) := by decide +kernel
theorem dX3_readDocument_18 : decode cX3_readDocument 18 = .ok (.if_icmp .ge 175, 3) := by decide +kernel
theorem dX3_readDocument_21 : decode cX3_readDocument 21 = .ok (.aload_n 0, 1) := by decide +kernel
theorem dX3_readDocument_22 : decode cX3_readDocument 22 = .ok (.getfield 9, 3) := by decide +kernel
theorem dX3_readDocument_25 : decode cX3_readDocument 25 = .ok (.iload 4, 2) := by decide +kernel
theorem dX3_readDocument_27 : decode cX3_readDocument 27 = .ok (.iaload, 1) := by decide +kernel
theorem dX3_readDocument_28 : decode cX3_readDocument 28 = .ok (.istore 5, 2) := by decide +kernel
theorem dX3_readDocument_30 : decode cX3_readDocument 30 = .ok (.iload 5, 2) := by decide +kernel
theorem dX3_readDocument_32 : decode cX3_readDocument 32 = .ok (.invokestatic 27, 3) := by decide +kernel
theorem dX3_readDocument_35 : decode cX3_readDocument 35 = .ok (.ifCond .eq 58, 3) := by decide +kernel
theorem dX3_readDocument_38 : decode cX3_readDocument 38 = .ok (.iload_n 2, 1) := by decide +kernel
theorem dX3_readDocument_39 : decode cX3_readDocument 39 = .ok (.ifCond .eq 8, 3) := by decide +kernel
theorem dX3_readDocument_42 : decode cX3_readDocument 42 = .ok (.iload_n 3, 1) := by decide +kernel
theorem dX3_readDocument_43 : decode cX3_readDocument 43 = .ok (.iconst 1, 1) := by decide +kernel
theorem dX3_readDocument_44 : decode cX3_readDocument 44 = .ok (.if_icmp .le 49, 3) := by decide +kernel
theorem dX3_readDocument_47 : decode cX3_readDocument 47 = .ok (.aload_n 1, 1) := by decide +kernel
theorem dX3_readDocument_48 : decode cX3_readDocument 48 = .ok (.getfield 22, 3) := by decide +kernel
theorem dX3_readDocument_51 : decode cX3_readDocument 51 = .ok (.bipush 32, 2) := by decide +kernel
theorem dX3_readDocument_53 : decode cX3_readDocument 53 = .ok (.if_icmp .lt 11, 3) := by decide +kernel
theorem dX3_readDocument_56 : decode cX3_readDocument 56 = .ok (.aload_n 0, 1) := by decide +kernel
theorem dX3_readDocument_57 : decode cX3_readDocument 57 = .ok (.iload 4, 2) := by decide +kernel
theorem dX3_readDocument_59 : decode cX3_readDocument 59 = .ok (.iconst 2, 1) := by decide +kernel
theorem dX3_readDocument_60 : decode cX3_readDocument 60 = .ok (.invokevirtual 31, 3) := by decide +kernel
theorem dX3_readDocument_63 : decode cX3_readDocument 63 = .ok (.ireturn, 1) := by decide +kernel
theorem dX3_readDocument_64 : decode cX3_readDocument 64 = .ok (.iload_n 3, 1) := by decide +kernel
theorem dX3_readDocument_65 : decode cX3_readDocument 65 = .ok (.bipush 10, 2) := by decide +kernel
theorem dX3_readDocument_67 : decode cX3_readDocument 67 = .ok (.if_icmp .le 11, 3) := by decide +kernel
theorem dX3_readDocument_70 : decode cX3_readDocument 70 = .ok (.aload_n 0, 1) := by decide +kernel
theorem dX3_readDocument_71 : decode cX3_readDocument 71 = .ok (.iload 4, 2) := by decide +kernel
theorem dX3_readDocument_73 : decode cX3_readDocument 73 = .ok (.iconst 3, 1) := by decide +kernel
theorem dX3_readDocument_74 : decode cX3_readDocument 74 = .ok (.invokevirtual 31, 3) := by decide +kernel
theorem dX3_readDocument_77 : decode cX3_readDocument 77 = .ok (.ireturn, 1) := by decide +kernel
theorem dX3_readDocument_78 : decode cX3_readDocument 78 = .ok (.aload_n 1, 1) := by decide +kernel
theorem dX3_readDocument_79 : decode cX3_readDocument 79 = .ok (.iload 5, 2) := by decide +kernel
theorem dX3_readDocument_81 : decode cX3_readDocument 81 = .ok (.bipush 97, 2) := by decide +kernel
theorem dX3_readDocument_83 : decode cX3_readDocument 83 = .ok (.isub, 1) := by decide +kernel
theorem dX3_readDocument_84 : decode cX3_readDocument 84 = .ok (.iload_n 3, 1) := by decide +kernel
theorem dX3_readDocument_85 : decode cX3_readDocument 85 = .ok (.invokevirtual 35, 3) := by decide +kernel
theorem dX3_readDocument_88 : decode cX3_readDocument 88 = .ok (.iconst 3, 1) := by decide +kernel
theorem dX3_readDocument_89 : decode cX3_readDocument 89 = .ok (.istore_n 2, 1) := by decide +kernel
theorem dX3_readDocument_90 : decode cX3_readDocument 90 = .ok (.goto 97, 3) := by decide +kernel
theorem dX3_readDocument_93 : decode cX3_readDocument 93 = .ok (.iload 5, 2) := by decide +kernel
theorem dX3_readDocument_95 : decode cX3_readDocument 95 = .ok (.invokestatic 39, 3) := by decide +kernel
theorem dX3_readDocument_98 : decode cX3_readDocument 98 = .ok (.ifCond .eq 29, 3) := by decide +kernel
theorem dX3_readDocument_101 : decode cX3_readDocument 101 = .ok (.iload_n 2, 1) := by decide +kernel
theorem dX3_readDocument_102 : decode cX3_readDocument 102 = .ok (.iconst 3, 1) := by decide +kernel
theorem dX3_readDocument_103 : decode cX3_readDocument 103 = .ok (.if_icmp .ne 24, 3) := by decide +kernel
theorem dX3_readDocument_106 : decode cX3_readDocument 106 = .ok (.aload_n 1, 1) := by decide +kernel
theorem dX3_readDocument_107 : decode cX3_readDocument 107 = .ok (.getfield 42, 3) := by decide +kernel
theorem dX3_readDocument_110 : decode cX3_readDocument 110 = .ok (.aload_n 1, 1) := by decide +kernel
theorem dX3_readDocument_111 : decode cX3_readDocument 111 = .ok (.getfield 22, 3) := by decide +kernel
theorem dX3_readDocument_114 : decode cX3_readDocument 114 = .ok (.iconst 1, 1) := by decide +kernel
theorem dX3_readDocument_115 : decode cX3_readDocument 115 = .ok (.isub, 1) := by decide +kernel
theorem dX3_readDocument_116 : decode cX3_readDocument 116 = .ok (.iload 5, 2) := by decide +kernel
theorem dX3_readDocument_118 : decode cX3_readDocument 118 = .ok (.bipush 48, 2) := by decide +kernel
theorem dX3_readDocument_120 : decode cX3_readDocument 120 = .ok (.isub, 1) := by decide +kernel
theorem dX3_readDocument_121 : decode cX3_readDocument 121 = .ok (.iastore, 1) := by decide +kernel
theorem dX3_readDocument_122 : decode cX3_readDocument 122 = .ok (.iconst 4, 1) := by decide +kernel
theorem dX3_readDocument_123 : decode cX3_readDocument 123 = .ok (.istore_n 2, 1) := by decide +kernel
theorem dX3_readDocument_124 : decode cX3_readDocument 124 = .ok (.goto 63, 3) := by decide +kernel
theorem dX3_readDocument_127 : decode cX3_readDocument 127 = .ok (.iload 5, 2) := by decide +kernel
theorem dX3_readDocument_129 : decode cX3_readDocument 129 = .ok (.bipush 40, 2) := by decide +kernel
theorem dX3_readDocument_131 : decode cX3_readDocument 131 = .ok (.if_icmp .ne 21, 3) := by decide +kernel
theorem dX3_readDocument_134 : decode cX3_readDocument 134 = .ok (.iload_n 2, 1) := by decide +kernel
theorem dX3_readDocument_135 : decode cX3_readDocument 135 = .ok (.iconst 3, 1) := by decide +kernel
theorem dX3_readDocument_136 : decode cX3_readDocument 136 = .ok (.if_icmp .eq 8, 3) := by decide +kernel
theorem dX3_readDocument_139 : decode cX3_readDocument 139 = .ok (.iload_n 2, 1) := by decide +kernel
theorem dX3_readDocument_140 : decode cX3_readDocument 140 = .ok (.iconst 4, 1) := by decide +kernel
theorem dX3_readDocument_141 : decode cX3_readDocument 141 = .ok (.if_icmp .ne 11, 3) := by decide +kernel
theorem dX3_readDocument_144 : decode cX3_readDocument 144 = .ok (.iinc 3 1, 3) := by decide +kernel
theorem dX3_readDocument_147 : decode cX3_readDocument 147 = .ok (.iconst 0, 1) := by decide +kernel
theorem dX3_readDocument_148 : decode cX3_readDocument 148 = .ok (.istore_n 2, 1) := by decide +kernel
theorem dX3_readDocument_149 : decode cX3_readDocument 149 = .ok (.goto 38, 3) := by decide +kernel
theorem dX3_readDocument_152 : decode cX3_readDocument 152 = .ok (.iload 5, 2) := by decide +kernel
theorem dX3_readDocument_154 : decode cX3_readDocument 154 = .ok (.bipush 41, 2) := by decide +kernel
theorem dX3_readDocument_156 : decode cX3_readDocument 156 = .ok (.if_icmp .ne 23, 3) := by decide +kernel
theorem dX3_readDocument_159 : decode cX3_readDocument 159 = .ok (.iload_n 2, 1) := by decide +kernel
theorem dX3_readDocument_160 : decode cX3_readDocument 160 = .ok (.invokestatic 45, 3) := by decide +kernel
theorem dX3_readDocument_163 : decode cX3_readDocument 163 = .ok (.ifCond .eq 16, 3) := by decide +kernel
theorem dX3_readDocument_166 : decode cX3_readDocument 166 = .ok (.iload_n 3, 1) := by decide +kernel
theorem dX3_readDocument_167 : decode cX3_readDocument 167 = .ok (.iconst 1, 1) := by decide +kernel
theorem dX3_readDocument_168 : decode cX3_readDocument 168 = .ok (.if_icmp .le 11, 3) := by decide +kernel
theorem dX3_readDocument_171 : decode cX3_readDocument 171 = .ok (.iinc 3 (-1), 3) := by decide +kernel
theorem dX3_readDocument_174 : decode cX3_readDocument 174 = .ok (.iconst 5, 1) := by decide +kernel
theorem dX3_readDocument_175 : decode cX3_readDocument 175 = .ok (.istore_n 2, 1) := by decide +kernel
theorem dX3_readDocument_176 : decode cX3_readDocument 176 = .ok (.goto 11, 3) := by decide +kernel
theorem dX3_readDocument_179 : decode cX3_readDocument 179 = .ok (.aload_n 0, 1) := by decide +kernel
theorem dX3_readDocument_180 : decode cX3_readDocument 180 = .ok (.iload 4, 2) := by decide +kernel
theorem dX3_readDocument_182 : decode cX3_readDocument 182 = .ok (.iconst 1, 1) := by decide +kernel
theorem dX3_readDocument_183 : decode cX3_readDocument 183 = .ok (.invokevirtual 31, 3) := by decide +kernel
theorem dX3_readDocument_186 : decode cX3_readDocument 186 = .ok (.ireturn, 1) := by decide +kernel
theorem dX3_readDocument_187 : decode cX3_readDocument 187 = .ok (.iinc 4 1, 3) := by decide +kernel
theorem dX3_readDocument_190 : decode cX3_readDocument 190 = .ok (.goto (-178), 3) := by decide +kernel
theorem dX3_readDocument_193 : decode cX3_readDocument 193 = .ok (.iload_n 2, 1) := by decide +kernel
theorem dX3_readDocument_194 : decode cX3_readDocument 194 = .ok (.invokestatic 45, 3) := by decide +kernel
theorem dX3_readDocument_197 : decode cX3_readDocument 197 = .ok (.ifCond .eq 12, 3) := by decide +kernel
theorem dX3_readDocument_200 : decode cX3_readDocument 200 = .ok (.iload_n 3, 1) := by decide +kernel
theorem dX3_readDocument_201 : decode cX3_readDocument 201 = .ok (.iconst 1, 1) := by decide +kernel
theorem dX3_readDocument_202 : decode cX3_readDocument 202 = .ok (.if_icmp .ne 7, 3) := by decide +kernel
theorem dX3_readDocument_205 : decode cX3_readDocument 205 = .ok (.iconst (-1), 1) := by decide +kernel
theorem dX3_readDocument_206 : decode cX3_readDocument 206 = .ok (.goto 12, 3) := by decide +kernel
theorem dX3_readDocument_209 : decode cX3_readDocument 209 = .ok (.aload_n 0, 1) := by decide +kernel
theorem dX3_readDocument_210 : decode cX3_readDocument 210 = .ok (.aload_n 0, 1) := by decide +kernel
theorem dX3_readDocument_211 : decode cX3_readDocument 211 = .ok (.getfield 15, 3) := by decide +kernel
theorem dX3_readDocument_214 : decode cX3_readDocument 214 = .ok (.iconst 1, 1) := by decide +kernel
theorem dX3_readDocument_215 : decode cX3_readDocument 215 = .ok (.invokevirtual 31, 3) := by decide +kernel
theorem dX3_readDocument_218 : decode cX3_readDocument 218 = .ok (.ireturn, 1) := by decide +kernel
set_option maxHeartbeats 4000000 in
set_option maxRecDepth 100000 in
theorem c_X3_readDocument (l : Launch) (B : Nat) (D : va_G) (cA : Nat → ClassId) (m : Mm) (x0 : Nat) (x1 : Nat) (rZ : Int32) (mZ : Mm) (hf : f_X3_readDocument m x0 x1 = some (rZ, mZ)) : Mt l B D cA yX3_readDocument cX3_readDocument 6 (some .int) 2 46 0 0 [.ref (B + x0), .ref (B + x1)] m (some (.int rZ)) mZ := by
  refine r_start (by decide) (Nat.le_of_ble_eq_true rfl) ?_
  intro p e s mt args below meth c ls H locs X hr hlocks hnm hR hl hS
  have hx := X.1
  have hb := X.2.1
  have hl : lv_has ls 6 [(0, .ref (B + x0)), (1, .ref (B + x1))] := hl
  unfold f_X3_readDocument at hf
  refine lv_aload_n hx hb dX3_readDocument_0 rfl (lv_at hl 1 rfl) ?_
  refine lv_iconst (v := 0) hx hb dX3_readDocument_1 (by decide) ?_
  obtain ⟨m1, g2, hf⟩ := ob hf
  refine pI_X3_22 X hR hS g2 dX3_readDocument_2 (fun H locs hR hS => ?_)
  refine lv_iconst (v := 0) hx hb dX3_readDocument_5 (by decide) ?_
  refine lv_istore_n (lv' := [(2, .int (0 : Int32)), (0, .ref (B + x0)), (1, .ref (B + x1))]) hx hb dX3_readDocument_6 rfl hl (by decide) rfl (fun ls hl => ?_)
  refine lv_iconst (v := 1) hx hb dX3_readDocument_7 (by decide) ?_
  refine lv_istore_n (lv' := [(3, .int (1 : Int32)), (2, .int (0 : Int32)), (0, .ref (B + x0)), (1, .ref (B + x1))]) hx hb dX3_readDocument_8 rfl hl (by decide) rfl (fun ls hl => ?_)
  refine lv_iconst (v := 0) hx hb dX3_readDocument_9 (by decide) ?_
  refine lv_istore (lv' := [(4, .int (0 : Int32)), (3, .int (1 : Int32)), (2, .int (0 : Int32)), (0, .ref (B + x0)), (1, .ref (B + x1))]) hx hb dX3_readDocument_10 hl (by decide) rfl (fun ls hl => ?_)
  obtain ⟨e4, hwe4, hf⟩ := ob hf
  refine whl_rule (P := (fun t3 => ∀ (H : Heap) (locs : List Loc) (ls : Array Slot), Rl B D cA t3.2.2.2 H → va_S (fun q => B ≤ q) s.heap H locs → lv_has ls 6 [(0, .ref (B + x0)), (1, .ref (B + x1)), (2, .int t3.1), (3, .int t3.2.1), (4, .int t3.2.2.1)] → W p l e (rmm 2 0 0 46) s mt args below meth c H locs 0 0 (MQ below (mQ B D cA (some (.int rZ)) mZ) args s 0 0 (fun q => B ≤ q)) (F0 mt 12 ls []))) (Qx := (fun e4 => (match e4 with | .inl a0 => (∀ (H : Heap) (locs : List Loc) (ls : Array Slot), Rl B D cA a0.2.2 H → va_S (fun q => B ≤ q) s.heap H locs → lv_has ls 6 [(0, .ref (B + x0)), (2, .int a0.1), (3, .int a0.2.1)] → W p l e (rmm 2 0 0 46) s mt args below meth c H locs 0 0 (MQ below (mQ B D cA (some (.int rZ)) mZ) args s 0 0 (fun q => B ≤ q)) (F0 mt 193 ls [])) | .inr b0 => (match b0 with | .inl a1 => (∀ (H : Heap) (locs : List Loc) (ls : Array Slot), Rl B D cA a1.2 H → va_S (fun q => B ≤ q) s.heap H locs → lv_has ls 6 [(0, .ref (B + x0)), (4, .int a1.1)] → W p l e (rmm 2 0 0 46) s mt args below meth c H locs 0 0 (MQ below (mQ B D cA (some (.int rZ)) mZ) args s 0 0 (fun q => B ≤ q)) (F0 mt 56 ls [])) | .inr b1 => (match b1 with | .inl a2 => (∀ (H : Heap) (locs : List Loc) (ls : Array Slot), Rl B D cA a2.2 H → va_S (fun q => B ≤ q) s.heap H locs → lv_has ls 6 [(0, .ref (B + x0)), (4, .int a2.1)] → W p l e (rmm 2 0 0 46) s mt args below meth c H locs 0 0 (MQ below (mQ B D cA (some (.int rZ)) mZ) args s 0 0 (fun q => B ≤ q)) (F0 mt 70 ls [])) | .inr b2 => ∀ (H : Heap) (locs : List Loc) (ls : Array Slot), Rl B D cA b2.2 H → va_S (fun q => B ≤ q) s.heap H locs → lv_has ls 6 [(0, .ref (B + x0)), (4, .int b2.1)] → W p l e (rmm 2 0 0 46) s mt args below meth c H locs 0 0 (MQ below (mQ B D cA (some (.int rZ)) mZ) args s 0 0 (fun q => B ≤ q)) (F0 mt 179 ls [])))))) ?_ FU _ e4 hwe4 ?_ H locs ls hR hS (lv_sub hl [3, 4, 2, 1, 0] rfl)
  · clear hwe4 hf
    intro t3 q5 hf hxlq5 hxrq5 H locs ls hR hS hl
    obtain ⟨z6, z7, z8, m9⟩ := t3
    have hf : f_X3_readDocument_L12 m9 x0 x1 z6 z7 z8 = some q5 := hf
    have hR : Rl B D cA m9 H := hR
    have hl : lv_has ls 6 [(0, .ref (B + x0)), (1, .ref (B + x1)), (2, .int z6), (3, .int z7), (4, .int z8)] := hl
    unfold f_X3_readDocument_L12 at hf
    refine lv_iload hx hb dX3_readDocument_12 (lv_at hl 4 rfl) ?_
    refine lv_aload_n hx hb dX3_readDocument_14 rfl (lv_at hl 0 rfl) ?_
    obtain ⟨v10, g11, hf⟩ := ob hf
    refine gI_X3_15 X hR g11 dX3_readDocument_15 ?_
    refine lv_icmp_ge (tgt := 193) hx hb dX3_readDocument_18 (by decide) (fun c12 => ?_) (fun c12 => ?_)
    · rw [if_pos c12] at hf
      obtain rfl := Option.some.inj hf
      exact hxrq5 _ rfl H locs ls hR hS (lv_sub hl [0, 2, 3] rfl)
    · rw [if_neg c12] at hf
      refine lv_aload_n hx hb dX3_readDocument_21 rfl (lv_at hl 0 rfl) ?_
      obtain ⟨v13, g14, hf⟩ := ob hf
      refine gR_X3_9 X hR g14 dX3_readDocument_22 ?_
      refine lv_iload hx hb dX3_readDocument_25 (lv_at hl 4 rfl) ?_
      obtain ⟨v15, g16, hf⟩ := ob hf
      refine r_lI X hR g16 dX3_readDocument_27 ?_
      refine lv_istore (lv' := [(5, .int v15), (0, .ref (B + x0)), (1, .ref (B + x1)), (2, .int z6), (3, .int z7), (4, .int z8)]) hx hb dX3_readDocument_28 hl (by decide) rfl (fun ls hl => ?_)
      refine lv_iload hx hb dX3_readDocument_30 (lv_at hl 0 rfl) ?_
      obtain ⟨v18, g17, hf⟩ := ob hf
      refine r_callS X kw_X3_27 (c_X3_isLetter l B D cA m9 v15 v18 g17) ⟨Nat.le_of_ble_eq_true rfl, Nat.le_of_ble_eq_true rfl⟩ hR hS hl.1 rfl rfl (Nat.le_of_ble_eq_true rfl) ⟨Nat.le_of_ble_eq_true rfl, Nat.le_of_ble_eq_true rfl⟩ dX3_readDocument_32 (fun H locs hR hS => ?_)
      refine W.eq (g2 := F0 mt 35 ls [.int v18]) rfl ?_
      have hJ93 : ∀  (H : Heap) (locs : List Loc) (ls : Array Slot), f_X3_readDocument_J93 m9 x0 x1 z6 z7 z8 v15 = some q5 → Rl B D cA m9 H → va_S (fun q => B ≤ q) s.heap H locs → lv_has ls 6 [(0, .ref (B + x0)), (1, .ref (B + x1)), (2, .int z6), (3, .int z7), (4, .int z8), (5, .int v15)] → W p l e (rmm 2 0 0 46) s mt args below meth c H locs 0 0 (MQ below (mQ B D cA (some (.int rZ)) mZ) args s 0 0 (fun q => B ≤ q)) (F0 mt 93 ls []) := by
        intro  H locs ls hf hR hS hl
        unfold f_X3_readDocument_J93 at hf
        refine lv_iload hx hb dX3_readDocument_93 (lv_at hl 5 rfl) ?_
        obtain ⟨v20, g19, hf⟩ := ob hf
        refine r_callS X kw_X3_39 (c_X3_isDigit l B D cA m9 v15 v20 g19) ⟨Nat.le_of_ble_eq_true rfl, Nat.le_of_ble_eq_true rfl⟩ hR hS hl.1 rfl rfl (Nat.le_of_ble_eq_true rfl) ⟨Nat.le_of_ble_eq_true rfl, Nat.le_of_ble_eq_true rfl⟩ dX3_readDocument_95 (fun H locs hR hS => ?_)
        refine W.eq (g2 := F0 mt 98 ls [.int v20]) rfl ?_
        have hJ127 : ∀  (H : Heap) (locs : List Loc) (ls : Array Slot), f_X3_readDocument_J127 m9 x0 x1 z6 z7 z8 v15 = some q5 → Rl B D cA m9 H → va_S (fun q => B ≤ q) s.heap H locs → lv_has ls 6 [(0, .ref (B + x0)), (1, .ref (B + x1)), (2, .int z6), (3, .int z7), (4, .int z8), (5, .int v15)] → W p l e (rmm 2 0 0 46) s mt args below meth c H locs 0 0 (MQ below (mQ B D cA (some (.int rZ)) mZ) args s 0 0 (fun q => B ≤ q)) (F0 mt 127 ls []) := by
          intro  H locs ls hf hR hS hl
          unfold f_X3_readDocument_J127 at hf
          refine lv_iload hx hb dX3_readDocument_127 (lv_at hl 5 rfl) ?_
          refine lv_bipush (v := 40) hx hb dX3_readDocument_129 (by decide) ?_
          have hJ152 : ∀  (H : Heap) (locs : List Loc) (ls : Array Slot), f_X3_readDocument_J152 m9 x0 x1 z6 z7 z8 v15 = some q5 → Rl B D cA m9 H → va_S (fun q => B ≤ q) s.heap H locs → lv_has ls 6 [(0, .ref (B + x0)), (1, .ref (B + x1)), (2, .int z6), (3, .int z7), (4, .int z8), (5, .int v15)] → W p l e (rmm 2 0 0 46) s mt args below meth c H locs 0 0 (MQ below (mQ B D cA (some (.int rZ)) mZ) args s 0 0 (fun q => B ≤ q)) (F0 mt 152 ls []) := by
            intro  H locs ls hf hR hS hl
            unfold f_X3_readDocument_J152 at hf
            refine lv_iload hx hb dX3_readDocument_152 (lv_at hl 5 rfl) ?_
            refine lv_bipush (v := 41) hx hb dX3_readDocument_154 (by decide) ?_
            refine lv_icmp_ne (tgt := 179) hx hb dX3_readDocument_156 (by decide) (fun c21 => ?_) (fun c21 => ?_)
            · rw [if_neg c21] at hf
              obtain rfl := Option.some.inj hf
              exact hxrq5 _ rfl H locs ls hR hS (lv_sub hl [0, 4] rfl)
            · rw [if_pos c21] at hf
              refine lv_iload_n hx hb dX3_readDocument_159 rfl (lv_at hl 2 rfl) ?_
              obtain ⟨v23, g22, hf⟩ := ob hf
              refine r_callS X kw_X3_45 (c_X3_isWhole l B D cA m9 z6 v23 g22) ⟨Nat.le_of_ble_eq_true rfl, Nat.le_of_ble_eq_true rfl⟩ hR hS hl.1 rfl rfl (Nat.le_of_ble_eq_true rfl) ⟨Nat.le_of_ble_eq_true rfl, Nat.le_of_ble_eq_true rfl⟩ dX3_readDocument_160 (fun H locs hR hS => ?_)
              refine W.eq (g2 := F0 mt 163 ls [.int v23]) rfl ?_
              refine lv_if_eq (tgt := 179) hx hb dX3_readDocument_163 (by decide) (fun c24 => ?_) (fun c24 => ?_)
              · rw [if_pos c24] at hf
                obtain rfl := Option.some.inj hf
                exact hxrq5 _ rfl H locs ls hR hS (lv_sub hl [0, 4] rfl)
              · rw [if_neg c24] at hf
                refine lv_iload_n hx hb dX3_readDocument_166 rfl (lv_at hl 3 rfl) ?_
                refine lv_iconst (v := 1) hx hb dX3_readDocument_167 (by decide) ?_
                refine lv_icmp_le (tgt := 179) hx hb dX3_readDocument_168 (by decide) (fun c25 => ?_) (fun c25 => ?_)
                · rw [if_pos c25] at hf
                  obtain rfl := Option.some.inj hf
                  exact hxrq5 _ rfl H locs ls hR hS (lv_sub hl [0, 4] rfl)
                · rw [if_neg c25] at hf
                  refine lv_iinc (v := (z7 + (-1))) (lv' := [(3, .int (z7 + (-1))), (0, .ref (B + x0)), (1, .ref (B + x1)), (2, .int z6), (4, .int z8), (5, .int v15)]) hx hb dX3_readDocument_171 hl (k := 3) rfl (congrArg (fun z => z7 + z) (by decide)) (by decide) rfl (fun ls hl => ?_)
                  refine lv_iconst (v := 5) hx hb dX3_readDocument_174 (by decide) ?_
                  refine lv_istore_n (lv' := [(2, .int (5 : Int32)), (3, .int (z7 + (-1))), (0, .ref (B + x0)), (1, .ref (B + x1)), (4, .int z8), (5, .int v15)]) hx hb dX3_readDocument_175 rfl hl (by decide) rfl (fun ls hl => ?_)
                  refine lv_goto (tgt := 187) hx hb dX3_readDocument_176 (by decide) ?_
                  refine lv_iinc (v := (z8 + 1)) (lv' := [(4, .int (z8 + 1)), (2, .int (5 : Int32)), (3, .int (z7 + (-1))), (0, .ref (B + x0)), (1, .ref (B + x1)), (5, .int v15)]) hx hb dX3_readDocument_187 hl (k := 4) rfl (congrArg (fun z => z8 + z) (by decide)) (by decide) rfl (fun ls hl => ?_)
                  refine lv_goto (tgt := 12) hx hb dX3_readDocument_190 (by decide) ?_
                  obtain rfl := Option.some.inj hf
                  exact hxlq5 _ rfl H locs ls hR hS (lv_sub hl [3, 4, 1, 2, 0] rfl)
          refine lv_icmp_ne (tgt := 152) hx hb dX3_readDocument_131 (by decide) (fun c26 => ?_) (fun c26 => ?_)
          · rw [if_neg c26] at hf
            exact hJ152  H locs ls hf hR hS (lv_sub hl [0, 1, 2, 3, 4, 5] rfl)
          · rw [if_pos c26] at hf
            refine lv_iload_n hx hb dX3_readDocument_134 rfl (lv_at hl 2 rfl) ?_
            refine lv_iconst (v := 3) hx hb dX3_readDocument_135 (by decide) ?_
            refine lv_icmp_eq (tgt := 144) hx hb dX3_readDocument_136 (by decide) (fun c27 => ?_) (fun c27 => ?_)
            · rw [if_pos c27] at hf
              refine lv_iinc (v := (z7 + 1)) (lv' := [(3, .int (z7 + 1)), (0, .ref (B + x0)), (1, .ref (B + x1)), (2, .int z6), (4, .int z8), (5, .int v15)]) hx hb dX3_readDocument_144 hl (k := 3) rfl (congrArg (fun z => z7 + z) (by decide)) (by decide) rfl (fun ls hl => ?_)
              refine lv_iconst (v := 0) hx hb dX3_readDocument_147 (by decide) ?_
              refine lv_istore_n (lv' := [(2, .int (0 : Int32)), (3, .int (z7 + 1)), (0, .ref (B + x0)), (1, .ref (B + x1)), (4, .int z8), (5, .int v15)]) hx hb dX3_readDocument_148 rfl hl (by decide) rfl (fun ls hl => ?_)
              refine lv_goto (tgt := 187) hx hb dX3_readDocument_149 (by decide) ?_
              refine lv_iinc (v := (z8 + 1)) (lv' := [(4, .int (z8 + 1)), (2, .int (0 : Int32)), (3, .int (z7 + 1)), (0, .ref (B + x0)), (1, .ref (B + x1)), (5, .int v15)]) hx hb dX3_readDocument_187 hl (k := 4) rfl (congrArg (fun z => z8 + z) (by decide)) (by decide) rfl (fun ls hl => ?_)
              refine lv_goto (tgt := 12) hx hb dX3_readDocument_190 (by decide) ?_
              obtain rfl := Option.some.inj hf
              exact hxlq5 _ rfl H locs ls hR hS (lv_sub hl [3, 4, 1, 2, 0] rfl)
            · rw [if_neg c27] at hf
              refine lv_iload_n hx hb dX3_readDocument_139 rfl (lv_at hl 2 rfl) ?_
              refine lv_iconst (v := 4) hx hb dX3_readDocument_140 (by decide) ?_
              refine lv_icmp_ne (tgt := 152) hx hb dX3_readDocument_141 (by decide) (fun c28 => ?_) (fun c28 => ?_)
              · rw [if_neg c28] at hf
                exact hJ152  H locs ls hf hR hS (lv_sub hl [0, 1, 2, 3, 4, 5] rfl)
              · rw [if_pos c28] at hf
                refine lv_iinc (v := (z7 + 1)) (lv' := [(3, .int (z7 + 1)), (0, .ref (B + x0)), (1, .ref (B + x1)), (2, .int z6), (4, .int z8), (5, .int v15)]) hx hb dX3_readDocument_144 hl (k := 3) rfl (congrArg (fun z => z7 + z) (by decide)) (by decide) rfl (fun ls hl => ?_)
                refine lv_iconst (v := 0) hx hb dX3_readDocument_147 (by decide) ?_
                refine lv_istore_n (lv' := [(2, .int (0 : Int32)), (3, .int (z7 + 1)), (0, .ref (B + x0)), (1, .ref (B + x1)), (4, .int z8), (5, .int v15)]) hx hb dX3_readDocument_148 rfl hl (by decide) rfl (fun ls hl => ?_)
                refine lv_goto (tgt := 187) hx hb dX3_readDocument_149 (by decide) ?_
                refine lv_iinc (v := (z8 + 1)) (lv' := [(4, .int (z8 + 1)), (2, .int (0 : Int32)), (3, .int (z7 + 1)), (0, .ref (B + x0)), (1, .ref (B + x1)), (5, .int v15)]) hx hb dX3_readDocument_187 hl (k := 4) rfl (congrArg (fun z => z8 + z) (by decide)) (by decide) rfl (fun ls hl => ?_)
                refine lv_goto (tgt := 12) hx hb dX3_readDocument_190 (by decide) ?_
                obtain rfl := Option.some.inj hf
                exact hxlq5 _ rfl H locs ls hR hS (lv_sub hl [3, 4, 1, 2, 0] rfl)
        refine lv_if_eq (tgt := 127) hx hb dX3_readDocument_98 (by decide) (fun c29 => ?_) (fun c29 => ?_)
        · rw [if_pos c29] at hf
          exact hJ127  H locs ls hf hR hS (lv_sub hl [0, 1, 2, 3, 4, 5] rfl)
        · rw [if_neg c29] at hf
          refine lv_iload_n hx hb dX3_readDocument_101 rfl (lv_at hl 2 rfl) ?_
          refine lv_iconst (v := 3) hx hb dX3_readDocument_102 (by decide) ?_
          refine lv_icmp_ne (tgt := 127) hx hb dX3_readDocument_103 (by decide) (fun c30 => ?_) (fun c30 => ?_)
          · rw [if_neg c30] at hf
            exact hJ127  H locs ls hf hR hS (lv_sub hl [0, 1, 2, 3, 4, 5] rfl)
          · rw [if_pos c30] at hf
            refine lv_aload_n hx hb dX3_readDocument_106 rfl (lv_at hl 1 rfl) ?_
            obtain ⟨v31, g32, hf⟩ := ob hf
            refine gR_X3_42 X hR g32 dX3_readDocument_107 ?_
            refine lv_aload_n hx hb dX3_readDocument_110 rfl (lv_at hl 1 rfl) ?_
            obtain ⟨v33, g34, hf⟩ := ob hf
            refine gI_X3_22 X hR g34 dX3_readDocument_111 ?_
            refine lv_iconst (v := 1) hx hb dX3_readDocument_114 (by decide) ?_
            refine lv_isub hx hb dX3_readDocument_115 ?_
            refine lv_iload hx hb dX3_readDocument_116 (lv_at hl 5 rfl) ?_
            refine lv_bipush (v := 48) hx hb dX3_readDocument_118 (by decide) ?_
            refine lv_isub hx hb dX3_readDocument_120 ?_
            obtain ⟨m35, g36, hf⟩ := ob hf
            refine r_sI X hR hS g36 dX3_readDocument_121 (fun H locs hR hS => ?_)
            refine lv_iconst (v := 4) hx hb dX3_readDocument_122 (by decide) ?_
            refine lv_istore_n (lv' := [(2, .int (4 : Int32)), (0, .ref (B + x0)), (1, .ref (B + x1)), (3, .int z7), (4, .int z8), (5, .int v15)]) hx hb dX3_readDocument_123 rfl hl (by decide) rfl (fun ls hl => ?_)
            refine lv_goto (tgt := 187) hx hb dX3_readDocument_124 (by decide) ?_
            refine lv_iinc (v := (z8 + 1)) (lv' := [(4, .int (z8 + 1)), (2, .int (4 : Int32)), (0, .ref (B + x0)), (1, .ref (B + x1)), (3, .int z7), (5, .int v15)]) hx hb dX3_readDocument_187 hl (k := 4) rfl (congrArg (fun z => z8 + z) (by decide)) (by decide) rfl (fun ls hl => ?_)
            refine lv_goto (tgt := 12) hx hb dX3_readDocument_190 (by decide) ?_
            obtain rfl := Option.some.inj hf
            exact hxlq5 _ rfl H locs ls hR hS (lv_sub hl [2, 3, 1, 4, 0] rfl)
      refine lv_if_eq (tgt := 93) hx hb dX3_readDocument_35 (by decide) (fun c37 => ?_) (fun c37 => ?_)
      · rw [if_pos c37] at hf
        exact hJ93  H locs ls hf hR hS (lv_sub hl [1, 2, 3, 4, 5, 0] rfl)
      · rw [if_neg c37] at hf
        refine lv_iload_n hx hb dX3_readDocument_38 rfl (lv_at hl 3 rfl) ?_
        have hJ47 : ∀  (H : Heap) (locs : List Loc) (ls : Array Slot), f_X3_readDocument_J47 m9 x0 x1 z7 z8 v15 = some q5 → Rl B D cA m9 H → va_S (fun q => B ≤ q) s.heap H locs → lv_has ls 6 [(0, .ref (B + x0)), (1, .ref (B + x1)), (3, .int z7), (4, .int z8), (5, .int v15)] → W p l e (rmm 2 0 0 46) s mt args below meth c H locs 0 0 (MQ below (mQ B D cA (some (.int rZ)) mZ) args s 0 0 (fun q => B ≤ q)) (F0 mt 47 ls []) := by
          intro  H locs ls hf hR hS hl
          unfold f_X3_readDocument_J47 at hf
          refine lv_aload_n hx hb dX3_readDocument_47 rfl (lv_at hl 1 rfl) ?_
          obtain ⟨v38, g39, hf⟩ := ob hf
          refine gI_X3_22 X hR g39 dX3_readDocument_48 ?_
          refine lv_bipush (v := 32) hx hb dX3_readDocument_51 (by decide) ?_
          refine lv_icmp_lt (tgt := 64) hx hb dX3_readDocument_53 (by decide) (fun c40 => ?_) (fun c40 => ?_)
          · rw [if_pos c40] at hf
            refine lv_iload_n hx hb dX3_readDocument_64 rfl (lv_at hl 2 rfl) ?_
            refine lv_bipush (v := 10) hx hb dX3_readDocument_65 (by decide) ?_
            refine lv_icmp_le (tgt := 78) hx hb dX3_readDocument_67 (by decide) (fun c41 => ?_) (fun c41 => ?_)
            · rw [if_pos c41] at hf
              refine lv_aload_n hx hb dX3_readDocument_78 rfl (lv_at hl 1 rfl) ?_
              refine lv_iload hx hb dX3_readDocument_79 (lv_at hl 4 rfl) ?_
              refine lv_bipush (v := 97) hx hb dX3_readDocument_81 (by decide) ?_
              refine lv_isub hx hb dX3_readDocument_83 ?_
              refine lv_iload_n hx hb dX3_readDocument_84 rfl (lv_at hl 2 rfl) ?_
              obtain ⟨o42, h43, hf⟩ := obO hf
              obtain ⟨m45, g44, hf⟩ := ob hf
              refine r_callV X kw_X3_35 (ci := 4) rfl (c_X4_append l B D cA m9 x1 (v15 - (97 : Int32)) z7 m45 g44) ⟨Nat.le_of_ble_eq_true rfl, Nat.le_of_ble_eq_true rfl⟩ h43 hR hS hl.1 rfl rfl (Nat.le_of_ble_eq_true rfl) ⟨Nat.le_of_ble_eq_true rfl, Nat.le_of_ble_eq_true rfl⟩ dX3_readDocument_85 (fun H locs hR hS => ?_)
              refine W.eq (g2 := F0 mt 88 ls []) rfl ?_
              refine lv_iconst (v := 3) hx hb dX3_readDocument_88 (by decide) ?_
              refine lv_istore_n (lv' := [(2, .int (3 : Int32)), (0, .ref (B + x0)), (1, .ref (B + x1)), (3, .int z7), (4, .int z8), (5, .int v15)]) hx hb dX3_readDocument_89 rfl hl (by decide) rfl (fun ls hl => ?_)
              refine lv_goto (tgt := 187) hx hb dX3_readDocument_90 (by decide) ?_
              refine lv_iinc (v := (z8 + 1)) (lv' := [(4, .int (z8 + 1)), (2, .int (3 : Int32)), (0, .ref (B + x0)), (1, .ref (B + x1)), (3, .int z7), (5, .int v15)]) hx hb dX3_readDocument_187 hl (k := 4) rfl (congrArg (fun z => z8 + z) (by decide)) (by decide) rfl (fun ls hl => ?_)
              refine lv_goto (tgt := 12) hx hb dX3_readDocument_190 (by decide) ?_
              obtain rfl := Option.some.inj hf
              exact hxlq5 _ rfl H locs ls hR hS (lv_sub hl [2, 3, 1, 4, 0] rfl)
            · rw [if_neg c41] at hf
              obtain rfl := Option.some.inj hf
              exact hxrq5 _ rfl H locs ls hR hS (lv_sub hl [0, 3] rfl)
          · rw [if_neg c40] at hf
            obtain rfl := Option.some.inj hf
            exact hxrq5 _ rfl H locs ls hR hS (lv_sub hl [0, 3] rfl)
        refine lv_if_eq (tgt := 47) hx hb dX3_readDocument_39 (by decide) (fun c46 => ?_) (fun c46 => ?_)
        · rw [if_pos c46] at hf
          exact hJ47  H locs ls hf hR hS (lv_sub hl [1, 2, 4, 5, 0] rfl)
        · rw [if_neg c46] at hf
          refine lv_iload_n hx hb dX3_readDocument_42 rfl (lv_at hl 4 rfl) ?_
          refine lv_iconst (v := 1) hx hb dX3_readDocument_43 (by decide) ?_
          refine lv_icmp_le (tgt := 93) hx hb dX3_readDocument_44 (by decide) (fun c47 => ?_) (fun c47 => ?_)
          · rw [if_pos c47] at hf
            exact hJ93  H locs ls hf hR hS (lv_sub hl [1, 2, 3, 4, 5, 0] rfl)
          · rw [if_neg c47] at hf
            exact hJ47  H locs ls hf hR hS (lv_sub hl [1, 2, 4, 5, 0] rfl)
  · clear hwe4
    revert hf
    cases e4 with
    | inl a0e4 =>
      intro hf H locs ls hR hS hl
      refine lv_iload_n hx hb dX3_readDocument_193 rfl (lv_at hl 1 rfl) ?_
      obtain ⟨v49, g48, hf⟩ := ob hf
      refine r_callS X kw_X3_45 (c_X3_isWhole l B D cA a0e4.2.2 a0e4.1 v49 g48) ⟨Nat.le_of_ble_eq_true rfl, Nat.le_of_ble_eq_true rfl⟩ hR hS hl.1 rfl rfl (Nat.le_of_ble_eq_true rfl) ⟨Nat.le_of_ble_eq_true rfl, Nat.le_of_ble_eq_true rfl⟩ dX3_readDocument_194 (fun H locs hR hS => ?_)
      refine W.eq (g2 := F0 mt 197 ls [.int v49]) rfl ?_
      refine lv_if_eq (tgt := 209) hx hb dX3_readDocument_197 (by decide) (fun c50 => ?_) (fun c50 => ?_)
      · rw [if_pos c50] at hf
        refine lv_aload_n hx hb dX3_readDocument_209 rfl (lv_at hl 0 rfl) ?_
        refine lv_aload_n hx hb dX3_readDocument_210 rfl (lv_at hl 0 rfl) ?_
        obtain ⟨v51, g52, hf⟩ := ob hf
        refine gI_X3_15 X hR g52 dX3_readDocument_211 ?_
        refine lv_iconst (v := 1) hx hb dX3_readDocument_214 (by decide) ?_
        obtain ⟨o53, h54, hf⟩ := obO hf
        obtain ⟨t56, g55, hf⟩ := ob hf
        refine r_callV X kw_X3_31 (ci := 3) rfl (c_X3_fault l B D cA a0e4.2.2 x0 v51 (1 : Int32) t56.1 t56.2 g55) ⟨Nat.le_of_ble_eq_true rfl, Nat.le_of_ble_eq_true rfl⟩ h54 hR hS hl.1 rfl rfl (Nat.le_of_ble_eq_true rfl) ⟨Nat.le_of_ble_eq_true rfl, Nat.le_of_ble_eq_true rfl⟩ dX3_readDocument_215 (fun H locs hR hS => ?_)
        refine W.eq (g2 := F0 mt 218 ls [.int t56.1]) rfl ?_
        obtain ⟨rfl, rfl⟩ := Prod.mk.inj (Option.some.inj hf)
        exact r_iret X hr hlocks hR hS rfl dX3_readDocument_218
      · rw [if_neg c50] at hf
        refine lv_iload_n hx hb dX3_readDocument_200 rfl (lv_at hl 2 rfl) ?_
        refine lv_iconst (v := 1) hx hb dX3_readDocument_201 (by decide) ?_
        refine lv_icmp_ne (tgt := 209) hx hb dX3_readDocument_202 (by decide) (fun c57 => ?_) (fun c57 => ?_)
        · rw [if_neg c57] at hf
          refine lv_aload_n hx hb dX3_readDocument_209 rfl (lv_at hl 0 rfl) ?_
          refine lv_aload_n hx hb dX3_readDocument_210 rfl (lv_at hl 0 rfl) ?_
          obtain ⟨v58, g59, hf⟩ := ob hf
          refine gI_X3_15 X hR g59 dX3_readDocument_211 ?_
          refine lv_iconst (v := 1) hx hb dX3_readDocument_214 (by decide) ?_
          obtain ⟨o60, h61, hf⟩ := obO hf
          obtain ⟨t63, g62, hf⟩ := ob hf
          refine r_callV X kw_X3_31 (ci := 3) rfl (c_X3_fault l B D cA a0e4.2.2 x0 v58 (1 : Int32) t63.1 t63.2 g62) ⟨Nat.le_of_ble_eq_true rfl, Nat.le_of_ble_eq_true rfl⟩ h61 hR hS hl.1 rfl rfl (Nat.le_of_ble_eq_true rfl) ⟨Nat.le_of_ble_eq_true rfl, Nat.le_of_ble_eq_true rfl⟩ dX3_readDocument_215 (fun H locs hR hS => ?_)
          refine W.eq (g2 := F0 mt 218 ls [.int t63.1]) rfl ?_
          obtain ⟨rfl, rfl⟩ := Prod.mk.inj (Option.some.inj hf)
          exact r_iret X hr hlocks hR hS rfl dX3_readDocument_218
        · rw [if_pos c57] at hf
          refine lv_iconst (v := -1) hx hb dX3_readDocument_205 (by decide) ?_
          refine lv_goto (tgt := 218) hx hb dX3_readDocument_206 (by decide) ?_
          obtain ⟨rfl, rfl⟩ := Prod.mk.inj (Option.some.inj hf)
          exact r_iret X hr hlocks hR hS rfl dX3_readDocument_218
    | inr b0e4 =>
      cases b0e4 with
      | inl a1e4 =>
        intro hf H locs ls hR hS hl
        refine lv_aload_n hx hb dX3_readDocument_56 rfl (lv_at hl 0 rfl) ?_
        refine lv_iload hx hb dX3_readDocument_57 (lv_at hl 1 rfl) ?_
        refine lv_iconst (v := 2) hx hb dX3_readDocument_59 (by decide) ?_
        obtain ⟨o64, h65, hf⟩ := obO hf
        obtain ⟨t67, g66, hf⟩ := ob hf
        refine r_callV X kw_X3_31 (ci := 3) rfl (c_X3_fault l B D cA a1e4.2 x0 a1e4.1 (2 : Int32) t67.1 t67.2 g66) ⟨Nat.le_of_ble_eq_true rfl, Nat.le_of_ble_eq_true rfl⟩ h65 hR hS hl.1 rfl rfl (Nat.le_of_ble_eq_true rfl) ⟨Nat.le_of_ble_eq_true rfl, Nat.le_of_ble_eq_true rfl⟩ dX3_readDocument_60 (fun H locs hR hS => ?_)
        refine W.eq (g2 := F0 mt 63 ls [.int t67.1]) rfl ?_
        obtain ⟨rfl, rfl⟩ := Prod.mk.inj (Option.some.inj hf)
        exact r_iret X hr hlocks hR hS rfl dX3_readDocument_63
      | inr b1e4 =>
        cases b1e4 with
        | inl a2e4 =>
          intro hf H locs ls hR hS hl
          refine lv_aload_n hx hb dX3_readDocument_70 rfl (lv_at hl 0 rfl) ?_
          refine lv_iload hx hb dX3_readDocument_71 (lv_at hl 1 rfl) ?_
          refine lv_iconst (v := 3) hx hb dX3_readDocument_73 (by decide) ?_
          obtain ⟨o68, h69, hf⟩ := obO hf
          obtain ⟨t71, g70, hf⟩ := ob hf
          refine r_callV X kw_X3_31 (ci := 3) rfl (c_X3_fault l B D cA a2e4.2 x0 a2e4.1 (3 : Int32) t71.1 t71.2 g70) ⟨Nat.le_of_ble_eq_true rfl, Nat.le_of_ble_eq_true rfl⟩ h69 hR hS hl.1 rfl rfl (Nat.le_of_ble_eq_true rfl) ⟨Nat.le_of_ble_eq_true rfl, Nat.le_of_ble_eq_true rfl⟩ dX3_readDocument_74 (fun H locs hR hS => ?_)
          refine W.eq (g2 := F0 mt 77 ls [.int t71.1]) rfl ?_
          obtain ⟨rfl, rfl⟩ := Prod.mk.inj (Option.some.inj hf)
          exact r_iret X hr hlocks hR hS rfl dX3_readDocument_77
        | inr b2e4 =>
          intro hf H locs ls hR hS hl
          refine lv_aload_n hx hb dX3_readDocument_179 rfl (lv_at hl 0 rfl) ?_
          refine lv_iload hx hb dX3_readDocument_180 (lv_at hl 1 rfl) ?_
          refine lv_iconst (v := 1) hx hb dX3_readDocument_182 (by decide) ?_
          obtain ⟨o72, h73, hf⟩ := obO hf
          obtain ⟨t75, g74, hf⟩ := ob hf
          refine r_callV X kw_X3_31 (ci := 3) rfl (c_X3_fault l B D cA b2e4.2 x0 b2e4.1 (1 : Int32) t75.1 t75.2 g74) ⟨Nat.le_of_ble_eq_true rfl, Nat.le_of_ble_eq_true rfl⟩ h73 hR hS hl.1 rfl rfl (Nat.le_of_ble_eq_true rfl) ⟨Nat.le_of_ble_eq_true rfl, Nat.le_of_ble_eq_true rfl⟩ dX3_readDocument_183 (fun H locs hR hS => ?_)
          refine W.eq (g2 := F0 mt 186 ls [.int t75.1]) rfl ?_
          obtain ⟨rfl, rfl⟩ := Prod.mk.inj (Option.some.inj hf)
          exact r_iret X hr hlocks hR hS rfl dX3_readDocument_186
/-! ===== TwigMatches$Twig.append(IIII)V ===== -/
theorem dX5_append_0 : decode cX5_append 0 = .ok (.aload_n 0, 1) := by decide +kernel
theorem dX5_append_1 : decode cX5_append 1 = .ok (.getfield 9, 3) := by decide +kernel
theorem dX5_append_4 : decode cX5_append 4 = .ok (.bipush 6, 2) := by decide +kernel
theorem dX5_append_6 : decode cX5_append 6 = .ok (.if_icmp .ge 74, 3) := by decide +kernel
theorem dX5_append_9 : decode cX5_append 9 = .ok (.aload_n 0, 1) := by decide +kernel
theorem dX5_append_10 : decode cX5_append 10 = .ok (.getfield 15, 3) := by decide +kernel
theorem dX5_append_13 : decode cX5_append 13 = .ok (.aload_n 0, 1) := by decide +kernel
theorem dX5_append_14 : decode cX5_append 14 = .ok (.getfield 9, 3) := by decide +kernel
theorem dX5_append_17 : decode cX5_append 17 = .ok (.iload_n 1, 1) := by decide +kernel
theorem dX5_append_18 : decode cX5_append 18 = .ok (.iastore, 1) := by decide +kernel
theorem dX5_append_19 : decode cX5_append 19 = .ok (.aload_n 0, 1) := by decide +kernel
theorem dX5_append_20 : decode cX5_append 20 = .ok (.getfield 19, 3) := by decide +kernel
theorem dX5_append_23 : decode cX5_append 23 = .ok (.aload_n 0, 1) := by decide +kernel
theorem dX5_append_24 : decode cX5_append 24 = .ok (.getfield 9, 3) := by decide +kernel
theorem dX5_append_27 : decode cX5_append 27 = .ok (.iconst 0, 1) := by decide +kernel
theorem dX5_append_28 : decode cX5_append 28 = .ok (.iastore, 1) := by decide +kernel
theorem dX5_append_29 : decode cX5_append 29 = .ok (.aload_n 0, 1) := by decide +kernel
theorem dX5_append_30 : decode cX5_append 30 = .ok (.getfield 22, 3) := by decide +kernel
theorem dX5_append_33 : decode cX5_append 33 = .ok (.aload_n 0, 1) := by decide +kernel
theorem dX5_append_34 : decode cX5_append 34 = .ok (.getfield 9, 3) := by decide +kernel
theorem dX5_append_37 : decode cX5_append 37 = .ok (.iconst 0, 1) := by decide +kernel
theorem dX5_append_38 : decode cX5_append 38 = .ok (.iastore, 1) := by decide +kernel
theorem dX5_append_39 : decode cX5_append 39 = .ok (.aload_n 0, 1) := by decide +kernel
theorem dX5_append_40 : decode cX5_append 40 = .ok (.getfield 25, 3) := by decide +kernel
theorem dX5_append_43 : decode cX5_append 43 = .ok (.aload_n 0, 1) := by decide +kernel
theorem dX5_append_44 : decode cX5_append 44 = .ok (.getfield 9, 3) := by decide +kernel
theorem dX5_append_47 : decode cX5_append 47 = .ok (.iload_n 2, 1) := by decide +kernel
theorem dX5_append_48 : decode cX5_append 48 = .ok (.iastore, 1) := by decide +kernel
theorem dX5_append_49 : decode cX5_append 49 = .ok (.aload_n 0, 1) := by decide +kernel
theorem dX5_append_50 : decode cX5_append 50 = .ok (.getfield 28, 3) := by decide +kernel
theorem dX5_append_53 : decode cX5_append 53 = .ok (.aload_n 0, 1) := by decide +kernel
theorem dX5_append_54 : decode cX5_append 54 = .ok (.getfield 9, 3) := by decide +kernel
theorem dX5_append_57 : decode cX5_append 57 = .ok (.iload_n 3, 1) := by decide +kernel
theorem dX5_append_58 : decode cX5_append 58 = .ok (.iastore, 1) := by decide +kernel
theorem dX5_append_59 : decode cX5_append 59 = .ok (.aload_n 0, 1) := by decide +kernel
theorem dX5_append_60 : decode cX5_append 60 = .ok (.getfield 31, 3) := by decide +kernel
theorem dX5_append_63 : decode cX5_append 63 = .ok (.aload_n 0, 1) := by decide +kernel
theorem dX5_append_64 : decode cX5_append 64 = .ok (.getfield 9, 3) := by decide +kernel
theorem dX5_append_67 : decode cX5_append 67 = .ok (.iload 4, 2) := by decide +kernel
theorem dX5_append_69 : decode cX5_append 69 = .ok (.iastore, 1) := by decide +kernel
theorem dX5_append_70 : decode cX5_append 70 = .ok (.aload_n 0, 1) := by decide +kernel
theorem dX5_append_71 : decode cX5_append 71 = .ok (.dup, 1) := by decide +kernel
theorem dX5_append_72 : decode cX5_append 72 = .ok (.getfield 9, 3) := by decide +kernel
theorem dX5_append_75 : decode cX5_append 75 = .ok (.iconst 1, 1) := by decide +kernel
theorem dX5_append_76 : decode cX5_append 76 = .ok (.iadd, 1) := by decide +kernel
theorem dX5_append_77 : decode cX5_append 77 = .ok (.putfield 9, 3) := by decide +kernel
theorem dX5_append_80 : decode cX5_append 80 = .ok (.return_, 1) := by decide +kernel
set_option maxHeartbeats 4000000 in
set_option maxRecDepth 100000 in
theorem c_X5_append (l : Launch) (B : Nat) (D : va_G) (cA : Nat → ClassId) (m : Mm) (x0 : Nat) (x1 : Int32) (x2 : Int32) (x3 : Int32) (x4 : Int32) (mZ : Mm) (hf : f_X5_append m x0 x1 x2 x3 x4 = some mZ) : Mt l B D cA yX5_append cX5_append 5 none 0 0 0 0 [.ref (B + x0), .int x1, .int x2, .int x3, .int x4] m none mZ := by
  refine r_start (by decide) (Nat.le_of_ble_eq_true rfl) ?_
  intro p e s mt args below meth c ls H locs X hr hlocks hnm hR hl hS
  have hx := X.1
  have hb := X.2.1
  have hl : lv_has ls 5 [(0, .ref (B + x0)), (1, .int x1), (2, .int x2), (3, .int x3), (4, .int x4)] := hl
  unfold f_X5_append at hf
  refine lv_aload_n hx hb dX5_append_0 rfl (lv_at hl 0 rfl) ?_
  obtain ⟨v1, g2, hf⟩ := ob hf
  refine gI_X5_9 X hR g2 dX5_append_1 ?_
  refine lv_bipush (v := 6) hx hb dX5_append_4 (by decide) ?_
  refine lv_icmp_ge (tgt := 80) hx hb dX5_append_6 (by decide) (fun c3 => ?_) (fun c3 => ?_)
  · rw [if_pos c3] at hf
    obtain rfl := Option.some.inj hf
    exact r_vret X hr hlocks hR hS dX5_append_80
  · rw [if_neg c3] at hf
    refine lv_aload_n hx hb dX5_append_9 rfl (lv_at hl 0 rfl) ?_
    obtain ⟨v4, g5, hf⟩ := ob hf
    refine gR_X5_15 X hR g5 dX5_append_10 ?_
    refine lv_aload_n hx hb dX5_append_13 rfl (lv_at hl 0 rfl) ?_
    obtain ⟨v6, g7, hf⟩ := ob hf
    refine gI_X5_9 X hR g7 dX5_append_14 ?_
    refine lv_iload_n hx hb dX5_append_17 rfl (lv_at hl 1 rfl) ?_
    obtain ⟨m8, g9, hf⟩ := ob hf
    refine r_sI X hR hS g9 dX5_append_18 (fun H locs hR hS => ?_)
    refine lv_aload_n hx hb dX5_append_19 rfl (lv_at hl 0 rfl) ?_
    obtain ⟨v10, g11, hf⟩ := ob hf
    refine gR_X5_19 X hR g11 dX5_append_20 ?_
    refine lv_aload_n hx hb dX5_append_23 rfl (lv_at hl 0 rfl) ?_
    obtain ⟨v12, g13, hf⟩ := ob hf
    refine gI_X5_9 X hR g13 dX5_append_24 ?_
    refine lv_iconst (v := 0) hx hb dX5_append_27 (by decide) ?_
    obtain ⟨m14, g15, hf⟩ := ob hf
    refine r_sI X hR hS g15 dX5_append_28 (fun H locs hR hS => ?_)
    refine lv_aload_n hx hb dX5_append_29 rfl (lv_at hl 0 rfl) ?_
    obtain ⟨v16, g17, hf⟩ := ob hf
    refine gR_X5_22 X hR g17 dX5_append_30 ?_
    refine lv_aload_n hx hb dX5_append_33 rfl (lv_at hl 0 rfl) ?_
    obtain ⟨v18, g19, hf⟩ := ob hf
    refine gI_X5_9 X hR g19 dX5_append_34 ?_
    refine lv_iconst (v := 0) hx hb dX5_append_37 (by decide) ?_
    obtain ⟨m20, g21, hf⟩ := ob hf
    refine r_sI X hR hS g21 dX5_append_38 (fun H locs hR hS => ?_)
    refine lv_aload_n hx hb dX5_append_39 rfl (lv_at hl 0 rfl) ?_
    obtain ⟨v22, g23, hf⟩ := ob hf
    refine gR_X5_25 X hR g23 dX5_append_40 ?_
    refine lv_aload_n hx hb dX5_append_43 rfl (lv_at hl 0 rfl) ?_
    obtain ⟨v24, g25, hf⟩ := ob hf
    refine gI_X5_9 X hR g25 dX5_append_44 ?_
    refine lv_iload_n hx hb dX5_append_47 rfl (lv_at hl 2 rfl) ?_
    obtain ⟨m26, g27, hf⟩ := ob hf
    refine r_sI X hR hS g27 dX5_append_48 (fun H locs hR hS => ?_)
    refine lv_aload_n hx hb dX5_append_49 rfl (lv_at hl 0 rfl) ?_
    obtain ⟨v28, g29, hf⟩ := ob hf
    refine gR_X5_28 X hR g29 dX5_append_50 ?_
    refine lv_aload_n hx hb dX5_append_53 rfl (lv_at hl 0 rfl) ?_
    obtain ⟨v30, g31, hf⟩ := ob hf
    refine gI_X5_9 X hR g31 dX5_append_54 ?_
    refine lv_iload_n hx hb dX5_append_57 rfl (lv_at hl 3 rfl) ?_
    obtain ⟨m32, g33, hf⟩ := ob hf
    refine r_sI X hR hS g33 dX5_append_58 (fun H locs hR hS => ?_)
    refine lv_aload_n hx hb dX5_append_59 rfl (lv_at hl 0 rfl) ?_
    obtain ⟨v34, g35, hf⟩ := ob hf
    refine gR_X5_31 X hR g35 dX5_append_60 ?_
    refine lv_aload_n hx hb dX5_append_63 rfl (lv_at hl 0 rfl) ?_
    obtain ⟨v36, g37, hf⟩ := ob hf
    refine gI_X5_9 X hR g37 dX5_append_64 ?_
    refine lv_iload hx hb dX5_append_67 (lv_at hl 4 rfl) ?_
    obtain ⟨m38, g39, hf⟩ := ob hf
    refine r_sI X hR hS g39 dX5_append_69 (fun H locs hR hS => ?_)
    refine lv_aload_n hx hb dX5_append_70 rfl (lv_at hl 0 rfl) ?_
    refine lv_dup hx hb dX5_append_71 rfl ?_
    obtain ⟨v40, g41, hf⟩ := ob hf
    refine gI_X5_9 X hR g41 dX5_append_72 ?_
    refine lv_iconst (v := 1) hx hb dX5_append_75 (by decide) ?_
    refine lv_iadd hx hb dX5_append_76 ?_
    obtain ⟨m42, g43, hf⟩ := ob hf
    refine pI_X5_9 X hR hS g43 dX5_append_77 (fun H locs hR hS => ?_)
    obtain rfl := Option.some.inj hf
    exact r_vret X hr hlocks hR hS dX5_append_80
/-! ===== TwigMatches$Text.readTwig(LTwigMatches$Twig;)I ===== -/
theorem dX3_readTwig_0 : decode cX3_readTwig 0 = .ok (.aload_n 1, 1) := by decide +kernel
theorem dX3_readTwig_1 : decode cX3_readTwig 1 = .ok (.iconst 0, 1) := by decide +kernel
theorem dX3_readTwig_2 : decode cX3_readTwig 2 = .ok (.putfield 48, 3) := by decide +kernel
theorem dX3_readTwig_5 : decode cX3_readTwig 5 = .ok (.iconst 0, 1) := by decide +kernel
theorem dX3_readTwig_6 : decode cX3_readTwig 6 = .ok (.istore_n 2, 1) := by decide +kernel
theorem dX3_readTwig_7 : decode cX3_readTwig 7 = .ok (.iconst (-1), 1) := by decide +kernel
theorem dX3_readTwig_8 : decode cX3_readTwig 8 = .ok (.istore_n 3, 1) := by decide +kernel
theorem dX3_readTwig_9 : decode cX3_readTwig 9 = .ok (.iconst 0, 1) := by decide +kernel
theorem dX3_readTwig_10 : decode cX3_readTwig 10 = .ok (.istore 4, 2) := by decide +kernel
theorem dX3_readTwig_12 : decode cX3_readTwig 12 = .ok (.iconst 0, 1) := by decide +kernel
theorem dX3_readTwig_13 : decode cX3_readTwig 13 = .ok (.istore 5, 2) := by decide +kernel
theorem dX3_readTwig_15 : decode cX3_readTwig 15 = .ok (.iconst 0, 1) := by decide +kernel
theorem dX3_readTwig_16 : decode cX3_readTwig 16 = .ok (.istore 6, 2) := by decide +kernel
theorem dX3_readTwig_18 : decode cX3_readTwig 18 = .ok (.iload 6, 2) := by decide +kernel
theorem dX3_readTwig_20 : decode cX3_readTwig 20 = .ok (.aload_n 0, 1) := by decide +kernel
theorem dX3_readTwig_21 : decode cX3_readTwig 21 = .ok (.getfield 15, 3) := by decide +kernel
theorem dX3_readTwig_24 : decode cX3_readTwig 24 = .ok (.if_icmp .ge 311, 3) := by decide +kernel
theorem dX3_readTwig_27 : decode cX3_readTwig 27 = .ok (.aload_n 0, 1) := by decide +kernel
theorem dX3_readTwig_28 : decode cX3_readTwig 28 = .ok (.getfield 9, 3) := by decide +kernel
theorem dX3_readTwig_31 : decode cX3_readTwig 31 = .ok (.iload 6, 2) := by decide +kernel
theorem dX3_readTwig_33 : decode cX3_readTwig 33 = .ok (.iaload, 1) := by decide +kernel
theorem dX3_readTwig_34 : decode cX3_readTwig 34 = .ok (.istore 7, 2) := by decide +kernel
theorem dX3_readTwig_36 : decode cX3_readTwig 36 = .ok (.iload_n 2, 1) := by decide +kernel
theorem dX3_readTwig_37 : decode cX3_readTwig 37 = .ok (.ifCond .ne 69, 3) := by decide +kernel
theorem dX3_readTwig_40 : decode cX3_readTwig 40 = .ok (.iload 7, 2) := by decide +kernel
theorem dX3_readTwig_42 : decode cX3_readTwig 42 = .ok (.invokestatic 27, 3) := by decide +kernel
theorem dX3_readTwig_45 : decode cX3_readTwig 45 = .ok (.ifCond .ne 10, 3) := by decide +kernel
theorem dX3_readTwig_48 : decode cX3_readTwig 48 = .ok (.iload 7, 2) := by decide +kernel
theorem dX3_readTwig_50 : decode cX3_readTwig 50 = .ok (.bipush 42, 2) := by decide +kernel
theorem dX3_readTwig_52 : decode cX3_readTwig 52 = .ok (.if_icmp .ne 54, 3) := by decide +kernel
theorem dX3_readTwig_55 : decode cX3_readTwig 55 = .ok (.aload_n 1, 1) := by decide +kernel
theorem dX3_readTwig_56 : decode cX3_readTwig 56 = .ok (.getfield 48, 3) := by decide +kernel
theorem dX3_readTwig_59 : decode cX3_readTwig 59 = .ok (.bipush 6, 2) := by decide +kernel
theorem dX3_readTwig_61 : decode cX3_readTwig 61 = .ok (.if_icmp .lt 11, 3) := by decide +kernel
theorem dX3_readTwig_64 : decode cX3_readTwig 64 = .ok (.aload_n 0, 1) := by decide +kernel
theorem dX3_readTwig_65 : decode cX3_readTwig 65 = .ok (.iload 6, 2) := by decide +kernel
theorem dX3_readTwig_67 : decode cX3_readTwig 67 = .ok (.iconst 2, 1) := by decide +kernel
theorem dX3_readTwig_68 : decode cX3_readTwig 68 = .ok (.invokevirtual 31, 3) := by decide +kernel
theorem dX3_readTwig_71 : decode cX3_readTwig 71 = .ok (.ireturn, 1) := by decide +kernel
theorem dX3_readTwig_72 : decode cX3_readTwig 72 = .ok (.aload_n 1, 1) := by decide +kernel
theorem dX3_readTwig_73 : decode cX3_readTwig 73 = .ok (.iload 7, 2) := by decide +kernel
theorem dX3_readTwig_75 : decode cX3_readTwig 75 = .ok (.bipush 42, 2) := by decide +kernel
theorem dX3_readTwig_77 : decode cX3_readTwig 77 = .ok (.if_icmp .ne 8, 3) := by decide +kernel
theorem dX3_readTwig_80 : decode cX3_readTwig 80 = .ok (.bipush 6, 2) := by decide +kernel
theorem dX3_readTwig_82 : decode cX3_readTwig 82 = .ok (.goto 8, 3) := by decide +kernel
theorem dX3_readTwig_85 : decode cX3_readTwig 85 = .ok (.iload 7, 2) := by decide +kernel
theorem dX3_readTwig_87 : decode cX3_readTwig 87 = .ok (.bipush 97, 2) := by decide +kernel
theorem dX3_readTwig_89 : decode cX3_readTwig 89 = .ok (.isub, 1) := by decide +kernel
theorem dX3_readTwig_90 : decode cX3_readTwig 90 = .ok (.iload 4, 2) := by decide +kernel
theorem dX3_readTwig_92 : decode cX3_readTwig 92 = .ok (.iload 5, 2) := by decide +kernel
theorem dX3_readTwig_94 : decode cX3_readTwig 94 = .ok (.iload_n 3, 1) := by decide +kernel
theorem dX3_readTwig_95 : decode cX3_readTwig 95 = .ok (.invokevirtual 51, 3) := by decide +kernel
theorem dX3_readTwig_98 : decode cX3_readTwig 98 = .ok (.iconst 0, 1) := by decide +kernel
theorem dX3_readTwig_99 : decode cX3_readTwig 99 = .ok (.istore 5, 2) := by decide +kernel
theorem dX3_readTwig_101 : decode cX3_readTwig 101 = .ok (.iconst 3, 1) := by decide +kernel
theorem dX3_readTwig_102 : decode cX3_readTwig 102 = .ok (.istore_n 2, 1) := by decide +kernel
theorem dX3_readTwig_103 : decode cX3_readTwig 103 = .ok (.goto 226, 3) := by decide +kernel
theorem dX3_readTwig_106 : decode cX3_readTwig 106 = .ok (.iload_n 2, 1) := by decide +kernel
theorem dX3_readTwig_107 : decode cX3_readTwig 107 = .ok (.iconst 3, 1) := by decide +kernel
theorem dX3_readTwig_108 : decode cX3_readTwig 108 = .ok (.if_icmp .ne 42, 3) := by decide +kernel
theorem dX3_readTwig_111 : decode cX3_readTwig 111 = .ok (.iload 7, 2) := by decide +kernel
theorem dX3_readTwig_113 : decode cX3_readTwig 113 = .ok (.bipush 61, 2) := by decide +kernel
theorem dX3_readTwig_115 : decode cX3_readTwig 115 = .ok (.if_icmp .eq 17, 3) := by decide +kernel
theorem dX3_readTwig_118 : decode cX3_readTwig 118 = .ok (.iload 7, 2) := by decide +kernel
theorem dX3_readTwig_120 : decode cX3_readTwig 120 = .ok (.bipush 60, 2) := by decide +kernel
theorem dX3_readTwig_122 : decode cX3_readTwig 122 = .ok (.if_icmp .eq 10, 3) := by decide +kernel
theorem dX3_readTwig_125 : decode cX3_readTwig 125 = .ok (.iload 7, 2) := by decide +kernel
theorem dX3_readTwig_127 : decode cX3_readTwig 127 = .ok (.bipush 62, 2) := by decide +kernel
theorem dX3_readTwig_129 : decode cX3_readTwig 129 = .ok (.if_icmp .ne 21, 3) := by decide +kernel
theorem dX3_readTwig_132 : decode cX3_readTwig 132 = .ok (.aload_n 1, 1) := by decide +kernel
theorem dX3_readTwig_133 : decode cX3_readTwig 133 = .ok (.getfield 54, 3) := by decide +kernel
theorem dX3_readTwig_136 : decode cX3_readTwig 136 = .ok (.aload_n 1, 1) := by decide +kernel
theorem dX3_readTwig_137 : decode cX3_readTwig 137 = .ok (.getfield 48, 3) := by decide +kernel
theorem dX3_readTwig_140 : decode cX3_readTwig 140 = .ok (.iconst 1, 1) := by decide +kernel
theorem dX3_readTwig_141 : decode cX3_readTwig 141 = .ok (.isub, 1) := by decide +kernel
theorem dX3_readTwig_142 : decode cX3_readTwig 142 = .ok (.iload 7, 2) := by decide +kernel
theorem dX3_readTwig_144 : decode cX3_readTwig 144 = .ok (.iastore, 1) := by decide +kernel
theorem dX3_readTwig_145 : decode cX3_readTwig 145 = .ok (.iconst 2, 1) := by decide +kernel
theorem dX3_readTwig_146 : decode cX3_readTwig 146 = .ok (.istore_n 2, 1) := by decide +kernel
theorem dX3_readTwig_147 : decode cX3_readTwig 147 = .ok (.goto 182, 3) := by decide +kernel
theorem dX3_readTwig_150 : decode cX3_readTwig 150 = .ok (.iload_n 2, 1) := by decide +kernel
theorem dX3_readTwig_151 : decode cX3_readTwig 151 = .ok (.iconst 2, 1) := by decide +kernel
theorem dX3_readTwig_152 : decode cX3_readTwig 152 = .ok (.if_icmp .ne 32, 3) := by decide +kernel
theorem dX3_readTwig_155 : decode cX3_readTwig 155 = .ok (.iload 7, 2) := by decide +kernel
theorem dX3_readTwig_157 : decode cX3_readTwig 157 = .ok (.invokestatic 39, 3) := by decide +kernel
theorem dX3_readTwig_160 : decode cX3_readTwig 160 = .ok (.ifCond .eq 24, 3) := by decide +kernel
theorem dX3_readTwig_163 : decode cX3_readTwig 163 = .ok (.aload_n 1, 1) := by decide +kernel
theorem dX3_readTwig_164 : decode cX3_readTwig 164 = .ok (.getfield 57, 3) := by decide +kernel
theorem dX3_readTwig_167 : decode cX3_readTwig 167 = .ok (.aload_n 1, 1) := by decide +kernel
theorem dX3_readTwig_168 : decode cX3_readTwig 168 = .ok (.getfield 48, 3) := by decide +kernel
theorem dX3_readTwig_171 : decode cX3_readTwig 171 = .ok (.iconst 1, 1) := by decide +kernel
theorem dX3_readTwig_172 : decode cX3_readTwig 172 = .ok (.isub, 1) := by decide +kernel
theorem dX3_readTwig_173 : decode cX3_readTwig 173 = .ok (.iload 7, 2) := by decide +kernel
theorem dX3_readTwig_175 : decode cX3_readTwig 175 = .ok (.bipush 48, 2) := by decide +kernel
theorem dX3_readTwig_177 : decode cX3_readTwig 177 = .ok (.isub, 1) := by decide +kernel
theorem dX3_readTwig_178 : decode cX3_readTwig 178 = .ok (.iastore, 1) := by decide +kernel
theorem dX3_readTwig_179 : decode cX3_readTwig 179 = .ok (.iconst 4, 1) := by decide +kernel
theorem dX3_readTwig_180 : decode cX3_readTwig 180 = .ok (.istore_n 2, 1) := by decide +kernel
theorem dX3_readTwig_181 : decode cX3_readTwig 181 = .ok (.goto 148, 3) := by decide +kernel
theorem dX3_readTwig_184 : decode cX3_readTwig 184 = .ok (.iload 7, 2) := by decide +kernel
theorem dX3_readTwig_186 : decode cX3_readTwig 186 = .ok (.bipush 40, 2) := by decide +kernel
theorem dX3_readTwig_188 : decode cX3_readTwig 188 = .ok (.if_icmp .ne 25, 3) := by decide +kernel
theorem dX3_readTwig_191 : decode cX3_readTwig 191 = .ok (.iload_n 2, 1) := by decide +kernel
theorem dX3_readTwig_192 : decode cX3_readTwig 192 = .ok (.iconst 3, 1) := by decide +kernel
theorem dX3_readTwig_193 : decode cX3_readTwig 193 = .ok (.if_icmp .eq 8, 3) := by decide +kernel
theorem dX3_readTwig_196 : decode cX3_readTwig 196 = .ok (.iload_n 2, 1) := by decide +kernel
theorem dX3_readTwig_197 : decode cX3_readTwig 197 = .ok (.iconst 4, 1) := by decide +kernel
theorem dX3_readTwig_198 : decode cX3_readTwig 198 = .ok (.if_icmp .ne 15, 3) := by decide +kernel
theorem dX3_readTwig_201 : decode cX3_readTwig 201 = .ok (.aload_n 1, 1) := by decide +kernel
theorem dX3_readTwig_202 : decode cX3_readTwig 202 = .ok (.getfield 48, 3) := by decide +kernel
theorem dX3_readTwig_205 : decode cX3_readTwig 205 = .ok (.iconst 1, 1) := by decide +kernel
theorem dX3_readTwig_206 : decode cX3_readTwig 206 = .ok (.isub, 1) := by decide +kernel
theorem dX3_readTwig_207 : decode cX3_readTwig 207 = .ok (.istore_n 3, 1) := by decide +kernel
theorem dX3_readTwig_208 : decode cX3_readTwig 208 = .ok (.iconst 1, 1) := by decide +kernel
theorem dX3_readTwig_209 : decode cX3_readTwig 209 = .ok (.istore_n 2, 1) := by decide +kernel
theorem dX3_readTwig_210 : decode cX3_readTwig 210 = .ok (.goto 119, 3) := by decide +kernel
theorem dX3_readTwig_213 : decode cX3_readTwig 213 = .ok (.iload 7, 2) := by decide +kernel
theorem dX3_readTwig_215 : decode cX3_readTwig 215 = .ok (.bipush 47, 2) := by decide +kernel
theorem dX3_readTwig_217 : decode cX3_readTwig 217 = .ok (.if_icmp .eq 10, 3) := by decide +kernel
theorem dX3_readTwig_220 : decode cX3_readTwig 220 = .ok (.iload 7, 2) := by decide +kernel
theorem dX3_readTwig_222 : decode cX3_readTwig 222 = .ok (.bipush 126, 2) := by decide +kernel
theorem dX3_readTwig_224 : decode cX3_readTwig 224 = .ok (.if_icmp .ne 39, 3) := by decide +kernel
theorem dX3_readTwig_227 : decode cX3_readTwig 227 = .ok (.iload_n 3, 1) := by decide +kernel
theorem dX3_readTwig_228 : decode cX3_readTwig 228 = .ok (.iconst (-1), 1) := by decide +kernel
theorem dX3_readTwig_229 : decode cX3_readTwig 229 = .ok (.if_icmp .eq 34, 3) := by decide +kernel
theorem dX3_readTwig_232 : decode cX3_readTwig 232 = .ok (.iload_n 2, 1) := by decide +kernel
theorem dX3_readTwig_233 : decode cX3_readTwig 233 = .ok (.iconst 1, 1) := by decide +kernel
theorem dX3_readTwig_234 : decode cX3_readTwig 234 = .ok (.if_icmp .eq 10, 3) := by decide +kernel
theorem dX3_readTwig_237 : decode cX3_readTwig 237 = .ok (.iload_n 2, 1) := by decide +kernel
theorem dX3_readTwig_238 : decode cX3_readTwig 238 = .ok (.invokestatic 45, 3) := by decide +kernel
theorem dX3_readTwig_241 : decode cX3_readTwig 241 = .ok (.ifCond .eq 22, 3) := by decide +kernel
theorem dX3_readTwig_244 : decode cX3_readTwig 244 = .ok (.iload 7, 2) := by decide +kernel
theorem dX3_readTwig_246 : decode cX3_readTwig 246 = .ok (.bipush 47, 2) := by decide +kernel
theorem dX3_readTwig_248 : decode cX3_readTwig 248 = .ok (.if_icmp .ne 7, 3) := by decide +kernel
theorem dX3_readTwig_251 : decode cX3_readTwig 251 = .ok (.iconst 1, 1) := by decide +kernel
theorem dX3_readTwig_252 : decode cX3_readTwig 252 = .ok (.goto 4, 3) := by decide +kernel
theorem dX3_readTwig_255 : decode cX3_readTwig 255 = .ok (.iconst 2, 1) := by decide +kernel
theorem dX3_readTwig_256 : decode cX3_readTwig 256 = .ok (.istore 4, 2) := by decide +kernel
theorem dX3_readTwig_258 : decode cX3_readTwig 258 = .ok (.iconst 0, 1) := by decide +kernel
theorem dX3_readTwig_259 : decode cX3_readTwig 259 = .ok (.istore_n 2, 1) := by decide +kernel
theorem dX3_readTwig_260 : decode cX3_readTwig 260 = .ok (.goto 69, 3) := by decide +kernel
theorem dX3_readTwig_263 : decode cX3_readTwig 263 = .ok (.iload 7, 2) := by decide +kernel
theorem dX3_readTwig_265 : decode cX3_readTwig 265 = .ok (.bipush 59, 2) := by decide +kernel
theorem dX3_readTwig_267 : decode cX3_readTwig 267 = .ok (.if_icmp .ne 23, 3) := by decide +kernel
theorem dX3_readTwig_270 : decode cX3_readTwig 270 = .ok (.iload_n 3, 1) := by decide +kernel
theorem dX3_readTwig_271 : decode cX3_readTwig 271 = .ok (.iconst (-1), 1) := by decide +kernel
theorem dX3_readTwig_272 : decode cX3_readTwig 272 = .ok (.if_icmp .eq 18, 3) := by decide +kernel
theorem dX3_readTwig_275 : decode cX3_readTwig 275 = .ok (.iload_n 2, 1) := by decide +kernel
theorem dX3_readTwig_276 : decode cX3_readTwig 276 = .ok (.invokestatic 45, 3) := by decide +kernel
theorem dX3_readTwig_279 : decode cX3_readTwig 279 = .ok (.ifCond .eq 11, 3) := by decide +kernel
theorem dX3_readTwig_282 : decode cX3_readTwig 282 = .ok (.iconst 1, 1) := by decide +kernel
theorem dX3_readTwig_283 : decode cX3_readTwig 283 = .ok (.istore 5, 2) := by decide +kernel
theorem dX3_readTwig_285 : decode cX3_readTwig 285 = .ok (.iconst 1, 1) := by decide +kernel
theorem dX3_readTwig_286 : decode cX3_readTwig 286 = .ok (.istore_n 2, 1) := by decide +kernel
theorem dX3_readTwig_287 : decode cX3_readTwig 287 = .ok (.goto 42, 3) := by decide +kernel
theorem dX3_readTwig_290 : decode cX3_readTwig 290 = .ok (.iload 7, 2) := by decide +kernel
theorem dX3_readTwig_292 : decode cX3_readTwig 292 = .ok (.bipush 41, 2) := by decide +kernel
theorem dX3_readTwig_294 : decode cX3_readTwig 294 = .ok (.if_icmp .ne 27, 3) := by decide +kernel
theorem dX3_readTwig_297 : decode cX3_readTwig 297 = .ok (.iload_n 3, 1) := by decide +kernel
theorem dX3_readTwig_298 : decode cX3_readTwig 298 = .ok (.iconst (-1), 1) := by decide +kernel
theorem dX3_readTwig_299 : decode cX3_readTwig 299 = .ok (.if_icmp .eq 22, 3) := by decide +kernel
theorem dX3_readTwig_302 : decode cX3_readTwig 302 = .ok (.iload_n 2, 1) := by decide +kernel
theorem dX3_readTwig_303 : decode cX3_readTwig 303 = .ok (.invokestatic 45, 3) := by decide +kernel
theorem dX3_readTwig_306 : decode cX3_readTwig 306 = .ok (.ifCond .eq 15, 3) := by decide +kernel
theorem dX3_readTwig_309 : decode cX3_readTwig 309 = .ok (.aload_n 1, 1) := by decide +kernel
theorem dX3_readTwig_310 : decode cX3_readTwig 310 = .ok (.getfield 60, 3) := by decide +kernel
theorem dX3_readTwig_313 : decode cX3_readTwig 313 = .ok (.iload_n 3, 1) := by decide +kernel
theorem dX3_readTwig_314 : decode cX3_readTwig 314 = .ok (.iaload, 1) := by decide +kernel
theorem dX3_readTwig_315 : decode cX3_readTwig 315 = .ok (.istore_n 3, 1) := by decide +kernel
theorem dX3_readTwig_316 : decode cX3_readTwig 316 = .ok (.iconst 5, 1) := by decide +kernel
theorem dX3_readTwig_317 : decode cX3_readTwig 317 = .ok (.istore_n 2, 1) := by decide +kernel
theorem dX3_readTwig_318 : decode cX3_readTwig 318 = .ok (.goto 11, 3) := by decide +kernel
theorem dX3_readTwig_321 : decode cX3_readTwig 321 = .ok (.aload_n 0, 1) := by decide +kernel
theorem dX3_readTwig_322 : decode cX3_readTwig 322 = .ok (.iload 6, 2) := by decide +kernel
theorem dX3_readTwig_324 : decode cX3_readTwig 324 = .ok (.iconst 1, 1) := by decide +kernel
theorem dX3_readTwig_325 : decode cX3_readTwig 325 = .ok (.invokevirtual 31, 3) := by decide +kernel
theorem dX3_readTwig_328 : decode cX3_readTwig 328 = .ok (.ireturn, 1) := by decide +kernel
theorem dX3_readTwig_329 : decode cX3_readTwig 329 = .ok (.iinc 6 1, 3) := by decide +kernel
theorem dX3_readTwig_332 : decode cX3_readTwig 332 = .ok (.goto (-314), 3) := by decide +kernel
theorem dX3_readTwig_335 : decode cX3_readTwig 335 = .ok (.iload_n 2, 1) := by decide +kernel
theorem dX3_readTwig_336 : decode cX3_readTwig 336 = .ok (.invokestatic 45, 3) := by decide +kernel
theorem dX3_readTwig_339 : decode cX3_readTwig 339 = .ok (.ifCond .eq 12, 3) := by decide +kernel
theorem dX3_readTwig_342 : decode cX3_readTwig 342 = .ok (.iload_n 3, 1) := by decide +kernel
theorem dX3_readTwig_343 : decode cX3_readTwig 343 = .ok (.iconst (-1), 1) := by decide +kernel
theorem dX3_readTwig_344 : decode cX3_readTwig 344 = .ok (.if_icmp .ne 7, 3) := by decide +kernel
theorem dX3_readTwig_347 : decode cX3_readTwig 347 = .ok (.iconst (-1), 1) := by decide +kernel
theorem dX3_readTwig_348 : decode cX3_readTwig 348 = .ok (.goto 12, 3) := by decide +kernel
theorem dX3_readTwig_351 : decode cX3_readTwig 351 = .ok (.aload_n 0, 1) := by decide +kernel
theorem dX3_readTwig_352 : decode cX3_readTwig 352 = .ok (.aload_n 0, 1) := by decide +kernel
theorem dX3_readTwig_353 : decode cX3_readTwig 353 = .ok (.getfield 15, 3) := by decide +kernel
theorem dX3_readTwig_356 : decode cX3_readTwig 356 = .ok (.iconst 1, 1) := by decide +kernel
theorem dX3_readTwig_357 : decode cX3_readTwig 357 = .ok (.invokevirtual 31, 3) := by decide +kernel
theorem dX3_readTwig_360 : decode cX3_readTwig 360 = .ok (.ireturn, 1) := by decide +kernel
set_option maxHeartbeats 4000000 in
set_option maxRecDepth 100000 in
theorem c_X3_readTwig (l : Launch) (B : Nat) (D : va_G) (cA : Nat → ClassId) (m : Mm) (x0 : Nat) (x1 : Nat) (rZ : Int32) (mZ : Mm) (hf : f_X3_readTwig m x0 x1 = some (rZ, mZ)) : Mt l B D cA yX3_readTwig cX3_readTwig 8 (some .int) 1 24 0 0 [.ref (B + x0), .ref (B + x1)] m (some (.int rZ)) mZ := by
  refine r_start (by decide) (Nat.le_of_ble_eq_true rfl) ?_
  intro p e s mt args below meth c ls H locs X hr hlocks hnm hR hl hS
  have hx := X.1
  have hb := X.2.1
  have hl : lv_has ls 8 [(0, .ref (B + x0)), (1, .ref (B + x1))] := hl
  unfold f_X3_readTwig at hf
  refine lv_aload_n hx hb dX3_readTwig_0 rfl (lv_at hl 1 rfl) ?_
  refine lv_iconst (v := 0) hx hb dX3_readTwig_1 (by decide) ?_
  obtain ⟨m1, g2, hf⟩ := ob hf
  refine pI_X3_48 X hR hS g2 dX3_readTwig_2 (fun H locs hR hS => ?_)
  refine lv_iconst (v := 0) hx hb dX3_readTwig_5 (by decide) ?_
  refine lv_istore_n (lv' := [(2, .int (0 : Int32)), (0, .ref (B + x0)), (1, .ref (B + x1))]) hx hb dX3_readTwig_6 rfl hl (by decide) rfl (fun ls hl => ?_)
  refine lv_iconst (v := -1) hx hb dX3_readTwig_7 (by decide) ?_
  refine lv_istore_n (lv' := [(3, .int (-1 : Int32)), (2, .int (0 : Int32)), (0, .ref (B + x0)), (1, .ref (B + x1))]) hx hb dX3_readTwig_8 rfl hl (by decide) rfl (fun ls hl => ?_)
  refine lv_iconst (v := 0) hx hb dX3_readTwig_9 (by decide) ?_
  refine lv_istore (lv' := [(4, .int (0 : Int32)), (3, .int (-1 : Int32)), (2, .int (0 : Int32)), (0, .ref (B + x0)), (1, .ref (B + x1))]) hx hb dX3_readTwig_10 hl (by decide) rfl (fun ls hl => ?_)
  refine lv_iconst (v := 0) hx hb dX3_readTwig_12 (by decide) ?_
  refine lv_istore (lv' := [(5, .int (0 : Int32)), (4, .int (0 : Int32)), (3, .int (-1 : Int32)), (2, .int (0 : Int32)), (0, .ref (B + x0)), (1, .ref (B + x1))]) hx hb dX3_readTwig_13 hl (by decide) rfl (fun ls hl => ?_)
  refine lv_iconst (v := 0) hx hb dX3_readTwig_15 (by decide) ?_
  refine lv_istore (lv' := [(6, .int (0 : Int32)), (5, .int (0 : Int32)), (4, .int (0 : Int32)), (3, .int (-1 : Int32)), (2, .int (0 : Int32)), (0, .ref (B + x0)), (1, .ref (B + x1))]) hx hb dX3_readTwig_16 hl (by decide) rfl (fun ls hl => ?_)
  obtain ⟨e4, hwe4, hf⟩ := ob hf
  refine whl_rule (P := (fun t3 => ∀ (H : Heap) (locs : List Loc) (ls : Array Slot), Rl B D cA t3.2.2.2.2.2 H → va_S (fun q => B ≤ q) s.heap H locs → lv_has ls 8 [(0, .ref (B + x0)), (1, .ref (B + x1)), (2, .int t3.1), (3, .int t3.2.1), (4, .int t3.2.2.1), (5, .int t3.2.2.2.1), (6, .int t3.2.2.2.2.1)] → W p l e (rmm 1 0 0 24) s mt args below meth c H locs 0 0 (MQ below (mQ B D cA (some (.int rZ)) mZ) args s 0 0 (fun q => B ≤ q)) (F0 mt 18 ls []))) (Qx := (fun e4 => (match e4 with | .inl a0 => (∀ (H : Heap) (locs : List Loc) (ls : Array Slot), Rl B D cA a0.2.2 H → va_S (fun q => B ≤ q) s.heap H locs → lv_has ls 8 [(0, .ref (B + x0)), (2, .int a0.1), (3, .int a0.2.1)] → W p l e (rmm 1 0 0 24) s mt args below meth c H locs 0 0 (MQ below (mQ B D cA (some (.int rZ)) mZ) args s 0 0 (fun q => B ≤ q)) (F0 mt 335 ls [])) | .inr b0 => (match b0 with | .inl a1 => (∀ (H : Heap) (locs : List Loc) (ls : Array Slot), Rl B D cA a1.2 H → va_S (fun q => B ≤ q) s.heap H locs → lv_has ls 8 [(0, .ref (B + x0)), (6, .int a1.1)] → W p l e (rmm 1 0 0 24) s mt args below meth c H locs 0 0 (MQ below (mQ B D cA (some (.int rZ)) mZ) args s 0 0 (fun q => B ≤ q)) (F0 mt 64 ls [])) | .inr b1 => ∀ (H : Heap) (locs : List Loc) (ls : Array Slot), Rl B D cA b1.2 H → va_S (fun q => B ≤ q) s.heap H locs → lv_has ls 8 [(0, .ref (B + x0)), (6, .int b1.1)] → W p l e (rmm 1 0 0 24) s mt args below meth c H locs 0 0 (MQ below (mQ B D cA (some (.int rZ)) mZ) args s 0 0 (fun q => B ≤ q)) (F0 mt 321 ls []))))) ?_ FU _ e4 hwe4 ?_ H locs ls hR hS (lv_sub hl [5, 6, 4, 3, 2, 1, 0] rfl)
  · clear hwe4 hf
    intro t3 q5 hf hxlq5 hxrq5 H locs ls hR hS hl
    obtain ⟨z6, z7, z8, z9, z10, m11⟩ := t3
    have hf : f_X3_readTwig_L18 m11 x0 x1 z6 z7 z8 z9 z10 = some q5 := hf
    have hR : Rl B D cA m11 H := hR
    have hl : lv_has ls 8 [(0, .ref (B + x0)), (1, .ref (B + x1)), (2, .int z6), (3, .int z7), (4, .int z8), (5, .int z9), (6, .int z10)] := hl
    unfold f_X3_readTwig_L18 at hf
    refine lv_iload hx hb dX3_readTwig_18 (lv_at hl 6 rfl) ?_
    refine lv_aload_n hx hb dX3_readTwig_20 rfl (lv_at hl 0 rfl) ?_
    obtain ⟨v12, g13, hf⟩ := ob hf
    refine gI_X3_15 X hR g13 dX3_readTwig_21 ?_
    refine lv_icmp_ge (tgt := 335) hx hb dX3_readTwig_24 (by decide) (fun c14 => ?_) (fun c14 => ?_)
    · rw [if_pos c14] at hf
      obtain rfl := Option.some.inj hf
      exact hxrq5 _ rfl H locs ls hR hS (lv_sub hl [0, 2, 3] rfl)
    · rw [if_neg c14] at hf
      refine lv_aload_n hx hb dX3_readTwig_27 rfl (lv_at hl 0 rfl) ?_
      obtain ⟨v15, g16, hf⟩ := ob hf
      refine gR_X3_9 X hR g16 dX3_readTwig_28 ?_
      refine lv_iload hx hb dX3_readTwig_31 (lv_at hl 6 rfl) ?_
      obtain ⟨v17, g18, hf⟩ := ob hf
      refine r_lI X hR g18 dX3_readTwig_33 ?_
      refine lv_istore (lv' := [(7, .int v17), (0, .ref (B + x0)), (1, .ref (B + x1)), (2, .int z6), (3, .int z7), (4, .int z8), (5, .int z9), (6, .int z10)]) hx hb dX3_readTwig_34 hl (by decide) rfl (fun ls hl => ?_)
      refine lv_iload_n hx hb dX3_readTwig_36 rfl (lv_at hl 3 rfl) ?_
      have hJ106 : ∀  (H : Heap) (locs : List Loc) (ls : Array Slot), f_X3_readTwig_J106 m11 x0 x1 z6 z7 z8 z9 z10 v17 = some q5 → Rl B D cA m11 H → va_S (fun q => B ≤ q) s.heap H locs → lv_has ls 8 [(0, .ref (B + x0)), (1, .ref (B + x1)), (2, .int z6), (3, .int z7), (4, .int z8), (5, .int z9), (6, .int z10), (7, .int v17)] → W p l e (rmm 1 0 0 24) s mt args below meth c H locs 0 0 (MQ below (mQ B D cA (some (.int rZ)) mZ) args s 0 0 (fun q => B ≤ q)) (F0 mt 106 ls []) := by
        intro  H locs ls hf hR hS hl
        unfold f_X3_readTwig_J106 at hf
        refine lv_iload_n hx hb dX3_readTwig_106 rfl (lv_at hl 2 rfl) ?_
        refine lv_iconst (v := 3) hx hb dX3_readTwig_107 (by decide) ?_
        have hJ150 : ∀  (H : Heap) (locs : List Loc) (ls : Array Slot), f_X3_readTwig_J150 m11 x0 x1 z6 z7 z8 z9 z10 v17 = some q5 → Rl B D cA m11 H → va_S (fun q => B ≤ q) s.heap H locs → lv_has ls 8 [(0, .ref (B + x0)), (1, .ref (B + x1)), (2, .int z6), (3, .int z7), (4, .int z8), (5, .int z9), (6, .int z10), (7, .int v17)] → W p l e (rmm 1 0 0 24) s mt args below meth c H locs 0 0 (MQ below (mQ B D cA (some (.int rZ)) mZ) args s 0 0 (fun q => B ≤ q)) (F0 mt 150 ls []) := by
          intro  H locs ls hf hR hS hl
          unfold f_X3_readTwig_J150 at hf
          refine lv_iload_n hx hb dX3_readTwig_150 rfl (lv_at hl 2 rfl) ?_
          refine lv_iconst (v := 2) hx hb dX3_readTwig_151 (by decide) ?_
          have hJ184 : ∀  (H : Heap) (locs : List Loc) (ls : Array Slot), f_X3_readTwig_J184 m11 x0 x1 z6 z7 z8 z9 z10 v17 = some q5 → Rl B D cA m11 H → va_S (fun q => B ≤ q) s.heap H locs → lv_has ls 8 [(0, .ref (B + x0)), (1, .ref (B + x1)), (2, .int z6), (3, .int z7), (4, .int z8), (5, .int z9), (6, .int z10), (7, .int v17)] → W p l e (rmm 1 0 0 24) s mt args below meth c H locs 0 0 (MQ below (mQ B D cA (some (.int rZ)) mZ) args s 0 0 (fun q => B ≤ q)) (F0 mt 184 ls []) := by
            intro  H locs ls hf hR hS hl
            unfold f_X3_readTwig_J184 at hf
            refine lv_iload hx hb dX3_readTwig_184 (lv_at hl 7 rfl) ?_
            refine lv_bipush (v := 40) hx hb dX3_readTwig_186 (by decide) ?_
            have hJ213 : ∀  (H : Heap) (locs : List Loc) (ls : Array Slot), f_X3_readTwig_J213 m11 x0 x1 z6 z7 z8 z9 z10 v17 = some q5 → Rl B D cA m11 H → va_S (fun q => B ≤ q) s.heap H locs → lv_has ls 8 [(0, .ref (B + x0)), (1, .ref (B + x1)), (2, .int z6), (3, .int z7), (4, .int z8), (5, .int z9), (6, .int z10), (7, .int v17)] → W p l e (rmm 1 0 0 24) s mt args below meth c H locs 0 0 (MQ below (mQ B D cA (some (.int rZ)) mZ) args s 0 0 (fun q => B ≤ q)) (F0 mt 213 ls []) := by
              intro  H locs ls hf hR hS hl
              unfold f_X3_readTwig_J213 at hf
              refine lv_iload hx hb dX3_readTwig_213 (lv_at hl 7 rfl) ?_
              refine lv_bipush (v := 47) hx hb dX3_readTwig_215 (by decide) ?_
              have hJ263 : ∀  (H : Heap) (locs : List Loc) (ls : Array Slot), f_X3_readTwig_J263 m11 x0 x1 z6 z7 z8 z9 z10 v17 = some q5 → Rl B D cA m11 H → va_S (fun q => B ≤ q) s.heap H locs → lv_has ls 8 [(0, .ref (B + x0)), (1, .ref (B + x1)), (2, .int z6), (3, .int z7), (4, .int z8), (5, .int z9), (6, .int z10), (7, .int v17)] → W p l e (rmm 1 0 0 24) s mt args below meth c H locs 0 0 (MQ below (mQ B D cA (some (.int rZ)) mZ) args s 0 0 (fun q => B ≤ q)) (F0 mt 263 ls []) := by
                intro  H locs ls hf hR hS hl
                unfold f_X3_readTwig_J263 at hf
                refine lv_iload hx hb dX3_readTwig_263 (lv_at hl 7 rfl) ?_
                refine lv_bipush (v := 59) hx hb dX3_readTwig_265 (by decide) ?_
                have hJ290 : ∀  (H : Heap) (locs : List Loc) (ls : Array Slot), f_X3_readTwig_J290 m11 x0 x1 z6 z7 z8 z9 z10 v17 = some q5 → Rl B D cA m11 H → va_S (fun q => B ≤ q) s.heap H locs → lv_has ls 8 [(0, .ref (B + x0)), (1, .ref (B + x1)), (2, .int z6), (3, .int z7), (4, .int z8), (5, .int z9), (6, .int z10), (7, .int v17)] → W p l e (rmm 1 0 0 24) s mt args below meth c H locs 0 0 (MQ below (mQ B D cA (some (.int rZ)) mZ) args s 0 0 (fun q => B ≤ q)) (F0 mt 290 ls []) := by
                  intro  H locs ls hf hR hS hl
                  unfold f_X3_readTwig_J290 at hf
                  refine lv_iload hx hb dX3_readTwig_290 (lv_at hl 7 rfl) ?_
                  refine lv_bipush (v := 41) hx hb dX3_readTwig_292 (by decide) ?_
                  refine lv_icmp_ne (tgt := 321) hx hb dX3_readTwig_294 (by decide) (fun c19 => ?_) (fun c19 => ?_)
                  · rw [if_neg c19] at hf
                    obtain rfl := Option.some.inj hf
                    exact hxrq5 _ rfl H locs ls hR hS (lv_sub hl [0, 6] rfl)
                  · rw [if_pos c19] at hf
                    refine lv_iload_n hx hb dX3_readTwig_297 rfl (lv_at hl 3 rfl) ?_
                    refine lv_iconst (v := -1) hx hb dX3_readTwig_298 (by decide) ?_
                    refine lv_icmp_eq (tgt := 321) hx hb dX3_readTwig_299 (by decide) (fun c20 => ?_) (fun c20 => ?_)
                    · rw [if_pos c20] at hf
                      obtain rfl := Option.some.inj hf
                      exact hxrq5 _ rfl H locs ls hR hS (lv_sub hl [0, 6] rfl)
                    · rw [if_neg c20] at hf
                      refine lv_iload_n hx hb dX3_readTwig_302 rfl (lv_at hl 2 rfl) ?_
                      obtain ⟨v22, g21, hf⟩ := ob hf
                      refine r_callS X kw_X3_45 (c_X3_isWhole l B D cA m11 z6 v22 g21) ⟨Nat.le_of_ble_eq_true rfl, Nat.le_of_ble_eq_true rfl⟩ hR hS hl.1 rfl rfl (Nat.le_of_ble_eq_true rfl) ⟨Nat.le_of_ble_eq_true rfl, Nat.le_of_ble_eq_true rfl⟩ dX3_readTwig_303 (fun H locs hR hS => ?_)
                      refine W.eq (g2 := F0 mt 306 ls [.int v22]) rfl ?_
                      refine lv_if_eq (tgt := 321) hx hb dX3_readTwig_306 (by decide) (fun c23 => ?_) (fun c23 => ?_)
                      · rw [if_pos c23] at hf
                        obtain rfl := Option.some.inj hf
                        exact hxrq5 _ rfl H locs ls hR hS (lv_sub hl [0, 6] rfl)
                      · rw [if_neg c23] at hf
                        refine lv_aload_n hx hb dX3_readTwig_309 rfl (lv_at hl 1 rfl) ?_
                        obtain ⟨v24, g25, hf⟩ := ob hf
                        refine gR_X3_60 X hR g25 dX3_readTwig_310 ?_
                        refine lv_iload_n hx hb dX3_readTwig_313 rfl (lv_at hl 3 rfl) ?_
                        obtain ⟨v26, g27, hf⟩ := ob hf
                        refine r_lI X hR g27 dX3_readTwig_314 ?_
                        refine lv_istore_n (lv' := [(3, .int v26), (0, .ref (B + x0)), (1, .ref (B + x1)), (2, .int z6), (4, .int z8), (5, .int z9), (6, .int z10), (7, .int v17)]) hx hb dX3_readTwig_315 rfl hl (by decide) rfl (fun ls hl => ?_)
                        refine lv_iconst (v := 5) hx hb dX3_readTwig_316 (by decide) ?_
                        refine lv_istore_n (lv' := [(2, .int (5 : Int32)), (3, .int v26), (0, .ref (B + x0)), (1, .ref (B + x1)), (4, .int z8), (5, .int z9), (6, .int z10), (7, .int v17)]) hx hb dX3_readTwig_317 rfl hl (by decide) rfl (fun ls hl => ?_)
                        refine lv_goto (tgt := 329) hx hb dX3_readTwig_318 (by decide) ?_
                        refine lv_iinc (v := (z10 + 1)) (lv' := [(6, .int (z10 + 1)), (2, .int (5 : Int32)), (3, .int v26), (0, .ref (B + x0)), (1, .ref (B + x1)), (4, .int z8), (5, .int z9), (7, .int v17)]) hx hb dX3_readTwig_329 hl (k := 6) rfl (congrArg (fun z => z10 + z) (by decide)) (by decide) rfl (fun ls hl => ?_)
                        refine lv_goto (tgt := 18) hx hb dX3_readTwig_332 (by decide) ?_
                        obtain rfl := Option.some.inj hf
                        exact hxlq5 _ rfl H locs ls hR hS (lv_sub hl [3, 4, 1, 2, 5, 6, 0] rfl)
                refine lv_icmp_ne (tgt := 290) hx hb dX3_readTwig_267 (by decide) (fun c28 => ?_) (fun c28 => ?_)
                · rw [if_neg c28] at hf
                  exact hJ290  H locs ls hf hR hS (lv_sub hl [0, 1, 2, 3, 4, 5, 6, 7] rfl)
                · rw [if_pos c28] at hf
                  refine lv_iload_n hx hb dX3_readTwig_270 rfl (lv_at hl 3 rfl) ?_
                  refine lv_iconst (v := -1) hx hb dX3_readTwig_271 (by decide) ?_
                  refine lv_icmp_eq (tgt := 290) hx hb dX3_readTwig_272 (by decide) (fun c29 => ?_) (fun c29 => ?_)
                  · rw [if_pos c29] at hf
                    exact hJ290  H locs ls hf hR hS (lv_sub hl [0, 1, 2, 3, 4, 5, 6, 7] rfl)
                  · rw [if_neg c29] at hf
                    refine lv_iload_n hx hb dX3_readTwig_275 rfl (lv_at hl 2 rfl) ?_
                    obtain ⟨v31, g30, hf⟩ := ob hf
                    refine r_callS X kw_X3_45 (c_X3_isWhole l B D cA m11 z6 v31 g30) ⟨Nat.le_of_ble_eq_true rfl, Nat.le_of_ble_eq_true rfl⟩ hR hS hl.1 rfl rfl (Nat.le_of_ble_eq_true rfl) ⟨Nat.le_of_ble_eq_true rfl, Nat.le_of_ble_eq_true rfl⟩ dX3_readTwig_276 (fun H locs hR hS => ?_)
                    refine W.eq (g2 := F0 mt 279 ls [.int v31]) rfl ?_
                    refine lv_if_eq (tgt := 290) hx hb dX3_readTwig_279 (by decide) (fun c32 => ?_) (fun c32 => ?_)
                    · rw [if_pos c32] at hf
                      exact hJ290  H locs ls hf hR hS (lv_sub hl [0, 1, 2, 3, 4, 5, 6, 7] rfl)
                    · rw [if_neg c32] at hf
                      refine lv_iconst (v := 1) hx hb dX3_readTwig_282 (by decide) ?_
                      refine lv_istore (lv' := [(5, .int (1 : Int32)), (0, .ref (B + x0)), (1, .ref (B + x1)), (2, .int z6), (3, .int z7), (4, .int z8), (6, .int z10), (7, .int v17)]) hx hb dX3_readTwig_283 hl (by decide) rfl (fun ls hl => ?_)
                      refine lv_iconst (v := 1) hx hb dX3_readTwig_285 (by decide) ?_
                      refine lv_istore_n (lv' := [(2, .int (1 : Int32)), (5, .int (1 : Int32)), (0, .ref (B + x0)), (1, .ref (B + x1)), (3, .int z7), (4, .int z8), (6, .int z10), (7, .int v17)]) hx hb dX3_readTwig_286 rfl hl (by decide) rfl (fun ls hl => ?_)
                      refine lv_goto (tgt := 329) hx hb dX3_readTwig_287 (by decide) ?_
                      refine lv_iinc (v := (z10 + 1)) (lv' := [(6, .int (z10 + 1)), (2, .int (1 : Int32)), (5, .int (1 : Int32)), (0, .ref (B + x0)), (1, .ref (B + x1)), (3, .int z7), (4, .int z8), (7, .int v17)]) hx hb dX3_readTwig_329 hl (k := 6) rfl (congrArg (fun z => z10 + z) (by decide)) (by decide) rfl (fun ls hl => ?_)
                      refine lv_goto (tgt := 18) hx hb dX3_readTwig_332 (by decide) ?_
                      obtain rfl := Option.some.inj hf
                      exact hxlq5 _ rfl H locs ls hR hS (lv_sub hl [3, 4, 1, 5, 6, 2, 0] rfl)
              have hJ227 : ∀  (H : Heap) (locs : List Loc) (ls : Array Slot), f_X3_readTwig_J227 m11 x0 x1 z6 z7 z8 z9 z10 v17 = some q5 → Rl B D cA m11 H → va_S (fun q => B ≤ q) s.heap H locs → lv_has ls 8 [(0, .ref (B + x0)), (1, .ref (B + x1)), (2, .int z6), (3, .int z7), (4, .int z8), (5, .int z9), (6, .int z10), (7, .int v17)] → W p l e (rmm 1 0 0 24) s mt args below meth c H locs 0 0 (MQ below (mQ B D cA (some (.int rZ)) mZ) args s 0 0 (fun q => B ≤ q)) (F0 mt 227 ls []) := by
                intro  H locs ls hf hR hS hl
                unfold f_X3_readTwig_J227 at hf
                refine lv_iload_n hx hb dX3_readTwig_227 rfl (lv_at hl 3 rfl) ?_
                refine lv_iconst (v := -1) hx hb dX3_readTwig_228 (by decide) ?_
                refine lv_icmp_eq (tgt := 263) hx hb dX3_readTwig_229 (by decide) (fun c33 => ?_) (fun c33 => ?_)
                · rw [if_pos c33] at hf
                  exact hJ263  H locs ls hf hR hS (lv_sub hl [0, 1, 2, 3, 4, 5, 6, 7] rfl)
                · rw [if_neg c33] at hf
                  refine lv_iload_n hx hb dX3_readTwig_232 rfl (lv_at hl 2 rfl) ?_
                  refine lv_iconst (v := 1) hx hb dX3_readTwig_233 (by decide) ?_
                  have hJ244 : ∀  (H : Heap) (locs : List Loc) (ls : Array Slot), f_X3_readTwig_J244 m11 x0 x1 z7 z9 z10 v17 = some q5 → Rl B D cA m11 H → va_S (fun q => B ≤ q) s.heap H locs → lv_has ls 8 [(0, .ref (B + x0)), (1, .ref (B + x1)), (3, .int z7), (5, .int z9), (6, .int z10), (7, .int v17)] → W p l e (rmm 1 0 0 24) s mt args below meth c H locs 0 0 (MQ below (mQ B D cA (some (.int rZ)) mZ) args s 0 0 (fun q => B ≤ q)) (F0 mt 244 ls []) := by
                    intro  H locs ls hf hR hS hl
                    unfold f_X3_readTwig_J244 at hf
                    refine lv_iload hx hb dX3_readTwig_244 (lv_at hl 5 rfl) ?_
                    refine lv_bipush (v := 47) hx hb dX3_readTwig_246 (by decide) ?_
                    obtain ⟨t34, hjt34, hf⟩ := ob hf
                    have hJt34 : ∀ (H : Heap) (locs : List Loc) (ls : Array Slot), Rl B D cA m11 H → va_S (fun q => B ≤ q) s.heap H locs → lv_has ls 8 [(0, .ref (B + x0)), (1, .ref (B + x1)), (3, .int z7), (5, .int z9), (6, .int z10)] → W p l e (rmm 1 0 0 24) s mt args below meth c H locs 0 0 (MQ below (mQ B D cA (some (.int rZ)) mZ) args s 0 0 (fun q => B ≤ q)) (F0 mt 256 ls [.int t34]) := by
                      intro H locs ls hR hS hl
                      refine lv_istore (lv' := [(4, .int t34), (0, .ref (B + x0)), (1, .ref (B + x1)), (3, .int z7), (5, .int z9), (6, .int z10)]) hx hb dX3_readTwig_256 hl (by decide) rfl (fun ls hl => ?_)
                      refine lv_iconst (v := 0) hx hb dX3_readTwig_258 (by decide) ?_
                      refine lv_istore_n (lv' := [(2, .int (0 : Int32)), (4, .int t34), (0, .ref (B + x0)), (1, .ref (B + x1)), (3, .int z7), (5, .int z9), (6, .int z10)]) hx hb dX3_readTwig_259 rfl hl (by decide) rfl (fun ls hl => ?_)
                      refine lv_goto (tgt := 329) hx hb dX3_readTwig_260 (by decide) ?_
                      refine lv_iinc (v := (z10 + 1)) (lv' := [(6, .int (z10 + 1)), (2, .int (0 : Int32)), (4, .int t34), (0, .ref (B + x0)), (1, .ref (B + x1)), (3, .int z7), (5, .int z9)]) hx hb dX3_readTwig_329 hl (k := 6) rfl (congrArg (fun z => z10 + z) (by decide)) (by decide) rfl (fun ls hl => ?_)
                      refine lv_goto (tgt := 18) hx hb dX3_readTwig_332 (by decide) ?_
                      obtain rfl := Option.some.inj hf
                      exact hxlq5 _ rfl H locs ls hR hS (lv_sub hl [3, 4, 1, 5, 2, 6, 0] rfl)
                    have hf := hjt34
                    clear hjt34
                    refine lv_icmp_ne (tgt := 255) hx hb dX3_readTwig_248 (by decide) (fun c35 => ?_) (fun c35 => ?_)
                    · rw [if_neg c35] at hf
                      refine lv_iconst (v := 2) hx hb dX3_readTwig_255 (by decide) ?_
                      obtain rfl := Option.some.inj hf
                      exact hJt34 H locs ls hR hS (lv_sub hl [0, 1, 2, 3, 4] rfl)
                    · rw [if_pos c35] at hf
                      refine lv_iconst (v := 1) hx hb dX3_readTwig_251 (by decide) ?_
                      refine lv_goto (tgt := 256) hx hb dX3_readTwig_252 (by decide) ?_
                      obtain rfl := Option.some.inj hf
                      exact hJt34 H locs ls hR hS (lv_sub hl [0, 1, 2, 3, 4] rfl)
                  refine lv_icmp_eq (tgt := 244) hx hb dX3_readTwig_234 (by decide) (fun c36 => ?_) (fun c36 => ?_)
                  · rw [if_pos c36] at hf
                    exact hJ244  H locs ls hf hR hS (lv_sub hl [0, 1, 3, 5, 6, 7] rfl)
                  · rw [if_neg c36] at hf
                    refine lv_iload_n hx hb dX3_readTwig_237 rfl (lv_at hl 2 rfl) ?_
                    obtain ⟨v38, g37, hf⟩ := ob hf
                    refine r_callS X kw_X3_45 (c_X3_isWhole l B D cA m11 z6 v38 g37) ⟨Nat.le_of_ble_eq_true rfl, Nat.le_of_ble_eq_true rfl⟩ hR hS hl.1 rfl rfl (Nat.le_of_ble_eq_true rfl) ⟨Nat.le_of_ble_eq_true rfl, Nat.le_of_ble_eq_true rfl⟩ dX3_readTwig_238 (fun H locs hR hS => ?_)
                    refine W.eq (g2 := F0 mt 241 ls [.int v38]) rfl ?_
                    refine lv_if_eq (tgt := 263) hx hb dX3_readTwig_241 (by decide) (fun c39 => ?_) (fun c39 => ?_)
                    · rw [if_pos c39] at hf
                      exact hJ263  H locs ls hf hR hS (lv_sub hl [0, 1, 2, 3, 4, 5, 6, 7] rfl)
                    · rw [if_neg c39] at hf
                      exact hJ244  H locs ls hf hR hS (lv_sub hl [0, 1, 3, 5, 6, 7] rfl)
              refine lv_icmp_eq (tgt := 227) hx hb dX3_readTwig_217 (by decide) (fun c40 => ?_) (fun c40 => ?_)
              · rw [if_pos c40] at hf
                exact hJ227  H locs ls hf hR hS (lv_sub hl [0, 1, 2, 3, 4, 5, 6, 7] rfl)
              · rw [if_neg c40] at hf
                refine lv_iload hx hb dX3_readTwig_220 (lv_at hl 7 rfl) ?_
                refine lv_bipush (v := 126) hx hb dX3_readTwig_222 (by decide) ?_
                refine lv_icmp_ne (tgt := 263) hx hb dX3_readTwig_224 (by decide) (fun c41 => ?_) (fun c41 => ?_)
                · rw [if_neg c41] at hf
                  exact hJ263  H locs ls hf hR hS (lv_sub hl [0, 1, 2, 3, 4, 5, 6, 7] rfl)
                · rw [if_pos c41] at hf
                  exact hJ227  H locs ls hf hR hS (lv_sub hl [0, 1, 2, 3, 4, 5, 6, 7] rfl)
            refine lv_icmp_ne (tgt := 213) hx hb dX3_readTwig_188 (by decide) (fun c42 => ?_) (fun c42 => ?_)
            · rw [if_neg c42] at hf
              exact hJ213  H locs ls hf hR hS (lv_sub hl [0, 1, 2, 3, 4, 5, 6, 7] rfl)
            · rw [if_pos c42] at hf
              refine lv_iload_n hx hb dX3_readTwig_191 rfl (lv_at hl 2 rfl) ?_
              refine lv_iconst (v := 3) hx hb dX3_readTwig_192 (by decide) ?_
              have hJ201 : ∀  (H : Heap) (locs : List Loc) (ls : Array Slot), f_X3_readTwig_J201 m11 x0 x1 z8 z9 z10 = some q5 → Rl B D cA m11 H → va_S (fun q => B ≤ q) s.heap H locs → lv_has ls 8 [(0, .ref (B + x0)), (1, .ref (B + x1)), (4, .int z8), (5, .int z9), (6, .int z10)] → W p l e (rmm 1 0 0 24) s mt args below meth c H locs 0 0 (MQ below (mQ B D cA (some (.int rZ)) mZ) args s 0 0 (fun q => B ≤ q)) (F0 mt 201 ls []) := by
                intro  H locs ls hf hR hS hl
                unfold f_X3_readTwig_J201 at hf
                refine lv_aload_n hx hb dX3_readTwig_201 rfl (lv_at hl 1 rfl) ?_
                obtain ⟨v43, g44, hf⟩ := ob hf
                refine gI_X3_48 X hR g44 dX3_readTwig_202 ?_
                refine lv_iconst (v := 1) hx hb dX3_readTwig_205 (by decide) ?_
                refine lv_isub hx hb dX3_readTwig_206 ?_
                refine lv_istore_n (lv' := [(3, .int (v43 - (1 : Int32))), (0, .ref (B + x0)), (1, .ref (B + x1)), (4, .int z8), (5, .int z9), (6, .int z10)]) hx hb dX3_readTwig_207 rfl hl (by decide) rfl (fun ls hl => ?_)
                refine lv_iconst (v := 1) hx hb dX3_readTwig_208 (by decide) ?_
                refine lv_istore_n (lv' := [(2, .int (1 : Int32)), (3, .int (v43 - (1 : Int32))), (0, .ref (B + x0)), (1, .ref (B + x1)), (4, .int z8), (5, .int z9), (6, .int z10)]) hx hb dX3_readTwig_209 rfl hl (by decide) rfl (fun ls hl => ?_)
                refine lv_goto (tgt := 329) hx hb dX3_readTwig_210 (by decide) ?_
                refine lv_iinc (v := (z10 + 1)) (lv' := [(6, .int (z10 + 1)), (2, .int (1 : Int32)), (3, .int (v43 - (1 : Int32))), (0, .ref (B + x0)), (1, .ref (B + x1)), (4, .int z8), (5, .int z9)]) hx hb dX3_readTwig_329 hl (k := 6) rfl (congrArg (fun z => z10 + z) (by decide)) (by decide) rfl (fun ls hl => ?_)
                refine lv_goto (tgt := 18) hx hb dX3_readTwig_332 (by decide) ?_
                obtain rfl := Option.some.inj hf
                exact hxlq5 _ rfl H locs ls hR hS (lv_sub hl [3, 4, 1, 2, 5, 6, 0] rfl)
              refine lv_icmp_eq (tgt := 201) hx hb dX3_readTwig_193 (by decide) (fun c45 => ?_) (fun c45 => ?_)
              · rw [if_pos c45] at hf
                exact hJ201  H locs ls hf hR hS (lv_sub hl [0, 1, 4, 5, 6] rfl)
              · rw [if_neg c45] at hf
                refine lv_iload_n hx hb dX3_readTwig_196 rfl (lv_at hl 2 rfl) ?_
                refine lv_iconst (v := 4) hx hb dX3_readTwig_197 (by decide) ?_
                refine lv_icmp_ne (tgt := 213) hx hb dX3_readTwig_198 (by decide) (fun c46 => ?_) (fun c46 => ?_)
                · rw [if_neg c46] at hf
                  exact hJ213  H locs ls hf hR hS (lv_sub hl [0, 1, 2, 3, 4, 5, 6, 7] rfl)
                · rw [if_pos c46] at hf
                  exact hJ201  H locs ls hf hR hS (lv_sub hl [0, 1, 4, 5, 6] rfl)
          refine lv_icmp_ne (tgt := 184) hx hb dX3_readTwig_152 (by decide) (fun c47 => ?_) (fun c47 => ?_)
          · rw [if_neg c47] at hf
            exact hJ184  H locs ls hf hR hS (lv_sub hl [0, 1, 2, 3, 4, 5, 6, 7] rfl)
          · rw [if_pos c47] at hf
            refine lv_iload hx hb dX3_readTwig_155 (lv_at hl 7 rfl) ?_
            obtain ⟨v49, g48, hf⟩ := ob hf
            refine r_callS X kw_X3_39 (c_X3_isDigit l B D cA m11 v17 v49 g48) ⟨Nat.le_of_ble_eq_true rfl, Nat.le_of_ble_eq_true rfl⟩ hR hS hl.1 rfl rfl (Nat.le_of_ble_eq_true rfl) ⟨Nat.le_of_ble_eq_true rfl, Nat.le_of_ble_eq_true rfl⟩ dX3_readTwig_157 (fun H locs hR hS => ?_)
            refine W.eq (g2 := F0 mt 160 ls [.int v49]) rfl ?_
            refine lv_if_eq (tgt := 184) hx hb dX3_readTwig_160 (by decide) (fun c50 => ?_) (fun c50 => ?_)
            · rw [if_pos c50] at hf
              exact hJ184  H locs ls hf hR hS (lv_sub hl [0, 1, 2, 3, 4, 5, 6, 7] rfl)
            · rw [if_neg c50] at hf
              refine lv_aload_n hx hb dX3_readTwig_163 rfl (lv_at hl 1 rfl) ?_
              obtain ⟨v51, g52, hf⟩ := ob hf
              refine gR_X3_57 X hR g52 dX3_readTwig_164 ?_
              refine lv_aload_n hx hb dX3_readTwig_167 rfl (lv_at hl 1 rfl) ?_
              obtain ⟨v53, g54, hf⟩ := ob hf
              refine gI_X3_48 X hR g54 dX3_readTwig_168 ?_
              refine lv_iconst (v := 1) hx hb dX3_readTwig_171 (by decide) ?_
              refine lv_isub hx hb dX3_readTwig_172 ?_
              refine lv_iload hx hb dX3_readTwig_173 (lv_at hl 7 rfl) ?_
              refine lv_bipush (v := 48) hx hb dX3_readTwig_175 (by decide) ?_
              refine lv_isub hx hb dX3_readTwig_177 ?_
              obtain ⟨m55, g56, hf⟩ := ob hf
              refine r_sI X hR hS g56 dX3_readTwig_178 (fun H locs hR hS => ?_)
              refine lv_iconst (v := 4) hx hb dX3_readTwig_179 (by decide) ?_
              refine lv_istore_n (lv' := [(2, .int (4 : Int32)), (0, .ref (B + x0)), (1, .ref (B + x1)), (3, .int z7), (4, .int z8), (5, .int z9), (6, .int z10), (7, .int v17)]) hx hb dX3_readTwig_180 rfl hl (by decide) rfl (fun ls hl => ?_)
              refine lv_goto (tgt := 329) hx hb dX3_readTwig_181 (by decide) ?_
              refine lv_iinc (v := (z10 + 1)) (lv' := [(6, .int (z10 + 1)), (2, .int (4 : Int32)), (0, .ref (B + x0)), (1, .ref (B + x1)), (3, .int z7), (4, .int z8), (5, .int z9), (7, .int v17)]) hx hb dX3_readTwig_329 hl (k := 6) rfl (congrArg (fun z => z10 + z) (by decide)) (by decide) rfl (fun ls hl => ?_)
              refine lv_goto (tgt := 18) hx hb dX3_readTwig_332 (by decide) ?_
              obtain rfl := Option.some.inj hf
              exact hxlq5 _ rfl H locs ls hR hS (lv_sub hl [2, 3, 1, 4, 5, 6, 0] rfl)
        refine lv_icmp_ne (tgt := 150) hx hb dX3_readTwig_108 (by decide) (fun c57 => ?_) (fun c57 => ?_)
        · rw [if_neg c57] at hf
          exact hJ150  H locs ls hf hR hS (lv_sub hl [0, 1, 2, 3, 4, 5, 6, 7] rfl)
        · rw [if_pos c57] at hf
          refine lv_iload hx hb dX3_readTwig_111 (lv_at hl 7 rfl) ?_
          refine lv_bipush (v := 61) hx hb dX3_readTwig_113 (by decide) ?_
          have hJ132 : ∀  (H : Heap) (locs : List Loc) (ls : Array Slot), f_X3_readTwig_J132 m11 x0 x1 z7 z8 z9 z10 v17 = some q5 → Rl B D cA m11 H → va_S (fun q => B ≤ q) s.heap H locs → lv_has ls 8 [(0, .ref (B + x0)), (1, .ref (B + x1)), (3, .int z7), (4, .int z8), (5, .int z9), (6, .int z10), (7, .int v17)] → W p l e (rmm 1 0 0 24) s mt args below meth c H locs 0 0 (MQ below (mQ B D cA (some (.int rZ)) mZ) args s 0 0 (fun q => B ≤ q)) (F0 mt 132 ls []) := by
            intro  H locs ls hf hR hS hl
            unfold f_X3_readTwig_J132 at hf
            refine lv_aload_n hx hb dX3_readTwig_132 rfl (lv_at hl 1 rfl) ?_
            obtain ⟨v58, g59, hf⟩ := ob hf
            refine gR_X3_54 X hR g59 dX3_readTwig_133 ?_
            refine lv_aload_n hx hb dX3_readTwig_136 rfl (lv_at hl 1 rfl) ?_
            obtain ⟨v60, g61, hf⟩ := ob hf
            refine gI_X3_48 X hR g61 dX3_readTwig_137 ?_
            refine lv_iconst (v := 1) hx hb dX3_readTwig_140 (by decide) ?_
            refine lv_isub hx hb dX3_readTwig_141 ?_
            refine lv_iload hx hb dX3_readTwig_142 (lv_at hl 6 rfl) ?_
            obtain ⟨m62, g63, hf⟩ := ob hf
            refine r_sI X hR hS g63 dX3_readTwig_144 (fun H locs hR hS => ?_)
            refine lv_iconst (v := 2) hx hb dX3_readTwig_145 (by decide) ?_
            refine lv_istore_n (lv' := [(2, .int (2 : Int32)), (0, .ref (B + x0)), (1, .ref (B + x1)), (3, .int z7), (4, .int z8), (5, .int z9), (6, .int z10), (7, .int v17)]) hx hb dX3_readTwig_146 rfl hl (by decide) rfl (fun ls hl => ?_)
            refine lv_goto (tgt := 329) hx hb dX3_readTwig_147 (by decide) ?_
            refine lv_iinc (v := (z10 + 1)) (lv' := [(6, .int (z10 + 1)), (2, .int (2 : Int32)), (0, .ref (B + x0)), (1, .ref (B + x1)), (3, .int z7), (4, .int z8), (5, .int z9), (7, .int v17)]) hx hb dX3_readTwig_329 hl (k := 6) rfl (congrArg (fun z => z10 + z) (by decide)) (by decide) rfl (fun ls hl => ?_)
            refine lv_goto (tgt := 18) hx hb dX3_readTwig_332 (by decide) ?_
            obtain rfl := Option.some.inj hf
            exact hxlq5 _ rfl H locs ls hR hS (lv_sub hl [2, 3, 1, 4, 5, 6, 0] rfl)
          refine lv_icmp_eq (tgt := 132) hx hb dX3_readTwig_115 (by decide) (fun c64 => ?_) (fun c64 => ?_)
          · rw [if_pos c64] at hf
            exact hJ132  H locs ls hf hR hS (lv_sub hl [0, 1, 3, 4, 5, 6, 7] rfl)
          · rw [if_neg c64] at hf
            refine lv_iload hx hb dX3_readTwig_118 (lv_at hl 7 rfl) ?_
            refine lv_bipush (v := 60) hx hb dX3_readTwig_120 (by decide) ?_
            refine lv_icmp_eq (tgt := 132) hx hb dX3_readTwig_122 (by decide) (fun c65 => ?_) (fun c65 => ?_)
            · rw [if_pos c65] at hf
              exact hJ132  H locs ls hf hR hS (lv_sub hl [0, 1, 3, 4, 5, 6, 7] rfl)
            · rw [if_neg c65] at hf
              refine lv_iload hx hb dX3_readTwig_125 (lv_at hl 7 rfl) ?_
              refine lv_bipush (v := 62) hx hb dX3_readTwig_127 (by decide) ?_
              refine lv_icmp_ne (tgt := 150) hx hb dX3_readTwig_129 (by decide) (fun c66 => ?_) (fun c66 => ?_)
              · rw [if_neg c66] at hf
                exact hJ150  H locs ls hf hR hS (lv_sub hl [0, 1, 2, 3, 4, 5, 6, 7] rfl)
              · rw [if_pos c66] at hf
                exact hJ132  H locs ls hf hR hS (lv_sub hl [0, 1, 3, 4, 5, 6, 7] rfl)
      refine lv_if_ne (tgt := 106) hx hb dX3_readTwig_37 (by decide) (fun c67 => ?_) (fun c67 => ?_)
      · rw [if_neg c67] at hf
        exact hJ106  H locs ls hf hR hS (lv_sub hl [1, 2, 3, 4, 5, 6, 7, 0] rfl)
      · rw [if_pos c67] at hf
        refine lv_iload hx hb dX3_readTwig_40 (lv_at hl 0 rfl) ?_
        obtain ⟨v69, g68, hf⟩ := ob hf
        refine r_callS X kw_X3_27 (c_X3_isLetter l B D cA m11 v17 v69 g68) ⟨Nat.le_of_ble_eq_true rfl, Nat.le_of_ble_eq_true rfl⟩ hR hS hl.1 rfl rfl (Nat.le_of_ble_eq_true rfl) ⟨Nat.le_of_ble_eq_true rfl, Nat.le_of_ble_eq_true rfl⟩ dX3_readTwig_42 (fun H locs hR hS => ?_)
        refine W.eq (g2 := F0 mt 45 ls [.int v69]) rfl ?_
        have hJ55 : ∀  (H : Heap) (locs : List Loc) (ls : Array Slot), f_X3_readTwig_J55 m11 x0 x1 z7 z8 z9 z10 v17 = some q5 → Rl B D cA m11 H → va_S (fun q => B ≤ q) s.heap H locs → lv_has ls 8 [(0, .ref (B + x0)), (1, .ref (B + x1)), (3, .int z7), (4, .int z8), (5, .int z9), (6, .int z10), (7, .int v17)] → W p l e (rmm 1 0 0 24) s mt args below meth c H locs 0 0 (MQ below (mQ B D cA (some (.int rZ)) mZ) args s 0 0 (fun q => B ≤ q)) (F0 mt 55 ls []) := by
          intro  H locs ls hf hR hS hl
          unfold f_X3_readTwig_J55 at hf
          refine lv_aload_n hx hb dX3_readTwig_55 rfl (lv_at hl 1 rfl) ?_
          obtain ⟨v70, g71, hf⟩ := ob hf
          refine gI_X3_48 X hR g71 dX3_readTwig_56 ?_
          refine lv_bipush (v := 6) hx hb dX3_readTwig_59 (by decide) ?_
          refine lv_icmp_lt (tgt := 72) hx hb dX3_readTwig_61 (by decide) (fun c72 => ?_) (fun c72 => ?_)
          · rw [if_pos c72] at hf
            refine lv_aload_n hx hb dX3_readTwig_72 rfl (lv_at hl 1 rfl) ?_
            refine lv_iload hx hb dX3_readTwig_73 (lv_at hl 6 rfl) ?_
            refine lv_bipush (v := 42) hx hb dX3_readTwig_75 (by decide) ?_
            obtain ⟨t73, hjt73, hf⟩ := ob hf
            have hJt73 : ∀ (H : Heap) (locs : List Loc) (ls : Array Slot), Rl B D cA m11 H → va_S (fun q => B ≤ q) s.heap H locs → lv_has ls 8 [(0, .ref (B + x0)), (1, .ref (B + x1)), (3, .int z7), (4, .int z8), (5, .int z9), (6, .int z10)] → W p l e (rmm 1 0 0 24) s mt args below meth c H locs 0 0 (MQ below (mQ B D cA (some (.int rZ)) mZ) args s 0 0 (fun q => B ≤ q)) (F0 mt 90 ls [.int t73, .ref (B + x1)]) := by
              intro H locs ls hR hS hl
              refine lv_iload hx hb dX3_readTwig_90 (lv_at hl 3 rfl) ?_
              refine lv_iload hx hb dX3_readTwig_92 (lv_at hl 4 rfl) ?_
              refine lv_iload_n hx hb dX3_readTwig_94 rfl (lv_at hl 2 rfl) ?_
              obtain ⟨o75, h76, hf⟩ := obO hf
              obtain ⟨m78, g77, hf⟩ := ob hf
              refine r_callV X kw_X3_51 (ci := 5) rfl (c_X5_append l B D cA m11 x1 t73 z8 z9 z7 m78 g77) ⟨Nat.le_of_ble_eq_true rfl, Nat.le_of_ble_eq_true rfl⟩ h76 hR hS hl.1 rfl rfl (Nat.le_of_ble_eq_true rfl) ⟨Nat.le_of_ble_eq_true rfl, Nat.le_of_ble_eq_true rfl⟩ dX3_readTwig_95 (fun H locs hR hS => ?_)
              refine W.eq (g2 := F0 mt 98 ls []) rfl ?_
              refine lv_iconst (v := 0) hx hb dX3_readTwig_98 (by decide) ?_
              refine lv_istore (lv' := [(5, .int (0 : Int32)), (0, .ref (B + x0)), (1, .ref (B + x1)), (3, .int z7), (4, .int z8), (6, .int z10)]) hx hb dX3_readTwig_99 hl (by decide) rfl (fun ls hl => ?_)
              refine lv_iconst (v := 3) hx hb dX3_readTwig_101 (by decide) ?_
              refine lv_istore_n (lv' := [(2, .int (3 : Int32)), (5, .int (0 : Int32)), (0, .ref (B + x0)), (1, .ref (B + x1)), (3, .int z7), (4, .int z8), (6, .int z10)]) hx hb dX3_readTwig_102 rfl hl (by decide) rfl (fun ls hl => ?_)
              refine lv_goto (tgt := 329) hx hb dX3_readTwig_103 (by decide) ?_
              refine lv_iinc (v := (z10 + 1)) (lv' := [(6, .int (z10 + 1)), (2, .int (3 : Int32)), (5, .int (0 : Int32)), (0, .ref (B + x0)), (1, .ref (B + x1)), (3, .int z7), (4, .int z8)]) hx hb dX3_readTwig_329 hl (k := 6) rfl (congrArg (fun z => z10 + z) (by decide)) (by decide) rfl (fun ls hl => ?_)
              refine lv_goto (tgt := 18) hx hb dX3_readTwig_332 (by decide) ?_
              obtain rfl := Option.some.inj hf
              exact hxlq5 _ rfl H locs ls hR hS (lv_sub hl [3, 4, 1, 5, 6, 2, 0] rfl)
            have hf := hjt73
            clear hjt73
            refine lv_icmp_ne (tgt := 85) hx hb dX3_readTwig_77 (by decide) (fun c74 => ?_) (fun c74 => ?_)
            · rw [if_neg c74] at hf
              refine lv_iload hx hb dX3_readTwig_85 (lv_at hl 6 rfl) ?_
              refine lv_bipush (v := 97) hx hb dX3_readTwig_87 (by decide) ?_
              refine lv_isub hx hb dX3_readTwig_89 ?_
              obtain rfl := Option.some.inj hf
              exact hJt73 H locs ls hR hS (lv_sub hl [0, 1, 2, 3, 4, 5] rfl)
            · rw [if_pos c74] at hf
              refine lv_bipush (v := 6) hx hb dX3_readTwig_80 (by decide) ?_
              refine lv_goto (tgt := 90) hx hb dX3_readTwig_82 (by decide) ?_
              obtain rfl := Option.some.inj hf
              exact hJt73 H locs ls hR hS (lv_sub hl [0, 1, 2, 3, 4, 5] rfl)
          · rw [if_neg c72] at hf
            obtain rfl := Option.some.inj hf
            exact hxrq5 _ rfl H locs ls hR hS (lv_sub hl [0, 5] rfl)
        refine lv_if_ne (tgt := 55) hx hb dX3_readTwig_45 (by decide) (fun c79 => ?_) (fun c79 => ?_)
        · rw [if_neg c79] at hf
          exact hJ55  H locs ls hf hR hS (lv_sub hl [1, 2, 4, 5, 6, 7, 0] rfl)
        · rw [if_pos c79] at hf
          refine lv_iload hx hb dX3_readTwig_48 (lv_at hl 0 rfl) ?_
          refine lv_bipush (v := 42) hx hb dX3_readTwig_50 (by decide) ?_
          refine lv_icmp_ne (tgt := 106) hx hb dX3_readTwig_52 (by decide) (fun c80 => ?_) (fun c80 => ?_)
          · rw [if_neg c80] at hf
            exact hJ106  H locs ls hf hR hS (lv_sub hl [1, 2, 3, 4, 5, 6, 7, 0] rfl)
          · rw [if_pos c80] at hf
            exact hJ55  H locs ls hf hR hS (lv_sub hl [1, 2, 4, 5, 6, 7, 0] rfl)
  · clear hwe4
    revert hf
    cases e4 with
    | inl a0e4 =>
      intro hf H locs ls hR hS hl
      refine lv_iload_n hx hb dX3_readTwig_335 rfl (lv_at hl 1 rfl) ?_
      obtain ⟨v82, g81, hf⟩ := ob hf
      refine r_callS X kw_X3_45 (c_X3_isWhole l B D cA a0e4.2.2 a0e4.1 v82 g81) ⟨Nat.le_of_ble_eq_true rfl, Nat.le_of_ble_eq_true rfl⟩ hR hS hl.1 rfl rfl (Nat.le_of_ble_eq_true rfl) ⟨Nat.le_of_ble_eq_true rfl, Nat.le_of_ble_eq_true rfl⟩ dX3_readTwig_336 (fun H locs hR hS => ?_)
      refine W.eq (g2 := F0 mt 339 ls [.int v82]) rfl ?_
      refine lv_if_eq (tgt := 351) hx hb dX3_readTwig_339 (by decide) (fun c83 => ?_) (fun c83 => ?_)
      · rw [if_pos c83] at hf
        refine lv_aload_n hx hb dX3_readTwig_351 rfl (lv_at hl 0 rfl) ?_
        refine lv_aload_n hx hb dX3_readTwig_352 rfl (lv_at hl 0 rfl) ?_
        obtain ⟨v84, g85, hf⟩ := ob hf
        refine gI_X3_15 X hR g85 dX3_readTwig_353 ?_
        refine lv_iconst (v := 1) hx hb dX3_readTwig_356 (by decide) ?_
        obtain ⟨o86, h87, hf⟩ := obO hf
        obtain ⟨t89, g88, hf⟩ := ob hf
        refine r_callV X kw_X3_31 (ci := 3) rfl (c_X3_fault l B D cA a0e4.2.2 x0 v84 (1 : Int32) t89.1 t89.2 g88) ⟨Nat.le_of_ble_eq_true rfl, Nat.le_of_ble_eq_true rfl⟩ h87 hR hS hl.1 rfl rfl (Nat.le_of_ble_eq_true rfl) ⟨Nat.le_of_ble_eq_true rfl, Nat.le_of_ble_eq_true rfl⟩ dX3_readTwig_357 (fun H locs hR hS => ?_)
        refine W.eq (g2 := F0 mt 360 ls [.int t89.1]) rfl ?_
        obtain ⟨rfl, rfl⟩ := Prod.mk.inj (Option.some.inj hf)
        exact r_iret X hr hlocks hR hS rfl dX3_readTwig_360
      · rw [if_neg c83] at hf
        refine lv_iload_n hx hb dX3_readTwig_342 rfl (lv_at hl 2 rfl) ?_
        refine lv_iconst (v := -1) hx hb dX3_readTwig_343 (by decide) ?_
        refine lv_icmp_ne (tgt := 351) hx hb dX3_readTwig_344 (by decide) (fun c90 => ?_) (fun c90 => ?_)
        · rw [if_neg c90] at hf
          refine lv_aload_n hx hb dX3_readTwig_351 rfl (lv_at hl 0 rfl) ?_
          refine lv_aload_n hx hb dX3_readTwig_352 rfl (lv_at hl 0 rfl) ?_
          obtain ⟨v91, g92, hf⟩ := ob hf
          refine gI_X3_15 X hR g92 dX3_readTwig_353 ?_
          refine lv_iconst (v := 1) hx hb dX3_readTwig_356 (by decide) ?_
          obtain ⟨o93, h94, hf⟩ := obO hf
          obtain ⟨t96, g95, hf⟩ := ob hf
          refine r_callV X kw_X3_31 (ci := 3) rfl (c_X3_fault l B D cA a0e4.2.2 x0 v91 (1 : Int32) t96.1 t96.2 g95) ⟨Nat.le_of_ble_eq_true rfl, Nat.le_of_ble_eq_true rfl⟩ h94 hR hS hl.1 rfl rfl (Nat.le_of_ble_eq_true rfl) ⟨Nat.le_of_ble_eq_true rfl, Nat.le_of_ble_eq_true rfl⟩ dX3_readTwig_357 (fun H locs hR hS => ?_)
          refine W.eq (g2 := F0 mt 360 ls [.int t96.1]) rfl ?_
          obtain ⟨rfl, rfl⟩ := Prod.mk.inj (Option.some.inj hf)
          exact r_iret X hr hlocks hR hS rfl dX3_readTwig_360
        · rw [if_pos c90] at hf
          refine lv_iconst (v := -1) hx hb dX3_readTwig_347 (by decide) ?_
          refine lv_goto (tgt := 360) hx hb dX3_readTwig_348 (by decide) ?_
          obtain ⟨rfl, rfl⟩ := Prod.mk.inj (Option.some.inj hf)
          exact r_iret X hr hlocks hR hS rfl dX3_readTwig_360
    | inr b0e4 =>
      cases b0e4 with
      | inl a1e4 =>
        intro hf H locs ls hR hS hl
        refine lv_aload_n hx hb dX3_readTwig_64 rfl (lv_at hl 0 rfl) ?_
        refine lv_iload hx hb dX3_readTwig_65 (lv_at hl 1 rfl) ?_
        refine lv_iconst (v := 2) hx hb dX3_readTwig_67 (by decide) ?_
        obtain ⟨o97, h98, hf⟩ := obO hf
        obtain ⟨t100, g99, hf⟩ := ob hf
        refine r_callV X kw_X3_31 (ci := 3) rfl (c_X3_fault l B D cA a1e4.2 x0 a1e4.1 (2 : Int32) t100.1 t100.2 g99) ⟨Nat.le_of_ble_eq_true rfl, Nat.le_of_ble_eq_true rfl⟩ h98 hR hS hl.1 rfl rfl (Nat.le_of_ble_eq_true rfl) ⟨Nat.le_of_ble_eq_true rfl, Nat.le_of_ble_eq_true rfl⟩ dX3_readTwig_68 (fun H locs hR hS => ?_)
        refine W.eq (g2 := F0 mt 71 ls [.int t100.1]) rfl ?_
        obtain ⟨rfl, rfl⟩ := Prod.mk.inj (Option.some.inj hf)
        exact r_iret X hr hlocks hR hS rfl dX3_readTwig_71
      | inr b1e4 =>
        intro hf H locs ls hR hS hl
        refine lv_aload_n hx hb dX3_readTwig_321 rfl (lv_at hl 0 rfl) ?_
        refine lv_iload hx hb dX3_readTwig_322 (lv_at hl 1 rfl) ?_
        refine lv_iconst (v := 1) hx hb dX3_readTwig_324 (by decide) ?_
        obtain ⟨o101, h102, hf⟩ := obO hf
        obtain ⟨t104, g103, hf⟩ := ob hf
        refine r_callV X kw_X3_31 (ci := 3) rfl (c_X3_fault l B D cA b1e4.2 x0 b1e4.1 (1 : Int32) t104.1 t104.2 g103) ⟨Nat.le_of_ble_eq_true rfl, Nat.le_of_ble_eq_true rfl⟩ h102 hR hS hl.1 rfl rfl (Nat.le_of_ble_eq_true rfl) ⟨Nat.le_of_ble_eq_true rfl, Nat.le_of_ble_eq_true rfl⟩ dX3_readTwig_325 (fun H locs hR hS => ?_)
        refine W.eq (g2 := F0 mt 328 ls [.int t104.1]) rfl ?_
        obtain ⟨rfl, rfl⟩ := Prod.mk.inj (Option.some.inj hf)
        exact r_iret X hr hlocks hR hS rfl dX3_readTwig_328
/-! ===== TwigMatches$Tree.has(I)Z ===== -/
theorem dX4_has_0 : decode cX4_has 0 = .ok (.iload_n 1, 1) := by decide +kernel
theorem dX4_has_1 : decode cX4_has 1 = .ok (.ifCond .lt 15, 3) := by decide +kernel
theorem dX4_has_4 : decode cX4_has 4 = .ok (.iload_n 1, 1) := by decide +kernel
theorem dX4_has_5 : decode cX4_has 5 = .ok (.aload_n 0, 1) := by decide +kernel
theorem dX4_has_6 : decode cX4_has 6 = .ok (.getfield 9, 3) := by decide +kernel
theorem dX4_has_9 : decode cX4_has 9 = .ok (.if_icmp .ge 7, 3) := by decide +kernel
theorem dX4_has_12 : decode cX4_has 12 = .ok (.iconst 1, 1) := by decide +kernel
theorem dX4_has_13 : decode cX4_has 13 = .ok (.goto 4, 3) := by decide +kernel
theorem dX4_has_16 : decode cX4_has 16 = .ok (.iconst 0, 1) := by decide +kernel
theorem dX4_has_17 : decode cX4_has 17 = .ok (.ireturn, 1) := by decide +kernel
set_option maxHeartbeats 4000000 in
set_option maxRecDepth 100000 in
theorem c_X4_has (l : Launch) (B : Nat) (D : va_G) (cA : Nat → ClassId) (m : Mm) (x0 : Nat) (x1 : Int32) (rZ : Int32) (hf : f_X4_has m x0 x1 = some rZ) : Mt l B D cA yX4_has cX4_has 2 (some .boolean) 0 0 0 0 [.ref (B + x0), .int x1] m (some (.int rZ)) m := by
  refine r_start (by decide) (Nat.le_of_ble_eq_true rfl) ?_
  intro p e s mt args below meth c ls H locs X hr hlocks hnm hR hl hS
  have hx := X.1
  have hb := X.2.1
  have hl : lv_has ls 2 [(0, .ref (B + x0)), (1, .int x1)] := hl
  unfold f_X4_has at hf
  refine lv_iload_n hx hb dX4_has_0 rfl (lv_at hl 1 rfl) ?_
  refine lv_if_lt (tgt := 16) hx hb dX4_has_1 (by decide) (fun c1 => ?_) (fun c1 => ?_)
  · rw [if_pos c1] at hf
    refine lv_iconst (v := 0) hx hb dX4_has_16 (by decide) ?_
    obtain rfl := Option.some.inj hf
    exact r_iret X hr hlocks hR hS rfl dX4_has_17
  · rw [if_neg c1] at hf
    refine lv_iload_n hx hb dX4_has_4 rfl (lv_at hl 1 rfl) ?_
    refine lv_aload_n hx hb dX4_has_5 rfl (lv_at hl 0 rfl) ?_
    obtain ⟨v2, g3, hf⟩ := ob hf
    refine gI_X4_9 X hR g3 dX4_has_6 ?_
    refine lv_icmp_ge (tgt := 16) hx hb dX4_has_9 (by decide) (fun c4 => ?_) (fun c4 => ?_)
    · rw [if_pos c4] at hf
      refine lv_iconst (v := 0) hx hb dX4_has_16 (by decide) ?_
      obtain rfl := Option.some.inj hf
      exact r_iret X hr hlocks hR hS rfl dX4_has_17
    · rw [if_neg c4] at hf
      refine lv_iconst (v := 1) hx hb dX4_has_12 (by decide) ?_
      refine lv_goto (tgt := 17) hx hb dX4_has_13 (by decide) ?_
      obtain rfl := Option.some.inj hf
      exact r_iret X hr hlocks hR hS rfl dX4_has_17
/-! ===== TwigMatches$Tree.link()V ===== -/
theorem dX4_link_0 : decode cX4_link 0 = .ok (.iconst 0, 1) := by decide +kernel
theorem dX4_link_1 : decode cX4_link 1 = .ok (.istore_n 1, 1) := by decide +kernel
theorem dX4_link_2 : decode cX4_link 2 = .ok (.iload_n 1, 1) := by decide +kernel
theorem dX4_link_3 : decode cX4_link 3 = .ok (.aload_n 0, 1) := by decide +kernel
theorem dX4_link_4 : decode cX4_link 4 = .ok (.getfield 9, 3) := by decide +kernel
theorem dX4_link_7 : decode cX4_link 7 = .ok (.if_icmp .ge 52, 3) := by decide +kernel
theorem dX4_link_10 : decode cX4_link 10 = .ok (.iload_n 1, 1) := by decide +kernel
theorem dX4_link_11 : decode cX4_link 11 = .ok (.iconst 1, 1) := by decide +kernel
theorem dX4_link_12 : decode cX4_link 12 = .ok (.isub, 1) := by decide +kernel
theorem dX4_link_13 : decode cX4_link 13 = .ok (.istore_n 2, 1) := by decide +kernel
theorem dX4_link_14 : decode cX4_link 14 = .ok (.iload_n 2, 1) := by decide +kernel
theorem dX4_link_15 : decode cX4_link 15 = .ok (.ifCond .lt 24, 3) := by decide +kernel
theorem dX4_link_18 : decode cX4_link 18 = .ok (.aload_n 0, 1) := by decide +kernel
theorem dX4_link_19 : decode cX4_link 19 = .ok (.getfield 22, 3) := by decide +kernel
theorem dX4_link_22 : decode cX4_link 22 = .ok (.iload_n 2, 1) := by decide +kernel
theorem dX4_link_23 : decode cX4_link 23 = .ok (.iaload, 1) := by decide +kernel
theorem dX4_link_24 : decode cX4_link 24 = .ok (.aload_n 0, 1) := by decide +kernel
theorem dX4_link_25 : decode cX4_link 25 = .ok (.getfield 22, 3) := by decide +kernel
theorem dX4_link_28 : decode cX4_link 28 = .ok (.iload_n 1, 1) := by decide +kernel
theorem dX4_link_29 : decode cX4_link 29 = .ok (.iaload, 1) := by decide +kernel
theorem dX4_link_30 : decode cX4_link 30 = .ok (.if_icmp .lt 9, 3) := by decide +kernel
theorem dX4_link_33 : decode cX4_link 33 = .ok (.iinc 2 (-1), 3) := by decide +kernel
theorem dX4_link_36 : decode cX4_link 36 = .ok (.goto (-22), 3) := by decide +kernel
theorem dX4_link_39 : decode cX4_link 39 = .ok (.aload_n 0, 1) := by decide +kernel
theorem dX4_link_40 : decode cX4_link 40 = .ok (.getfield 25, 3) := by decide +kernel
theorem dX4_link_43 : decode cX4_link 43 = .ok (.iload_n 1, 1) := by decide +kernel
theorem dX4_link_44 : decode cX4_link 44 = .ok (.iload_n 2, 1) := by decide +kernel
theorem dX4_link_45 : decode cX4_link 45 = .ok (.iastore, 1) := by decide +kernel
theorem dX4_link_46 : decode cX4_link 46 = .ok (.aload_n 0, 1) := by decide +kernel
theorem dX4_link_47 : decode cX4_link 47 = .ok (.getfield 28, 3) := by decide +kernel
theorem dX4_link_50 : decode cX4_link 50 = .ok (.iload_n 1, 1) := by decide +kernel
theorem dX4_link_51 : decode cX4_link 51 = .ok (.iload_n 1, 1) := by decide +kernel
theorem dX4_link_52 : decode cX4_link 52 = .ok (.iastore, 1) := by decide +kernel
theorem dX4_link_53 : decode cX4_link 53 = .ok (.iinc 1 1, 3) := by decide +kernel
theorem dX4_link_56 : decode cX4_link 56 = .ok (.goto (-54), 3) := by decide +kernel
theorem dX4_link_59 : decode cX4_link 59 = .ok (.aload_n 0, 1) := by decide +kernel
theorem dX4_link_60 : decode cX4_link 60 = .ok (.getfield 9, 3) := by decide +kernel
theorem dX4_link_63 : decode cX4_link 63 = .ok (.iconst 1, 1) := by decide +kernel
theorem dX4_link_64 : decode cX4_link 64 = .ok (.isub, 1) := by decide +kernel
theorem dX4_link_65 : decode cX4_link 65 = .ok (.istore_n 1, 1) := by decide +kernel
theorem dX4_link_66 : decode cX4_link 66 = .ok (.iload_n 1, 1) := by decide +kernel
theorem dX4_link_67 : decode cX4_link 67 = .ok (.ifCond .le 49, 3) := by decide +kernel
theorem dX4_link_70 : decode cX4_link 70 = .ok (.aload_n 0, 1) := by decide +kernel
theorem dX4_link_71 : decode cX4_link 71 = .ok (.getfield 25, 3) := by decide +kernel
theorem dX4_link_74 : decode cX4_link 74 = .ok (.iload_n 1, 1) := by decide +kernel
theorem dX4_link_75 : decode cX4_link 75 = .ok (.iaload, 1) := by decide +kernel
theorem dX4_link_76 : decode cX4_link 76 = .ok (.ifCond .lt 34, 3) := by decide +kernel
theorem dX4_link_79 : decode cX4_link 79 = .ok (.aload_n 0, 1) := by decide +kernel
theorem dX4_link_80 : decode cX4_link 80 = .ok (.getfield 28, 3) := by decide +kernel
theorem dX4_link_83 : decode cX4_link 83 = .ok (.aload_n 0, 1) := by decide +kernel
theorem dX4_link_84 : decode cX4_link 84 = .ok (.getfield 25, 3) := by decide +kernel
theorem dX4_link_87 : decode cX4_link 87 = .ok (.iload_n 1, 1) := by decide +kernel
theorem dX4_link_88 : decode cX4_link 88 = .ok (.iaload, 1) := by decide +kernel
theorem dX4_link_89 : decode cX4_link 89 = .ok (.aload_n 0, 1) := by decide +kernel
theorem dX4_link_90 : decode cX4_link 90 = .ok (.getfield 28, 3) := by decide +kernel
theorem dX4_link_93 : decode cX4_link 93 = .ok (.aload_n 0, 1) := by decide +kernel
theorem dX4_link_94 : decode cX4_link 94 = .ok (.getfield 25, 3) := by decide +kernel
theorem dX4_link_97 : decode cX4_link 97 = .ok (.iload_n 1, 1) := by decide +kernel
theorem dX4_link_98 : decode cX4_link 98 = .ok (.iaload, 1) := by decide +kernel
theorem dX4_link_99 : decode cX4_link 99 = .ok (.iaload, 1) := by decide +kernel
theorem dX4_link_100 : decode cX4_link 100 = .ok (.aload_n 0, 1) := by decide +kernel
theorem dX4_link_101 : decode cX4_link 101 = .ok (.getfield 28, 3) := by decide +kernel
theorem dX4_link_104 : decode cX4_link 104 = .ok (.iload_n 1, 1) := by decide +kernel
theorem dX4_link_105 : decode cX4_link 105 = .ok (.iaload, 1) := by decide +kernel
theorem dX4_link_106 : decode cX4_link 106 = .ok (.invokestatic 41, 3) := by decide +kernel
theorem dX4_link_109 : decode cX4_link 109 = .ok (.iastore, 1) := by decide +kernel
theorem dX4_link_110 : decode cX4_link 110 = .ok (.iinc 1 (-1), 3) := by decide +kernel
theorem dX4_link_113 : decode cX4_link 113 = .ok (.goto (-47), 3) := by decide +kernel
theorem dX4_link_116 : decode cX4_link 116 = .ok (.return_, 1) := by decide +kernel
set_option maxHeartbeats 4000000 in
set_option maxRecDepth 100000 in
theorem c_X4_link (l : Launch) (B : Nat) (D : va_G) (cA : Nat → ClassId) (m : Mm) (x0 : Nat) (mZ : Mm) (hf : f_X4_link m x0 = some mZ) : Mt l B D cA yX4_link cX4_link 3 none 1 24 0 0 [.ref (B + x0)] m none mZ := by
  refine r_start (by decide) (Nat.le_of_ble_eq_true rfl) ?_
  intro p e s mt args below meth c ls H locs X hr hlocks hnm hR hl hS
  have hx := X.1
  have hb := X.2.1
  have hl : lv_has ls 3 [(0, .ref (B + x0))] := hl
  unfold f_X4_link at hf
  refine lv_iconst (v := 0) hx hb dX4_link_0 (by decide) ?_
  refine lv_istore_n (lv' := [(1, .int (0 : Int32)), (0, .ref (B + x0))]) hx hb dX4_link_1 rfl hl (by decide) rfl (fun ls hl => ?_)
  obtain ⟨e2, hwe2, hf⟩ := ob hf
  refine whl_rule (P := (fun t1 => ∀ (H : Heap) (locs : List Loc) (ls : Array Slot), Rl B D cA t1.2 H → va_S (fun q => B ≤ q) s.heap H locs → lv_has ls 3 [(0, .ref (B + x0)), (1, .int t1.1)] → W p l e (rmm 1 0 0 24) s mt args below meth c H locs 0 0 (MQ below (mQ B D cA none mZ) args s 0 0 (fun q => B ≤ q)) (F0 mt 2 ls []))) (Qx := (fun e2 => ∀ (H : Heap) (locs : List Loc) (ls : Array Slot), Rl B D cA e2 H → va_S (fun q => B ≤ q) s.heap H locs → lv_has ls 3 [(0, .ref (B + x0))] → W p l e (rmm 1 0 0 24) s mt args below meth c H locs 0 0 (MQ below (mQ B D cA none mZ) args s 0 0 (fun q => B ≤ q)) (F0 mt 59 ls []))) ?_ FU _ e2 hwe2 ?_ H locs ls hR hS (lv_sub hl [1, 0] rfl)
  · clear hwe2 hf
    intro t1 q3 hf hxlq3 hxrq3 H locs ls hR hS hl
    obtain ⟨z4, m5⟩ := t1
    have hf : f_X4_link_L2 m5 x0 z4 = some q3 := hf
    have hR : Rl B D cA m5 H := hR
    have hl : lv_has ls 3 [(0, .ref (B + x0)), (1, .int z4)] := hl
    unfold f_X4_link_L2 at hf
    refine lv_iload_n hx hb dX4_link_2 rfl (lv_at hl 1 rfl) ?_
    refine lv_aload_n hx hb dX4_link_3 rfl (lv_at hl 0 rfl) ?_
    obtain ⟨v6, g7, hf⟩ := ob hf
    refine gI_X4_9 X hR g7 dX4_link_4 ?_
    refine lv_icmp_ge (tgt := 59) hx hb dX4_link_7 (by decide) (fun c8 => ?_) (fun c8 => ?_)
    · rw [if_pos c8] at hf
      obtain rfl := Option.some.inj hf
      exact hxrq3 _ rfl H locs ls hR hS (lv_sub hl [0] rfl)
    · rw [if_neg c8] at hf
      refine lv_iload_n hx hb dX4_link_10 rfl (lv_at hl 1 rfl) ?_
      refine lv_iconst (v := 1) hx hb dX4_link_11 (by decide) ?_
      refine lv_isub hx hb dX4_link_12 ?_
      refine lv_istore_n (lv' := [(2, .int (z4 - (1 : Int32))), (0, .ref (B + x0)), (1, .int z4)]) hx hb dX4_link_13 rfl hl (by decide) rfl (fun ls hl => ?_)
      obtain ⟨e10, hwe10, hf⟩ := ob hf
      refine whl_rule (P := (fun t9 => ∀ (H : Heap) (locs : List Loc) (ls : Array Slot), Rl B D cA m5 H → va_S (fun q => B ≤ q) s.heap H locs → lv_has ls 3 [(0, .ref (B + x0)), (1, .int z4), (2, .int t9)] → W p l e (rmm 1 0 0 24) s mt args below meth c H locs 0 0 (MQ below (mQ B D cA none mZ) args s 0 0 (fun q => B ≤ q)) (F0 mt 14 ls []))) (Qx := (fun e10 => ∀ (H : Heap) (locs : List Loc) (ls : Array Slot), Rl B D cA m5 H → va_S (fun q => B ≤ q) s.heap H locs → lv_has ls 3 [(0, .ref (B + x0)), (1, .int z4), (2, .int e10)] → W p l e (rmm 1 0 0 24) s mt args below meth c H locs 0 0 (MQ below (mQ B D cA none mZ) args s 0 0 (fun q => B ≤ q)) (F0 mt 39 ls []))) ?_ FU _ e10 hwe10 ?_ H locs ls hR hS (lv_sub hl [1, 2, 0] rfl)
      · clear hwe10 hf
        intro t9 q11 hf hxlq11 hxrq11 H locs ls hR hS hl
        have hf : f_X4_link_L14 m5 x0 z4 t9 = some q11 := hf
        have hR : Rl B D cA m5 H := hR
        have hl : lv_has ls 3 [(0, .ref (B + x0)), (1, .int z4), (2, .int t9)] := hl
        unfold f_X4_link_L14 at hf
        refine lv_iload_n hx hb dX4_link_14 rfl (lv_at hl 2 rfl) ?_
        refine lv_if_lt (tgt := 39) hx hb dX4_link_15 (by decide) (fun c13 => ?_) (fun c13 => ?_)
        · rw [if_pos c13] at hf
          obtain rfl := Option.some.inj hf
          exact hxrq11 _ rfl H locs ls hR hS (lv_sub hl [0, 1, 2] rfl)
        · rw [if_neg c13] at hf
          refine lv_aload_n hx hb dX4_link_18 rfl (lv_at hl 0 rfl) ?_
          obtain ⟨v14, g15, hf⟩ := ob hf
          refine gR_X4_22 X hR g15 dX4_link_19 ?_
          refine lv_iload_n hx hb dX4_link_22 rfl (lv_at hl 2 rfl) ?_
          obtain ⟨v16, g17, hf⟩ := ob hf
          refine r_lI X hR g17 dX4_link_23 ?_
          refine lv_aload_n hx hb dX4_link_24 rfl (lv_at hl 0 rfl) ?_
          obtain ⟨v18, g19, hf⟩ := ob hf
          refine gR_X4_22 X hR g19 dX4_link_25 ?_
          refine lv_iload_n hx hb dX4_link_28 rfl (lv_at hl 1 rfl) ?_
          obtain ⟨v20, g21, hf⟩ := ob hf
          refine r_lI X hR g21 dX4_link_29 ?_
          refine lv_icmp_lt (tgt := 39) hx hb dX4_link_30 (by decide) (fun c22 => ?_) (fun c22 => ?_)
          · rw [if_pos c22] at hf
            obtain rfl := Option.some.inj hf
            exact hxrq11 _ rfl H locs ls hR hS (lv_sub hl [0, 1, 2] rfl)
          · rw [if_neg c22] at hf
            refine lv_iinc (v := (t9 + (-1))) (lv' := [(2, .int (t9 + (-1))), (0, .ref (B + x0)), (1, .int z4)]) hx hb dX4_link_33 hl (k := 2) rfl (congrArg (fun z => t9 + z) (by decide)) (by decide) rfl (fun ls hl => ?_)
            refine lv_goto (tgt := 14) hx hb dX4_link_36 (by decide) ?_
            obtain rfl := Option.some.inj hf
            exact hxlq11 _ rfl H locs ls hR hS (lv_sub hl [1, 2, 0] rfl)
      · intro H locs ls hR hS hl
        refine lv_aload_n hx hb dX4_link_39 rfl (lv_at hl 0 rfl) ?_
        obtain ⟨v23, g24, hf⟩ := ob hf
        refine gR_X4_25 X hR g24 dX4_link_40 ?_
        refine lv_iload_n hx hb dX4_link_43 rfl (lv_at hl 1 rfl) ?_
        refine lv_iload_n hx hb dX4_link_44 rfl (lv_at hl 2 rfl) ?_
        obtain ⟨m25, g26, hf⟩ := ob hf
        refine r_sI X hR hS g26 dX4_link_45 (fun H locs hR hS => ?_)
        refine lv_aload_n hx hb dX4_link_46 rfl (lv_at hl 0 rfl) ?_
        obtain ⟨v27, g28, hf⟩ := ob hf
        refine gR_X4_28 X hR g28 dX4_link_47 ?_
        refine lv_iload_n hx hb dX4_link_50 rfl (lv_at hl 1 rfl) ?_
        refine lv_iload_n hx hb dX4_link_51 rfl (lv_at hl 1 rfl) ?_
        obtain ⟨m29, g30, hf⟩ := ob hf
        refine r_sI X hR hS g30 dX4_link_52 (fun H locs hR hS => ?_)
        refine lv_iinc (v := (z4 + 1)) (lv' := [(1, .int (z4 + 1)), (0, .ref (B + x0)), (2, .int e10)]) hx hb dX4_link_53 hl (k := 1) rfl (congrArg (fun z => z4 + z) (by decide)) (by decide) rfl (fun ls hl => ?_)
        refine lv_goto (tgt := 2) hx hb dX4_link_56 (by decide) ?_
        obtain rfl := Option.some.inj hf
        exact hxlq3 _ rfl H locs ls hR hS (lv_sub hl [1, 0] rfl)
  · intro H locs ls hR hS hl
    refine lv_aload_n hx hb dX4_link_59 rfl (lv_at hl 0 rfl) ?_
    obtain ⟨v31, g32, hf⟩ := ob hf
    refine gI_X4_9 X hR g32 dX4_link_60 ?_
    refine lv_iconst (v := 1) hx hb dX4_link_63 (by decide) ?_
    refine lv_isub hx hb dX4_link_64 ?_
    refine lv_istore_n (lv' := [(1, .int (v31 - (1 : Int32))), (0, .ref (B + x0))]) hx hb dX4_link_65 rfl hl (by decide) rfl (fun ls hl => ?_)
    obtain ⟨e34, hwe34, hf⟩ := ob hf
    refine whl_rule (P := (fun t33 => ∀ (H : Heap) (locs : List Loc) (ls : Array Slot), Rl B D cA t33.2 H → va_S (fun q => B ≤ q) s.heap H locs → lv_has ls 3 [(0, .ref (B + x0)), (1, .int t33.1)] → W p l e (rmm 1 0 0 24) s mt args below meth c H locs 0 0 (MQ below (mQ B D cA none mZ) args s 0 0 (fun q => B ≤ q)) (F0 mt 66 ls []))) (Qx := (fun e34 => ∀ (H : Heap) (locs : List Loc) (ls : Array Slot), Rl B D cA e34 H → va_S (fun q => B ≤ q) s.heap H locs → lv_has ls 3 [] → W p l e (rmm 1 0 0 24) s mt args below meth c H locs 0 0 (MQ below (mQ B D cA none mZ) args s 0 0 (fun q => B ≤ q)) (F0 mt 116 ls []))) ?_ FU _ e34 hwe34 ?_ H locs ls hR hS (lv_sub hl [1, 0] rfl)
    · clear hwe34 hf
      intro t33 q35 hf hxlq35 hxrq35 H locs ls hR hS hl
      obtain ⟨z36, m37⟩ := t33
      have hf : f_X4_link_L66 m37 x0 z36 = some q35 := hf
      have hR : Rl B D cA m37 H := hR
      have hl : lv_has ls 3 [(0, .ref (B + x0)), (1, .int z36)] := hl
      unfold f_X4_link_L66 at hf
      refine lv_iload_n hx hb dX4_link_66 rfl (lv_at hl 1 rfl) ?_
      refine lv_if_le (tgt := 116) hx hb dX4_link_67 (by decide) (fun c38 => ?_) (fun c38 => ?_)
      · rw [if_pos c38] at hf
        obtain rfl := Option.some.inj hf
        exact hxrq35 _ rfl H locs ls hR hS (lv_sub hl [] rfl)
      · rw [if_neg c38] at hf
        refine lv_aload_n hx hb dX4_link_70 rfl (lv_at hl 0 rfl) ?_
        obtain ⟨v39, g40, hf⟩ := ob hf
        refine gR_X4_25 X hR g40 dX4_link_71 ?_
        refine lv_iload_n hx hb dX4_link_74 rfl (lv_at hl 1 rfl) ?_
        obtain ⟨v41, g42, hf⟩ := ob hf
        refine r_lI X hR g42 dX4_link_75 ?_
        refine lv_if_lt (tgt := 110) hx hb dX4_link_76 (by decide) (fun c43 => ?_) (fun c43 => ?_)
        · rw [if_pos c43] at hf
          refine lv_iinc (v := (z36 + (-1))) (lv' := [(1, .int (z36 + (-1))), (0, .ref (B + x0))]) hx hb dX4_link_110 hl (k := 1) rfl (congrArg (fun z => z36 + z) (by decide)) (by decide) rfl (fun ls hl => ?_)
          refine lv_goto (tgt := 66) hx hb dX4_link_113 (by decide) ?_
          obtain rfl := Option.some.inj hf
          exact hxlq35 _ rfl H locs ls hR hS (lv_sub hl [1, 0] rfl)
        · rw [if_neg c43] at hf
          refine lv_aload_n hx hb dX4_link_79 rfl (lv_at hl 0 rfl) ?_
          obtain ⟨v44, g45, hf⟩ := ob hf
          refine gR_X4_28 X hR g45 dX4_link_80 ?_
          refine lv_aload_n hx hb dX4_link_83 rfl (lv_at hl 0 rfl) ?_
          obtain ⟨v46, g47, hf⟩ := ob hf
          refine gR_X4_25 X hR g47 dX4_link_84 ?_
          refine lv_iload_n hx hb dX4_link_87 rfl (lv_at hl 1 rfl) ?_
          obtain ⟨v48, g49, hf⟩ := ob hf
          refine r_lI X hR g49 dX4_link_88 ?_
          refine lv_aload_n hx hb dX4_link_89 rfl (lv_at hl 0 rfl) ?_
          obtain ⟨v50, g51, hf⟩ := ob hf
          refine gR_X4_28 X hR g51 dX4_link_90 ?_
          refine lv_aload_n hx hb dX4_link_93 rfl (lv_at hl 0 rfl) ?_
          obtain ⟨v52, g53, hf⟩ := ob hf
          refine gR_X4_25 X hR g53 dX4_link_94 ?_
          refine lv_iload_n hx hb dX4_link_97 rfl (lv_at hl 1 rfl) ?_
          obtain ⟨v54, g55, hf⟩ := ob hf
          refine r_lI X hR g55 dX4_link_98 ?_
          obtain ⟨v56, g57, hf⟩ := ob hf
          refine r_lI X hR g57 dX4_link_99 ?_
          refine lv_aload_n hx hb dX4_link_100 rfl (lv_at hl 0 rfl) ?_
          obtain ⟨v58, g59, hf⟩ := ob hf
          refine gR_X4_28 X hR g59 dX4_link_101 ?_
          refine lv_iload_n hx hb dX4_link_104 rfl (lv_at hl 1 rfl) ?_
          obtain ⟨v60, g61, hf⟩ := ob hf
          refine r_lI X hR g61 dX4_link_105 ?_
          refine r_max X (tb1 226 rfl rfl) (tb1 227 rfl rfl) (tb1 9 rfl rfl) (tb1 228 rfl rfl) hl.1 (Nat.le_of_ble_eq_true rfl) (Nat.le_of_ble_eq_true rfl) (Nat.le_of_ble_eq_true rfl) (Nat.le_of_ble_eq_true rfl) dX4_link_106 ?_
          obtain ⟨m62, g63, hf⟩ := ob hf
          refine r_sI X hR hS g63 dX4_link_109 (fun H locs hR hS => ?_)
          refine lv_iinc (v := (z36 + (-1))) (lv' := [(1, .int (z36 + (-1))), (0, .ref (B + x0))]) hx hb dX4_link_110 hl (k := 1) rfl (congrArg (fun z => z36 + z) (by decide)) (by decide) rfl (fun ls hl => ?_)
          refine lv_goto (tgt := 66) hx hb dX4_link_113 (by decide) ?_
          obtain rfl := Option.some.inj hf
          exact hxlq35 _ rfl H locs ls hR hS (lv_sub hl [1, 0] rfl)
    · intro H locs ls hR hS hl
      obtain rfl := Option.some.inj hf
      exact r_vret X hr hlocks hR hS dX4_link_116
/-! ===== TwigMatches$Tree.insert(IIII)V ===== -/
theorem dX4_insert_0 : decode cX4_insert 0 = .ok (.aload_n 0, 1) := by decide +kernel
theorem dX4_insert_1 : decode cX4_insert 1 = .ok (.getfield 9, 3) := by decide +kernel
theorem dX4_insert_4 : decode cX4_insert 4 = .ok (.istore 5, 2) := by decide +kernel
theorem dX4_insert_6 : decode cX4_insert 6 = .ok (.iload 5, 2) := by decide +kernel
theorem dX4_insert_8 : decode cX4_insert 8 = .ok (.iload_n 1, 1) := by decide +kernel
theorem dX4_insert_9 : decode cX4_insert 9 = .ok (.if_icmp .le 42, 3) := by decide +kernel
theorem dX4_insert_12 : decode cX4_insert 12 = .ok (.aload_n 0, 1) := by decide +kernel
theorem dX4_insert_13 : decode cX4_insert 13 = .ok (.iload 5, 2) := by decide +kernel
theorem dX4_insert_15 : decode cX4_insert 15 = .ok (.aload_n 0, 1) := by decide +kernel
theorem dX4_insert_16 : decode cX4_insert 16 = .ok (.getfield 15, 3) := by decide +kernel
theorem dX4_insert_19 : decode cX4_insert 19 = .ok (.iload 5, 2) := by decide +kernel
theorem dX4_insert_21 : decode cX4_insert 21 = .ok (.iconst 1, 1) := by decide +kernel
theorem dX4_insert_22 : decode cX4_insert 22 = .ok (.isub, 1) := by decide +kernel
theorem dX4_insert_23 : decode cX4_insert 23 = .ok (.iaload, 1) := by decide +kernel
theorem dX4_insert_24 : decode cX4_insert 24 = .ok (.aload_n 0, 1) := by decide +kernel
theorem dX4_insert_25 : decode cX4_insert 25 = .ok (.getfield 19, 3) := by decide +kernel
theorem dX4_insert_28 : decode cX4_insert 28 = .ok (.iload 5, 2) := by decide +kernel
theorem dX4_insert_30 : decode cX4_insert 30 = .ok (.iconst 1, 1) := by decide +kernel
theorem dX4_insert_31 : decode cX4_insert 31 = .ok (.isub, 1) := by decide +kernel
theorem dX4_insert_32 : decode cX4_insert 32 = .ok (.iaload, 1) := by decide +kernel
theorem dX4_insert_33 : decode cX4_insert 33 = .ok (.aload_n 0, 1) := by decide +kernel
theorem dX4_insert_34 : decode cX4_insert 34 = .ok (.getfield 22, 3) := by decide +kernel
theorem dX4_insert_37 : decode cX4_insert 37 = .ok (.iload 5, 2) := by decide +kernel
theorem dX4_insert_39 : decode cX4_insert 39 = .ok (.iconst 1, 1) := by decide +kernel
theorem dX4_insert_40 : decode cX4_insert 40 = .ok (.isub, 1) := by decide +kernel
theorem dX4_insert_41 : decode cX4_insert 41 = .ok (.iaload, 1) := by decide +kernel
theorem dX4_insert_42 : decode cX4_insert 42 = .ok (.invokevirtual 37, 3) := by decide +kernel
theorem dX4_insert_45 : decode cX4_insert 45 = .ok (.iinc 5 (-1), 3) := by decide +kernel
theorem dX4_insert_48 : decode cX4_insert 48 = .ok (.goto (-42), 3) := by decide +kernel
theorem dX4_insert_51 : decode cX4_insert 51 = .ok (.aload_n 0, 1) := by decide +kernel
theorem dX4_insert_52 : decode cX4_insert 52 = .ok (.iload_n 1, 1) := by decide +kernel
theorem dX4_insert_53 : decode cX4_insert 53 = .ok (.iload_n 3, 1) := by decide +kernel
theorem dX4_insert_54 : decode cX4_insert 54 = .ok (.iload 4, 2) := by decide +kernel
theorem dX4_insert_56 : decode cX4_insert 56 = .ok (.iload_n 2, 1) := by decide +kernel
theorem dX4_insert_57 : decode cX4_insert 57 = .ok (.invokevirtual 37, 3) := by decide +kernel
theorem dX4_insert_60 : decode cX4_insert 60 = .ok (.aload_n 0, 1) := by decide +kernel
theorem dX4_insert_61 : decode cX4_insert 61 = .ok (.dup, 1) := by decide +kernel
theorem dX4_insert_62 : decode cX4_insert 62 = .ok (.getfield 9, 3) := by decide +kernel
theorem dX4_insert_65 : decode cX4_insert 65 = .ok (.iconst 1, 1) := by decide +kernel
theorem dX4_insert_66 : decode cX4_insert 66 = .ok (.iadd, 1) := by decide +kernel
theorem dX4_insert_67 : decode cX4_insert 67 = .ok (.putfield 9, 3) := by decide +kernel
theorem dX4_insert_70 : decode cX4_insert 70 = .ok (.aload_n 0, 1) := by decide +kernel
theorem dX4_insert_71 : decode cX4_insert 71 = .ok (.invokevirtual 47, 3) := by decide +kernel
theorem dX4_insert_74 : decode cX4_insert 74 = .ok (.return_, 1) := by decide +kernel
set_option maxHeartbeats 4000000 in
set_option maxRecDepth 100000 in
theorem c_X4_insert (l : Launch) (B : Nat) (D : va_G) (cA : Nat → ClassId) (m : Mm) (x0 : Nat) (x1 : Int32) (x2 : Int32) (x3 : Int32) (x4 : Int32) (mZ : Mm) (hf : f_X4_insert m x0 x1 x2 x3 x4 = some mZ) : Mt l B D cA yX4_insert cX4_insert 6 none 2 46 0 0 [.ref (B + x0), .int x1, .int x2, .int x3, .int x4] m none mZ := by
  refine r_start (by decide) (Nat.le_of_ble_eq_true rfl) ?_
  intro p e s mt args below meth c ls H locs X hr hlocks hnm hR hl hS
  have hx := X.1
  have hb := X.2.1
  have hl : lv_has ls 6 [(0, .ref (B + x0)), (1, .int x1), (2, .int x2), (3, .int x3), (4, .int x4)] := hl
  unfold f_X4_insert at hf
  refine lv_aload_n hx hb dX4_insert_0 rfl (lv_at hl 0 rfl) ?_
  obtain ⟨v1, g2, hf⟩ := ob hf
  refine gI_X4_9 X hR g2 dX4_insert_1 ?_
  refine lv_istore (lv' := [(5, .int v1), (0, .ref (B + x0)), (1, .int x1), (2, .int x2), (3, .int x3), (4, .int x4)]) hx hb dX4_insert_4 hl (by decide) rfl (fun ls hl => ?_)
  obtain ⟨e4, hwe4, hf⟩ := ob hf
  refine whl_rule (P := (fun t3 => ∀ (H : Heap) (locs : List Loc) (ls : Array Slot), Rl B D cA t3.2 H → va_S (fun q => B ≤ q) s.heap H locs → lv_has ls 6 [(0, .ref (B + x0)), (1, .int x1), (2, .int x2), (3, .int x3), (4, .int x4), (5, .int t3.1)] → W p l e (rmm 2 0 0 46) s mt args below meth c H locs 0 0 (MQ below (mQ B D cA none mZ) args s 0 0 (fun q => B ≤ q)) (F0 mt 6 ls []))) (Qx := (fun e4 => ∀ (H : Heap) (locs : List Loc) (ls : Array Slot), Rl B D cA e4 H → va_S (fun q => B ≤ q) s.heap H locs → lv_has ls 6 [(0, .ref (B + x0)), (1, .int x1), (2, .int x2), (3, .int x3), (4, .int x4)] → W p l e (rmm 2 0 0 46) s mt args below meth c H locs 0 0 (MQ below (mQ B D cA none mZ) args s 0 0 (fun q => B ≤ q)) (F0 mt 51 ls []))) ?_ FU _ e4 hwe4 ?_ H locs ls hR hS (lv_sub hl [1, 2, 3, 4, 5, 0] rfl)
  · clear hwe4 hf
    intro t3 q5 hf hxlq5 hxrq5 H locs ls hR hS hl
    obtain ⟨z6, m7⟩ := t3
    have hf : f_X4_insert_L6 m7 x0 x1 x2 x3 x4 z6 = some q5 := hf
    have hR : Rl B D cA m7 H := hR
    have hl : lv_has ls 6 [(0, .ref (B + x0)), (1, .int x1), (2, .int x2), (3, .int x3), (4, .int x4), (5, .int z6)] := hl
    unfold f_X4_insert_L6 at hf
    refine lv_iload hx hb dX4_insert_6 (lv_at hl 5 rfl) ?_
    refine lv_iload_n hx hb dX4_insert_8 rfl (lv_at hl 1 rfl) ?_
    refine lv_icmp_le (tgt := 51) hx hb dX4_insert_9 (by decide) (fun c8 => ?_) (fun c8 => ?_)
    · rw [if_pos c8] at hf
      obtain rfl := Option.some.inj hf
      exact hxrq5 _ rfl H locs ls hR hS (lv_sub hl [0, 1, 2, 3, 4] rfl)
    · rw [if_neg c8] at hf
      refine lv_aload_n hx hb dX4_insert_12 rfl (lv_at hl 0 rfl) ?_
      refine lv_iload hx hb dX4_insert_13 (lv_at hl 5 rfl) ?_
      refine lv_aload_n hx hb dX4_insert_15 rfl (lv_at hl 0 rfl) ?_
      obtain ⟨v9, g10, hf⟩ := ob hf
      refine gR_X4_15 X hR g10 dX4_insert_16 ?_
      refine lv_iload hx hb dX4_insert_19 (lv_at hl 5 rfl) ?_
      refine lv_iconst (v := 1) hx hb dX4_insert_21 (by decide) ?_
      refine lv_isub hx hb dX4_insert_22 ?_
      obtain ⟨v11, g12, hf⟩ := ob hf
      refine r_lI X hR g12 dX4_insert_23 ?_
      refine lv_aload_n hx hb dX4_insert_24 rfl (lv_at hl 0 rfl) ?_
      obtain ⟨v13, g14, hf⟩ := ob hf
      refine gR_X4_19 X hR g14 dX4_insert_25 ?_
      refine lv_iload hx hb dX4_insert_28 (lv_at hl 5 rfl) ?_
      refine lv_iconst (v := 1) hx hb dX4_insert_30 (by decide) ?_
      refine lv_isub hx hb dX4_insert_31 ?_
      obtain ⟨v15, g16, hf⟩ := ob hf
      refine r_lI X hR g16 dX4_insert_32 ?_
      refine lv_aload_n hx hb dX4_insert_33 rfl (lv_at hl 0 rfl) ?_
      obtain ⟨v17, g18, hf⟩ := ob hf
      refine gR_X4_22 X hR g18 dX4_insert_34 ?_
      refine lv_iload hx hb dX4_insert_37 (lv_at hl 5 rfl) ?_
      refine lv_iconst (v := 1) hx hb dX4_insert_39 (by decide) ?_
      refine lv_isub hx hb dX4_insert_40 ?_
      obtain ⟨v19, g20, hf⟩ := ob hf
      refine r_lI X hR g20 dX4_insert_41 ?_
      obtain ⟨o21, h22, hf⟩ := obO hf
      obtain ⟨m24, g23, hf⟩ := ob hf
      refine r_callV X kw_X4_37 (ci := 4) rfl (c_X4_put l B D cA m7 x0 z6 v11 v15 v19 m24 g23) ⟨Nat.le_of_ble_eq_true rfl, Nat.le_of_ble_eq_true rfl⟩ h22 hR hS hl.1 rfl rfl (Nat.le_of_ble_eq_true rfl) ⟨Nat.le_of_ble_eq_true rfl, Nat.le_of_ble_eq_true rfl⟩ dX4_insert_42 (fun H locs hR hS => ?_)
      refine W.eq (g2 := F0 mt 45 ls []) rfl ?_
      refine lv_iinc (v := (z6 + (-1))) (lv' := [(5, .int (z6 + (-1))), (0, .ref (B + x0)), (1, .int x1), (2, .int x2), (3, .int x3), (4, .int x4)]) hx hb dX4_insert_45 hl (k := 5) rfl (congrArg (fun z => z6 + z) (by decide)) (by decide) rfl (fun ls hl => ?_)
      refine lv_goto (tgt := 6) hx hb dX4_insert_48 (by decide) ?_
      obtain rfl := Option.some.inj hf
      exact hxlq5 _ rfl H locs ls hR hS (lv_sub hl [1, 2, 3, 4, 5, 0] rfl)
  · intro H locs ls hR hS hl
    refine lv_aload_n hx hb dX4_insert_51 rfl (lv_at hl 0 rfl) ?_
    refine lv_iload_n hx hb dX4_insert_52 rfl (lv_at hl 1 rfl) ?_
    refine lv_iload_n hx hb dX4_insert_53 rfl (lv_at hl 3 rfl) ?_
    refine lv_iload hx hb dX4_insert_54 (lv_at hl 4 rfl) ?_
    refine lv_iload_n hx hb dX4_insert_56 rfl (lv_at hl 2 rfl) ?_
    obtain ⟨o25, h26, hf⟩ := obO hf
    obtain ⟨m28, g27, hf⟩ := ob hf
    refine r_callV X kw_X4_37 (ci := 4) rfl (c_X4_put l B D cA e4 x0 x1 x3 x4 x2 m28 g27) ⟨Nat.le_of_ble_eq_true rfl, Nat.le_of_ble_eq_true rfl⟩ h26 hR hS hl.1 rfl rfl (Nat.le_of_ble_eq_true rfl) ⟨Nat.le_of_ble_eq_true rfl, Nat.le_of_ble_eq_true rfl⟩ dX4_insert_57 (fun H locs hR hS => ?_)
    refine W.eq (g2 := F0 mt 60 ls []) rfl ?_
    refine lv_aload_n hx hb dX4_insert_60 rfl (lv_at hl 0 rfl) ?_
    refine lv_dup hx hb dX4_insert_61 rfl ?_
    obtain ⟨v29, g30, hf⟩ := ob hf
    refine gI_X4_9 X hR g30 dX4_insert_62 ?_
    refine lv_iconst (v := 1) hx hb dX4_insert_65 (by decide) ?_
    refine lv_iadd hx hb dX4_insert_66 ?_
    obtain ⟨m31, g32, hf⟩ := ob hf
    refine pI_X4_9 X hR hS g32 dX4_insert_67 (fun H locs hR hS => ?_)
    refine lv_aload_n hx hb dX4_insert_70 rfl (lv_at hl 0 rfl) ?_
    obtain ⟨o33, h34, hf⟩ := obO hf
    obtain ⟨m36, g35, hf⟩ := ob hf
    refine r_callV X kw_X4_47 (ci := 4) rfl (c_X4_link l B D cA m31 x0 m36 g35) ⟨Nat.le_of_ble_eq_true rfl, Nat.le_of_ble_eq_true rfl⟩ h34 hR hS hl.1 rfl rfl (Nat.le_of_ble_eq_true rfl) ⟨Nat.le_of_ble_eq_true rfl, Nat.le_of_ble_eq_true rfl⟩ dX4_insert_71 (fun H locs hR hS => ?_)
    refine W.eq (g2 := F0 mt 74 ls []) rfl ?_
    obtain rfl := Option.some.inj hf
    exact r_vret X hr hlocks hR hS dX4_insert_74
/-! ===== TwigMatches$Tree.remove(II)V ===== -/
theorem dX4_remove_0 : decode cX4_remove 0 = .ok (.aload_n 0, 1) := by decide +kernel
theorem dX4_remove_1 : decode cX4_remove 1 = .ok (.dup, 1) := by decide +kernel
theorem dX4_remove_2 : decode cX4_remove 2 = .ok (.getfield 9, 3) := by decide +kernel
theorem dX4_remove_5 : decode cX4_remove 5 = .ok (.iload_n 2, 1) := by decide +kernel
theorem dX4_remove_6 : decode cX4_remove 6 = .ok (.isub, 1) := by decide +kernel
theorem dX4_remove_7 : decode cX4_remove 7 = .ok (.putfield 9, 3) := by decide +kernel
theorem dX4_remove_10 : decode cX4_remove 10 = .ok (.iload_n 1, 1) := by decide +kernel
theorem dX4_remove_11 : decode cX4_remove 11 = .ok (.istore_n 3, 1) := by decide +kernel
theorem dX4_remove_12 : decode cX4_remove 12 = .ok (.iload_n 3, 1) := by decide +kernel
theorem dX4_remove_13 : decode cX4_remove 13 = .ok (.aload_n 0, 1) := by decide +kernel
theorem dX4_remove_14 : decode cX4_remove 14 = .ok (.getfield 9, 3) := by decide +kernel
theorem dX4_remove_17 : decode cX4_remove 17 = .ok (.if_icmp .ge 38, 3) := by decide +kernel
theorem dX4_remove_20 : decode cX4_remove 20 = .ok (.aload_n 0, 1) := by decide +kernel
theorem dX4_remove_21 : decode cX4_remove 21 = .ok (.iload_n 3, 1) := by decide +kernel
theorem dX4_remove_22 : decode cX4_remove 22 = .ok (.aload_n 0, 1) := by decide +kernel
theorem dX4_remove_23 : decode cX4_remove 23 = .ok (.getfield 15, 3) := by decide +kernel
theorem dX4_remove_26 : decode cX4_remove 26 = .ok (.iload_n 3, 1) := by decide +kernel
theorem dX4_remove_27 : decode cX4_remove 27 = .ok (.iload_n 2, 1) := by decide +kernel
theorem dX4_remove_28 : decode cX4_remove 28 = .ok (.iadd, 1) := by decide +kernel
theorem dX4_remove_29 : decode cX4_remove 29 = .ok (.iaload, 1) := by decide +kernel
theorem dX4_remove_30 : decode cX4_remove 30 = .ok (.aload_n 0, 1) := by decide +kernel
theorem dX4_remove_31 : decode cX4_remove 31 = .ok (.getfield 19, 3) := by decide +kernel
theorem dX4_remove_34 : decode cX4_remove 34 = .ok (.iload_n 3, 1) := by decide +kernel
theorem dX4_remove_35 : decode cX4_remove 35 = .ok (.iload_n 2, 1) := by decide +kernel
theorem dX4_remove_36 : decode cX4_remove 36 = .ok (.iadd, 1) := by decide +kernel
theorem dX4_remove_37 : decode cX4_remove 37 = .ok (.iaload, 1) := by decide +kernel
theorem dX4_remove_38 : decode cX4_remove 38 = .ok (.aload_n 0, 1) := by decide +kernel
theorem dX4_remove_39 : decode cX4_remove 39 = .ok (.getfield 22, 3) := by decide +kernel
theorem dX4_remove_42 : decode cX4_remove 42 = .ok (.iload_n 3, 1) := by decide +kernel
theorem dX4_remove_43 : decode cX4_remove 43 = .ok (.iload_n 2, 1) := by decide +kernel
theorem dX4_remove_44 : decode cX4_remove 44 = .ok (.iadd, 1) := by decide +kernel
theorem dX4_remove_45 : decode cX4_remove 45 = .ok (.iaload, 1) := by decide +kernel
theorem dX4_remove_46 : decode cX4_remove 46 = .ok (.invokevirtual 37, 3) := by decide +kernel
theorem dX4_remove_49 : decode cX4_remove 49 = .ok (.iinc 3 1, 3) := by decide +kernel
theorem dX4_remove_52 : decode cX4_remove 52 = .ok (.goto (-40), 3) := by decide +kernel
theorem dX4_remove_55 : decode cX4_remove 55 = .ok (.aload_n 0, 1) := by decide +kernel
theorem dX4_remove_56 : decode cX4_remove 56 = .ok (.invokevirtual 47, 3) := by decide +kernel
theorem dX4_remove_59 : decode cX4_remove 59 = .ok (.return_, 1) := by decide +kernel
set_option maxHeartbeats 4000000 in
set_option maxRecDepth 100000 in
theorem c_X4_remove (l : Launch) (B : Nat) (D : va_G) (cA : Nat → ClassId) (m : Mm) (x0 : Nat) (x1 : Int32) (x2 : Int32) (mZ : Mm) (hf : f_X4_remove m x0 x1 x2 = some mZ) : Mt l B D cA yX4_remove cX4_remove 4 none 2 46 0 0 [.ref (B + x0), .int x1, .int x2] m none mZ := by
  refine r_start (by decide) (Nat.le_of_ble_eq_true rfl) ?_
  intro p e s mt args below meth c ls H locs X hr hlocks hnm hR hl hS
  have hx := X.1
  have hb := X.2.1
  have hl : lv_has ls 4 [(0, .ref (B + x0)), (1, .int x1), (2, .int x2)] := hl
  unfold f_X4_remove at hf
  refine lv_aload_n hx hb dX4_remove_0 rfl (lv_at hl 0 rfl) ?_
  refine lv_dup hx hb dX4_remove_1 rfl ?_
  obtain ⟨v1, g2, hf⟩ := ob hf
  refine gI_X4_9 X hR g2 dX4_remove_2 ?_
  refine lv_iload_n hx hb dX4_remove_5 rfl (lv_at hl 2 rfl) ?_
  refine lv_isub hx hb dX4_remove_6 ?_
  obtain ⟨m3, g4, hf⟩ := ob hf
  refine pI_X4_9 X hR hS g4 dX4_remove_7 (fun H locs hR hS => ?_)
  refine lv_iload_n hx hb dX4_remove_10 rfl (lv_at hl 1 rfl) ?_
  refine lv_istore_n (lv' := [(3, .int x1), (0, .ref (B + x0)), (1, .int x1), (2, .int x2)]) hx hb dX4_remove_11 rfl hl (by decide) rfl (fun ls hl => ?_)
  obtain ⟨e6, hwe6, hf⟩ := ob hf
  refine whl_rule (P := (fun t5 => ∀ (H : Heap) (locs : List Loc) (ls : Array Slot), Rl B D cA t5.2 H → va_S (fun q => B ≤ q) s.heap H locs → lv_has ls 4 [(0, .ref (B + x0)), (2, .int x2), (3, .int t5.1)] → W p l e (rmm 2 0 0 46) s mt args below meth c H locs 0 0 (MQ below (mQ B D cA none mZ) args s 0 0 (fun q => B ≤ q)) (F0 mt 12 ls []))) (Qx := (fun e6 => ∀ (H : Heap) (locs : List Loc) (ls : Array Slot), Rl B D cA e6 H → va_S (fun q => B ≤ q) s.heap H locs → lv_has ls 4 [(0, .ref (B + x0))] → W p l e (rmm 2 0 0 46) s mt args below meth c H locs 0 0 (MQ below (mQ B D cA none mZ) args s 0 0 (fun q => B ≤ q)) (F0 mt 55 ls []))) ?_ FU _ e6 hwe6 ?_ H locs ls hR hS (lv_sub hl [1, 3, 0] rfl)
  · clear hwe6 hf
    intro t5 q7 hf hxlq7 hxrq7 H locs ls hR hS hl
    obtain ⟨z8, m9⟩ := t5
    have hf : f_X4_remove_L12 m9 x0 x2 z8 = some q7 := hf
    have hR : Rl B D cA m9 H := hR
    have hl : lv_has ls 4 [(0, .ref (B + x0)), (2, .int x2), (3, .int z8)] := hl
    unfold f_X4_remove_L12 at hf
    refine lv_iload_n hx hb dX4_remove_12 rfl (lv_at hl 2 rfl) ?_
    refine lv_aload_n hx hb dX4_remove_13 rfl (lv_at hl 0 rfl) ?_
    obtain ⟨v10, g11, hf⟩ := ob hf
    refine gI_X4_9 X hR g11 dX4_remove_14 ?_
    refine lv_icmp_ge (tgt := 55) hx hb dX4_remove_17 (by decide) (fun c12 => ?_) (fun c12 => ?_)
    · rw [if_pos c12] at hf
      obtain rfl := Option.some.inj hf
      exact hxrq7 _ rfl H locs ls hR hS (lv_sub hl [0] rfl)
    · rw [if_neg c12] at hf
      refine lv_aload_n hx hb dX4_remove_20 rfl (lv_at hl 0 rfl) ?_
      refine lv_iload_n hx hb dX4_remove_21 rfl (lv_at hl 2 rfl) ?_
      refine lv_aload_n hx hb dX4_remove_22 rfl (lv_at hl 0 rfl) ?_
      obtain ⟨v13, g14, hf⟩ := ob hf
      refine gR_X4_15 X hR g14 dX4_remove_23 ?_
      refine lv_iload_n hx hb dX4_remove_26 rfl (lv_at hl 2 rfl) ?_
      refine lv_iload_n hx hb dX4_remove_27 rfl (lv_at hl 1 rfl) ?_
      refine lv_iadd hx hb dX4_remove_28 ?_
      obtain ⟨v15, g16, hf⟩ := ob hf
      refine r_lI X hR g16 dX4_remove_29 ?_
      refine lv_aload_n hx hb dX4_remove_30 rfl (lv_at hl 0 rfl) ?_
      obtain ⟨v17, g18, hf⟩ := ob hf
      refine gR_X4_19 X hR g18 dX4_remove_31 ?_
      refine lv_iload_n hx hb dX4_remove_34 rfl (lv_at hl 2 rfl) ?_
      refine lv_iload_n hx hb dX4_remove_35 rfl (lv_at hl 1 rfl) ?_
      refine lv_iadd hx hb dX4_remove_36 ?_
      obtain ⟨v19, g20, hf⟩ := ob hf
      refine r_lI X hR g20 dX4_remove_37 ?_
      refine lv_aload_n hx hb dX4_remove_38 rfl (lv_at hl 0 rfl) ?_
      obtain ⟨v21, g22, hf⟩ := ob hf
      refine gR_X4_22 X hR g22 dX4_remove_39 ?_
      refine lv_iload_n hx hb dX4_remove_42 rfl (lv_at hl 2 rfl) ?_
      refine lv_iload_n hx hb dX4_remove_43 rfl (lv_at hl 1 rfl) ?_
      refine lv_iadd hx hb dX4_remove_44 ?_
      obtain ⟨v23, g24, hf⟩ := ob hf
      refine r_lI X hR g24 dX4_remove_45 ?_
      obtain ⟨o25, h26, hf⟩ := obO hf
      obtain ⟨m28, g27, hf⟩ := ob hf
      refine r_callV X kw_X4_37 (ci := 4) rfl (c_X4_put l B D cA m9 x0 z8 v15 v19 v23 m28 g27) ⟨Nat.le_of_ble_eq_true rfl, Nat.le_of_ble_eq_true rfl⟩ h26 hR hS hl.1 rfl rfl (Nat.le_of_ble_eq_true rfl) ⟨Nat.le_of_ble_eq_true rfl, Nat.le_of_ble_eq_true rfl⟩ dX4_remove_46 (fun H locs hR hS => ?_)
      refine W.eq (g2 := F0 mt 49 ls []) rfl ?_
      refine lv_iinc (v := (z8 + 1)) (lv' := [(3, .int (z8 + 1)), (0, .ref (B + x0)), (2, .int x2)]) hx hb dX4_remove_49 hl (k := 2) rfl (congrArg (fun z => z8 + z) (by decide)) (by decide) rfl (fun ls hl => ?_)
      refine lv_goto (tgt := 12) hx hb dX4_remove_52 (by decide) ?_
      obtain rfl := Option.some.inj hf
      exact hxlq7 _ rfl H locs ls hR hS (lv_sub hl [1, 2, 0] rfl)
  · intro H locs ls hR hS hl
    refine lv_aload_n hx hb dX4_remove_55 rfl (lv_at hl 0 rfl) ?_
    obtain ⟨o29, h30, hf⟩ := obO hf
    obtain ⟨m32, g31, hf⟩ := ob hf
    refine r_callV X kw_X4_47 (ci := 4) rfl (c_X4_link l B D cA e6 x0 m32 g31) ⟨Nat.le_of_ble_eq_true rfl, Nat.le_of_ble_eq_true rfl⟩ h30 hR hS hl.1 rfl rfl (Nat.le_of_ble_eq_true rfl) ⟨Nat.le_of_ble_eq_true rfl, Nat.le_of_ble_eq_true rfl⟩ dX4_remove_56 (fun H locs hR hS => ?_)
    refine W.eq (g2 := F0 mt 59 ls []) rfl ?_
    obtain rfl := Option.some.inj hf
    exact r_vret X hr hlocks hR hS dX4_remove_59
