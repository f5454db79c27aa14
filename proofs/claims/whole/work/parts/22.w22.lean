/-! ===== TwigMatchesModel.ways(III)J ===== -/
theorem dX8_ways_0 : decode cX8_ways 0 = .ok (.iload_n 1, 1) := by decide +kernel
theorem dX8_ways_1 : decode cX8_ways 1 = .ok (.invokestatic 161, 3) := by decide +kernel
theorem dX8_ways_4 : decode cX8_ways 4 = .ok (.ifCond .eq 16, 3) := by decide +kernel
theorem dX8_ways_7 : decode cX8_ways 7 = .ok (.iload_n 2, 1) := by decide +kernel
theorem dX8_ways_8 : decode cX8_ways 8 = .ok (.ifCond .lt 12, 3) := by decide +kernel
theorem dX8_ways_11 : decode cX8_ways 11 = .ok (.iload_n 3, 1) := by decide +kernel
theorem dX8_ways_12 : decode cX8_ways 12 = .ok (.iconst 0, 1) := by decide +kernel
theorem dX8_ways_13 : decode cX8_ways 13 = .ok (.iconst 1, 1) := by decide +kernel
theorem dX8_ways_14 : decode cX8_ways 14 = .ok (.invokestatic 90, 3) := by decide +kernel
theorem dX8_ways_17 : decode cX8_ways 17 = .ok (.ifCond .ne 9, 3) := by decide +kernel
theorem dX8_ways_20 : decode cX8_ways 20 = .ok (.aload_n 0, 1) := by decide +kernel
theorem dX8_ways_21 : decode cX8_ways 21 = .ok (.invokevirtual 134, 3) := by decide +kernel
theorem dX8_ways_24 : decode cX8_ways 24 = .ok (.i2l, 1) := by decide +kernel
theorem dX8_ways_25 : decode cX8_ways 25 = .ok (.lreturn, 1) := by decide +kernel
theorem dX8_ways_26 : decode cX8_ways 26 = .ok (.iload_n 2, 1) := by decide +kernel
theorem dX8_ways_27 : decode cX8_ways 27 = .ok (.aload_n 0, 1) := by decide +kernel
theorem dX8_ways_28 : decode cX8_ways 28 = .ok (.getfield 32, 3) := by decide +kernel
theorem dX8_ways_31 : decode cX8_ways 31 = .ok (.iload_n 1, 1) := by decide +kernel
theorem dX8_ways_32 : decode cX8_ways 32 = .ok (.iaload, 1) := by decide +kernel
theorem dX8_ways_33 : decode cX8_ways 33 = .ok (.if_icmp .lt 9, 3) := by decide +kernel
theorem dX8_ways_36 : decode cX8_ways 36 = .ok (.aload_n 0, 1) := by decide +kernel
theorem dX8_ways_37 : decode cX8_ways 37 = .ok (.invokevirtual 119, 3) := by decide +kernel
theorem dX8_ways_40 : decode cX8_ways 40 = .ok (.i2l, 1) := by decide +kernel
theorem dX8_ways_41 : decode cX8_ways 41 = .ok (.lreturn, 1) := by decide +kernel
theorem dX8_ways_42 : decode cX8_ways 42 = .ok (.aload_n 0, 1) := by decide +kernel
theorem dX8_ways_43 : decode cX8_ways 43 = .ok (.iload_n 1, 1) := by decide +kernel
theorem dX8_ways_44 : decode cX8_ways 44 = .ok (.invokevirtual 205, 3) := by decide +kernel
theorem dX8_ways_47 : decode cX8_ways 47 = .ok (.lstore 4, 2) := by decide +kernel
theorem dX8_ways_49 : decode cX8_ways 49 = .ok (.iconst 0, 1) := by decide +kernel
theorem dX8_ways_50 : decode cX8_ways 50 = .ok (.istore 6, 2) := by decide +kernel
theorem dX8_ways_52 : decode cX8_ways 52 = .ok (.iload 6, 2) := by decide +kernel
theorem dX8_ways_54 : decode cX8_ways 54 = .ok (.aload_n 0, 1) := by decide +kernel
theorem dX8_ways_55 : decode cX8_ways 55 = .ok (.getfield 13, 3) := by decide +kernel
theorem dX8_ways_58 : decode cX8_ways 58 = .ok (.if_icmp .ge 68, 3) := by decide +kernel
theorem dX8_ways_61 : decode cX8_ways 61 = .ok (.aload_n 0, 1) := by decide +kernel
theorem dX8_ways_62 : decode cX8_ways 62 = .ok (.getfield 66, 3) := by decide +kernel
theorem dX8_ways_65 : decode cX8_ways 65 = .ok (.iload 6, 2) := by decide +kernel
theorem dX8_ways_67 : decode cX8_ways 67 = .ok (.iload_n 3, 1) := by decide +kernel
theorem dX8_ways_68 : decode cX8_ways 68 = .ok (.ifCond .ne 22, 3) := by decide +kernel
theorem dX8_ways_71 : decode cX8_ways 71 = .ok (.aload_n 0, 1) := by decide +kernel
theorem dX8_ways_72 : decode cX8_ways 72 = .ok (.iload_n 1, 1) := by decide +kernel
theorem dX8_ways_73 : decode cX8_ways 73 = .ok (.iload_n 2, 1) := by decide +kernel
theorem dX8_ways_74 : decode cX8_ways 74 = .ok (.iload 6, 2) := by decide +kernel
theorem dX8_ways_76 : decode cX8_ways 76 = .ok (.invokevirtual 191, 3) := by decide +kernel
theorem dX8_ways_79 : decode cX8_ways 79 = .ok (.ifCond .eq 7, 3) := by decide +kernel
theorem dX8_ways_82 : decode cX8_ways 82 = .ok (.lconst 1, 1) := by decide +kernel
theorem dX8_ways_83 : decode cX8_ways 83 = .ok (.goto 36, 3) := by decide +kernel
theorem dX8_ways_86 : decode cX8_ways 86 = .ok (.lconst 0, 1) := by decide +kernel
theorem dX8_ways_87 : decode cX8_ways 87 = .ok (.goto 32, 3) := by decide +kernel
theorem dX8_ways_90 : decode cX8_ways 90 = .ok (.aload_n 0, 1) := by decide +kernel
theorem dX8_ways_91 : decode cX8_ways 91 = .ok (.getfield 50, 3) := by decide +kernel
theorem dX8_ways_94 : decode cX8_ways 94 = .ok (.bipush 32, 2) := by decide +kernel
theorem dX8_ways_96 : decode cX8_ways 96 = .ok (.iload_n 2, 1) := by decide +kernel
theorem dX8_ways_97 : decode cX8_ways 97 = .ok (.imul, 1) := by decide +kernel
theorem dX8_ways_98 : decode cX8_ways 98 = .ok (.iload 6, 2) := by decide +kernel
theorem dX8_ways_100 : decode cX8_ways 100 = .ok (.iadd, 1) := by decide +kernel
theorem dX8_ways_101 : decode cX8_ways 101 = .ok (.laload, 1) := by decide +kernel
theorem dX8_ways_102 : decode cX8_ways 102 = .ok (.lconst 0, 1) := by decide +kernel
theorem dX8_ways_103 : decode cX8_ways 103 = .ok (.lcmp, 1) := by decide +kernel
theorem dX8_ways_104 : decode cX8_ways 104 = .ok (.ifCond .le 14, 3) := by decide +kernel
theorem dX8_ways_107 : decode cX8_ways 107 = .ok (.lload 4, 2) := by decide +kernel
theorem dX8_ways_109 : decode cX8_ways 109 = .ok (.lconst 0, 1) := by decide +kernel
theorem dX8_ways_110 : decode cX8_ways 110 = .ok (.lcmp, 1) := by decide +kernel
theorem dX8_ways_111 : decode cX8_ways 111 = .ok (.ifCond .le 7, 3) := by decide +kernel
theorem dX8_ways_114 : decode cX8_ways 114 = .ok (.lconst 1, 1) := by decide +kernel
theorem dX8_ways_115 : decode cX8_ways 115 = .ok (.goto 4, 3) := by decide +kernel
theorem dX8_ways_118 : decode cX8_ways 118 = .ok (.lconst 0, 1) := by decide +kernel
theorem dX8_ways_119 : decode cX8_ways 119 = .ok (.lastore, 1) := by decide +kernel
theorem dX8_ways_120 : decode cX8_ways 120 = .ok (.iinc 6 1, 3) := by decide +kernel
theorem dX8_ways_123 : decode cX8_ways 123 = .ok (.goto (-71), 3) := by decide +kernel
theorem dX8_ways_126 : decode cX8_ways 126 = .ok (.iload_n 2, 1) := by decide +kernel
theorem dX8_ways_127 : decode cX8_ways 127 = .ok (.istore 6, 2) := by decide +kernel
theorem dX8_ways_129 : decode cX8_ways 129 = .ok (.iload 6, 2) := by decide +kernel
theorem dX8_ways_131 : decode cX8_ways 131 = .ok (.ifCond .eq 32, 3) := by decide +kernel
theorem dX8_ways_134 : decode cX8_ways 134 = .ok (.aload_n 0, 1) := by decide +kernel
theorem dX8_ways_135 : decode cX8_ways 135 = .ok (.iload_n 1, 1) := by decide +kernel
theorem dX8_ways_136 : decode cX8_ways 136 = .ok (.iload 6, 2) := by decide +kernel
theorem dX8_ways_138 : decode cX8_ways 138 = .ok (.iload_n 3, 1) := by decide +kernel
theorem dX8_ways_139 : decode cX8_ways 139 = .ok (.iconst 1, 1) := by decide +kernel
theorem dX8_ways_140 : decode cX8_ways 140 = .ok (.if_icmp .ne 7, 3) := by decide +kernel
theorem dX8_ways_143 : decode cX8_ways 143 = .ok (.iconst 1, 1) := by decide +kernel
theorem dX8_ways_144 : decode cX8_ways 144 = .ok (.goto 4, 3) := by decide +kernel
theorem dX8_ways_147 : decode cX8_ways 147 = .ok (.iconst 0, 1) := by decide +kernel
theorem dX8_ways_148 : decode cX8_ways 148 = .ok (.invokevirtual 216, 3) := by decide +kernel
theorem dX8_ways_151 : decode cX8_ways 151 = .ok (.aload_n 0, 1) := by decide +kernel
theorem dX8_ways_152 : decode cX8_ways 152 = .ok (.iload_n 1, 1) := by decide +kernel
theorem dX8_ways_153 : decode cX8_ways 153 = .ok (.iload 6, 2) := by decide +kernel
theorem dX8_ways_155 : decode cX8_ways 155 = .ok (.invokevirtual 113, 3) := by decide +kernel
theorem dX8_ways_158 : decode cX8_ways 158 = .ok (.istore 6, 2) := by decide +kernel
theorem dX8_ways_160 : decode cX8_ways 160 = .ok (.goto (-31), 3) := by decide +kernel
theorem dX8_ways_163 : decode cX8_ways 163 = .ok (.lconst 0, 1) := by decide +kernel
theorem dX8_ways_164 : decode cX8_ways 164 = .ok (.lstore 6, 2) := by decide +kernel
theorem dX8_ways_166 : decode cX8_ways 166 = .ok (.iconst 0, 1) := by decide +kernel
theorem dX8_ways_167 : decode cX8_ways 167 = .ok (.istore 8, 2) := by decide +kernel
theorem dX8_ways_169 : decode cX8_ways 169 = .ok (.iload 8, 2) := by decide +kernel
theorem dX8_ways_171 : decode cX8_ways 171 = .ok (.aload_n 0, 1) := by decide +kernel
theorem dX8_ways_172 : decode cX8_ways 172 = .ok (.getfield 13, 3) := by decide +kernel
theorem dX8_ways_175 : decode cX8_ways 175 = .ok (.if_icmp .ge 21, 3) := by decide +kernel
theorem dX8_ways_178 : decode cX8_ways 178 = .ok (.lload 6, 2) := by decide +kernel
theorem dX8_ways_180 : decode cX8_ways 180 = .ok (.aload_n 0, 1) := by decide +kernel
theorem dX8_ways_181 : decode cX8_ways 181 = .ok (.getfield 66, 3) := by decide +kernel
theorem dX8_ways_184 : decode cX8_ways 184 = .ok (.iload 8, 2) := by decide +kernel
theorem dX8_ways_186 : decode cX8_ways 186 = .ok (.laload, 1) := by decide +kernel
theorem dX8_ways_187 : decode cX8_ways 187 = .ok (.ladd, 1) := by decide +kernel
theorem dX8_ways_188 : decode cX8_ways 188 = .ok (.lstore 6, 2) := by decide +kernel
theorem dX8_ways_190 : decode cX8_ways 190 = .ok (.iinc 8 1, 3) := by decide +kernel
theorem dX8_ways_193 : decode cX8_ways 193 = .ok (.goto (-24), 3) := by decide +kernel
theorem dX8_ways_196 : decode cX8_ways 196 = .ok (.lload 6, 2) := by decide +kernel
theorem dX8_ways_198 : decode cX8_ways 198 = .ok (.lreturn, 1) := by decide +kernel
set_option maxHeartbeats 4000000 in
set_option maxRecDepth 100000 in
theorem c_X8_ways (l : Launch) (B : Nat) (D : va_G) (cA : Nat → ClassId) (m : Mm) (x0 : Nat) (x1 : Int32) (x2 : Int32) (x3 : Int32) (rZ : Int64) (mZ : Mm) (hf : f_X8_ways m x0 x1 x2 x3 = some (rZ, mZ)) : Mt l B D cA yX8_ways cX8_ways 9 (some .long) 6 143 0 0 [.ref (B + x0), .int x1, .int x2, .int x3] m (some (.long rZ)) mZ := by
  refine r_start (by decide) (Nat.le_of_ble_eq_true rfl) ?_
  intro p e s mt args below meth c ls H locs X hr hlocks hnm hR hl hS
  have hx := X.1
  have hb := X.2.1
  have hl : lv_has ls 9 [(0, .ref (B + x0)), (1, .int x1), (2, .int x2), (3, .int x3)] := hl
  unfold f_X8_ways at hf
  refine lv_iload_n hx hb dX8_ways_0 rfl (lv_at hl 1 rfl) ?_
  obtain ⟨v2, g1, hf⟩ := ob hf
  refine r_callS X kw_X8_161 (c_X8_isTwig l B D cA m x1 v2 g1) ⟨Nat.le_of_ble_eq_true rfl, Nat.le_of_ble_eq_true rfl⟩ hR hS hl.1 rfl rfl (Nat.le_of_ble_eq_true rfl) ⟨Nat.le_of_ble_eq_true rfl, Nat.le_of_ble_eq_true rfl⟩ dX8_ways_1 (fun H locs hR hS => ?_)
  refine W.eq (g2 := F0 mt 4 ls [.int v2]) rfl ?_
  refine lv_if_eq (tgt := 20) hx hb dX8_ways_4 (by decide) (fun c3 => ?_) (fun c3 => ?_)
  · rw [if_pos c3] at hf
    refine lv_aload_n hx hb dX8_ways_20 rfl (lv_at hl 0 rfl) ?_
    obtain ⟨o4, h5, hf⟩ := obO hf
    obtain ⟨t7, g6, hf⟩ := ob hf
    refine r_callV X kw_X8_134 (ci := 8) rfl (c_X8_bad l B D cA m x0 t7.1 t7.2 g6) ⟨Nat.le_of_ble_eq_true rfl, Nat.le_of_ble_eq_true rfl⟩ h5 hR hS hl.1 rfl rfl (Nat.le_of_ble_eq_true rfl) ⟨Nat.le_of_ble_eq_true rfl, Nat.le_of_ble_eq_true rfl⟩ dX8_ways_21 (fun H locs hR hS => ?_)
    refine W.eq (g2 := F0 mt 24 ls [.int t7.1]) rfl ?_
    refine lv_i2l (v := t7.1.toInt64) hx hb dX8_ways_24 rfl ?_
    obtain ⟨rfl, rfl⟩ := Prod.mk.inj (Option.some.inj hf)
    exact r_lret X hr hlocks hR hS dX8_ways_25
  · rw [if_neg c3] at hf
    refine lv_iload_n hx hb dX8_ways_7 rfl (lv_at hl 2 rfl) ?_
    refine lv_if_lt (tgt := 20) hx hb dX8_ways_8 (by decide) (fun c8 => ?_) (fun c8 => ?_)
    · rw [if_pos c8] at hf
      refine lv_aload_n hx hb dX8_ways_20 rfl (lv_at hl 0 rfl) ?_
      obtain ⟨o9, h10, hf⟩ := obO hf
      obtain ⟨t12, g11, hf⟩ := ob hf
      refine r_callV X kw_X8_134 (ci := 8) rfl (c_X8_bad l B D cA m x0 t12.1 t12.2 g11) ⟨Nat.le_of_ble_eq_true rfl, Nat.le_of_ble_eq_true rfl⟩ h10 hR hS hl.1 rfl rfl (Nat.le_of_ble_eq_true rfl) ⟨Nat.le_of_ble_eq_true rfl, Nat.le_of_ble_eq_true rfl⟩ dX8_ways_21 (fun H locs hR hS => ?_)
      refine W.eq (g2 := F0 mt 24 ls [.int t12.1]) rfl ?_
      refine lv_i2l (v := t12.1.toInt64) hx hb dX8_ways_24 rfl ?_
      obtain ⟨rfl, rfl⟩ := Prod.mk.inj (Option.some.inj hf)
      exact r_lret X hr hlocks hR hS dX8_ways_25
    · rw [if_neg c8] at hf
      refine lv_iload_n hx hb dX8_ways_11 rfl (lv_at hl 3 rfl) ?_
      refine lv_iconst (v := 0) hx hb dX8_ways_12 (by decide) ?_
      refine lv_iconst (v := 1) hx hb dX8_ways_13 (by decide) ?_
      obtain ⟨v14, g13, hf⟩ := ob hf
      refine r_callS X kw_X8_90 (c_X8_in l B D cA m x3 (0 : Int32) (1 : Int32) v14 g13) ⟨Nat.le_of_ble_eq_true rfl, Nat.le_of_ble_eq_true rfl⟩ hR hS hl.1 rfl rfl (Nat.le_of_ble_eq_true rfl) ⟨Nat.le_of_ble_eq_true rfl, Nat.le_of_ble_eq_true rfl⟩ dX8_ways_14 (fun H locs hR hS => ?_)
      refine W.eq (g2 := F0 mt 17 ls [.int v14]) rfl ?_
      refine lv_if_ne (tgt := 26) hx hb dX8_ways_17 (by decide) (fun c15 => ?_) (fun c15 => ?_)
      · rw [if_neg c15] at hf
        refine lv_iload_n hx hb dX8_ways_26 rfl (lv_at hl 2 rfl) ?_
        refine lv_aload_n hx hb dX8_ways_27 rfl (lv_at hl 0 rfl) ?_
        obtain ⟨v16, g17, hf⟩ := ob hf
        refine gR_X8_32 X hR g17 dX8_ways_28 ?_
        refine lv_iload_n hx hb dX8_ways_31 rfl (lv_at hl 1 rfl) ?_
        obtain ⟨v18, g19, hf⟩ := ob hf
        refine r_lI X hR g19 dX8_ways_32 ?_
        refine lv_icmp_lt (tgt := 42) hx hb dX8_ways_33 (by decide) (fun c20 => ?_) (fun c20 => ?_)
        · rw [if_pos c20] at hf
          refine lv_aload_n hx hb dX8_ways_42 rfl (lv_at hl 0 rfl) ?_
          refine lv_iload_n hx hb dX8_ways_43 rfl (lv_at hl 1 rfl) ?_
          obtain ⟨o21, h22, hf⟩ := obO hf
          obtain ⟨t24, g23, hf⟩ := ob hf
          refine r_callV X kw_X8_205 (ci := 8) rfl (c_X8_matchesOf l B D cA m x0 x1 t24.1 t24.2 g23) ⟨Nat.le_of_ble_eq_true rfl, Nat.le_of_ble_eq_true rfl⟩ h22 hR hS hl.1 rfl rfl (Nat.le_of_ble_eq_true rfl) ⟨Nat.le_of_ble_eq_true rfl, Nat.le_of_ble_eq_true rfl⟩ dX8_ways_44 (fun H locs hR hS => ?_)
          refine W.eq (g2 := F0 mt 47 ls [.long t24.1]) rfl ?_
          refine lv_lstore (lv' := [(4, .long t24.1), (0, .ref (B + x0)), (1, .int x1), (2, .int x2), (3, .int x3)]) hx hb dX8_ways_47 hl (by decide) rfl (fun ls hl => ?_)
          refine lv_iconst (v := 0) hx hb dX8_ways_49 (by decide) ?_
          refine lv_istore (lv' := [(6, .int (0 : Int32)), (4, .long t24.1), (0, .ref (B + x0)), (1, .int x1), (2, .int x2), (3, .int x3)]) hx hb dX8_ways_50 hl (by decide) rfl (fun ls hl => ?_)
          obtain ⟨e26, hwe26, hf⟩ := ob hf
          refine whl_rule (P := (fun t25 => ∀ (H : Heap) (locs : List Loc) (ls : Array Slot), Rl B D cA t25.2 H → va_S (fun q => B ≤ q) s.heap H locs → lv_has ls 9 [(0, .ref (B + x0)), (1, .int x1), (2, .int x2), (3, .int x3), (4, .long t24.1), (6, .int t25.1)] → W p l e (rmm 6 0 0 143) s mt args below meth c H locs 0 0 (MQ below (mQ B D cA (some (.long rZ)) mZ) args s 0 0 (fun q => B ≤ q)) (F0 mt 52 ls []))) (Qx := (fun e26 => ∀ (H : Heap) (locs : List Loc) (ls : Array Slot), Rl B D cA e26 H → va_S (fun q => B ≤ q) s.heap H locs → lv_has ls 9 [(0, .ref (B + x0)), (1, .int x1), (2, .int x2), (3, .int x3)] → W p l e (rmm 6 0 0 143) s mt args below meth c H locs 0 0 (MQ below (mQ B D cA (some (.long rZ)) mZ) args s 0 0 (fun q => B ≤ q)) (F0 mt 126 ls []))) ?_ FU _ e26 hwe26 ?_ H locs ls hR hS (lv_sub hl [2, 3, 4, 5, 1, 0] rfl)
          · clear hwe26 hf
            intro t25 q27 hf hxlq27 hxrq27 H locs ls hR hS hl
            obtain ⟨z28, m29⟩ := t25
            have hf : f_X8_ways_L52 m29 x0 x1 x2 x3 t24.1 z28 = some q27 := hf
            have hR : Rl B D cA m29 H := hR
            have hl : lv_has ls 9 [(0, .ref (B + x0)), (1, .int x1), (2, .int x2), (3, .int x3), (4, .long t24.1), (6, .int z28)] := hl
            unfold f_X8_ways_L52 at hf
            refine lv_iload hx hb dX8_ways_52 (lv_at hl 5 rfl) ?_
            refine lv_aload_n hx hb dX8_ways_54 rfl (lv_at hl 0 rfl) ?_
            obtain ⟨v30, g31, hf⟩ := ob hf
            refine gI_X8_13 X hR g31 dX8_ways_55 ?_
            refine lv_icmp_ge (tgt := 126) hx hb dX8_ways_58 (by decide) (fun c32 => ?_) (fun c32 => ?_)
            · rw [if_pos c32] at hf
              obtain rfl := Option.some.inj hf
              exact hxrq27 _ rfl H locs ls hR hS (lv_sub hl [0, 1, 2, 3] rfl)
            · rw [if_neg c32] at hf
              refine lv_aload_n hx hb dX8_ways_61 rfl (lv_at hl 0 rfl) ?_
              obtain ⟨v33, g34, hf⟩ := ob hf
              refine gR_X8_66 X hR g34 dX8_ways_62 ?_
              refine lv_iload hx hb dX8_ways_65 (lv_at hl 5 rfl) ?_
              refine lv_iload_n hx hb dX8_ways_67 rfl (lv_at hl 3 rfl) ?_
              refine lv_if_ne (tgt := 90) hx hb dX8_ways_68 (by decide) (fun c35 => ?_) (fun c35 => ?_)
              · rw [if_neg c35] at hf
                refine lv_aload_n hx hb dX8_ways_90 rfl (lv_at hl 0 rfl) ?_
                obtain ⟨v36, g37, hf⟩ := ob hf
                refine gR_X8_50 X hR g37 dX8_ways_91 ?_
                refine lv_bipush (v := 32) hx hb dX8_ways_94 (by decide) ?_
                refine lv_iload_n hx hb dX8_ways_96 rfl (lv_at hl 2 rfl) ?_
                refine lv_imul hx hb dX8_ways_97 ?_
                refine lv_iload hx hb dX8_ways_98 (lv_at hl 5 rfl) ?_
                refine lv_iadd hx hb dX8_ways_100 ?_
                obtain ⟨v38, g39, hf⟩ := ob hf
                refine r_lJ X hR g39 dX8_ways_101 ?_
                refine lv_lconst (v := 0) hx hb dX8_ways_102 (by decide) ?_
                refine r_lc_le (tgt := 118) X dX8_ways_103 dX8_ways_104 (by decide) (fun c40 => ?_) (fun c40 => ?_)
                · rw [if_pos c40] at hf
                  refine lv_lconst (v := 0) hx hb dX8_ways_118 (by decide) ?_
                  obtain ⟨m41, g42, hf⟩ := ob hf
                  refine r_sJ X hR hS g42 dX8_ways_119 (fun H locs hR hS => ?_)
                  refine lv_iinc (v := (z28 + 1)) (lv' := [(6, .int (z28 + 1)), (0, .ref (B + x0)), (1, .int x1), (2, .int x2), (3, .int x3), (4, .long t24.1)]) hx hb dX8_ways_120 hl (k := 5) rfl (congrArg (fun z => z28 + z) (by decide)) (by decide) rfl (fun ls hl => ?_)
                  refine lv_goto (tgt := 52) hx hb dX8_ways_123 (by decide) ?_
                  obtain rfl := Option.some.inj hf
                  exact hxlq27 _ rfl H locs ls hR hS (lv_sub hl [1, 2, 3, 4, 5, 0] rfl)
                · rw [if_neg c40] at hf
                  refine lv_lload hx hb dX8_ways_107 (lv_at hl 4 rfl) ?_
                  refine lv_lconst (v := 0) hx hb dX8_ways_109 (by decide) ?_
                  refine r_lc_le (tgt := 118) X dX8_ways_110 dX8_ways_111 (by decide) (fun c43 => ?_) (fun c43 => ?_)
                  · rw [if_pos c43] at hf
                    refine lv_lconst (v := 0) hx hb dX8_ways_118 (by decide) ?_
                    obtain ⟨m44, g45, hf⟩ := ob hf
                    refine r_sJ X hR hS g45 dX8_ways_119 (fun H locs hR hS => ?_)
                    refine lv_iinc (v := (z28 + 1)) (lv' := [(6, .int (z28 + 1)), (0, .ref (B + x0)), (1, .int x1), (2, .int x2), (3, .int x3), (4, .long t24.1)]) hx hb dX8_ways_120 hl (k := 5) rfl (congrArg (fun z => z28 + z) (by decide)) (by decide) rfl (fun ls hl => ?_)
                    refine lv_goto (tgt := 52) hx hb dX8_ways_123 (by decide) ?_
                    obtain rfl := Option.some.inj hf
                    exact hxlq27 _ rfl H locs ls hR hS (lv_sub hl [1, 2, 3, 4, 5, 0] rfl)
                  · rw [if_neg c43] at hf
                    refine lv_lconst (v := 1) hx hb dX8_ways_114 (by decide) ?_
                    refine lv_goto (tgt := 119) hx hb dX8_ways_115 (by decide) ?_
                    obtain ⟨m46, g47, hf⟩ := ob hf
                    refine r_sJ X hR hS g47 dX8_ways_119 (fun H locs hR hS => ?_)
                    refine lv_iinc (v := (z28 + 1)) (lv' := [(6, .int (z28 + 1)), (0, .ref (B + x0)), (1, .int x1), (2, .int x2), (3, .int x3), (4, .long t24.1)]) hx hb dX8_ways_120 hl (k := 5) rfl (congrArg (fun z => z28 + z) (by decide)) (by decide) rfl (fun ls hl => ?_)
                    refine lv_goto (tgt := 52) hx hb dX8_ways_123 (by decide) ?_
                    obtain rfl := Option.some.inj hf
                    exact hxlq27 _ rfl H locs ls hR hS (lv_sub hl [1, 2, 3, 4, 5, 0] rfl)
              · rw [if_pos c35] at hf
                refine lv_aload_n hx hb dX8_ways_71 rfl (lv_at hl 0 rfl) ?_
                refine lv_iload_n hx hb dX8_ways_72 rfl (lv_at hl 1 rfl) ?_
                refine lv_iload_n hx hb dX8_ways_73 rfl (lv_at hl 2 rfl) ?_
                refine lv_iload hx hb dX8_ways_74 (lv_at hl 5 rfl) ?_
                obtain ⟨o48, h49, hf⟩ := obO hf
                obtain ⟨v51, g50, hf⟩ := ob hf
                refine r_callV X kw_X8_191 (ci := 8) rfl (c_X8_fitsIn l B D cA m29 x0 x1 x2 z28 v51 g50) ⟨Nat.le_of_ble_eq_true rfl, Nat.le_of_ble_eq_true rfl⟩ h49 hR hS hl.1 rfl rfl (Nat.le_of_ble_eq_true rfl) ⟨Nat.le_of_ble_eq_true rfl, Nat.le_of_ble_eq_true rfl⟩ dX8_ways_76 (fun H locs hR hS => ?_)
                refine W.eq (g2 := F0 mt 79 ls [.int v51, .int z28, .ref (B + v33)]) rfl ?_
                refine lv_if_eq (tgt := 86) hx hb dX8_ways_79 (by decide) (fun c52 => ?_) (fun c52 => ?_)
                · rw [if_pos c52] at hf
                  refine lv_lconst (v := 0) hx hb dX8_ways_86 (by decide) ?_
                  refine lv_goto (tgt := 119) hx hb dX8_ways_87 (by decide) ?_
                  obtain ⟨m53, g54, hf⟩ := ob hf
                  refine r_sJ X hR hS g54 dX8_ways_119 (fun H locs hR hS => ?_)
                  refine lv_iinc (v := (z28 + 1)) (lv' := [(6, .int (z28 + 1)), (0, .ref (B + x0)), (1, .int x1), (2, .int x2), (3, .int x3), (4, .long t24.1)]) hx hb dX8_ways_120 hl (k := 5) rfl (congrArg (fun z => z28 + z) (by decide)) (by decide) rfl (fun ls hl => ?_)
                  refine lv_goto (tgt := 52) hx hb dX8_ways_123 (by decide) ?_
                  obtain rfl := Option.some.inj hf
                  exact hxlq27 _ rfl H locs ls hR hS (lv_sub hl [1, 2, 3, 4, 5, 0] rfl)
                · rw [if_neg c52] at hf
                  refine lv_lconst (v := 1) hx hb dX8_ways_82 (by decide) ?_
                  refine lv_goto (tgt := 119) hx hb dX8_ways_83 (by decide) ?_
                  obtain ⟨m55, g56, hf⟩ := ob hf
                  refine r_sJ X hR hS g56 dX8_ways_119 (fun H locs hR hS => ?_)
                  refine lv_iinc (v := (z28 + 1)) (lv' := [(6, .int (z28 + 1)), (0, .ref (B + x0)), (1, .int x1), (2, .int x2), (3, .int x3), (4, .long t24.1)]) hx hb dX8_ways_120 hl (k := 5) rfl (congrArg (fun z => z28 + z) (by decide)) (by decide) rfl (fun ls hl => ?_)
                  refine lv_goto (tgt := 52) hx hb dX8_ways_123 (by decide) ?_
                  obtain rfl := Option.some.inj hf
                  exact hxlq27 _ rfl H locs ls hR hS (lv_sub hl [1, 2, 3, 4, 5, 0] rfl)
          · intro H locs ls hR hS hl
            refine lv_iload_n hx hb dX8_ways_126 rfl (lv_at hl 2 rfl) ?_
            refine lv_istore (lv' := [(6, .int x2), (0, .ref (B + x0)), (1, .int x1), (2, .int x2), (3, .int x3)]) hx hb dX8_ways_127 hl (by decide) rfl (fun ls hl => ?_)
            obtain ⟨e58, hwe58, hf⟩ := ob hf
            refine whl_rule (P := (fun t57 => ∀ (H : Heap) (locs : List Loc) (ls : Array Slot), Rl B D cA t57.2 H → va_S (fun q => B ≤ q) s.heap H locs → lv_has ls 9 [(0, .ref (B + x0)), (1, .int x1), (3, .int x3), (6, .int t57.1)] → W p l e (rmm 6 0 0 143) s mt args below meth c H locs 0 0 (MQ below (mQ B D cA (some (.long rZ)) mZ) args s 0 0 (fun q => B ≤ q)) (F0 mt 129 ls []))) (Qx := (fun e58 => ∀ (H : Heap) (locs : List Loc) (ls : Array Slot), Rl B D cA e58 H → va_S (fun q => B ≤ q) s.heap H locs → lv_has ls 9 [(0, .ref (B + x0))] → W p l e (rmm 6 0 0 143) s mt args below meth c H locs 0 0 (MQ below (mQ B D cA (some (.long rZ)) mZ) args s 0 0 (fun q => B ≤ q)) (F0 mt 163 ls []))) ?_ FU _ e58 hwe58 ?_ H locs ls hR hS (lv_sub hl [1, 2, 4, 0] rfl)
            · clear hwe58 hf
              intro t57 q59 hf hxlq59 hxrq59 H locs ls hR hS hl
              obtain ⟨z60, m61⟩ := t57
              have hf : f_X8_ways_L129 m61 x0 x1 x3 z60 = some q59 := hf
              have hR : Rl B D cA m61 H := hR
              have hl : lv_has ls 9 [(0, .ref (B + x0)), (1, .int x1), (3, .int x3), (6, .int z60)] := hl
              unfold f_X8_ways_L129 at hf
              refine lv_iload hx hb dX8_ways_129 (lv_at hl 3 rfl) ?_
              refine lv_if_eq (tgt := 163) hx hb dX8_ways_131 (by decide) (fun c62 => ?_) (fun c62 => ?_)
              · rw [if_pos c62] at hf
                obtain rfl := Option.some.inj hf
                exact hxrq59 _ rfl H locs ls hR hS (lv_sub hl [0] rfl)
              · rw [if_neg c62] at hf
                refine lv_aload_n hx hb dX8_ways_134 rfl (lv_at hl 0 rfl) ?_
                refine lv_iload_n hx hb dX8_ways_135 rfl (lv_at hl 1 rfl) ?_
                refine lv_iload hx hb dX8_ways_136 (lv_at hl 3 rfl) ?_
                refine lv_iload_n hx hb dX8_ways_138 rfl (lv_at hl 2 rfl) ?_
                refine lv_iconst (v := 1) hx hb dX8_ways_139 (by decide) ?_
                obtain ⟨t63, hjt63, hf⟩ := ob hf
                have hJt63 : ∀ (H : Heap) (locs : List Loc) (ls : Array Slot), Rl B D cA m61 H → va_S (fun q => B ≤ q) s.heap H locs → lv_has ls 9 [(0, .ref (B + x0)), (1, .int x1), (3, .int x3), (6, .int z60)] → W p l e (rmm 6 0 0 143) s mt args below meth c H locs 0 0 (MQ below (mQ B D cA (some (.long rZ)) mZ) args s 0 0 (fun q => B ≤ q)) (F0 mt 148 ls [.int t63, .int z60, .int x1, .ref (B + x0)]) := by
                  intro H locs ls hR hS hl
                  obtain ⟨o65, h66, hf⟩ := obO hf
                  obtain ⟨m68, g67, hf⟩ := ob hf
                  refine r_callV X kw_X8_216 (ci := 8) rfl (c_X8_climbs l B D cA m61 x0 x1 z60 t63 m68 g67) ⟨Nat.le_of_ble_eq_true rfl, Nat.le_of_ble_eq_true rfl⟩ h66 hR hS hl.1 rfl rfl (Nat.le_of_ble_eq_true rfl) ⟨Nat.le_of_ble_eq_true rfl, Nat.le_of_ble_eq_true rfl⟩ dX8_ways_148 (fun H locs hR hS => ?_)
                  refine W.eq (g2 := F0 mt 151 ls []) rfl ?_
                  refine lv_aload_n hx hb dX8_ways_151 rfl (lv_at hl 0 rfl) ?_
                  refine lv_iload_n hx hb dX8_ways_152 rfl (lv_at hl 1 rfl) ?_
                  refine lv_iload hx hb dX8_ways_153 (lv_at hl 3 rfl) ?_
                  obtain ⟨o69, h70, hf⟩ := obO hf
                  obtain ⟨v72, g71, hf⟩ := ob hf
                  refine r_callV X kw_X8_113 (ci := 8) rfl (c_X8_ofNode l B D cA m68 x0 x1 z60 v72 g71) ⟨Nat.le_of_ble_eq_true rfl, Nat.le_of_ble_eq_true rfl⟩ h70 hR hS hl.1 rfl rfl (Nat.le_of_ble_eq_true rfl) ⟨Nat.le_of_ble_eq_true rfl, Nat.le_of_ble_eq_true rfl⟩ dX8_ways_155 (fun H locs hR hS => ?_)
                  refine W.eq (g2 := F0 mt 158 ls [.int v72]) rfl ?_
                  refine lv_istore (lv' := [(6, .int v72), (0, .ref (B + x0)), (1, .int x1), (3, .int x3)]) hx hb dX8_ways_158 hl (by decide) rfl (fun ls hl => ?_)
                  refine lv_goto (tgt := 129) hx hb dX8_ways_160 (by decide) ?_
                  obtain rfl := Option.some.inj hf
                  exact hxlq59 _ rfl H locs ls hR hS (lv_sub hl [1, 2, 3, 0] rfl)
                have hf := hjt63
                clear hjt63
                refine lv_icmp_ne (tgt := 147) hx hb dX8_ways_140 (by decide) (fun c64 => ?_) (fun c64 => ?_)
                · rw [if_neg c64] at hf
                  refine lv_iconst (v := 0) hx hb dX8_ways_147 (by decide) ?_
                  obtain rfl := Option.some.inj hf
                  exact hJt63 H locs ls hR hS (lv_sub hl [0, 1, 2, 3] rfl)
                · rw [if_pos c64] at hf
                  refine lv_iconst (v := 1) hx hb dX8_ways_143 (by decide) ?_
                  refine lv_goto (tgt := 148) hx hb dX8_ways_144 (by decide) ?_
                  obtain rfl := Option.some.inj hf
                  exact hJt63 H locs ls hR hS (lv_sub hl [0, 1, 2, 3] rfl)
            · intro H locs ls hR hS hl
              refine lv_lconst (v := 0) hx hb dX8_ways_163 (by decide) ?_
              refine lv_lstore (lv' := [(6, .long (0 : Int64)), (0, .ref (B + x0))]) hx hb dX8_ways_164 hl (by decide) rfl (fun ls hl => ?_)
              refine lv_iconst (v := 0) hx hb dX8_ways_166 (by decide) ?_
              refine lv_istore (lv' := [(8, .int (0 : Int32)), (6, .long (0 : Int64)), (0, .ref (B + x0))]) hx hb dX8_ways_167 hl (by decide) rfl (fun ls hl => ?_)
              obtain ⟨e74, hwe74, hf⟩ := ob hf
              refine whl_rule (P := (fun t73 => ∀ (H : Heap) (locs : List Loc) (ls : Array Slot), Rl B D cA e58 H → va_S (fun q => B ≤ q) s.heap H locs → lv_has ls 9 [(0, .ref (B + x0)), (6, .long t73.1), (8, .int t73.2)] → W p l e (rmm 6 0 0 143) s mt args below meth c H locs 0 0 (MQ below (mQ B D cA (some (.long rZ)) mZ) args s 0 0 (fun q => B ≤ q)) (F0 mt 169 ls []))) (Qx := (fun e74 => ∀ (H : Heap) (locs : List Loc) (ls : Array Slot), Rl B D cA e58 H → va_S (fun q => B ≤ q) s.heap H locs → lv_has ls 9 [(6, .long e74)] → W p l e (rmm 6 0 0 143) s mt args below meth c H locs 0 0 (MQ below (mQ B D cA (some (.long rZ)) mZ) args s 0 0 (fun q => B ≤ q)) (F0 mt 196 ls []))) ?_ FU _ e74 hwe74 ?_ H locs ls hR hS (lv_sub hl [2, 1, 0] rfl)
              · clear hwe74 hf
                intro t73 q75 hf hxlq75 hxrq75 H locs ls hR hS hl
                obtain ⟨z76, z77⟩ := t73
                have hf : f_X8_ways_L169 e58 x0 z76 z77 = some q75 := hf
                have hR : Rl B D cA e58 H := hR
                have hl : lv_has ls 9 [(0, .ref (B + x0)), (6, .long z76), (8, .int z77)] := hl
                unfold f_X8_ways_L169 at hf
                refine lv_iload hx hb dX8_ways_169 (lv_at hl 2 rfl) ?_
                refine lv_aload_n hx hb dX8_ways_171 rfl (lv_at hl 0 rfl) ?_
                obtain ⟨v78, g79, hf⟩ := ob hf
                refine gI_X8_13 X hR g79 dX8_ways_172 ?_
                refine lv_icmp_ge (tgt := 196) hx hb dX8_ways_175 (by decide) (fun c80 => ?_) (fun c80 => ?_)
                · rw [if_pos c80] at hf
                  obtain rfl := Option.some.inj hf
                  exact hxrq75 _ rfl H locs ls hR hS (lv_sub hl [1] rfl)
                · rw [if_neg c80] at hf
                  refine lv_lload hx hb dX8_ways_178 (lv_at hl 1 rfl) ?_
                  refine lv_aload_n hx hb dX8_ways_180 rfl (lv_at hl 0 rfl) ?_
                  obtain ⟨v81, g82, hf⟩ := ob hf
                  refine gR_X8_66 X hR g82 dX8_ways_181 ?_
                  refine lv_iload hx hb dX8_ways_184 (lv_at hl 2 rfl) ?_
                  obtain ⟨v83, g84, hf⟩ := ob hf
                  refine r_lJ X hR g84 dX8_ways_186 ?_
                  refine lv_ladd hx hb dX8_ways_187 ?_
                  refine lv_lstore (lv' := [(6, .long (z76 + v83)), (0, .ref (B + x0)), (8, .int z77)]) hx hb dX8_ways_188 hl (by decide) rfl (fun ls hl => ?_)
                  refine lv_iinc (v := (z77 + 1)) (lv' := [(8, .int (z77 + 1)), (6, .long (z76 + v83)), (0, .ref (B + x0))]) hx hb dX8_ways_190 hl (k := 2) rfl (congrArg (fun z => z77 + z) (by decide)) (by decide) rfl (fun ls hl => ?_)
                  refine lv_goto (tgt := 169) hx hb dX8_ways_193 (by decide) ?_
                  obtain rfl := Option.some.inj hf
                  exact hxlq75 _ rfl H locs ls hR hS (lv_sub hl [2, 1, 0] rfl)
              · intro H locs ls hR hS hl
                refine lv_lload hx hb dX8_ways_196 (lv_at hl 0 rfl) ?_
                obtain ⟨rfl, rfl⟩ := Prod.mk.inj (Option.some.inj hf)
                exact r_lret X hr hlocks hR hS dX8_ways_198
        · rw [if_neg c20] at hf
          refine lv_aload_n hx hb dX8_ways_36 rfl (lv_at hl 0 rfl) ?_
          obtain ⟨o85, h86, hf⟩ := obO hf
          obtain ⟨t88, g87, hf⟩ := ob hf
          refine r_callV X kw_X8_119 (ci := 8) rfl (c_X8_no l B D cA m x0 t88.1 t88.2 g87) ⟨Nat.le_of_ble_eq_true rfl, Nat.le_of_ble_eq_true rfl⟩ h86 hR hS hl.1 rfl rfl (Nat.le_of_ble_eq_true rfl) ⟨Nat.le_of_ble_eq_true rfl, Nat.le_of_ble_eq_true rfl⟩ dX8_ways_37 (fun H locs hR hS => ?_)
          refine W.eq (g2 := F0 mt 40 ls [.int t88.1]) rfl ?_
          refine lv_i2l (v := t88.1.toInt64) hx hb dX8_ways_40 rfl ?_
          obtain ⟨rfl, rfl⟩ := Prod.mk.inj (Option.some.inj hf)
          exact r_lret X hr hlocks hR hS dX8_ways_41
      · rw [if_pos c15] at hf
        refine lv_aload_n hx hb dX8_ways_20 rfl (lv_at hl 0 rfl) ?_
        obtain ⟨o89, h90, hf⟩ := obO hf
        obtain ⟨t92, g91, hf⟩ := ob hf
        refine r_callV X kw_X8_134 (ci := 8) rfl (c_X8_bad l B D cA m x0 t92.1 t92.2 g91) ⟨Nat.le_of_ble_eq_true rfl, Nat.le_of_ble_eq_true rfl⟩ h90 hR hS hl.1 rfl rfl (Nat.le_of_ble_eq_true rfl) ⟨Nat.le_of_ble_eq_true rfl, Nat.le_of_ble_eq_true rfl⟩ dX8_ways_21 (fun H locs hR hS => ?_)
        refine W.eq (g2 := F0 mt 24 ls [.int t92.1]) rfl ?_
        refine lv_i2l (v := t92.1.toInt64) hx hb dX8_ways_24 rfl ?_
        obtain ⟨rfl, rfl⟩ := Prod.mk.inj (Option.some.inj hf)
        exact r_lret X hr hlocks hR hS dX8_ways_25
/-! ===== TwigMatchesModel.less(II)J ===== -/
theorem dX8_less_0 : decode cX8_less 0 = .ok (.iload_n 1, 1) := by decide +kernel
theorem dX8_less_1 : decode cX8_less 1 = .ok (.invokestatic 161, 3) := by decide +kernel
theorem dX8_less_4 : decode cX8_less 4 = .ok (.ifCond .eq 11, 3) := by decide +kernel
theorem dX8_less_7 : decode cX8_less 7 = .ok (.aload_n 0, 1) := by decide +kernel
theorem dX8_less_8 : decode cX8_less 8 = .ok (.iload_n 2, 1) := by decide +kernel
theorem dX8_less_9 : decode cX8_less 9 = .ok (.invokevirtual 126, 3) := by decide +kernel
theorem dX8_less_12 : decode cX8_less 12 = .ok (.ifCond .ne 9, 3) := by decide +kernel
theorem dX8_less_15 : decode cX8_less 15 = .ok (.aload_n 0, 1) := by decide +kernel
theorem dX8_less_16 : decode cX8_less 16 = .ok (.invokevirtual 134, 3) := by decide +kernel
theorem dX8_less_19 : decode cX8_less 19 = .ok (.i2l, 1) := by decide +kernel
theorem dX8_less_20 : decode cX8_less 20 = .ok (.lreturn, 1) := by decide +kernel
theorem dX8_less_21 : decode cX8_less 21 = .ok (.aload_n 0, 1) := by decide +kernel
theorem dX8_less_22 : decode cX8_less 22 = .ok (.getfield 32, 3) := by decide +kernel
theorem dX8_less_25 : decode cX8_less 25 = .ok (.iload_n 1, 1) := by decide +kernel
theorem dX8_less_26 : decode cX8_less 26 = .ok (.iaload, 1) := by decide +kernel
theorem dX8_less_27 : decode cX8_less 27 = .ok (.ifCond .eq 7, 3) := by decide +kernel
theorem dX8_less_30 : decode cX8_less 30 = .ok (.iload_n 2, 1) := by decide +kernel
theorem dX8_less_31 : decode cX8_less 31 = .ok (.ifCond .ne 9, 3) := by decide +kernel
theorem dX8_less_34 : decode cX8_less 34 = .ok (.aload_n 0, 1) := by decide +kernel
theorem dX8_less_35 : decode cX8_less 35 = .ok (.invokevirtual 119, 3) := by decide +kernel
theorem dX8_less_38 : decode cX8_less 38 = .ok (.i2l, 1) := by decide +kernel
theorem dX8_less_39 : decode cX8_less 39 = .ok (.lreturn, 1) := by decide +kernel
theorem dX8_less_40 : decode cX8_less 40 = .ok (.aload_n 0, 1) := by decide +kernel
theorem dX8_less_41 : decode cX8_less 41 = .ok (.iload_n 1, 1) := by decide +kernel
theorem dX8_less_42 : decode cX8_less 42 = .ok (.invokevirtual 205, 3) := by decide +kernel
theorem dX8_less_45 : decode cX8_less 45 = .ok (.lstore_n 3, 1) := by decide +kernel
theorem dX8_less_46 : decode cX8_less 46 = .ok (.iconst (-1), 1) := by decide +kernel
theorem dX8_less_47 : decode cX8_less 47 = .ok (.istore 5, 2) := by decide +kernel
theorem dX8_less_49 : decode cX8_less 49 = .ok (.iload_n 2, 1) := by decide +kernel
theorem dX8_less_50 : decode cX8_less 50 = .ok (.istore 6, 2) := by decide +kernel
theorem dX8_less_52 : decode cX8_less 52 = .ok (.iload 6, 2) := by decide +kernel
theorem dX8_less_54 : decode cX8_less 54 = .ok (.aload_n 0, 1) := by decide +kernel
theorem dX8_less_55 : decode cX8_less 55 = .ok (.getfield 26, 3) := by decide +kernel
theorem dX8_less_58 : decode cX8_less 58 = .ok (.iload_n 2, 1) := by decide +kernel
theorem dX8_less_59 : decode cX8_less 59 = .ok (.iaload, 1) := by decide +kernel
theorem dX8_less_60 : decode cX8_less 60 = .ok (.if_icmp .ge 20, 3) := by decide +kernel
theorem dX8_less_63 : decode cX8_less 63 = .ok (.iload 5, 2) := by decide +kernel
theorem dX8_less_65 : decode cX8_less 65 = .ok (.iconst 1, 1) := by decide +kernel
theorem dX8_less_66 : decode cX8_less 66 = .ok (.iload 6, 2) := by decide +kernel
theorem dX8_less_68 : decode cX8_less 68 = .ok (.ishl, 1) := by decide +kernel
theorem dX8_less_69 : decode cX8_less 69 = .ok (.iconst (-1), 1) := by decide +kernel
theorem dX8_less_70 : decode cX8_less 70 = .ok (.ixor, 1) := by decide +kernel
theorem dX8_less_71 : decode cX8_less 71 = .ok (.iand, 1) := by decide +kernel
theorem dX8_less_72 : decode cX8_less 72 = .ok (.istore 5, 2) := by decide +kernel
theorem dX8_less_74 : decode cX8_less 74 = .ok (.iinc 6 1, 3) := by decide +kernel
theorem dX8_less_77 : decode cX8_less 77 = .ok (.goto (-25), 3) := by decide +kernel
theorem dX8_less_80 : decode cX8_less 80 = .ok (.iconst 0, 1) := by decide +kernel
theorem dX8_less_81 : decode cX8_less 81 = .ok (.istore 6, 2) := by decide +kernel
theorem dX8_less_83 : decode cX8_less 83 = .ok (.iload 6, 2) := by decide +kernel
theorem dX8_less_85 : decode cX8_less 85 = .ok (.bipush 6, 2) := by decide +kernel
theorem dX8_less_87 : decode cX8_less 87 = .ok (.if_icmp .ge 18, 3) := by decide +kernel
theorem dX8_less_90 : decode cX8_less 90 = .ok (.aload_n 0, 1) := by decide +kernel
theorem dX8_less_91 : decode cX8_less 91 = .ok (.getfield 47, 3) := by decide +kernel
theorem dX8_less_94 : decode cX8_less 94 = .ok (.iload 6, 2) := by decide +kernel
theorem dX8_less_96 : decode cX8_less 96 = .ok (.iload 5, 2) := by decide +kernel
theorem dX8_less_98 : decode cX8_less 98 = .ok (.iastore, 1) := by decide +kernel
theorem dX8_less_99 : decode cX8_less 99 = .ok (.iinc 6 1, 3) := by decide +kernel
theorem dX8_less_102 : decode cX8_less 102 = .ok (.goto (-19), 3) := by decide +kernel
theorem dX8_less_105 : decode cX8_less 105 = .ok (.aload_n 0, 1) := by decide +kernel
theorem dX8_less_106 : decode cX8_less 106 = .ok (.iload_n 1, 1) := by decide +kernel
theorem dX8_less_107 : decode cX8_less 107 = .ok (.invokevirtual 201, 3) := by decide +kernel
theorem dX8_less_110 : decode cX8_less 110 = .ok (.lload_n 3, 1) := by decide +kernel
theorem dX8_less_111 : decode cX8_less 111 = .ok (.lsub, 1) := by decide +kernel
theorem dX8_less_112 : decode cX8_less 112 = .ok (.lreturn, 1) := by decide +kernel
set_option maxHeartbeats 4000000 in
set_option maxRecDepth 100000 in
theorem c_X8_less (l : Launch) (B : Nat) (D : va_G) (cA : Nat → ClassId) (m : Mm) (x0 : Nat) (x1 : Int32) (x2 : Int32) (rZ : Int64) (mZ : Mm) (hf : f_X8_less m x0 x1 x2 = some (rZ, mZ)) : Mt l B D cA yX8_less cX8_less 7 (some .long) 6 143 0 0 [.ref (B + x0), .int x1, .int x2] m (some (.long rZ)) mZ := by
  refine r_start (by decide) (Nat.le_of_ble_eq_true rfl) ?_
  intro p e s mt args below meth c ls H locs X hr hlocks hnm hR hl hS
  have hx := X.1
  have hb := X.2.1
  have hl : lv_has ls 7 [(0, .ref (B + x0)), (1, .int x1), (2, .int x2)] := hl
  unfold f_X8_less at hf
  refine lv_iload_n hx hb dX8_less_0 rfl (lv_at hl 1 rfl) ?_
  obtain ⟨v2, g1, hf⟩ := ob hf
  refine r_callS X kw_X8_161 (c_X8_isTwig l B D cA m x1 v2 g1) ⟨Nat.le_of_ble_eq_true rfl, Nat.le_of_ble_eq_true rfl⟩ hR hS hl.1 rfl rfl (Nat.le_of_ble_eq_true rfl) ⟨Nat.le_of_ble_eq_true rfl, Nat.le_of_ble_eq_true rfl⟩ dX8_less_1 (fun H locs hR hS => ?_)
  refine W.eq (g2 := F0 mt 4 ls [.int v2]) rfl ?_
  refine lv_if_eq (tgt := 15) hx hb dX8_less_4 (by decide) (fun c3 => ?_) (fun c3 => ?_)
  · rw [if_pos c3] at hf
    refine lv_aload_n hx hb dX8_less_15 rfl (lv_at hl 0 rfl) ?_
    obtain ⟨o4, h5, hf⟩ := obO hf
    obtain ⟨t7, g6, hf⟩ := ob hf
    refine r_callV X kw_X8_134 (ci := 8) rfl (c_X8_bad l B D cA m x0 t7.1 t7.2 g6) ⟨Nat.le_of_ble_eq_true rfl, Nat.le_of_ble_eq_true rfl⟩ h5 hR hS hl.1 rfl rfl (Nat.le_of_ble_eq_true rfl) ⟨Nat.le_of_ble_eq_true rfl, Nat.le_of_ble_eq_true rfl⟩ dX8_less_16 (fun H locs hR hS => ?_)
    refine W.eq (g2 := F0 mt 19 ls [.int t7.1]) rfl ?_
    refine lv_i2l (v := t7.1.toInt64) hx hb dX8_less_19 rfl ?_
    obtain ⟨rfl, rfl⟩ := Prod.mk.inj (Option.some.inj hf)
    exact r_lret X hr hlocks hR hS dX8_less_20
  · rw [if_neg c3] at hf
    refine lv_aload_n hx hb dX8_less_7 rfl (lv_at hl 0 rfl) ?_
    refine lv_iload_n hx hb dX8_less_8 rfl (lv_at hl 2 rfl) ?_
    obtain ⟨o8, h9, hf⟩ := obO hf
    obtain ⟨v11, g10, hf⟩ := ob hf
    refine r_callV X kw_X8_126 (ci := 8) rfl (c_X8_isElement l B D cA m x0 x2 v11 g10) ⟨Nat.le_of_ble_eq_true rfl, Nat.le_of_ble_eq_true rfl⟩ h9 hR hS hl.1 rfl rfl (Nat.le_of_ble_eq_true rfl) ⟨Nat.le_of_ble_eq_true rfl, Nat.le_of_ble_eq_true rfl⟩ dX8_less_9 (fun H locs hR hS => ?_)
    refine W.eq (g2 := F0 mt 12 ls [.int v11]) rfl ?_
    refine lv_if_ne (tgt := 21) hx hb dX8_less_12 (by decide) (fun c12 => ?_) (fun c12 => ?_)
    · rw [if_neg c12] at hf
      refine lv_aload_n hx hb dX8_less_21 rfl (lv_at hl 0 rfl) ?_
      obtain ⟨v13, g14, hf⟩ := ob hf
      refine gR_X8_32 X hR g14 dX8_less_22 ?_
      refine lv_iload_n hx hb dX8_less_25 rfl (lv_at hl 1 rfl) ?_
      obtain ⟨v15, g16, hf⟩ := ob hf
      refine r_lI X hR g16 dX8_less_26 ?_
      refine lv_if_eq (tgt := 34) hx hb dX8_less_27 (by decide) (fun c17 => ?_) (fun c17 => ?_)
      · rw [if_pos c17] at hf
        refine lv_aload_n hx hb dX8_less_34 rfl (lv_at hl 0 rfl) ?_
        obtain ⟨o18, h19, hf⟩ := obO hf
        obtain ⟨t21, g20, hf⟩ := ob hf
        refine r_callV X kw_X8_119 (ci := 8) rfl (c_X8_no l B D cA m x0 t21.1 t21.2 g20) ⟨Nat.le_of_ble_eq_true rfl, Nat.le_of_ble_eq_true rfl⟩ h19 hR hS hl.1 rfl rfl (Nat.le_of_ble_eq_true rfl) ⟨Nat.le_of_ble_eq_true rfl, Nat.le_of_ble_eq_true rfl⟩ dX8_less_35 (fun H locs hR hS => ?_)
        refine W.eq (g2 := F0 mt 38 ls [.int t21.1]) rfl ?_
        refine lv_i2l (v := t21.1.toInt64) hx hb dX8_less_38 rfl ?_
        obtain ⟨rfl, rfl⟩ := Prod.mk.inj (Option.some.inj hf)
        exact r_lret X hr hlocks hR hS dX8_less_39
      · rw [if_neg c17] at hf
        refine lv_iload_n hx hb dX8_less_30 rfl (lv_at hl 2 rfl) ?_
        refine lv_if_ne (tgt := 40) hx hb dX8_less_31 (by decide) (fun c22 => ?_) (fun c22 => ?_)
        · rw [if_neg c22] at hf
          refine lv_aload_n hx hb dX8_less_40 rfl (lv_at hl 0 rfl) ?_
          refine lv_iload_n hx hb dX8_less_41 rfl (lv_at hl 1 rfl) ?_
          obtain ⟨o23, h24, hf⟩ := obO hf
          obtain ⟨t26, g25, hf⟩ := ob hf
          refine r_callV X kw_X8_205 (ci := 8) rfl (c_X8_matchesOf l B D cA m x0 x1 t26.1 t26.2 g25) ⟨Nat.le_of_ble_eq_true rfl, Nat.le_of_ble_eq_true rfl⟩ h24 hR hS hl.1 rfl rfl (Nat.le_of_ble_eq_true rfl) ⟨Nat.le_of_ble_eq_true rfl, Nat.le_of_ble_eq_true rfl⟩ dX8_less_42 (fun H locs hR hS => ?_)
          refine W.eq (g2 := F0 mt 45 ls [.long t26.1]) rfl ?_
          refine lv_lstore_n (lv' := [(3, .long t26.1), (0, .ref (B + x0)), (1, .int x1), (2, .int x2)]) hx hb dX8_less_45 rfl hl (by decide) rfl (fun ls hl => ?_)
          refine lv_iconst (v := -1) hx hb dX8_less_46 (by decide) ?_
          refine lv_istore (lv' := [(5, .int (-1 : Int32)), (3, .long t26.1), (0, .ref (B + x0)), (1, .int x1), (2, .int x2)]) hx hb dX8_less_47 hl (by decide) rfl (fun ls hl => ?_)
          refine lv_iload_n hx hb dX8_less_49 rfl (lv_at hl 4 rfl) ?_
          refine lv_istore (lv' := [(6, .int x2), (5, .int (-1 : Int32)), (3, .long t26.1), (0, .ref (B + x0)), (1, .int x1), (2, .int x2)]) hx hb dX8_less_50 hl (by decide) rfl (fun ls hl => ?_)
          obtain ⟨e28, hwe28, hf⟩ := ob hf
          refine whl_rule (P := (fun t27 => ∀ (H : Heap) (locs : List Loc) (ls : Array Slot), Rl B D cA t26.2 H → va_S (fun q => B ≤ q) s.heap H locs → lv_has ls 7 [(0, .ref (B + x0)), (1, .int x1), (2, .int x2), (3, .long t26.1), (5, .int t27.1), (6, .int t27.2)] → W p l e (rmm 6 0 0 143) s mt args below meth c H locs 0 0 (MQ below (mQ B D cA (some (.long rZ)) mZ) args s 0 0 (fun q => B ≤ q)) (F0 mt 52 ls []))) (Qx := (fun e28 => ∀ (H : Heap) (locs : List Loc) (ls : Array Slot), Rl B D cA t26.2 H → va_S (fun q => B ≤ q) s.heap H locs → lv_has ls 7 [(0, .ref (B + x0)), (1, .int x1), (3, .long t26.1), (5, .int e28)] → W p l e (rmm 6 0 0 143) s mt args below meth c H locs 0 0 (MQ below (mQ B D cA (some (.long rZ)) mZ) args s 0 0 (fun q => B ≤ q)) (F0 mt 80 ls []))) ?_ FU _ e28 hwe28 ?_ H locs ls hR hS (lv_sub hl [3, 4, 5, 2, 1, 0] rfl)
          · clear hwe28 hf
            intro t27 q29 hf hxlq29 hxrq29 H locs ls hR hS hl
            obtain ⟨z30, z31⟩ := t27
            have hf : f_X8_less_L52 t26.2 x0 x1 x2 t26.1 z30 z31 = some q29 := hf
            have hR : Rl B D cA t26.2 H := hR
            have hl : lv_has ls 7 [(0, .ref (B + x0)), (1, .int x1), (2, .int x2), (3, .long t26.1), (5, .int z30), (6, .int z31)] := hl
            unfold f_X8_less_L52 at hf
            refine lv_iload hx hb dX8_less_52 (lv_at hl 5 rfl) ?_
            refine lv_aload_n hx hb dX8_less_54 rfl (lv_at hl 0 rfl) ?_
            obtain ⟨v32, g33, hf⟩ := ob hf
            refine gR_X8_26 X hR g33 dX8_less_55 ?_
            refine lv_iload_n hx hb dX8_less_58 rfl (lv_at hl 2 rfl) ?_
            obtain ⟨v34, g35, hf⟩ := ob hf
            refine r_lI X hR g35 dX8_less_59 ?_
            refine lv_icmp_ge (tgt := 80) hx hb dX8_less_60 (by decide) (fun c36 => ?_) (fun c36 => ?_)
            · rw [if_pos c36] at hf
              obtain rfl := Option.some.inj hf
              exact hxrq29 _ rfl H locs ls hR hS (lv_sub hl [0, 1, 3, 4] rfl)
            · rw [if_neg c36] at hf
              refine lv_iload hx hb dX8_less_63 (lv_at hl 4 rfl) ?_
              refine lv_iconst (v := 1) hx hb dX8_less_65 (by decide) ?_
              refine lv_iload hx hb dX8_less_66 (lv_at hl 5 rfl) ?_
              refine lv_ishl hx hb dX8_less_68 ?_
              refine lv_iconst (v := -1) hx hb dX8_less_69 (by decide) ?_
              refine lv_ixor hx hb dX8_less_70 ?_
              refine lv_iand hx hb dX8_less_71 ?_
              refine lv_istore (lv' := [(5, .int (z30 &&& (((1 : Int32) <<< (z31 &&& 31)) ^^^ (-1 : Int32)))), (0, .ref (B + x0)), (1, .int x1), (2, .int x2), (3, .long t26.1), (6, .int z31)]) hx hb dX8_less_72 hl (by decide) rfl (fun ls hl => ?_)
              refine lv_iinc (v := (z31 + 1)) (lv' := [(6, .int (z31 + 1)), (5, .int (z30 &&& (((1 : Int32) <<< (z31 &&& 31)) ^^^ (-1 : Int32)))), (0, .ref (B + x0)), (1, .int x1), (2, .int x2), (3, .long t26.1)]) hx hb dX8_less_74 hl (k := 5) rfl (congrArg (fun z => z31 + z) (by decide)) (by decide) rfl (fun ls hl => ?_)
              refine lv_goto (tgt := 52) hx hb dX8_less_77 (by decide) ?_
              obtain rfl := Option.some.inj hf
              exact hxlq29 _ rfl H locs ls hR hS (lv_sub hl [2, 3, 4, 5, 1, 0] rfl)
          · intro H locs ls hR hS hl
            refine lv_iconst (v := 0) hx hb dX8_less_80 (by decide) ?_
            refine lv_istore (lv' := [(6, .int (0 : Int32)), (0, .ref (B + x0)), (1, .int x1), (3, .long t26.1), (5, .int e28)]) hx hb dX8_less_81 hl (by decide) rfl (fun ls hl => ?_)
            obtain ⟨e38, hwe38, hf⟩ := ob hf
            refine whl_rule (P := (fun t37 => ∀ (H : Heap) (locs : List Loc) (ls : Array Slot), Rl B D cA t37.2 H → va_S (fun q => B ≤ q) s.heap H locs → lv_has ls 7 [(0, .ref (B + x0)), (1, .int x1), (3, .long t26.1), (5, .int e28), (6, .int t37.1)] → W p l e (rmm 6 0 0 143) s mt args below meth c H locs 0 0 (MQ below (mQ B D cA (some (.long rZ)) mZ) args s 0 0 (fun q => B ≤ q)) (F0 mt 83 ls []))) (Qx := (fun e38 => ∀ (H : Heap) (locs : List Loc) (ls : Array Slot), Rl B D cA e38 H → va_S (fun q => B ≤ q) s.heap H locs → lv_has ls 7 [(0, .ref (B + x0)), (1, .int x1), (3, .long t26.1)] → W p l e (rmm 6 0 0 143) s mt args below meth c H locs 0 0 (MQ below (mQ B D cA (some (.long rZ)) mZ) args s 0 0 (fun q => B ≤ q)) (F0 mt 105 ls []))) ?_ FU _ e38 hwe38 ?_ H locs ls hR hS (lv_sub hl [1, 2, 3, 4, 0] rfl)
            · clear hwe38 hf
              intro t37 q39 hf hxlq39 hxrq39 H locs ls hR hS hl
              obtain ⟨z40, m41⟩ := t37
              have hf : f_X8_less_L83 m41 x0 x1 t26.1 e28 z40 = some q39 := hf
              have hR : Rl B D cA m41 H := hR
              have hl : lv_has ls 7 [(0, .ref (B + x0)), (1, .int x1), (3, .long t26.1), (5, .int e28), (6, .int z40)] := hl
              unfold f_X8_less_L83 at hf
              refine lv_iload hx hb dX8_less_83 (lv_at hl 4 rfl) ?_
              refine lv_bipush (v := 6) hx hb dX8_less_85 (by decide) ?_
              refine lv_icmp_ge (tgt := 105) hx hb dX8_less_87 (by decide) (fun c42 => ?_) (fun c42 => ?_)
              · rw [if_pos c42] at hf
                obtain rfl := Option.some.inj hf
                exact hxrq39 _ rfl H locs ls hR hS (lv_sub hl [0, 1, 2] rfl)
              · rw [if_neg c42] at hf
                refine lv_aload_n hx hb dX8_less_90 rfl (lv_at hl 0 rfl) ?_
                obtain ⟨v43, g44, hf⟩ := ob hf
                refine gR_X8_47 X hR g44 dX8_less_91 ?_
                refine lv_iload hx hb dX8_less_94 (lv_at hl 4 rfl) ?_
                refine lv_iload hx hb dX8_less_96 (lv_at hl 3 rfl) ?_
                obtain ⟨m45, g46, hf⟩ := ob hf
                refine r_sI X hR hS g46 dX8_less_98 (fun H locs hR hS => ?_)
                refine lv_iinc (v := (z40 + 1)) (lv' := [(6, .int (z40 + 1)), (0, .ref (B + x0)), (1, .int x1), (3, .long t26.1), (5, .int e28)]) hx hb dX8_less_99 hl (k := 4) rfl (congrArg (fun z => z40 + z) (by decide)) (by decide) rfl (fun ls hl => ?_)
                refine lv_goto (tgt := 83) hx hb dX8_less_102 (by decide) ?_
                obtain rfl := Option.some.inj hf
                exact hxlq39 _ rfl H locs ls hR hS (lv_sub hl [1, 2, 3, 4, 0] rfl)
            · intro H locs ls hR hS hl
              refine lv_aload_n hx hb dX8_less_105 rfl (lv_at hl 0 rfl) ?_
              refine lv_iload_n hx hb dX8_less_106 rfl (lv_at hl 1 rfl) ?_
              obtain ⟨o47, h48, hf⟩ := obO hf
              obtain ⟨t50, g49, hf⟩ := ob hf
              refine r_callV X kw_X8_201 (ci := 8) rfl (c_X8_counts l B D cA e38 x0 x1 t50.1 t50.2 g49) ⟨Nat.le_of_ble_eq_true rfl, Nat.le_of_ble_eq_true rfl⟩ h48 hR hS hl.1 rfl rfl (Nat.le_of_ble_eq_true rfl) ⟨Nat.le_of_ble_eq_true rfl, Nat.le_of_ble_eq_true rfl⟩ dX8_less_107 (fun H locs hR hS => ?_)
              refine W.eq (g2 := F0 mt 110 ls [.long t50.1]) rfl ?_
              refine lv_lload_n hx hb dX8_less_110 rfl (lv_at hl 2 rfl) ?_
              refine lv_lsub hx hb dX8_less_111 ?_
              obtain ⟨rfl, rfl⟩ := Prod.mk.inj (Option.some.inj hf)
              exact r_lret X hr hlocks hR hS dX8_less_112
        · rw [if_pos c22] at hf
          refine lv_aload_n hx hb dX8_less_34 rfl (lv_at hl 0 rfl) ?_
          obtain ⟨o51, h52, hf⟩ := obO hf
          obtain ⟨t54, g53, hf⟩ := ob hf
          refine r_callV X kw_X8_119 (ci := 8) rfl (c_X8_no l B D cA m x0 t54.1 t54.2 g53) ⟨Nat.le_of_ble_eq_true rfl, Nat.le_of_ble_eq_true rfl⟩ h52 hR hS hl.1 rfl rfl (Nat.le_of_ble_eq_true rfl) ⟨Nat.le_of_ble_eq_true rfl, Nat.le_of_ble_eq_true rfl⟩ dX8_less_35 (fun H locs hR hS => ?_)
          refine W.eq (g2 := F0 mt 38 ls [.int t54.1]) rfl ?_
          refine lv_i2l (v := t54.1.toInt64) hx hb dX8_less_38 rfl ?_
          obtain ⟨rfl, rfl⟩ := Prod.mk.inj (Option.some.inj hf)
          exact r_lret X hr hlocks hR hS dX8_less_39
    · rw [if_pos c12] at hf
      refine lv_aload_n hx hb dX8_less_15 rfl (lv_at hl 0 rfl) ?_
      obtain ⟨o55, h56, hf⟩ := obO hf
      obtain ⟨t58, g57, hf⟩ := ob hf
      refine r_callV X kw_X8_134 (ci := 8) rfl (c_X8_bad l B D cA m x0 t58.1 t58.2 g57) ⟨Nat.le_of_ble_eq_true rfl, Nat.le_of_ble_eq_true rfl⟩ h56 hR hS hl.1 rfl rfl (Nat.le_of_ble_eq_true rfl) ⟨Nat.le_of_ble_eq_true rfl, Nat.le_of_ble_eq_true rfl⟩ dX8_less_16 (fun H locs hR hS => ?_)
      refine W.eq (g2 := F0 mt 19 ls [.int t58.1]) rfl ?_
      refine lv_i2l (v := t58.1.toInt64) hx hb dX8_less_19 rfl ?_
      obtain ⟨rfl, rfl⟩ := Prod.mk.inj (Option.some.inj hf)
      exact r_lret X hr hlocks hR hS dX8_less_20
/-! ===== TwigMatchesModel.type(I)I ===== -/
theorem dX8_type_0 : decode cX8_type 0 = .ok (.iload_n 1, 1) := by decide +kernel
theorem dX8_type_1 : decode cX8_type 1 = .ok (.iconst 0, 1) := by decide +kernel
theorem dX8_type_2 : decode cX8_type 2 = .ok (.bipush 127, 2) := by decide +kernel
theorem dX8_type_4 : decode cX8_type 4 = .ok (.invokestatic 90, 3) := by decide +kernel
theorem dX8_type_7 : decode cX8_type 7 = .ok (.ifCond .ne 8, 3) := by decide +kernel
theorem dX8_type_10 : decode cX8_type 10 = .ok (.aload_n 0, 1) := by decide +kernel
theorem dX8_type_11 : decode cX8_type 11 = .ok (.invokevirtual 134, 3) := by decide +kernel
theorem dX8_type_14 : decode cX8_type 14 = .ok (.ireturn, 1) := by decide +kernel
theorem dX8_type_15 : decode cX8_type 15 = .ok (.aload_n 0, 1) := by decide +kernel
theorem dX8_type_16 : decode cX8_type 16 = .ok (.getfield 220, 3) := by decide +kernel
theorem dX8_type_19 : decode cX8_type 19 = .ok (.bipush 120, 2) := by decide +kernel
theorem dX8_type_21 : decode cX8_type 21 = .ok (.if_icmp .ne 8, 3) := by decide +kernel
theorem dX8_type_24 : decode cX8_type 24 = .ok (.aload_n 0, 1) := by decide +kernel
theorem dX8_type_25 : decode cX8_type 25 = .ok (.invokevirtual 137, 3) := by decide +kernel
theorem dX8_type_28 : decode cX8_type 28 = .ok (.ireturn, 1) := by decide +kernel
theorem dX8_type_29 : decode cX8_type 29 = .ok (.aload_n 0, 1) := by decide +kernel
theorem dX8_type_30 : decode cX8_type 30 = .ok (.getfield 72, 3) := by decide +kernel
theorem dX8_type_33 : decode cX8_type 33 = .ok (.aload_n 0, 1) := by decide +kernel
theorem dX8_type_34 : decode cX8_type 34 = .ok (.getfield 220, 3) := by decide +kernel
theorem dX8_type_37 : decode cX8_type 37 = .ok (.iload_n 1, 1) := by decide +kernel
theorem dX8_type_38 : decode cX8_type 38 = .ok (.iastore, 1) := by decide +kernel
theorem dX8_type_39 : decode cX8_type 39 = .ok (.aload_n 0, 1) := by decide +kernel
theorem dX8_type_40 : decode cX8_type 40 = .ok (.dup, 1) := by decide +kernel
theorem dX8_type_41 : decode cX8_type 41 = .ok (.getfield 220, 3) := by decide +kernel
theorem dX8_type_44 : decode cX8_type 44 = .ok (.iconst 1, 1) := by decide +kernel
theorem dX8_type_45 : decode cX8_type 45 = .ok (.iadd, 1) := by decide +kernel
theorem dX8_type_46 : decode cX8_type 46 = .ok (.putfield 220, 3) := by decide +kernel
theorem dX8_type_49 : decode cX8_type 49 = .ok (.aload_n 0, 1) := by decide +kernel
theorem dX8_type_50 : decode cX8_type 50 = .ok (.getfield 220, 3) := by decide +kernel
theorem dX8_type_53 : decode cX8_type 53 = .ok (.ireturn, 1) := by decide +kernel
set_option maxHeartbeats 4000000 in
set_option maxRecDepth 100000 in
theorem c_X8_type (l : Launch) (B : Nat) (D : va_G) (cA : Nat → ClassId) (m : Mm) (x0 : Nat) (x1 : Int32) (rZ : Int32) (mZ : Mm) (hf : f_X8_type m x0 x1 = some (rZ, mZ)) : Mt l B D cA yX8_type cX8_type 2 (some .int) 1 22 0 0 [.ref (B + x0), .int x1] m (some (.int rZ)) mZ := by
  refine r_start (by decide) (Nat.le_of_ble_eq_true rfl) ?_
  intro p e s mt args below meth c ls H locs X hr hlocks hnm hR hl hS
  have hx := X.1
  have hb := X.2.1
  have hl : lv_has ls 2 [(0, .ref (B + x0)), (1, .int x1)] := hl
  unfold f_X8_type at hf
  refine lv_iload_n hx hb dX8_type_0 rfl (lv_at hl 1 rfl) ?_
  refine lv_iconst (v := 0) hx hb dX8_type_1 (by decide) ?_
  refine lv_bipush (v := 127) hx hb dX8_type_2 (by decide) ?_
  obtain ⟨v2, g1, hf⟩ := ob hf
  refine r_callS X kw_X8_90 (c_X8_in l B D cA m x1 (0 : Int32) (127 : Int32) v2 g1) ⟨Nat.le_of_ble_eq_true rfl, Nat.le_of_ble_eq_true rfl⟩ hR hS hl.1 rfl rfl (Nat.le_of_ble_eq_true rfl) ⟨Nat.le_of_ble_eq_true rfl, Nat.le_of_ble_eq_true rfl⟩ dX8_type_4 (fun H locs hR hS => ?_)
  refine W.eq (g2 := F0 mt 7 ls [.int v2]) rfl ?_
  refine lv_if_ne (tgt := 15) hx hb dX8_type_7 (by decide) (fun c3 => ?_) (fun c3 => ?_)
  · rw [if_neg c3] at hf
    refine lv_aload_n hx hb dX8_type_15 rfl (lv_at hl 0 rfl) ?_
    obtain ⟨v4, g5, hf⟩ := ob hf
    refine gI_X8_220 X hR g5 dX8_type_16 ?_
    refine lv_bipush (v := 120) hx hb dX8_type_19 (by decide) ?_
    refine lv_icmp_ne (tgt := 29) hx hb dX8_type_21 (by decide) (fun c6 => ?_) (fun c6 => ?_)
    · rw [if_neg c6] at hf
      refine lv_aload_n hx hb dX8_type_29 rfl (lv_at hl 0 rfl) ?_
      obtain ⟨v7, g8, hf⟩ := ob hf
      refine gR_X8_72 X hR g8 dX8_type_30 ?_
      refine lv_aload_n hx hb dX8_type_33 rfl (lv_at hl 0 rfl) ?_
      obtain ⟨v9, g10, hf⟩ := ob hf
      refine gI_X8_220 X hR g10 dX8_type_34 ?_
      refine lv_iload_n hx hb dX8_type_37 rfl (lv_at hl 1 rfl) ?_
      obtain ⟨m11, g12, hf⟩ := ob hf
      refine r_sI X hR hS g12 dX8_type_38 (fun H locs hR hS => ?_)
      refine lv_aload_n hx hb dX8_type_39 rfl (lv_at hl 0 rfl) ?_
      refine lv_dup hx hb dX8_type_40 rfl ?_
      obtain ⟨v13, g14, hf⟩ := ob hf
      refine gI_X8_220 X hR g14 dX8_type_41 ?_
      refine lv_iconst (v := 1) hx hb dX8_type_44 (by decide) ?_
      refine lv_iadd hx hb dX8_type_45 ?_
      obtain ⟨m15, g16, hf⟩ := ob hf
      refine pI_X8_220 X hR hS g16 dX8_type_46 (fun H locs hR hS => ?_)
      refine lv_aload_n hx hb dX8_type_49 rfl (lv_at hl 0 rfl) ?_
      obtain ⟨v17, g18, hf⟩ := ob hf
      refine gI_X8_220 X hR g18 dX8_type_50 ?_
      obtain ⟨rfl, rfl⟩ := Prod.mk.inj (Option.some.inj hf)
      exact r_iret X hr hlocks hR hS rfl dX8_type_53
    · rw [if_pos c6] at hf
      refine lv_aload_n hx hb dX8_type_24 rfl (lv_at hl 0 rfl) ?_
      obtain ⟨o19, h20, hf⟩ := obO hf
      obtain ⟨t22, g21, hf⟩ := ob hf
      refine r_callV X kw_X8_137 (ci := 8) rfl (c_X8_full l B D cA m x0 t22.1 t22.2 g21) ⟨Nat.le_of_ble_eq_true rfl, Nat.le_of_ble_eq_true rfl⟩ h20 hR hS hl.1 rfl rfl (Nat.le_of_ble_eq_true rfl) ⟨Nat.le_of_ble_eq_true rfl, Nat.le_of_ble_eq_true rfl⟩ dX8_type_25 (fun H locs hR hS => ?_)
      refine W.eq (g2 := F0 mt 28 ls [.int t22.1]) rfl ?_
      obtain ⟨rfl, rfl⟩ := Prod.mk.inj (Option.some.inj hf)
      exact r_iret X hr hlocks hR hS rfl dX8_type_28
  · rw [if_pos c3] at hf
    refine lv_aload_n hx hb dX8_type_10 rfl (lv_at hl 0 rfl) ?_
    obtain ⟨o23, h24, hf⟩ := obO hf
    obtain ⟨t26, g25, hf⟩ := ob hf
    refine r_callV X kw_X8_134 (ci := 8) rfl (c_X8_bad l B D cA m x0 t26.1 t26.2 g25) ⟨Nat.le_of_ble_eq_true rfl, Nat.le_of_ble_eq_true rfl⟩ h24 hR hS hl.1 rfl rfl (Nat.le_of_ble_eq_true rfl) ⟨Nat.le_of_ble_eq_true rfl, Nat.le_of_ble_eq_true rfl⟩ dX8_type_11 (fun H locs hR hS => ?_)
    refine W.eq (g2 := F0 mt 14 ls [.int t26.1]) rfl ?_
    obtain ⟨rfl, rfl⟩ := Prod.mk.inj (Option.some.inj hf)
    exact r_iret X hr hlocks hR hS rfl dX8_type_14
/-! ===== TwigMatchesModel.clear()I ===== -/
theorem dX8_clear_0 : decode cX8_clear 0 = .ok (.aload_n 0, 1) := by decide +kernel
theorem dX8_clear_1 : decode cX8_clear 1 = .ok (.getfield 220, 3) := by decide +kernel
theorem dX8_clear_4 : decode cX8_clear 4 = .ok (.istore_n 1, 1) := by decide +kernel
theorem dX8_clear_5 : decode cX8_clear 5 = .ok (.aload_n 0, 1) := by decide +kernel
theorem dX8_clear_6 : decode cX8_clear 6 = .ok (.iconst 0, 1) := by decide +kernel
theorem dX8_clear_7 : decode cX8_clear 7 = .ok (.putfield 220, 3) := by decide +kernel
theorem dX8_clear_10 : decode cX8_clear 10 = .ok (.iload_n 1, 1) := by decide +kernel
theorem dX8_clear_11 : decode cX8_clear 11 = .ok (.ireturn, 1) := by decide +kernel
set_option maxHeartbeats 4000000 in
set_option maxRecDepth 100000 in
theorem c_X8_clear (l : Launch) (B : Nat) (D : va_G) (cA : Nat → ClassId) (m : Mm) (x0 : Nat) (rZ : Int32) (mZ : Mm) (hf : f_X8_clear m x0 = some (rZ, mZ)) : Mt l B D cA yX8_clear cX8_clear 2 (some .int) 0 0 0 0 [.ref (B + x0)] m (some (.int rZ)) mZ := by
  refine r_start (by decide) (Nat.le_of_ble_eq_true rfl) ?_
  intro p e s mt args below meth c ls H locs X hr hlocks hnm hR hl hS
  have hx := X.1
  have hb := X.2.1
  have hl : lv_has ls 2 [(0, .ref (B + x0))] := hl
  unfold f_X8_clear at hf
  refine lv_aload_n hx hb dX8_clear_0 rfl (lv_at hl 0 rfl) ?_
  obtain ⟨v1, g2, hf⟩ := ob hf
  refine gI_X8_220 X hR g2 dX8_clear_1 ?_
  refine lv_istore_n (lv' := [(1, .int v1), (0, .ref (B + x0))]) hx hb dX8_clear_4 rfl hl (by decide) rfl (fun ls hl => ?_)
  refine lv_aload_n hx hb dX8_clear_5 rfl (lv_at hl 1 rfl) ?_
  refine lv_iconst (v := 0) hx hb dX8_clear_6 (by decide) ?_
  obtain ⟨m3, g4, hf⟩ := ob hf
  refine pI_X8_220 X hR hS g4 dX8_clear_7 (fun H locs hR hS => ?_)
  refine lv_iload_n hx hb dX8_clear_10 rfl (lv_at hl 0 rfl) ?_
  obtain ⟨rfl, rfl⟩ := Prod.mk.inj (Option.some.inj hf)
  exact r_iret X hr hlocks hR hS rfl dX8_clear_11
/-! ===== TwigMatchesModel.here()I ===== -/
theorem dX8_here_0 : decode cX8_here 0 = .ok (.aload_n 0, 1) := by decide +kernel
theorem dX8_here_1 : decode cX8_here 1 = .ok (.getfield 223, 3) := by decide +kernel
theorem dX8_here_4 : decode cX8_here 4 = .ok (.aload_n 0, 1) := by decide +kernel
theorem dX8_here_5 : decode cX8_here 5 = .ok (.getfield 220, 3) := by decide +kernel
theorem dX8_here_8 : decode cX8_here 8 = .ok (.if_icmp .ge 15, 3) := by decide +kernel
theorem dX8_here_11 : decode cX8_here 11 = .ok (.aload_n 0, 1) := by decide +kernel
theorem dX8_here_12 : decode cX8_here 12 = .ok (.getfield 72, 3) := by decide +kernel
theorem dX8_here_15 : decode cX8_here 15 = .ok (.aload_n 0, 1) := by decide +kernel
theorem dX8_here_16 : decode cX8_here 16 = .ok (.getfield 223, 3) := by decide +kernel
theorem dX8_here_19 : decode cX8_here 19 = .ok (.iaload, 1) := by decide +kernel
theorem dX8_here_20 : decode cX8_here 20 = .ok (.goto 4, 3) := by decide +kernel
theorem dX8_here_23 : decode cX8_here 23 = .ok (.iconst (-1), 1) := by decide +kernel
theorem dX8_here_24 : decode cX8_here 24 = .ok (.ireturn, 1) := by decide +kernel
set_option maxHeartbeats 4000000 in
set_option maxRecDepth 100000 in
theorem c_X8_here (l : Launch) (B : Nat) (D : va_G) (cA : Nat → ClassId) (m : Mm) (x0 : Nat) (rZ : Int32) (hf : f_X8_here m x0 = some rZ) : Mt l B D cA yX8_here cX8_here 1 (some .int) 0 0 0 0 [.ref (B + x0)] m (some (.int rZ)) m := by
  refine r_start (by decide) (Nat.le_of_ble_eq_true rfl) ?_
  intro p e s mt args below meth c ls H locs X hr hlocks hnm hR hl hS
  have hx := X.1
  have hb := X.2.1
  have hl : lv_has ls 1 [(0, .ref (B + x0))] := hl
  unfold f_X8_here at hf
  refine lv_aload_n hx hb dX8_here_0 rfl (lv_at hl 0 rfl) ?_
  obtain ⟨v1, g2, hf⟩ := ob hf
  refine gI_X8_223 X hR g2 dX8_here_1 ?_
  refine lv_aload_n hx hb dX8_here_4 rfl (lv_at hl 0 rfl) ?_
  obtain ⟨v3, g4, hf⟩ := ob hf
  refine gI_X8_220 X hR g4 dX8_here_5 ?_
  refine lv_icmp_ge (tgt := 23) hx hb dX8_here_8 (by decide) (fun c5 => ?_) (fun c5 => ?_)
  · rw [if_pos c5] at hf
    refine lv_iconst (v := -1) hx hb dX8_here_23 (by decide) ?_
    obtain rfl := Option.some.inj hf
    exact r_iret X hr hlocks hR hS rfl dX8_here_24
  · rw [if_neg c5] at hf
    refine lv_aload_n hx hb dX8_here_11 rfl (lv_at hl 0 rfl) ?_
    obtain ⟨v6, g7, hf⟩ := ob hf
    refine gR_X8_72 X hR g7 dX8_here_12 ?_
    refine lv_aload_n hx hb dX8_here_15 rfl (lv_at hl 0 rfl) ?_
    obtain ⟨v8, g9, hf⟩ := ob hf
    refine gI_X8_223 X hR g9 dX8_here_16 ?_
    obtain ⟨v10, g11, hf⟩ := ob hf
    refine r_lI X hR g11 dX8_here_19 ?_
    refine lv_goto (tgt := 24) hx hb dX8_here_20 (by decide) ?_
    obtain rfl := Option.some.inj hf
    exact r_iret X hr hlocks hR hS rfl dX8_here_24
/-! ===== TwigMatchesModel.wrong(I)Z ===== -/
theorem dX8_wrong_0 : decode cX8_wrong 0 = .ok (.aload_n 0, 1) := by decide +kernel
theorem dX8_wrong_1 : decode cX8_wrong 1 = .ok (.aload_n 0, 1) := by decide +kernel
theorem dX8_wrong_2 : decode cX8_wrong 2 = .ok (.getfield 223, 3) := by decide +kernel
theorem dX8_wrong_5 : decode cX8_wrong 5 = .ok (.putfield 226, 3) := by decide +kernel
theorem dX8_wrong_8 : decode cX8_wrong 8 = .ok (.aload_n 0, 1) := by decide +kernel
theorem dX8_wrong_9 : decode cX8_wrong 9 = .ok (.iload_n 1, 1) := by decide +kernel
theorem dX8_wrong_10 : decode cX8_wrong 10 = .ok (.putfield 229, 3) := by decide +kernel
theorem dX8_wrong_13 : decode cX8_wrong 13 = .ok (.iconst 0, 1) := by decide +kernel
theorem dX8_wrong_14 : decode cX8_wrong 14 = .ok (.ireturn, 1) := by decide +kernel
set_option maxHeartbeats 4000000 in
set_option maxRecDepth 100000 in
theorem c_X8_wrong (l : Launch) (B : Nat) (D : va_G) (cA : Nat → ClassId) (m : Mm) (x0 : Nat) (x1 : Int32) (rZ : Int32) (mZ : Mm) (hf : f_X8_wrong m x0 x1 = some (rZ, mZ)) : Mt l B D cA yX8_wrong cX8_wrong 2 (some .boolean) 0 0 0 0 [.ref (B + x0), .int x1] m (some (.int rZ)) mZ := by
  refine r_start (by decide) (Nat.le_of_ble_eq_true rfl) ?_
  intro p e s mt args below meth c ls H locs X hr hlocks hnm hR hl hS
  have hx := X.1
  have hb := X.2.1
  have hl : lv_has ls 2 [(0, .ref (B + x0)), (1, .int x1)] := hl
  unfold f_X8_wrong at hf
  refine lv_aload_n hx hb dX8_wrong_0 rfl (lv_at hl 0 rfl) ?_
  refine lv_aload_n hx hb dX8_wrong_1 rfl (lv_at hl 0 rfl) ?_
  obtain ⟨v1, g2, hf⟩ := ob hf
  refine gI_X8_223 X hR g2 dX8_wrong_2 ?_
  obtain ⟨m3, g4, hf⟩ := ob hf
  refine pI_X8_226 X hR hS g4 dX8_wrong_5 (fun H locs hR hS => ?_)
  refine lv_aload_n hx hb dX8_wrong_8 rfl (lv_at hl 0 rfl) ?_
  refine lv_iload_n hx hb dX8_wrong_9 rfl (lv_at hl 1 rfl) ?_
  obtain ⟨m5, g6, hf⟩ := ob hf
  refine pI_X8_229 X hR hS g6 dX8_wrong_10 (fun H locs hR hS => ?_)
  refine lv_iconst (v := 0) hx hb dX8_wrong_13 (by decide) ?_
  obtain ⟨rfl, rfl⟩ := Prod.mk.inj (Option.some.inj hf)
  exact r_iret X hr hlocks hR hS rfl dX8_wrong_14
/-! ===== TwigMatchesModel.readsElement(I)Z ===== -/
theorem dX8_readsElement_0 : decode cX8_readsElement 0 = .ok (.aload_n 0, 1) := by decide +kernel
theorem dX8_readsElement_1 : decode cX8_readsElement 1 = .ok (.invokevirtual 232, 3) := by decide +kernel
theorem dX8_readsElement_4 : decode cX8_readsElement 4 = .ok (.bipush 97, 2) := by decide +kernel
theorem dX8_readsElement_6 : decode cX8_readsElement 6 = .ok (.bipush 102, 2) := by decide +kernel
theorem dX8_readsElement_8 : decode cX8_readsElement 8 = .ok (.invokestatic 90, 3) := by decide +kernel
theorem dX8_readsElement_11 : decode cX8_readsElement 11 = .ok (.ifCond .ne 9, 3) := by decide +kernel
theorem dX8_readsElement_14 : decode cX8_readsElement 14 = .ok (.aload_n 0, 1) := by decide +kernel
theorem dX8_readsElement_15 : decode cX8_readsElement 15 = .ok (.iconst 1, 1) := by decide +kernel
theorem dX8_readsElement_16 : decode cX8_readsElement 16 = .ok (.invokevirtual 235, 3) := by decide +kernel
theorem dX8_readsElement_19 : decode cX8_readsElement 19 = .ok (.ireturn, 1) := by decide +kernel
theorem dX8_readsElement_20 : decode cX8_readsElement 20 = .ok (.aload_n 0, 1) := by decide +kernel
theorem dX8_readsElement_21 : decode cX8_readsElement 21 = .ok (.getfield 238, 3) := by decide +kernel
theorem dX8_readsElement_24 : decode cX8_readsElement 24 = .ok (.bipush 32, 2) := by decide +kernel
theorem dX8_readsElement_26 : decode cX8_readsElement 26 = .ok (.if_icmp .ne 9, 3) := by decide +kernel
theorem dX8_readsElement_29 : decode cX8_readsElement 29 = .ok (.aload_n 0, 1) := by decide +kernel
theorem dX8_readsElement_30 : decode cX8_readsElement 30 = .ok (.iconst 2, 1) := by decide +kernel
theorem dX8_readsElement_31 : decode cX8_readsElement 31 = .ok (.invokevirtual 235, 3) := by decide +kernel
theorem dX8_readsElement_34 : decode cX8_readsElement 34 = .ok (.ireturn, 1) := by decide +kernel
theorem dX8_readsElement_35 : decode cX8_readsElement 35 = .ok (.iload_n 1, 1) := by decide +kernel
theorem dX8_readsElement_36 : decode cX8_readsElement 36 = .ok (.bipush 10, 2) := by decide +kernel
theorem dX8_readsElement_38 : decode cX8_readsElement 38 = .ok (.if_icmp .le 9, 3) := by decide +kernel
theorem dX8_readsElement_41 : decode cX8_readsElement 41 = .ok (.aload_n 0, 1) := by decide +kernel
theorem dX8_readsElement_42 : decode cX8_readsElement 42 = .ok (.iconst 3, 1) := by decide +kernel
theorem dX8_readsElement_43 : decode cX8_readsElement 43 = .ok (.invokevirtual 235, 3) := by decide +kernel
theorem dX8_readsElement_46 : decode cX8_readsElement 46 = .ok (.ireturn, 1) := by decide +kernel
theorem dX8_readsElement_47 : decode cX8_readsElement 47 = .ok (.aload_n 0, 1) := by decide +kernel
theorem dX8_readsElement_48 : decode cX8_readsElement 48 = .ok (.getfield 75, 3) := by decide +kernel
theorem dX8_readsElement_51 : decode cX8_readsElement 51 = .ok (.aload_n 0, 1) := by decide +kernel
theorem dX8_readsElement_52 : decode cX8_readsElement 52 = .ok (.getfield 238, 3) := by decide +kernel
theorem dX8_readsElement_55 : decode cX8_readsElement 55 = .ok (.aload_n 0, 1) := by decide +kernel
theorem dX8_readsElement_56 : decode cX8_readsElement 56 = .ok (.invokevirtual 232, 3) := by decide +kernel
theorem dX8_readsElement_59 : decode cX8_readsElement 59 = .ok (.bipush 97, 2) := by decide +kernel
theorem dX8_readsElement_61 : decode cX8_readsElement 61 = .ok (.isub, 1) := by decide +kernel
theorem dX8_readsElement_62 : decode cX8_readsElement 62 = .ok (.iastore, 1) := by decide +kernel
theorem dX8_readsElement_63 : decode cX8_readsElement 63 = .ok (.aload_n 0, 1) := by decide +kernel
theorem dX8_readsElement_64 : decode cX8_readsElement 64 = .ok (.getfield 78, 3) := by decide +kernel
theorem dX8_readsElement_67 : decode cX8_readsElement 67 = .ok (.aload_n 0, 1) := by decide +kernel
theorem dX8_readsElement_68 : decode cX8_readsElement 68 = .ok (.getfield 238, 3) := by decide +kernel
theorem dX8_readsElement_71 : decode cX8_readsElement 71 = .ok (.iconst 0, 1) := by decide +kernel
theorem dX8_readsElement_72 : decode cX8_readsElement 72 = .ok (.iastore, 1) := by decide +kernel
theorem dX8_readsElement_73 : decode cX8_readsElement 73 = .ok (.aload_n 0, 1) := by decide +kernel
theorem dX8_readsElement_74 : decode cX8_readsElement 74 = .ok (.getfield 81, 3) := by decide +kernel
theorem dX8_readsElement_77 : decode cX8_readsElement 77 = .ok (.aload_n 0, 1) := by decide +kernel
theorem dX8_readsElement_78 : decode cX8_readsElement 78 = .ok (.getfield 238, 3) := by decide +kernel
theorem dX8_readsElement_81 : decode cX8_readsElement 81 = .ok (.iload_n 1, 1) := by decide +kernel
theorem dX8_readsElement_82 : decode cX8_readsElement 82 = .ok (.iastore, 1) := by decide +kernel
theorem dX8_readsElement_83 : decode cX8_readsElement 83 = .ok (.aload_n 0, 1) := by decide +kernel
theorem dX8_readsElement_84 : decode cX8_readsElement 84 = .ok (.dup, 1) := by decide +kernel
theorem dX8_readsElement_85 : decode cX8_readsElement 85 = .ok (.getfield 223, 3) := by decide +kernel
theorem dX8_readsElement_88 : decode cX8_readsElement 88 = .ok (.iconst 1, 1) := by decide +kernel
theorem dX8_readsElement_89 : decode cX8_readsElement 89 = .ok (.iadd, 1) := by decide +kernel
theorem dX8_readsElement_90 : decode cX8_readsElement 90 = .ok (.putfield 223, 3) := by decide +kernel
theorem dX8_readsElement_93 : decode cX8_readsElement 93 = .ok (.aload_n 0, 1) := by decide +kernel
theorem dX8_readsElement_94 : decode cX8_readsElement 94 = .ok (.invokevirtual 232, 3) := by decide +kernel
theorem dX8_readsElement_97 : decode cX8_readsElement 97 = .ok (.bipush 48, 2) := by decide +kernel
theorem dX8_readsElement_99 : decode cX8_readsElement 99 = .ok (.bipush 57, 2) := by decide +kernel
theorem dX8_readsElement_101 : decode cX8_readsElement 101 = .ok (.invokestatic 90, 3) := by decide +kernel
theorem dX8_readsElement_104 : decode cX8_readsElement 104 = .ok (.ifCond .eq 29, 3) := by decide +kernel
theorem dX8_readsElement_107 : decode cX8_readsElement 107 = .ok (.aload_n 0, 1) := by decide +kernel
theorem dX8_readsElement_108 : decode cX8_readsElement 108 = .ok (.getfield 78, 3) := by decide +kernel
theorem dX8_readsElement_111 : decode cX8_readsElement 111 = .ok (.aload_n 0, 1) := by decide +kernel
theorem dX8_readsElement_112 : decode cX8_readsElement 112 = .ok (.getfield 238, 3) := by decide +kernel
theorem dX8_readsElement_115 : decode cX8_readsElement 115 = .ok (.aload_n 0, 1) := by decide +kernel
theorem dX8_readsElement_116 : decode cX8_readsElement 116 = .ok (.invokevirtual 232, 3) := by decide +kernel
theorem dX8_readsElement_119 : decode cX8_readsElement 119 = .ok (.bipush 48, 2) := by decide +kernel
theorem dX8_readsElement_121 : decode cX8_readsElement 121 = .ok (.isub, 1) := by decide +kernel
theorem dX8_readsElement_122 : decode cX8_readsElement 122 = .ok (.iastore, 1) := by decide +kernel
theorem dX8_readsElement_123 : decode cX8_readsElement 123 = .ok (.aload_n 0, 1) := by decide +kernel
theorem dX8_readsElement_124 : decode cX8_readsElement 124 = .ok (.dup, 1) := by decide +kernel
theorem dX8_readsElement_125 : decode cX8_readsElement 125 = .ok (.getfield 223, 3) := by decide +kernel
theorem dX8_readsElement_128 : decode cX8_readsElement 128 = .ok (.iconst 1, 1) := by decide +kernel
theorem dX8_readsElement_129 : decode cX8_readsElement 129 = .ok (.iadd, 1) := by decide +kernel
theorem dX8_readsElement_130 : decode cX8_readsElement 130 = .ok (.putfield 223, 3) := by decide +kernel
theorem dX8_readsElement_133 : decode cX8_readsElement 133 = .ok (.aload_n 0, 1) := by decide +kernel
theorem dX8_readsElement_134 : decode cX8_readsElement 134 = .ok (.dup, 1) := by decide +kernel
theorem dX8_readsElement_135 : decode cX8_readsElement 135 = .ok (.getfield 238, 3) := by decide +kernel
theorem dX8_readsElement_138 : decode cX8_readsElement 138 = .ok (.iconst 1, 1) := by decide +kernel
theorem dX8_readsElement_139 : decode cX8_readsElement 139 = .ok (.iadd, 1) := by decide +kernel
theorem dX8_readsElement_140 : decode cX8_readsElement 140 = .ok (.putfield 238, 3) := by decide +kernel
theorem dX8_readsElement_143 : decode cX8_readsElement 143 = .ok (.iconst 1, 1) := by decide +kernel
theorem dX8_readsElement_144 : decode cX8_readsElement 144 = .ok (.ireturn, 1) := by decide +kernel
set_option maxHeartbeats 4000000 in
set_option maxRecDepth 100000 in
theorem c_X8_readsElement (l : Launch) (B : Nat) (D : va_G) (cA : Nat → ClassId) (m : Mm) (x0 : Nat) (x1 : Int32) (rZ : Int32) (mZ : Mm) (hf : f_X8_readsElement m x0 x1 = some (rZ, mZ)) : Mt l B D cA yX8_readsElement cX8_readsElement 2 (some .boolean) 1 22 0 0 [.ref (B + x0), .int x1] m (some (.int rZ)) mZ := by
  refine r_start (by decide) (Nat.le_of_ble_eq_true rfl) ?_
  intro p e s mt args below meth c ls H locs X hr hlocks hnm hR hl hS
  have hx := X.1
  have hb := X.2.1
  have hl : lv_has ls 2 [(0, .ref (B + x0)), (1, .int x1)] := hl
  unfold f_X8_readsElement at hf
  refine lv_aload_n hx hb dX8_readsElement_0 rfl (lv_at hl 0 rfl) ?_
  obtain ⟨o1, h2, hf⟩ := obO hf
  obtain ⟨v4, g3, hf⟩ := ob hf
  refine r_callV X kw_X8_232 (ci := 8) rfl (c_X8_here l B D cA m x0 v4 g3) ⟨Nat.le_of_ble_eq_true rfl, Nat.le_of_ble_eq_true rfl⟩ h2 hR hS hl.1 rfl rfl (Nat.le_of_ble_eq_true rfl) ⟨Nat.le_of_ble_eq_true rfl, Nat.le_of_ble_eq_true rfl⟩ dX8_readsElement_1 (fun H locs hR hS => ?_)
  refine W.eq (g2 := F0 mt 4 ls [.int v4]) rfl ?_
  refine lv_bipush (v := 97) hx hb dX8_readsElement_4 (by decide) ?_
  refine lv_bipush (v := 102) hx hb dX8_readsElement_6 (by decide) ?_
  obtain ⟨v6, g5, hf⟩ := ob hf
  refine r_callS X kw_X8_90 (c_X8_in l B D cA m v4 (97 : Int32) (102 : Int32) v6 g5) ⟨Nat.le_of_ble_eq_true rfl, Nat.le_of_ble_eq_true rfl⟩ hR hS hl.1 rfl rfl (Nat.le_of_ble_eq_true rfl) ⟨Nat.le_of_ble_eq_true rfl, Nat.le_of_ble_eq_true rfl⟩ dX8_readsElement_8 (fun H locs hR hS => ?_)
  refine W.eq (g2 := F0 mt 11 ls [.int v6]) rfl ?_
  refine lv_if_ne (tgt := 20) hx hb dX8_readsElement_11 (by decide) (fun c7 => ?_) (fun c7 => ?_)
  · rw [if_neg c7] at hf
    refine lv_aload_n hx hb dX8_readsElement_20 rfl (lv_at hl 0 rfl) ?_
    obtain ⟨v8, g9, hf⟩ := ob hf
    refine gI_X8_238 X hR g9 dX8_readsElement_21 ?_
    refine lv_bipush (v := 32) hx hb dX8_readsElement_24 (by decide) ?_
    refine lv_icmp_ne (tgt := 35) hx hb dX8_readsElement_26 (by decide) (fun c10 => ?_) (fun c10 => ?_)
    · rw [if_neg c10] at hf
      refine lv_iload_n hx hb dX8_readsElement_35 rfl (lv_at hl 1 rfl) ?_
      refine lv_bipush (v := 10) hx hb dX8_readsElement_36 (by decide) ?_
      refine lv_icmp_le (tgt := 47) hx hb dX8_readsElement_38 (by decide) (fun c11 => ?_) (fun c11 => ?_)
      · rw [if_pos c11] at hf
        refine lv_aload_n hx hb dX8_readsElement_47 rfl (lv_at hl 0 rfl) ?_
        obtain ⟨v12, g13, hf⟩ := ob hf
        refine gR_X8_75 X hR g13 dX8_readsElement_48 ?_
        refine lv_aload_n hx hb dX8_readsElement_51 rfl (lv_at hl 0 rfl) ?_
        obtain ⟨v14, g15, hf⟩ := ob hf
        refine gI_X8_238 X hR g15 dX8_readsElement_52 ?_
        refine lv_aload_n hx hb dX8_readsElement_55 rfl (lv_at hl 0 rfl) ?_
        obtain ⟨o16, h17, hf⟩ := obO hf
        obtain ⟨v19, g18, hf⟩ := ob hf
        refine r_callV X kw_X8_232 (ci := 8) rfl (c_X8_here l B D cA m x0 v19 g18) ⟨Nat.le_of_ble_eq_true rfl, Nat.le_of_ble_eq_true rfl⟩ h17 hR hS hl.1 rfl rfl (Nat.le_of_ble_eq_true rfl) ⟨Nat.le_of_ble_eq_true rfl, Nat.le_of_ble_eq_true rfl⟩ dX8_readsElement_56 (fun H locs hR hS => ?_)
        refine W.eq (g2 := F0 mt 59 ls [.int v19, .int v14, .ref (B + v12)]) rfl ?_
        refine lv_bipush (v := 97) hx hb dX8_readsElement_59 (by decide) ?_
        refine lv_isub hx hb dX8_readsElement_61 ?_
        obtain ⟨m20, g21, hf⟩ := ob hf
        refine r_sI X hR hS g21 dX8_readsElement_62 (fun H locs hR hS => ?_)
        refine lv_aload_n hx hb dX8_readsElement_63 rfl (lv_at hl 0 rfl) ?_
        obtain ⟨v22, g23, hf⟩ := ob hf
        refine gR_X8_78 X hR g23 dX8_readsElement_64 ?_
        refine lv_aload_n hx hb dX8_readsElement_67 rfl (lv_at hl 0 rfl) ?_
        obtain ⟨v24, g25, hf⟩ := ob hf
        refine gI_X8_238 X hR g25 dX8_readsElement_68 ?_
        refine lv_iconst (v := 0) hx hb dX8_readsElement_71 (by decide) ?_
        obtain ⟨m26, g27, hf⟩ := ob hf
        refine r_sI X hR hS g27 dX8_readsElement_72 (fun H locs hR hS => ?_)
        refine lv_aload_n hx hb dX8_readsElement_73 rfl (lv_at hl 0 rfl) ?_
        obtain ⟨v28, g29, hf⟩ := ob hf
        refine gR_X8_81 X hR g29 dX8_readsElement_74 ?_
        refine lv_aload_n hx hb dX8_readsElement_77 rfl (lv_at hl 0 rfl) ?_
        obtain ⟨v30, g31, hf⟩ := ob hf
        refine gI_X8_238 X hR g31 dX8_readsElement_78 ?_
        refine lv_iload_n hx hb dX8_readsElement_81 rfl (lv_at hl 1 rfl) ?_
        obtain ⟨m32, g33, hf⟩ := ob hf
        refine r_sI X hR hS g33 dX8_readsElement_82 (fun H locs hR hS => ?_)
        refine lv_aload_n hx hb dX8_readsElement_83 rfl (lv_at hl 0 rfl) ?_
        refine lv_dup hx hb dX8_readsElement_84 rfl ?_
        obtain ⟨v34, g35, hf⟩ := ob hf
        refine gI_X8_223 X hR g35 dX8_readsElement_85 ?_
        refine lv_iconst (v := 1) hx hb dX8_readsElement_88 (by decide) ?_
        refine lv_iadd hx hb dX8_readsElement_89 ?_
        obtain ⟨m36, g37, hf⟩ := ob hf
        refine pI_X8_223 X hR hS g37 dX8_readsElement_90 (fun H locs hR hS => ?_)
        refine lv_aload_n hx hb dX8_readsElement_93 rfl (lv_at hl 0 rfl) ?_
        obtain ⟨o38, h39, hf⟩ := obO hf
        obtain ⟨v41, g40, hf⟩ := ob hf
        refine r_callV X kw_X8_232 (ci := 8) rfl (c_X8_here l B D cA m36 x0 v41 g40) ⟨Nat.le_of_ble_eq_true rfl, Nat.le_of_ble_eq_true rfl⟩ h39 hR hS hl.1 rfl rfl (Nat.le_of_ble_eq_true rfl) ⟨Nat.le_of_ble_eq_true rfl, Nat.le_of_ble_eq_true rfl⟩ dX8_readsElement_94 (fun H locs hR hS => ?_)
        refine W.eq (g2 := F0 mt 97 ls [.int v41]) rfl ?_
        refine lv_bipush (v := 48) hx hb dX8_readsElement_97 (by decide) ?_
        refine lv_bipush (v := 57) hx hb dX8_readsElement_99 (by decide) ?_
        obtain ⟨v43, g42, hf⟩ := ob hf
        refine r_callS X kw_X8_90 (c_X8_in l B D cA m36 v41 (48 : Int32) (57 : Int32) v43 g42) ⟨Nat.le_of_ble_eq_true rfl, Nat.le_of_ble_eq_true rfl⟩ hR hS hl.1 rfl rfl (Nat.le_of_ble_eq_true rfl) ⟨Nat.le_of_ble_eq_true rfl, Nat.le_of_ble_eq_true rfl⟩ dX8_readsElement_101 (fun H locs hR hS => ?_)
        refine W.eq (g2 := F0 mt 104 ls [.int v43]) rfl ?_
        obtain ⟨t44, hjt44, hf⟩ := ob hf
        have hJt44 : ∀ (H : Heap) (locs : List Loc) (ls : Array Slot), Rl B D cA t44 H → va_S (fun q => B ≤ q) s.heap H locs → lv_has ls 2 [(0, .ref (B + x0))] → W p l e (rmm 1 0 0 22) s mt args below meth c H locs 0 0 (MQ below (mQ B D cA (some (.int rZ)) mZ) args s 0 0 (fun q => B ≤ q)) (F0 mt 133 ls []) := by
          intro H locs ls hR hS hl
          refine lv_aload_n hx hb dX8_readsElement_133 rfl (lv_at hl 0 rfl) ?_
          refine lv_dup hx hb dX8_readsElement_134 rfl ?_
          obtain ⟨v60, g61, hf⟩ := ob hf
          refine gI_X8_238 X hR g61 dX8_readsElement_135 ?_
          refine lv_iconst (v := 1) hx hb dX8_readsElement_138 (by decide) ?_
          refine lv_iadd hx hb dX8_readsElement_139 ?_
          obtain ⟨m62, g63, hf⟩ := ob hf
          refine pI_X8_238 X hR hS g63 dX8_readsElement_140 (fun H locs hR hS => ?_)
          refine lv_iconst (v := 1) hx hb dX8_readsElement_143 (by decide) ?_
          obtain ⟨rfl, rfl⟩ := Prod.mk.inj (Option.some.inj hf)
          exact r_iret X hr hlocks hR hS rfl dX8_readsElement_144
        have hf := hjt44
        clear hjt44
        refine lv_if_eq (tgt := 133) hx hb dX8_readsElement_104 (by decide) (fun c45 => ?_) (fun c45 => ?_)
        · rw [if_pos c45] at hf
          obtain rfl := Option.some.inj hf
          exact hJt44 H locs ls hR hS (lv_sub hl [0] rfl)
        · rw [if_neg c45] at hf
          refine lv_aload_n hx hb dX8_readsElement_107 rfl (lv_at hl 0 rfl) ?_
          obtain ⟨v46, g47, hf⟩ := ob hf
          refine gR_X8_78 X hR g47 dX8_readsElement_108 ?_
          refine lv_aload_n hx hb dX8_readsElement_111 rfl (lv_at hl 0 rfl) ?_
          obtain ⟨v48, g49, hf⟩ := ob hf
          refine gI_X8_238 X hR g49 dX8_readsElement_112 ?_
          refine lv_aload_n hx hb dX8_readsElement_115 rfl (lv_at hl 0 rfl) ?_
          obtain ⟨o50, h51, hf⟩ := obO hf
          obtain ⟨v53, g52, hf⟩ := ob hf
          refine r_callV X kw_X8_232 (ci := 8) rfl (c_X8_here l B D cA m36 x0 v53 g52) ⟨Nat.le_of_ble_eq_true rfl, Nat.le_of_ble_eq_true rfl⟩ h51 hR hS hl.1 rfl rfl (Nat.le_of_ble_eq_true rfl) ⟨Nat.le_of_ble_eq_true rfl, Nat.le_of_ble_eq_true rfl⟩ dX8_readsElement_116 (fun H locs hR hS => ?_)
          refine W.eq (g2 := F0 mt 119 ls [.int v53, .int v48, .ref (B + v46)]) rfl ?_
          refine lv_bipush (v := 48) hx hb dX8_readsElement_119 (by decide) ?_
          refine lv_isub hx hb dX8_readsElement_121 ?_
          obtain ⟨m54, g55, hf⟩ := ob hf
          refine r_sI X hR hS g55 dX8_readsElement_122 (fun H locs hR hS => ?_)
          refine lv_aload_n hx hb dX8_readsElement_123 rfl (lv_at hl 0 rfl) ?_
          refine lv_dup hx hb dX8_readsElement_124 rfl ?_
          obtain ⟨v56, g57, hf⟩ := ob hf
          refine gI_X8_223 X hR g57 dX8_readsElement_125 ?_
          refine lv_iconst (v := 1) hx hb dX8_readsElement_128 (by decide) ?_
          refine lv_iadd hx hb dX8_readsElement_129 ?_
          obtain ⟨m58, g59, hf⟩ := ob hf
          refine pI_X8_223 X hR hS g59 dX8_readsElement_130 (fun H locs hR hS => ?_)
          obtain rfl := Option.some.inj hf
          exact hJt44 H locs ls hR hS (lv_sub hl [0] rfl)
      · rw [if_neg c11] at hf
        refine lv_aload_n hx hb dX8_readsElement_41 rfl (lv_at hl 0 rfl) ?_
        refine lv_iconst (v := 3) hx hb dX8_readsElement_42 (by decide) ?_
        obtain ⟨o64, h65, hf⟩ := obO hf
        obtain ⟨t67, g66, hf⟩ := ob hf
        refine r_callV X kw_X8_235 (ci := 8) rfl (c_X8_wrong l B D cA m x0 (3 : Int32) t67.1 t67.2 g66) ⟨Nat.le_of_ble_eq_true rfl, Nat.le_of_ble_eq_true rfl⟩ h65 hR hS hl.1 rfl rfl (Nat.le_of_ble_eq_true rfl) ⟨Nat.le_of_ble_eq_true rfl, Nat.le_of_ble_eq_true rfl⟩ dX8_readsElement_43 (fun H locs hR hS => ?_)
        refine W.eq (g2 := F0 mt 46 ls [.int t67.1]) rfl ?_
        obtain ⟨h68, hf⟩ := obB hf
        obtain ⟨rfl, rfl⟩ := Prod.mk.inj (Option.some.inj hf)
        exact r_iret X hr hlocks hR hS h68 dX8_readsElement_46
    · rw [if_pos c10] at hf
      refine lv_aload_n hx hb dX8_readsElement_29 rfl (lv_at hl 0 rfl) ?_
      refine lv_iconst (v := 2) hx hb dX8_readsElement_30 (by decide) ?_
      obtain ⟨o69, h70, hf⟩ := obO hf
      obtain ⟨t72, g71, hf⟩ := ob hf
      refine r_callV X kw_X8_235 (ci := 8) rfl (c_X8_wrong l B D cA m x0 (2 : Int32) t72.1 t72.2 g71) ⟨Nat.le_of_ble_eq_true rfl, Nat.le_of_ble_eq_true rfl⟩ h70 hR hS hl.1 rfl rfl (Nat.le_of_ble_eq_true rfl) ⟨Nat.le_of_ble_eq_true rfl, Nat.le_of_ble_eq_true rfl⟩ dX8_readsElement_31 (fun H locs hR hS => ?_)
      refine W.eq (g2 := F0 mt 34 ls [.int t72.1]) rfl ?_
      obtain ⟨h73, hf⟩ := obB hf
      obtain ⟨rfl, rfl⟩ := Prod.mk.inj (Option.some.inj hf)
      exact r_iret X hr hlocks hR hS h73 dX8_readsElement_34
  · rw [if_pos c7] at hf
    refine lv_aload_n hx hb dX8_readsElement_14 rfl (lv_at hl 0 rfl) ?_
    refine lv_iconst (v := 1) hx hb dX8_readsElement_15 (by decide) ?_
    obtain ⟨o74, h75, hf⟩ := obO hf
    obtain ⟨t77, g76, hf⟩ := ob hf
    refine r_callV X kw_X8_235 (ci := 8) rfl (c_X8_wrong l B D cA m x0 (1 : Int32) t77.1 t77.2 g76) ⟨Nat.le_of_ble_eq_true rfl, Nat.le_of_ble_eq_true rfl⟩ h75 hR hS hl.1 rfl rfl (Nat.le_of_ble_eq_true rfl) ⟨Nat.le_of_ble_eq_true rfl, Nat.le_of_ble_eq_true rfl⟩ dX8_readsElement_16 (fun H locs hR hS => ?_)
    refine W.eq (g2 := F0 mt 19 ls [.int t77.1]) rfl ?_
    obtain ⟨h78, hf⟩ := obB hf
    obtain ⟨rfl, rfl⟩ := Prod.mk.inj (Option.some.inj hf)
    exact r_iret X hr hlocks hR hS h78 dX8_readsElement_19
/-! ===== TwigMatchesModel.readsDocument()Z ===== -/
theorem dX8_readsDocument_0 : decode cX8_readsDocument 0 = .ok (.aload_n 0, 1) := by decide +kernel
theorem dX8_readsDocument_1 : decode cX8_readsDocument 1 = .ok (.iconst 0, 1) := by decide +kernel
theorem dX8_readsDocument_2 : decode cX8_readsDocument 2 = .ok (.putfield 223, 3) := by decide +kernel
theorem dX8_readsDocument_5 : decode cX8_readsDocument 5 = .ok (.aload_n 0, 1) := by decide +kernel
theorem dX8_readsDocument_6 : decode cX8_readsDocument 6 = .ok (.iconst 0, 1) := by decide +kernel
theorem dX8_readsDocument_7 : decode cX8_readsDocument 7 = .ok (.putfield 238, 3) := by decide +kernel
theorem dX8_readsDocument_10 : decode cX8_readsDocument 10 = .ok (.iconst 1, 1) := by decide +kernel
theorem dX8_readsDocument_11 : decode cX8_readsDocument 11 = .ok (.istore_n 1, 1) := by decide +kernel
theorem dX8_readsDocument_12 : decode cX8_readsDocument 12 = .ok (.aload_n 0, 1) := by decide +kernel
theorem dX8_readsDocument_13 : decode cX8_readsDocument 13 = .ok (.iconst 1, 1) := by decide +kernel
theorem dX8_readsDocument_14 : decode cX8_readsDocument 14 = .ok (.invokevirtual 241, 3) := by decide +kernel
theorem dX8_readsDocument_17 : decode cX8_readsDocument 17 = .ok (.istore_n 2, 1) := by decide +kernel
theorem dX8_readsDocument_18 : decode cX8_readsDocument 18 = .ok (.iload_n 2, 1) := by decide +kernel
theorem dX8_readsDocument_19 : decode cX8_readsDocument 19 = .ok (.ifCond .eq 16, 3) := by decide +kernel
theorem dX8_readsDocument_22 : decode cX8_readsDocument 22 = .ok (.aload_n 0, 1) := by decide +kernel
theorem dX8_readsDocument_23 : decode cX8_readsDocument 23 = .ok (.invokevirtual 232, 3) := by decide +kernel
theorem dX8_readsDocument_26 : decode cX8_readsDocument 26 = .ok (.bipush 40, 2) := by decide +kernel
theorem dX8_readsDocument_28 : decode cX8_readsDocument 28 = .ok (.if_icmp .ne 7, 3) := by decide +kernel
theorem dX8_readsDocument_31 : decode cX8_readsDocument 31 = .ok (.iconst 1, 1) := by decide +kernel
theorem dX8_readsDocument_32 : decode cX8_readsDocument 32 = .ok (.goto 4, 3) := by decide +kernel
theorem dX8_readsDocument_35 : decode cX8_readsDocument 35 = .ok (.iconst 0, 1) := by decide +kernel
theorem dX8_readsDocument_36 : decode cX8_readsDocument 36 = .ok (.istore_n 3, 1) := by decide +kernel
theorem dX8_readsDocument_37 : decode cX8_readsDocument 37 = .ok (.iload_n 2, 1) := by decide +kernel
theorem dX8_readsDocument_38 : decode cX8_readsDocument 38 = .ok (.ifCond .eq 107, 3) := by decide +kernel
theorem dX8_readsDocument_41 : decode cX8_readsDocument 41 = .ok (.iload_n 3, 1) := by decide +kernel
theorem dX8_readsDocument_42 : decode cX8_readsDocument 42 = .ok (.ifCond .ne 8, 3) := by decide +kernel
theorem dX8_readsDocument_45 : decode cX8_readsDocument 45 = .ok (.iload_n 1, 1) := by decide +kernel
theorem dX8_readsDocument_46 : decode cX8_readsDocument 46 = .ok (.iconst 1, 1) := by decide +kernel
theorem dX8_readsDocument_47 : decode cX8_readsDocument 47 = .ok (.if_icmp .le 98, 3) := by decide +kernel
theorem dX8_readsDocument_50 : decode cX8_readsDocument 50 = .ok (.iload_n 3, 1) := by decide +kernel
theorem dX8_readsDocument_51 : decode cX8_readsDocument 51 = .ok (.ifCond .eq 25, 3) := by decide +kernel
theorem dX8_readsDocument_54 : decode cX8_readsDocument 54 = .ok (.aload_n 0, 1) := by decide +kernel
theorem dX8_readsDocument_55 : decode cX8_readsDocument 55 = .ok (.dup, 1) := by decide +kernel
theorem dX8_readsDocument_56 : decode cX8_readsDocument 56 = .ok (.getfield 223, 3) := by decide +kernel
theorem dX8_readsDocument_59 : decode cX8_readsDocument 59 = .ok (.iconst 1, 1) := by decide +kernel
theorem dX8_readsDocument_60 : decode cX8_readsDocument 60 = .ok (.iadd, 1) := by decide +kernel
theorem dX8_readsDocument_61 : decode cX8_readsDocument 61 = .ok (.putfield 223, 3) := by decide +kernel
theorem dX8_readsDocument_64 : decode cX8_readsDocument 64 = .ok (.iinc 1 1, 3) := by decide +kernel
theorem dX8_readsDocument_67 : decode cX8_readsDocument 67 = .ok (.aload_n 0, 1) := by decide +kernel
theorem dX8_readsDocument_68 : decode cX8_readsDocument 68 = .ok (.iload_n 1, 1) := by decide +kernel
theorem dX8_readsDocument_69 : decode cX8_readsDocument 69 = .ok (.invokevirtual 241, 3) := by decide +kernel
theorem dX8_readsDocument_72 : decode cX8_readsDocument 72 = .ok (.istore_n 2, 1) := by decide +kernel
theorem dX8_readsDocument_73 : decode cX8_readsDocument 73 = .ok (.goto 34, 3) := by decide +kernel
theorem dX8_readsDocument_76 : decode cX8_readsDocument 76 = .ok (.aload_n 0, 1) := by decide +kernel
theorem dX8_readsDocument_77 : decode cX8_readsDocument 77 = .ok (.invokevirtual 232, 3) := by decide +kernel
theorem dX8_readsDocument_80 : decode cX8_readsDocument 80 = .ok (.bipush 41, 2) := by decide +kernel
theorem dX8_readsDocument_82 : decode cX8_readsDocument 82 = .ok (.if_icmp .ne 19, 3) := by decide +kernel
theorem dX8_readsDocument_85 : decode cX8_readsDocument 85 = .ok (.aload_n 0, 1) := by decide +kernel
theorem dX8_readsDocument_86 : decode cX8_readsDocument 86 = .ok (.dup, 1) := by decide +kernel
theorem dX8_readsDocument_87 : decode cX8_readsDocument 87 = .ok (.getfield 223, 3) := by decide +kernel
theorem dX8_readsDocument_90 : decode cX8_readsDocument 90 = .ok (.iconst 1, 1) := by decide +kernel
theorem dX8_readsDocument_91 : decode cX8_readsDocument 91 = .ok (.iadd, 1) := by decide +kernel
theorem dX8_readsDocument_92 : decode cX8_readsDocument 92 = .ok (.putfield 223, 3) := by decide +kernel
theorem dX8_readsDocument_95 : decode cX8_readsDocument 95 = .ok (.iinc 1 (-1), 3) := by decide +kernel
theorem dX8_readsDocument_98 : decode cX8_readsDocument 98 = .ok (.goto 9, 3) := by decide +kernel
theorem dX8_readsDocument_101 : decode cX8_readsDocument 101 = .ok (.aload_n 0, 1) := by decide +kernel
theorem dX8_readsDocument_102 : decode cX8_readsDocument 102 = .ok (.iload_n 1, 1) := by decide +kernel
theorem dX8_readsDocument_103 : decode cX8_readsDocument 103 = .ok (.invokevirtual 241, 3) := by decide +kernel
theorem dX8_readsDocument_106 : decode cX8_readsDocument 106 = .ok (.istore_n 2, 1) := by decide +kernel
theorem dX8_readsDocument_107 : decode cX8_readsDocument 107 = .ok (.iload_n 2, 1) := by decide +kernel
theorem dX8_readsDocument_108 : decode cX8_readsDocument 108 = .ok (.ifCond .eq 32, 3) := by decide +kernel
theorem dX8_readsDocument_111 : decode cX8_readsDocument 111 = .ok (.aload_n 0, 1) := by decide +kernel
theorem dX8_readsDocument_112 : decode cX8_readsDocument 112 = .ok (.invokevirtual 232, 3) := by decide +kernel
theorem dX8_readsDocument_115 : decode cX8_readsDocument 115 = .ok (.bipush 40, 2) := by decide +kernel
theorem dX8_readsDocument_117 : decode cX8_readsDocument 117 = .ok (.if_icmp .ne 23, 3) := by decide +kernel
theorem dX8_readsDocument_120 : decode cX8_readsDocument 120 = .ok (.aload_n 0, 1) := by decide +kernel
theorem dX8_readsDocument_121 : decode cX8_readsDocument 121 = .ok (.getfield 72, 3) := by decide +kernel
theorem dX8_readsDocument_124 : decode cX8_readsDocument 124 = .ok (.aload_n 0, 1) := by decide +kernel
theorem dX8_readsDocument_125 : decode cX8_readsDocument 125 = .ok (.getfield 223, 3) := by decide +kernel
theorem dX8_readsDocument_128 : decode cX8_readsDocument 128 = .ok (.iconst 1, 1) := by decide +kernel
theorem dX8_readsDocument_129 : decode cX8_readsDocument 129 = .ok (.isub, 1) := by decide +kernel
theorem dX8_readsDocument_130 : decode cX8_readsDocument 130 = .ok (.iaload, 1) := by decide +kernel
theorem dX8_readsDocument_131 : decode cX8_readsDocument 131 = .ok (.bipush 41, 2) := by decide +kernel
theorem dX8_readsDocument_133 : decode cX8_readsDocument 133 = .ok (.if_icmp .eq 7, 3) := by decide +kernel
theorem dX8_readsDocument_136 : decode cX8_readsDocument 136 = .ok (.iconst 1, 1) := by decide +kernel
theorem dX8_readsDocument_137 : decode cX8_readsDocument 137 = .ok (.goto 4, 3) := by decide +kernel
theorem dX8_readsDocument_140 : decode cX8_readsDocument 140 = .ok (.iconst 0, 1) := by decide +kernel
theorem dX8_readsDocument_141 : decode cX8_readsDocument 141 = .ok (.istore_n 3, 1) := by decide +kernel
theorem dX8_readsDocument_142 : decode cX8_readsDocument 142 = .ok (.goto (-105), 3) := by decide +kernel
theorem dX8_readsDocument_145 : decode cX8_readsDocument 145 = .ok (.iload_n 2, 1) := by decide +kernel
theorem dX8_readsDocument_146 : decode cX8_readsDocument 146 = .ok (.ifCond .eq 26, 3) := by decide +kernel
theorem dX8_readsDocument_149 : decode cX8_readsDocument 149 = .ok (.aload_n 0, 1) := by decide +kernel
theorem dX8_readsDocument_150 : decode cX8_readsDocument 150 = .ok (.getfield 223, 3) := by decide +kernel
theorem dX8_readsDocument_153 : decode cX8_readsDocument 153 = .ok (.aload_n 0, 1) := by decide +kernel
theorem dX8_readsDocument_154 : decode cX8_readsDocument 154 = .ok (.getfield 220, 3) := by decide +kernel
theorem dX8_readsDocument_157 : decode cX8_readsDocument 157 = .ok (.if_icmp .eq 11, 3) := by decide +kernel
theorem dX8_readsDocument_160 : decode cX8_readsDocument 160 = .ok (.aload_n 0, 1) := by decide +kernel
theorem dX8_readsDocument_161 : decode cX8_readsDocument 161 = .ok (.iconst 1, 1) := by decide +kernel
theorem dX8_readsDocument_162 : decode cX8_readsDocument 162 = .ok (.invokevirtual 235, 3) := by decide +kernel
theorem dX8_readsDocument_165 : decode cX8_readsDocument 165 = .ok (.ifCond .eq 7, 3) := by decide +kernel
theorem dX8_readsDocument_168 : decode cX8_readsDocument 168 = .ok (.iconst 1, 1) := by decide +kernel
theorem dX8_readsDocument_169 : decode cX8_readsDocument 169 = .ok (.goto 4, 3) := by decide +kernel
theorem dX8_readsDocument_172 : decode cX8_readsDocument 172 = .ok (.iconst 0, 1) := by decide +kernel
theorem dX8_readsDocument_173 : decode cX8_readsDocument 173 = .ok (.ireturn, 1) := by decide +kernel
set_option maxHeartbeats 4000000 in
set_option maxRecDepth 100000 in
theorem c_X8_readsDocument (l : Launch) (B : Nat) (D : va_G) (cA : Nat → ClassId) (m : Mm) (x0 : Nat) (rZ : Int32) (mZ : Mm) (hf : f_X8_readsDocument m x0 = some (rZ, mZ)) : Mt l B D cA yX8_readsDocument cX8_readsDocument 4 (some .boolean) 2 43 0 0 [.ref (B + x0)] m (some (.int rZ)) mZ := by
  refine r_start (by decide) (Nat.le_of_ble_eq_true rfl) ?_
  intro p e s mt args below meth c ls H locs X hr hlocks hnm hR hl hS
  have hx := X.1
  have hb := X.2.1
  have hl : lv_has ls 4 [(0, .ref (B + x0))] := hl
  unfold f_X8_readsDocument at hf
  refine lv_aload_n hx hb dX8_readsDocument_0 rfl (lv_at hl 0 rfl) ?_
  refine lv_iconst (v := 0) hx hb dX8_readsDocument_1 (by decide) ?_
  obtain ⟨m1, g2, hf⟩ := ob hf
  refine pI_X8_223 X hR hS g2 dX8_readsDocument_2 (fun H locs hR hS => ?_)
  refine lv_aload_n hx hb dX8_readsDocument_5 rfl (lv_at hl 0 rfl) ?_
  refine lv_iconst (v := 0) hx hb dX8_readsDocument_6 (by decide) ?_
  obtain ⟨m3, g4, hf⟩ := ob hf
  refine pI_X8_238 X hR hS g4 dX8_readsDocument_7 (fun H locs hR hS => ?_)
  refine lv_iconst (v := 1) hx hb dX8_readsDocument_10 (by decide) ?_
  refine lv_istore_n (lv' := [(1, .int (1 : Int32)), (0, .ref (B + x0))]) hx hb dX8_readsDocument_11 rfl hl (by decide) rfl (fun ls hl => ?_)
  refine lv_aload_n hx hb dX8_readsDocument_12 rfl (lv_at hl 1 rfl) ?_
  refine lv_iconst (v := 1) hx hb dX8_readsDocument_13 (by decide) ?_
  obtain ⟨o5, h6, hf⟩ := obO hf
  obtain ⟨t8, g7, hf⟩ := ob hf
  refine r_callV X kw_X8_241 (ci := 8) rfl (c_X8_readsElement l B D cA m3 x0 (1 : Int32) t8.1 t8.2 g7) ⟨Nat.le_of_ble_eq_true rfl, Nat.le_of_ble_eq_true rfl⟩ h6 hR hS hl.1 rfl rfl (Nat.le_of_ble_eq_true rfl) ⟨Nat.le_of_ble_eq_true rfl, Nat.le_of_ble_eq_true rfl⟩ dX8_readsDocument_14 (fun H locs hR hS => ?_)
  refine W.eq (g2 := F0 mt 17 ls [.int t8.1]) rfl ?_
  refine lv_istore_n (lv' := [(2, .int t8.1), (1, .int (1 : Int32)), (0, .ref (B + x0))]) hx hb dX8_readsDocument_17 rfl hl (by decide) rfl (fun ls hl => ?_)
  refine lv_iload_n hx hb dX8_readsDocument_18 rfl (lv_at hl 0 rfl) ?_
  obtain ⟨t9, hjt9, hf⟩ := ob hf
  have hJt9 : ∀ (H : Heap) (locs : List Loc) (ls : Array Slot), Rl B D cA t8.2 H → va_S (fun q => B ≤ q) s.heap H locs → lv_has ls 4 [(0, .ref (B + x0)), (1, .int (1 : Int32)), (2, .int t8.1)] → W p l e (rmm 2 0 0 43) s mt args below meth c H locs 0 0 (MQ below (mQ B D cA (some (.int rZ)) mZ) args s 0 0 (fun q => B ≤ q)) (F0 mt 36 ls [.int t9]) := by
    intro H locs ls hR hS hl
    refine lv_istore_n (lv' := [(3, .int t9), (0, .ref (B + x0)), (1, .int (1 : Int32)), (2, .int t8.1)]) hx hb dX8_readsDocument_36 rfl hl (by decide) rfl (fun ls hl => ?_)
    obtain ⟨e17, hwe17, hf⟩ := ob hf
    refine whl_rule (P := (fun t16 => ∀ (H : Heap) (locs : List Loc) (ls : Array Slot), Rl B D cA t16.2.2.2 H → va_S (fun q => B ≤ q) s.heap H locs → lv_has ls 4 [(0, .ref (B + x0)), (1, .int t16.1), (2, .int t16.2.1), (3, .int t16.2.2.1)] → W p l e (rmm 2 0 0 43) s mt args below meth c H locs 0 0 (MQ below (mQ B D cA (some (.int rZ)) mZ) args s 0 0 (fun q => B ≤ q)) (F0 mt 37 ls []))) (Qx := (fun e17 => ∀ (H : Heap) (locs : List Loc) (ls : Array Slot), Rl B D cA e17.2 H → va_S (fun q => B ≤ q) s.heap H locs → lv_has ls 4 [(0, .ref (B + x0)), (2, .int e17.1)] → W p l e (rmm 2 0 0 43) s mt args below meth c H locs 0 0 (MQ below (mQ B D cA (some (.int rZ)) mZ) args s 0 0 (fun q => B ≤ q)) (F0 mt 145 ls []))) ?_ FU _ e17 hwe17 ?_ H locs ls hR hS (lv_sub hl [1, 2, 3, 0] rfl)
    · clear hwe17 hf
      intro t16 q18 hf hxlq18 hxrq18 H locs ls hR hS hl
      obtain ⟨z19, z20, z21, m22⟩ := t16
      have hf : f_X8_readsDocument_L37 m22 x0 z19 z20 z21 = some q18 := hf
      have hR : Rl B D cA m22 H := hR
      have hl : lv_has ls 4 [(0, .ref (B + x0)), (1, .int z19), (2, .int z20), (3, .int z21)] := hl
      unfold f_X8_readsDocument_L37 at hf
      refine lv_iload_n hx hb dX8_readsDocument_37 rfl (lv_at hl 2 rfl) ?_
      refine lv_if_eq (tgt := 145) hx hb dX8_readsDocument_38 (by decide) (fun c23 => ?_) (fun c23 => ?_)
      · rw [if_pos c23] at hf
        obtain rfl := Option.some.inj hf
        exact hxrq18 _ rfl H locs ls hR hS (lv_sub hl [0, 2] rfl)
      · rw [if_neg c23] at hf
        refine lv_iload_n hx hb dX8_readsDocument_41 rfl (lv_at hl 3 rfl) ?_
        have hJ50 : ∀  (H : Heap) (locs : List Loc) (ls : Array Slot), f_X8_readsDocument_J50 m22 x0 z19 z20 z21 = some q18 → Rl B D cA m22 H → va_S (fun q => B ≤ q) s.heap H locs → lv_has ls 4 [(0, .ref (B + x0)), (1, .int z19), (2, .int z20), (3, .int z21)] → W p l e (rmm 2 0 0 43) s mt args below meth c H locs 0 0 (MQ below (mQ B D cA (some (.int rZ)) mZ) args s 0 0 (fun q => B ≤ q)) (F0 mt 50 ls []) := by
          intro  H locs ls hf hR hS hl
          unfold f_X8_readsDocument_J50 at hf
          refine lv_iload_n hx hb dX8_readsDocument_50 rfl (lv_at hl 3 rfl) ?_
          obtain ⟨t24, hjt24, hf⟩ := ob hf
          have hJt24 : ∀ (H : Heap) (locs : List Loc) (ls : Array Slot), Rl B D cA t24.2.2 H → va_S (fun q => B ≤ q) s.heap H locs → lv_has ls 4 [(0, .ref (B + x0)), (1, .int t24.1), (2, .int t24.2.1)] → W p l e (rmm 2 0 0 43) s mt args below meth c H locs 0 0 (MQ below (mQ B D cA (some (.int rZ)) mZ) args s 0 0 (fun q => B ≤ q)) (F0 mt 107 ls []) := by
            intro H locs ls hR hS hl
            refine lv_iload_n hx hb dX8_readsDocument_107 rfl (lv_at hl 2 rfl) ?_
            refine lv_if_eq (tgt := 140) hx hb dX8_readsDocument_108 (by decide) (fun c47 => ?_) (fun c47 => ?_)
            · rw [if_pos c47] at hf
              refine lv_iconst (v := 0) hx hb dX8_readsDocument_140 (by decide) ?_
              refine lv_istore_n (lv' := [(3, .int (0 : Int32)), (0, .ref (B + x0)), (1, .int t24.1), (2, .int t24.2.1)]) hx hb dX8_readsDocument_141 rfl hl (by decide) rfl (fun ls hl => ?_)
              refine lv_goto (tgt := 37) hx hb dX8_readsDocument_142 (by decide) ?_
              obtain rfl := Option.some.inj hf
              exact hxlq18 _ rfl H locs ls hR hS (lv_sub hl [1, 2, 3, 0] rfl)
            · rw [if_neg c47] at hf
              refine lv_aload_n hx hb dX8_readsDocument_111 rfl (lv_at hl 0 rfl) ?_
              obtain ⟨o48, h49, hf⟩ := obO hf
              obtain ⟨v51, g50, hf⟩ := ob hf
              refine r_callV X kw_X8_232 (ci := 8) rfl (c_X8_here l B D cA t24.2.2 x0 v51 g50) ⟨Nat.le_of_ble_eq_true rfl, Nat.le_of_ble_eq_true rfl⟩ h49 hR hS hl.1 rfl rfl (Nat.le_of_ble_eq_true rfl) ⟨Nat.le_of_ble_eq_true rfl, Nat.le_of_ble_eq_true rfl⟩ dX8_readsDocument_112 (fun H locs hR hS => ?_)
              refine W.eq (g2 := F0 mt 115 ls [.int v51]) rfl ?_
              refine lv_bipush (v := 40) hx hb dX8_readsDocument_115 (by decide) ?_
              refine lv_icmp_ne (tgt := 140) hx hb dX8_readsDocument_117 (by decide) (fun c52 => ?_) (fun c52 => ?_)
              · rw [if_neg c52] at hf
                refine lv_iconst (v := 0) hx hb dX8_readsDocument_140 (by decide) ?_
                refine lv_istore_n (lv' := [(3, .int (0 : Int32)), (0, .ref (B + x0)), (1, .int t24.1), (2, .int t24.2.1)]) hx hb dX8_readsDocument_141 rfl hl (by decide) rfl (fun ls hl => ?_)
                refine lv_goto (tgt := 37) hx hb dX8_readsDocument_142 (by decide) ?_
                obtain rfl := Option.some.inj hf
                exact hxlq18 _ rfl H locs ls hR hS (lv_sub hl [1, 2, 3, 0] rfl)
              · rw [if_pos c52] at hf
                refine lv_aload_n hx hb dX8_readsDocument_120 rfl (lv_at hl 0 rfl) ?_
                obtain ⟨v53, g54, hf⟩ := ob hf
                refine gR_X8_72 X hR g54 dX8_readsDocument_121 ?_
                refine lv_aload_n hx hb dX8_readsDocument_124 rfl (lv_at hl 0 rfl) ?_
                obtain ⟨v55, g56, hf⟩ := ob hf
                refine gI_X8_223 X hR g56 dX8_readsDocument_125 ?_
                refine lv_iconst (v := 1) hx hb dX8_readsDocument_128 (by decide) ?_
                refine lv_isub hx hb dX8_readsDocument_129 ?_
                obtain ⟨v57, g58, hf⟩ := ob hf
                refine r_lI X hR g58 dX8_readsDocument_130 ?_
                refine lv_bipush (v := 41) hx hb dX8_readsDocument_131 (by decide) ?_
                refine lv_icmp_eq (tgt := 140) hx hb dX8_readsDocument_133 (by decide) (fun c59 => ?_) (fun c59 => ?_)
                · rw [if_pos c59] at hf
                  refine lv_iconst (v := 0) hx hb dX8_readsDocument_140 (by decide) ?_
                  refine lv_istore_n (lv' := [(3, .int (0 : Int32)), (0, .ref (B + x0)), (1, .int t24.1), (2, .int t24.2.1)]) hx hb dX8_readsDocument_141 rfl hl (by decide) rfl (fun ls hl => ?_)
                  refine lv_goto (tgt := 37) hx hb dX8_readsDocument_142 (by decide) ?_
                  obtain rfl := Option.some.inj hf
                  exact hxlq18 _ rfl H locs ls hR hS (lv_sub hl [1, 2, 3, 0] rfl)
                · rw [if_neg c59] at hf
                  refine lv_iconst (v := 1) hx hb dX8_readsDocument_136 (by decide) ?_
                  refine lv_goto (tgt := 141) hx hb dX8_readsDocument_137 (by decide) ?_
                  refine lv_istore_n (lv' := [(3, .int (1 : Int32)), (0, .ref (B + x0)), (1, .int t24.1), (2, .int t24.2.1)]) hx hb dX8_readsDocument_141 rfl hl (by decide) rfl (fun ls hl => ?_)
                  refine lv_goto (tgt := 37) hx hb dX8_readsDocument_142 (by decide) ?_
                  obtain rfl := Option.some.inj hf
                  exact hxlq18 _ rfl H locs ls hR hS (lv_sub hl [1, 2, 3, 0] rfl)
          have hf := hjt24
          clear hjt24
          refine lv_if_eq (tgt := 76) hx hb dX8_readsDocument_51 (by decide) (fun c25 => ?_) (fun c25 => ?_)
          · rw [if_pos c25] at hf
            refine lv_aload_n hx hb dX8_readsDocument_76 rfl (lv_at hl 0 rfl) ?_
            obtain ⟨o26, h27, hf⟩ := obO hf
            obtain ⟨v29, g28, hf⟩ := ob hf
            refine r_callV X kw_X8_232 (ci := 8) rfl (c_X8_here l B D cA m22 x0 v29 g28) ⟨Nat.le_of_ble_eq_true rfl, Nat.le_of_ble_eq_true rfl⟩ h27 hR hS hl.1 rfl rfl (Nat.le_of_ble_eq_true rfl) ⟨Nat.le_of_ble_eq_true rfl, Nat.le_of_ble_eq_true rfl⟩ dX8_readsDocument_77 (fun H locs hR hS => ?_)
            refine W.eq (g2 := F0 mt 80 ls [.int v29]) rfl ?_
            refine lv_bipush (v := 41) hx hb dX8_readsDocument_80 (by decide) ?_
            refine lv_icmp_ne (tgt := 101) hx hb dX8_readsDocument_82 (by decide) (fun c30 => ?_) (fun c30 => ?_)
            · rw [if_neg c30] at hf
              refine lv_aload_n hx hb dX8_readsDocument_101 rfl (lv_at hl 0 rfl) ?_
              refine lv_iload_n hx hb dX8_readsDocument_102 rfl (lv_at hl 1 rfl) ?_
              obtain ⟨o31, h32, hf⟩ := obO hf
              obtain ⟨t34, g33, hf⟩ := ob hf
              refine r_callV X kw_X8_241 (ci := 8) rfl (c_X8_readsElement l B D cA m22 x0 z19 t34.1 t34.2 g33) ⟨Nat.le_of_ble_eq_true rfl, Nat.le_of_ble_eq_true rfl⟩ h32 hR hS hl.1 rfl rfl (Nat.le_of_ble_eq_true rfl) ⟨Nat.le_of_ble_eq_true rfl, Nat.le_of_ble_eq_true rfl⟩ dX8_readsDocument_103 (fun H locs hR hS => ?_)
              refine W.eq (g2 := F0 mt 106 ls [.int t34.1]) rfl ?_
              refine lv_istore_n (lv' := [(2, .int t34.1), (0, .ref (B + x0)), (1, .int z19), (3, .int z21)]) hx hb dX8_readsDocument_106 rfl hl (by decide) rfl (fun ls hl => ?_)
              obtain rfl := Option.some.inj hf
              exact hJt24 H locs ls hR hS (lv_sub hl [1, 2, 0] rfl)
            · rw [if_pos c30] at hf
              refine lv_aload_n hx hb dX8_readsDocument_85 rfl (lv_at hl 0 rfl) ?_
              refine lv_dup hx hb dX8_readsDocument_86 rfl ?_
              obtain ⟨v35, g36, hf⟩ := ob hf
              refine gI_X8_223 X hR g36 dX8_readsDocument_87 ?_
              refine lv_iconst (v := 1) hx hb dX8_readsDocument_90 (by decide) ?_
              refine lv_iadd hx hb dX8_readsDocument_91 ?_
              obtain ⟨m37, g38, hf⟩ := ob hf
              refine pI_X8_223 X hR hS g38 dX8_readsDocument_92 (fun H locs hR hS => ?_)
              refine lv_iinc (v := (z19 + (-1))) (lv' := [(1, .int (z19 + (-1))), (0, .ref (B + x0)), (2, .int z20), (3, .int z21)]) hx hb dX8_readsDocument_95 hl (k := 1) rfl (congrArg (fun z => z19 + z) (by decide)) (by decide) rfl (fun ls hl => ?_)
              refine lv_goto (tgt := 107) hx hb dX8_readsDocument_98 (by decide) ?_
              obtain rfl := Option.some.inj hf
              exact hJt24 H locs ls hR hS (lv_sub hl [1, 0, 2] rfl)
          · rw [if_neg c25] at hf
            refine lv_aload_n hx hb dX8_readsDocument_54 rfl (lv_at hl 0 rfl) ?_
            refine lv_dup hx hb dX8_readsDocument_55 rfl ?_
            obtain ⟨v39, g40, hf⟩ := ob hf
            refine gI_X8_223 X hR g40 dX8_readsDocument_56 ?_
            refine lv_iconst (v := 1) hx hb dX8_readsDocument_59 (by decide) ?_
            refine lv_iadd hx hb dX8_readsDocument_60 ?_
            obtain ⟨m41, g42, hf⟩ := ob hf
            refine pI_X8_223 X hR hS g42 dX8_readsDocument_61 (fun H locs hR hS => ?_)
            refine lv_iinc (v := (z19 + 1)) (lv' := [(1, .int (z19 + 1)), (0, .ref (B + x0)), (2, .int z20), (3, .int z21)]) hx hb dX8_readsDocument_64 hl (k := 1) rfl (congrArg (fun z => z19 + z) (by decide)) (by decide) rfl (fun ls hl => ?_)
            refine lv_aload_n hx hb dX8_readsDocument_67 rfl (lv_at hl 1 rfl) ?_
            refine lv_iload_n hx hb dX8_readsDocument_68 rfl (lv_at hl 0 rfl) ?_
            obtain ⟨o43, h44, hf⟩ := obO hf
            obtain ⟨t46, g45, hf⟩ := ob hf
            refine r_callV X kw_X8_241 (ci := 8) rfl (c_X8_readsElement l B D cA m41 x0 (z19 + 1) t46.1 t46.2 g45) ⟨Nat.le_of_ble_eq_true rfl, Nat.le_of_ble_eq_true rfl⟩ h44 hR hS hl.1 rfl rfl (Nat.le_of_ble_eq_true rfl) ⟨Nat.le_of_ble_eq_true rfl, Nat.le_of_ble_eq_true rfl⟩ dX8_readsDocument_69 (fun H locs hR hS => ?_)
            refine W.eq (g2 := F0 mt 72 ls [.int t46.1]) rfl ?_
            refine lv_istore_n (lv' := [(2, .int t46.1), (1, .int (z19 + 1)), (0, .ref (B + x0)), (3, .int z21)]) hx hb dX8_readsDocument_72 rfl hl (by decide) rfl (fun ls hl => ?_)
            refine lv_goto (tgt := 107) hx hb dX8_readsDocument_73 (by decide) ?_
            obtain rfl := Option.some.inj hf
            exact hJt24 H locs ls hR hS (lv_sub hl [2, 1, 0] rfl)
        refine lv_if_ne (tgt := 50) hx hb dX8_readsDocument_42 (by decide) (fun c60 => ?_) (fun c60 => ?_)
        · rw [if_neg c60] at hf
          exact hJ50  H locs ls hf hR hS (lv_sub hl [0, 1, 2, 3] rfl)
        · rw [if_pos c60] at hf
          refine lv_iload_n hx hb dX8_readsDocument_45 rfl (lv_at hl 1 rfl) ?_
          refine lv_iconst (v := 1) hx hb dX8_readsDocument_46 (by decide) ?_
          refine lv_icmp_le (tgt := 145) hx hb dX8_readsDocument_47 (by decide) (fun c61 => ?_) (fun c61 => ?_)
          · rw [if_pos c61] at hf
            obtain rfl := Option.some.inj hf
            exact hxrq18 _ rfl H locs ls hR hS (lv_sub hl [0, 2] rfl)
          · rw [if_neg c61] at hf
            exact hJ50  H locs ls hf hR hS (lv_sub hl [0, 1, 2, 3] rfl)
    · intro H locs ls hR hS hl
      refine lv_iload_n hx hb dX8_readsDocument_145 rfl (lv_at hl 1 rfl) ?_
      refine lv_if_eq (tgt := 172) hx hb dX8_readsDocument_146 (by decide) (fun c62 => ?_) (fun c62 => ?_)
      · rw [if_pos c62] at hf
        refine lv_iconst (v := 0) hx hb dX8_readsDocument_172 (by decide) ?_
        obtain ⟨rfl, rfl⟩ := Prod.mk.inj (Option.some.inj hf)
        exact r_iret X hr hlocks hR hS rfl dX8_readsDocument_173
      · rw [if_neg c62] at hf
        refine lv_aload_n hx hb dX8_readsDocument_149 rfl (lv_at hl 0 rfl) ?_
        obtain ⟨v63, g64, hf⟩ := ob hf
        refine gI_X8_223 X hR g64 dX8_readsDocument_150 ?_
        refine lv_aload_n hx hb dX8_readsDocument_153 rfl (lv_at hl 0 rfl) ?_
        obtain ⟨v65, g66, hf⟩ := ob hf
        refine gI_X8_220 X hR g66 dX8_readsDocument_154 ?_
        refine lv_icmp_eq (tgt := 168) hx hb dX8_readsDocument_157 (by decide) (fun c67 => ?_) (fun c67 => ?_)
        · rw [if_pos c67] at hf
          refine lv_iconst (v := 1) hx hb dX8_readsDocument_168 (by decide) ?_
          refine lv_goto (tgt := 173) hx hb dX8_readsDocument_169 (by decide) ?_
          obtain ⟨rfl, rfl⟩ := Prod.mk.inj (Option.some.inj hf)
          exact r_iret X hr hlocks hR hS rfl dX8_readsDocument_173
        · rw [if_neg c67] at hf
          refine lv_aload_n hx hb dX8_readsDocument_160 rfl (lv_at hl 0 rfl) ?_
          refine lv_iconst (v := 1) hx hb dX8_readsDocument_161 (by decide) ?_
          obtain ⟨o68, h69, hf⟩ := obO hf
          obtain ⟨t71, g70, hf⟩ := ob hf
          refine r_callV X kw_X8_235 (ci := 8) rfl (c_X8_wrong l B D cA e17.2 x0 (1 : Int32) t71.1 t71.2 g70) ⟨Nat.le_of_ble_eq_true rfl, Nat.le_of_ble_eq_true rfl⟩ h69 hR hS hl.1 rfl rfl (Nat.le_of_ble_eq_true rfl) ⟨Nat.le_of_ble_eq_true rfl, Nat.le_of_ble_eq_true rfl⟩ dX8_readsDocument_162 (fun H locs hR hS => ?_)
          refine W.eq (g2 := F0 mt 165 ls [.int t71.1]) rfl ?_
          refine lv_if_eq (tgt := 172) hx hb dX8_readsDocument_165 (by decide) (fun c72 => ?_) (fun c72 => ?_)
          · rw [if_pos c72] at hf
            refine lv_iconst (v := 0) hx hb dX8_readsDocument_172 (by decide) ?_
            obtain ⟨rfl, rfl⟩ := Prod.mk.inj (Option.some.inj hf)
            exact r_iret X hr hlocks hR hS rfl dX8_readsDocument_173
          · rw [if_neg c72] at hf
            refine lv_iconst (v := 1) hx hb dX8_readsDocument_168 (by decide) ?_
            refine lv_goto (tgt := 173) hx hb dX8_readsDocument_169 (by decide) ?_
            obtain ⟨rfl, rfl⟩ := Prod.mk.inj (Option.some.inj hf)
            exact r_iret X hr hlocks hR hS rfl dX8_readsDocument_173
  have hf := hjt9
  clear hjt9
  refine lv_if_eq (tgt := 35) hx hb dX8_readsDocument_19 (by decide) (fun c10 => ?_) (fun c10 => ?_)
  · rw [if_pos c10] at hf
    refine lv_iconst (v := 0) hx hb dX8_readsDocument_35 (by decide) ?_
    obtain rfl := Option.some.inj hf
    exact hJt9 H locs ls hR hS (lv_sub hl [2, 1, 0] rfl)
  · rw [if_neg c10] at hf
    refine lv_aload_n hx hb dX8_readsDocument_22 rfl (lv_at hl 2 rfl) ?_
    obtain ⟨o11, h12, hf⟩ := obO hf
    obtain ⟨v14, g13, hf⟩ := ob hf
    refine r_callV X kw_X8_232 (ci := 8) rfl (c_X8_here l B D cA t8.2 x0 v14 g13) ⟨Nat.le_of_ble_eq_true rfl, Nat.le_of_ble_eq_true rfl⟩ h12 hR hS hl.1 rfl rfl (Nat.le_of_ble_eq_true rfl) ⟨Nat.le_of_ble_eq_true rfl, Nat.le_of_ble_eq_true rfl⟩ dX8_readsDocument_23 (fun H locs hR hS => ?_)
    refine W.eq (g2 := F0 mt 26 ls [.int v14]) rfl ?_
    refine lv_bipush (v := 40) hx hb dX8_readsDocument_26 (by decide) ?_
    refine lv_icmp_ne (tgt := 35) hx hb dX8_readsDocument_28 (by decide) (fun c15 => ?_) (fun c15 => ?_)
    · rw [if_neg c15] at hf
      refine lv_iconst (v := 0) hx hb dX8_readsDocument_35 (by decide) ?_
      obtain rfl := Option.some.inj hf
      exact hJt9 H locs ls hR hS (lv_sub hl [2, 1, 0] rfl)
    · rw [if_pos c15] at hf
      refine lv_iconst (v := 1) hx hb dX8_readsDocument_31 (by decide) ?_
      refine lv_goto (tgt := 36) hx hb dX8_readsDocument_32 (by decide) ?_
      obtain rfl := Option.some.inj hf
      exact hJt9 H locs ls hR hS (lv_sub hl [2, 1, 0] rfl)
/-! ===== TwigMatchesModel.builds()I ===== -/
theorem dX8_builds_0 : decode cX8_builds 0 = .ok (.aload_n 0, 1) := by decide +kernel
theorem dX8_builds_1 : decode cX8_builds 1 = .ok (.invokevirtual 244, 3) := by decide +kernel
theorem dX8_builds_4 : decode cX8_builds 4 = .ok (.ifCond .ne 11, 3) := by decide +kernel
theorem dX8_builds_7 : decode cX8_builds 7 = .ok (.bipush (-10), 2) := by decide +kernel
theorem dX8_builds_9 : decode cX8_builds 9 = .ok (.aload_n 0, 1) := by decide +kernel
theorem dX8_builds_10 : decode cX8_builds 10 = .ok (.getfield 226, 3) := by decide +kernel
theorem dX8_builds_13 : decode cX8_builds 13 = .ok (.isub, 1) := by decide +kernel
theorem dX8_builds_14 : decode cX8_builds 14 = .ok (.ireturn, 1) := by decide +kernel
theorem dX8_builds_15 : decode cX8_builds 15 = .ok (.aload_n 0, 1) := by decide +kernel
theorem dX8_builds_16 : decode cX8_builds 16 = .ok (.invokevirtual 140, 3) := by decide +kernel
theorem dX8_builds_19 : decode cX8_builds 19 = .ok (.aload_n 0, 1) := by decide +kernel
theorem dX8_builds_20 : decode cX8_builds 20 = .ok (.aload_n 0, 1) := by decide +kernel
theorem dX8_builds_21 : decode cX8_builds 21 = .ok (.getfield 238, 3) := by decide +kernel
theorem dX8_builds_24 : decode cX8_builds 24 = .ok (.putfield 13, 3) := by decide +kernel
theorem dX8_builds_27 : decode cX8_builds 27 = .ok (.iconst 0, 1) := by decide +kernel
theorem dX8_builds_28 : decode cX8_builds 28 = .ok (.istore_n 1, 1) := by decide +kernel
theorem dX8_builds_29 : decode cX8_builds 29 = .ok (.iload_n 1, 1) := by decide +kernel
theorem dX8_builds_30 : decode cX8_builds 30 = .ok (.aload_n 0, 1) := by decide +kernel
theorem dX8_builds_31 : decode cX8_builds 31 = .ok (.getfield 13, 3) := by decide +kernel
theorem dX8_builds_34 : decode cX8_builds 34 = .ok (.if_icmp .ge 45, 3) := by decide +kernel
theorem dX8_builds_37 : decode cX8_builds 37 = .ok (.aload_n 0, 1) := by decide +kernel
theorem dX8_builds_38 : decode cX8_builds 38 = .ok (.getfield 17, 3) := by decide +kernel
theorem dX8_builds_41 : decode cX8_builds 41 = .ok (.iload_n 1, 1) := by decide +kernel
theorem dX8_builds_42 : decode cX8_builds 42 = .ok (.aload_n 0, 1) := by decide +kernel
theorem dX8_builds_43 : decode cX8_builds 43 = .ok (.getfield 75, 3) := by decide +kernel
theorem dX8_builds_46 : decode cX8_builds 46 = .ok (.iload_n 1, 1) := by decide +kernel
theorem dX8_builds_47 : decode cX8_builds 47 = .ok (.iaload, 1) := by decide +kernel
theorem dX8_builds_48 : decode cX8_builds 48 = .ok (.iastore, 1) := by decide +kernel
theorem dX8_builds_49 : decode cX8_builds 49 = .ok (.aload_n 0, 1) := by decide +kernel
theorem dX8_builds_50 : decode cX8_builds 50 = .ok (.getfield 20, 3) := by decide +kernel
theorem dX8_builds_53 : decode cX8_builds 53 = .ok (.iload_n 1, 1) := by decide +kernel
theorem dX8_builds_54 : decode cX8_builds 54 = .ok (.aload_n 0, 1) := by decide +kernel
theorem dX8_builds_55 : decode cX8_builds 55 = .ok (.getfield 78, 3) := by decide +kernel
theorem dX8_builds_58 : decode cX8_builds 58 = .ok (.iload_n 1, 1) := by decide +kernel
theorem dX8_builds_59 : decode cX8_builds 59 = .ok (.iaload, 1) := by decide +kernel
theorem dX8_builds_60 : decode cX8_builds 60 = .ok (.iastore, 1) := by decide +kernel
theorem dX8_builds_61 : decode cX8_builds 61 = .ok (.aload_n 0, 1) := by decide +kernel
theorem dX8_builds_62 : decode cX8_builds 62 = .ok (.getfield 23, 3) := by decide +kernel
theorem dX8_builds_65 : decode cX8_builds 65 = .ok (.iload_n 1, 1) := by decide +kernel
theorem dX8_builds_66 : decode cX8_builds 66 = .ok (.aload_n 0, 1) := by decide +kernel
theorem dX8_builds_67 : decode cX8_builds 67 = .ok (.getfield 81, 3) := by decide +kernel
theorem dX8_builds_70 : decode cX8_builds 70 = .ok (.iload_n 1, 1) := by decide +kernel
theorem dX8_builds_71 : decode cX8_builds 71 = .ok (.iaload, 1) := by decide +kernel
theorem dX8_builds_72 : decode cX8_builds 72 = .ok (.iastore, 1) := by decide +kernel
theorem dX8_builds_73 : decode cX8_builds 73 = .ok (.iinc 1 1, 3) := by decide +kernel
theorem dX8_builds_76 : decode cX8_builds 76 = .ok (.goto (-47), 3) := by decide +kernel
theorem dX8_builds_79 : decode cX8_builds 79 = .ok (.aload_n 0, 1) := by decide +kernel
theorem dX8_builds_80 : decode cX8_builds 80 = .ok (.invokevirtual 123, 3) := by decide +kernel
theorem dX8_builds_83 : decode cX8_builds 83 = .ok (.aload_n 0, 1) := by decide +kernel
theorem dX8_builds_84 : decode cX8_builds 84 = .ok (.getfield 13, 3) := by decide +kernel
theorem dX8_builds_87 : decode cX8_builds 87 = .ok (.ireturn, 1) := by decide +kernel
set_option maxHeartbeats 4000000 in
set_option maxRecDepth 100000 in
theorem c_X8_builds (l : Launch) (B : Nat) (D : va_G) (cA : Nat → ClassId) (m : Mm) (x0 : Nat) (rZ : Int32) (mZ : Mm) (hf : f_X8_builds m x0 = some (rZ, mZ)) : Mt l B D cA yX8_builds cX8_builds 2 (some .int) 3 66 0 0 [.ref (B + x0)] m (some (.int rZ)) mZ := by
  refine r_start (by decide) (Nat.le_of_ble_eq_true rfl) ?_
  intro p e s mt args below meth c ls H locs X hr hlocks hnm hR hl hS
  have hx := X.1
  have hb := X.2.1
  have hl : lv_has ls 2 [(0, .ref (B + x0))] := hl
  unfold f_X8_builds at hf
  refine lv_aload_n hx hb dX8_builds_0 rfl (lv_at hl 0 rfl) ?_
  obtain ⟨o1, h2, hf⟩ := obO hf
  obtain ⟨t4, g3, hf⟩ := ob hf
  refine r_callV X kw_X8_244 (ci := 8) rfl (c_X8_readsDocument l B D cA m x0 t4.1 t4.2 g3) ⟨Nat.le_of_ble_eq_true rfl, Nat.le_of_ble_eq_true rfl⟩ h2 hR hS hl.1 rfl rfl (Nat.le_of_ble_eq_true rfl) ⟨Nat.le_of_ble_eq_true rfl, Nat.le_of_ble_eq_true rfl⟩ dX8_builds_1 (fun H locs hR hS => ?_)
  refine W.eq (g2 := F0 mt 4 ls [.int t4.1]) rfl ?_
  refine lv_if_ne (tgt := 15) hx hb dX8_builds_4 (by decide) (fun c5 => ?_) (fun c5 => ?_)
  · rw [if_neg c5] at hf
    refine lv_aload_n hx hb dX8_builds_15 rfl (lv_at hl 0 rfl) ?_
    obtain ⟨o6, h7, hf⟩ := obO hf
    obtain ⟨m9, g8, hf⟩ := ob hf
    refine r_callV X kw_X8_140 (ci := 8) rfl (c_X8_leavesState l B D cA t4.2 x0 m9 g8) ⟨Nat.le_of_ble_eq_true rfl, Nat.le_of_ble_eq_true rfl⟩ h7 hR hS hl.1 rfl rfl (Nat.le_of_ble_eq_true rfl) ⟨Nat.le_of_ble_eq_true rfl, Nat.le_of_ble_eq_true rfl⟩ dX8_builds_16 (fun H locs hR hS => ?_)
    refine W.eq (g2 := F0 mt 19 ls []) rfl ?_
    refine lv_aload_n hx hb dX8_builds_19 rfl (lv_at hl 0 rfl) ?_
    refine lv_aload_n hx hb dX8_builds_20 rfl (lv_at hl 0 rfl) ?_
    obtain ⟨v10, g11, hf⟩ := ob hf
    refine gI_X8_238 X hR g11 dX8_builds_21 ?_
    obtain ⟨m12, g13, hf⟩ := ob hf
    refine pI_X8_13 X hR hS g13 dX8_builds_24 (fun H locs hR hS => ?_)
    refine lv_iconst (v := 0) hx hb dX8_builds_27 (by decide) ?_
    refine lv_istore_n (lv' := [(1, .int (0 : Int32)), (0, .ref (B + x0))]) hx hb dX8_builds_28 rfl hl (by decide) rfl (fun ls hl => ?_)
    obtain ⟨e15, hwe15, hf⟩ := ob hf
    refine whl_rule (P := (fun t14 => ∀ (H : Heap) (locs : List Loc) (ls : Array Slot), Rl B D cA t14.2 H → va_S (fun q => B ≤ q) s.heap H locs → lv_has ls 2 [(0, .ref (B + x0)), (1, .int t14.1)] → W p l e (rmm 3 0 0 66) s mt args below meth c H locs 0 0 (MQ below (mQ B D cA (some (.int rZ)) mZ) args s 0 0 (fun q => B ≤ q)) (F0 mt 29 ls []))) (Qx := (fun e15 => ∀ (H : Heap) (locs : List Loc) (ls : Array Slot), Rl B D cA e15 H → va_S (fun q => B ≤ q) s.heap H locs → lv_has ls 2 [(0, .ref (B + x0))] → W p l e (rmm 3 0 0 66) s mt args below meth c H locs 0 0 (MQ below (mQ B D cA (some (.int rZ)) mZ) args s 0 0 (fun q => B ≤ q)) (F0 mt 79 ls []))) ?_ FU _ e15 hwe15 ?_ H locs ls hR hS (lv_sub hl [1, 0] rfl)
    · clear hwe15 hf
      intro t14 q16 hf hxlq16 hxrq16 H locs ls hR hS hl
      obtain ⟨z17, m18⟩ := t14
      have hf : f_X8_builds_L29 m18 x0 z17 = some q16 := hf
      have hR : Rl B D cA m18 H := hR
      have hl : lv_has ls 2 [(0, .ref (B + x0)), (1, .int z17)] := hl
      unfold f_X8_builds_L29 at hf
      refine lv_iload_n hx hb dX8_builds_29 rfl (lv_at hl 1 rfl) ?_
      refine lv_aload_n hx hb dX8_builds_30 rfl (lv_at hl 0 rfl) ?_
      obtain ⟨v19, g20, hf⟩ := ob hf
      refine gI_X8_13 X hR g20 dX8_builds_31 ?_
      refine lv_icmp_ge (tgt := 79) hx hb dX8_builds_34 (by decide) (fun c21 => ?_) (fun c21 => ?_)
      · rw [if_pos c21] at hf
        obtain rfl := Option.some.inj hf
        exact hxrq16 _ rfl H locs ls hR hS (lv_sub hl [0] rfl)
      · rw [if_neg c21] at hf
        refine lv_aload_n hx hb dX8_builds_37 rfl (lv_at hl 0 rfl) ?_
        obtain ⟨v22, g23, hf⟩ := ob hf
        refine gR_X8_17 X hR g23 dX8_builds_38 ?_
        refine lv_iload_n hx hb dX8_builds_41 rfl (lv_at hl 1 rfl) ?_
        refine lv_aload_n hx hb dX8_builds_42 rfl (lv_at hl 0 rfl) ?_
        obtain ⟨v24, g25, hf⟩ := ob hf
        refine gR_X8_75 X hR g25 dX8_builds_43 ?_
        refine lv_iload_n hx hb dX8_builds_46 rfl (lv_at hl 1 rfl) ?_
        obtain ⟨v26, g27, hf⟩ := ob hf
        refine r_lI X hR g27 dX8_builds_47 ?_
        obtain ⟨m28, g29, hf⟩ := ob hf
        refine r_sI X hR hS g29 dX8_builds_48 (fun H locs hR hS => ?_)
        refine lv_aload_n hx hb dX8_builds_49 rfl (lv_at hl 0 rfl) ?_
        obtain ⟨v30, g31, hf⟩ := ob hf
        refine gR_X8_20 X hR g31 dX8_builds_50 ?_
        refine lv_iload_n hx hb dX8_builds_53 rfl (lv_at hl 1 rfl) ?_
        refine lv_aload_n hx hb dX8_builds_54 rfl (lv_at hl 0 rfl) ?_
        obtain ⟨v32, g33, hf⟩ := ob hf
        refine gR_X8_78 X hR g33 dX8_builds_55 ?_
        refine lv_iload_n hx hb dX8_builds_58 rfl (lv_at hl 1 rfl) ?_
        obtain ⟨v34, g35, hf⟩ := ob hf
        refine r_lI X hR g35 dX8_builds_59 ?_
        obtain ⟨m36, g37, hf⟩ := ob hf
        refine r_sI X hR hS g37 dX8_builds_60 (fun H locs hR hS => ?_)
        refine lv_aload_n hx hb dX8_builds_61 rfl (lv_at hl 0 rfl) ?_
        obtain ⟨v38, g39, hf⟩ := ob hf
        refine gR_X8_23 X hR g39 dX8_builds_62 ?_
        refine lv_iload_n hx hb dX8_builds_65 rfl (lv_at hl 1 rfl) ?_
        refine lv_aload_n hx hb dX8_builds_66 rfl (lv_at hl 0 rfl) ?_
        obtain ⟨v40, g41, hf⟩ := ob hf
        refine gR_X8_81 X hR g41 dX8_builds_67 ?_
        refine lv_iload_n hx hb dX8_builds_70 rfl (lv_at hl 1 rfl) ?_
        obtain ⟨v42, g43, hf⟩ := ob hf
        refine r_lI X hR g43 dX8_builds_71 ?_
        obtain ⟨m44, g45, hf⟩ := ob hf
        refine r_sI X hR hS g45 dX8_builds_72 (fun H locs hR hS => ?_)
        refine lv_iinc (v := (z17 + 1)) (lv' := [(1, .int (z17 + 1)), (0, .ref (B + x0))]) hx hb dX8_builds_73 hl (k := 1) rfl (congrArg (fun z => z17 + z) (by decide)) (by decide) rfl (fun ls hl => ?_)
        refine lv_goto (tgt := 29) hx hb dX8_builds_76 (by decide) ?_
        obtain rfl := Option.some.inj hf
        exact hxlq16 _ rfl H locs ls hR hS (lv_sub hl [1, 0] rfl)
    · intro H locs ls hR hS hl
      refine lv_aload_n hx hb dX8_builds_79 rfl (lv_at hl 0 rfl) ?_
      obtain ⟨o46, h47, hf⟩ := obO hf
      obtain ⟨m49, g48, hf⟩ := ob hf
      refine r_callV X kw_X8_123 (ci := 8) rfl (c_X8_tellsTree l B D cA e15 x0 m49 g48) ⟨Nat.le_of_ble_eq_true rfl, Nat.le_of_ble_eq_true rfl⟩ h47 hR hS hl.1 rfl rfl (Nat.le_of_ble_eq_true rfl) ⟨Nat.le_of_ble_eq_true rfl, Nat.le_of_ble_eq_true rfl⟩ dX8_builds_80 (fun H locs hR hS => ?_)
      refine W.eq (g2 := F0 mt 83 ls []) rfl ?_
      refine lv_aload_n hx hb dX8_builds_83 rfl (lv_at hl 0 rfl) ?_
      obtain ⟨v50, g51, hf⟩ := ob hf
      refine gI_X8_13 X hR g51 dX8_builds_84 ?_
      obtain ⟨rfl, rfl⟩ := Prod.mk.inj (Option.some.inj hf)
      exact r_iret X hr hlocks hR hS rfl dX8_builds_87
  · rw [if_pos c5] at hf
    refine lv_bipush (v := -10) hx hb dX8_builds_7 (by decide) ?_
    refine lv_aload_n hx hb dX8_builds_9 rfl (lv_at hl 0 rfl) ?_
    obtain ⟨v52, g53, hf⟩ := ob hf
    refine gI_X8_226 X hR g53 dX8_builds_10 ?_
    refine lv_isub hx hb dX8_builds_13 ?_
    obtain ⟨rfl, rfl⟩ := Prod.mk.inj (Option.some.inj hf)
    exact r_iret X hr hlocks hR hS rfl dX8_builds_14
