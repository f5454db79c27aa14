/-! ===== TwigMatchesModel.findsFolds(III)V ===== -/
theorem dX8_findsFolds_0 : decode cX8_findsFolds 0 = .ok (.aload_n 0, 1) := by decide +kernel
theorem dX8_findsFolds_1 : decode cX8_findsFolds 1 = .ok (.getfield 32, 3) := by decide +kernel
theorem dX8_findsFolds_4 : decode cX8_findsFolds 4 = .ok (.iload_n 1, 1) := by decide +kernel
theorem dX8_findsFolds_5 : decode cX8_findsFolds 5 = .ok (.iaload, 1) := by decide +kernel
theorem dX8_findsFolds_6 : decode cX8_findsFolds 6 = .ok (.iconst 1, 1) := by decide +kernel
theorem dX8_findsFolds_7 : decode cX8_findsFolds 7 = .ok (.isub, 1) := by decide +kernel
theorem dX8_findsFolds_8 : decode cX8_findsFolds 8 = .ok (.istore 4, 2) := by decide +kernel
theorem dX8_findsFolds_10 : decode cX8_findsFolds 10 = .ok (.iload 4, 2) := by decide +kernel
theorem dX8_findsFolds_12 : decode cX8_findsFolds 12 = .ok (.ifCond .lt 149, 3) := by decide +kernel
theorem dX8_findsFolds_15 : decode cX8_findsFolds 15 = .ok (.aload_n 0, 1) := by decide +kernel
theorem dX8_findsFolds_16 : decode cX8_findsFolds 16 = .ok (.getfield 44, 3) := by decide +kernel
theorem dX8_findsFolds_19 : decode cX8_findsFolds 19 = .ok (.iload 4, 2) := by decide +kernel
theorem dX8_findsFolds_21 : decode cX8_findsFolds 21 = .ok (.iconst 0, 1) := by decide +kernel
theorem dX8_findsFolds_22 : decode cX8_findsFolds 22 = .ok (.iastore, 1) := by decide +kernel
theorem dX8_findsFolds_23 : decode cX8_findsFolds 23 = .ok (.iconst 0, 1) := by decide +kernel
theorem dX8_findsFolds_24 : decode cX8_findsFolds 24 = .ok (.istore 5, 2) := by decide +kernel
theorem dX8_findsFolds_26 : decode cX8_findsFolds 26 = .ok (.iload 5, 2) := by decide +kernel
theorem dX8_findsFolds_28 : decode cX8_findsFolds 28 = .ok (.aload_n 0, 1) := by decide +kernel
theorem dX8_findsFolds_29 : decode cX8_findsFolds 29 = .ok (.getfield 32, 3) := by decide +kernel
theorem dX8_findsFolds_32 : decode cX8_findsFolds 32 = .ok (.iload_n 2, 1) := by decide +kernel
theorem dX8_findsFolds_33 : decode cX8_findsFolds 33 = .ok (.iaload, 1) := by decide +kernel
theorem dX8_findsFolds_34 : decode cX8_findsFolds 34 = .ok (.if_icmp .ge 121, 3) := by decide +kernel
theorem dX8_findsFolds_37 : decode cX8_findsFolds 37 = .ok (.aload_n 0, 1) := by decide +kernel
theorem dX8_findsFolds_38 : decode cX8_findsFolds 38 = .ok (.iload_n 1, 1) := by decide +kernel
theorem dX8_findsFolds_39 : decode cX8_findsFolds 39 = .ok (.iload 4, 2) := by decide +kernel
theorem dX8_findsFolds_41 : decode cX8_findsFolds 41 = .ok (.iload_n 2, 1) := by decide +kernel
theorem dX8_findsFolds_42 : decode cX8_findsFolds 42 = .ok (.iload 5, 2) := by decide +kernel
theorem dX8_findsFolds_44 : decode cX8_findsFolds 44 = .ok (.invokevirtual 170, 3) := by decide +kernel
theorem dX8_findsFolds_47 : decode cX8_findsFolds 47 = .ok (.ifCond .eq 16, 3) := by decide +kernel
theorem dX8_findsFolds_50 : decode cX8_findsFolds 50 = .ok (.iload_n 3, 1) := by decide +kernel
theorem dX8_findsFolds_51 : decode cX8_findsFolds 51 = .ok (.iload 5, 2) := by decide +kernel
theorem dX8_findsFolds_53 : decode cX8_findsFolds 53 = .ok (.ishr, 1) := by decide +kernel
theorem dX8_findsFolds_54 : decode cX8_findsFolds 54 = .ok (.iconst 1, 1) := by decide +kernel
theorem dX8_findsFolds_55 : decode cX8_findsFolds 55 = .ok (.iand, 1) := by decide +kernel
theorem dX8_findsFolds_56 : decode cX8_findsFolds 56 = .ok (.ifCond .ne 7, 3) := by decide +kernel
theorem dX8_findsFolds_59 : decode cX8_findsFolds 59 = .ok (.iconst 1, 1) := by decide +kernel
theorem dX8_findsFolds_60 : decode cX8_findsFolds 60 = .ok (.goto 4, 3) := by decide +kernel
theorem dX8_findsFolds_63 : decode cX8_findsFolds 63 = .ok (.iconst 0, 1) := by decide +kernel
theorem dX8_findsFolds_64 : decode cX8_findsFolds 64 = .ok (.istore 6, 2) := by decide +kernel
theorem dX8_findsFolds_66 : decode cX8_findsFolds 66 = .ok (.iload 4, 2) := by decide +kernel
theorem dX8_findsFolds_68 : decode cX8_findsFolds 68 = .ok (.iconst 1, 1) := by decide +kernel
theorem dX8_findsFolds_69 : decode cX8_findsFolds 69 = .ok (.iadd, 1) := by decide +kernel
theorem dX8_findsFolds_70 : decode cX8_findsFolds 70 = .ok (.istore 7, 2) := by decide +kernel
theorem dX8_findsFolds_72 : decode cX8_findsFolds 72 = .ok (.iload 7, 2) := by decide +kernel
theorem dX8_findsFolds_74 : decode cX8_findsFolds 74 = .ok (.aload_n 0, 1) := by decide +kernel
theorem dX8_findsFolds_75 : decode cX8_findsFolds 75 = .ok (.getfield 32, 3) := by decide +kernel
theorem dX8_findsFolds_78 : decode cX8_findsFolds 78 = .ok (.iload_n 1, 1) := by decide +kernel
theorem dX8_findsFolds_79 : decode cX8_findsFolds 79 = .ok (.iaload, 1) := by decide +kernel
theorem dX8_findsFolds_80 : decode cX8_findsFolds 80 = .ok (.if_icmp .ge 46, 3) := by decide +kernel
theorem dX8_findsFolds_83 : decode cX8_findsFolds 83 = .ok (.iload 6, 2) := by decide +kernel
theorem dX8_findsFolds_85 : decode cX8_findsFolds 85 = .ok (.ifCond .eq 41, 3) := by decide +kernel
theorem dX8_findsFolds_88 : decode cX8_findsFolds 88 = .ok (.aload_n 0, 1) := by decide +kernel
theorem dX8_findsFolds_89 : decode cX8_findsFolds 89 = .ok (.iload_n 1, 1) := by decide +kernel
theorem dX8_findsFolds_90 : decode cX8_findsFolds 90 = .ok (.iload 7, 2) := by decide +kernel
theorem dX8_findsFolds_92 : decode cX8_findsFolds 92 = .ok (.invokevirtual 113, 3) := by decide +kernel
theorem dX8_findsFolds_95 : decode cX8_findsFolds 95 = .ok (.iload 4, 2) := by decide +kernel
theorem dX8_findsFolds_97 : decode cX8_findsFolds 97 = .ok (.if_icmp .ne 16, 3) := by decide +kernel
theorem dX8_findsFolds_100 : decode cX8_findsFolds 100 = .ok (.aload_n 0, 1) := by decide +kernel
theorem dX8_findsFolds_101 : decode cX8_findsFolds 101 = .ok (.iload_n 1, 1) := by decide +kernel
theorem dX8_findsFolds_102 : decode cX8_findsFolds 102 = .ok (.iload 7, 2) := by decide +kernel
theorem dX8_findsFolds_104 : decode cX8_findsFolds 104 = .ok (.iload_n 2, 1) := by decide +kernel
theorem dX8_findsFolds_105 : decode cX8_findsFolds 105 = .ok (.iload 5, 2) := by decide +kernel
theorem dX8_findsFolds_107 : decode cX8_findsFolds 107 = .ok (.invokevirtual 174, 3) := by decide +kernel
theorem dX8_findsFolds_110 : decode cX8_findsFolds 110 = .ok (.ifCond .eq 7, 3) := by decide +kernel
theorem dX8_findsFolds_113 : decode cX8_findsFolds 113 = .ok (.iconst 1, 1) := by decide +kernel
theorem dX8_findsFolds_114 : decode cX8_findsFolds 114 = .ok (.goto 4, 3) := by decide +kernel
theorem dX8_findsFolds_117 : decode cX8_findsFolds 117 = .ok (.iconst 0, 1) := by decide +kernel
theorem dX8_findsFolds_118 : decode cX8_findsFolds 118 = .ok (.istore 6, 2) := by decide +kernel
theorem dX8_findsFolds_120 : decode cX8_findsFolds 120 = .ok (.iinc 7 1, 3) := by decide +kernel
theorem dX8_findsFolds_123 : decode cX8_findsFolds 123 = .ok (.goto (-51), 3) := by decide +kernel
theorem dX8_findsFolds_126 : decode cX8_findsFolds 126 = .ok (.aload_n 0, 1) := by decide +kernel
theorem dX8_findsFolds_127 : decode cX8_findsFolds 127 = .ok (.getfield 44, 3) := by decide +kernel
theorem dX8_findsFolds_130 : decode cX8_findsFolds 130 = .ok (.iload 4, 2) := by decide +kernel
theorem dX8_findsFolds_132 : decode cX8_findsFolds 132 = .ok (.dup2, 1) := by decide +kernel
theorem dX8_findsFolds_133 : decode cX8_findsFolds 133 = .ok (.iaload, 1) := by decide +kernel
theorem dX8_findsFolds_134 : decode cX8_findsFolds 134 = .ok (.iload 6, 2) := by decide +kernel
theorem dX8_findsFolds_136 : decode cX8_findsFolds 136 = .ok (.ifCond .eq 10, 3) := by decide +kernel
theorem dX8_findsFolds_139 : decode cX8_findsFolds 139 = .ok (.iconst 1, 1) := by decide +kernel
theorem dX8_findsFolds_140 : decode cX8_findsFolds 140 = .ok (.iload 5, 2) := by decide +kernel
theorem dX8_findsFolds_142 : decode cX8_findsFolds 142 = .ok (.ishl, 1) := by decide +kernel
theorem dX8_findsFolds_143 : decode cX8_findsFolds 143 = .ok (.goto 4, 3) := by decide +kernel
theorem dX8_findsFolds_146 : decode cX8_findsFolds 146 = .ok (.iconst 0, 1) := by decide +kernel
theorem dX8_findsFolds_147 : decode cX8_findsFolds 147 = .ok (.ior, 1) := by decide +kernel
theorem dX8_findsFolds_148 : decode cX8_findsFolds 148 = .ok (.iastore, 1) := by decide +kernel
theorem dX8_findsFolds_149 : decode cX8_findsFolds 149 = .ok (.iinc 5 1, 3) := by decide +kernel
theorem dX8_findsFolds_152 : decode cX8_findsFolds 152 = .ok (.goto (-126), 3) := by decide +kernel
theorem dX8_findsFolds_155 : decode cX8_findsFolds 155 = .ok (.iinc 4 (-1), 3) := by decide +kernel
theorem dX8_findsFolds_158 : decode cX8_findsFolds 158 = .ok (.goto (-148), 3) := by decide +kernel
theorem dX8_findsFolds_161 : decode cX8_findsFolds 161 = .ok (.return_, 1) := by decide +kernel
set_option maxHeartbeats 4000000 in
set_option maxRecDepth 100000 in
theorem c_X8_findsFolds (l : Launch) (B : Nat) (D : va_G) (cA : Nat → ClassId) (m : Mm) (x0 : Nat) (x1 : Int32) (x2 : Int32) (x3 : Int32) (mZ : Mm) (hf : f_X8_findsFolds m x0 x1 x2 x3 = some mZ) : Mt l B D cA yX8_findsFolds cX8_findsFolds 8 none 4 96 0 0 [.ref (B + x0), .int x1, .int x2, .int x3] m none mZ := by
  refine r_start (by decide) (Nat.le_of_ble_eq_true rfl) ?_
  intro p e s mt args below meth c ls H locs X hr hlocks hnm hR hl hS
  have hx := X.1
  have hb := X.2.1
  have hl : lv_has ls 8 [(0, .ref (B + x0)), (1, .int x1), (2, .int x2), (3, .int x3)] := hl
  unfold f_X8_findsFolds at hf
  refine lv_aload_n hx hb dX8_findsFolds_0 rfl (lv_at hl 0 rfl) ?_
  obtain ⟨v1, g2, hf⟩ := ob hf
  refine gR_X8_32 X hR g2 dX8_findsFolds_1 ?_
  refine lv_iload_n hx hb dX8_findsFolds_4 rfl (lv_at hl 1 rfl) ?_
  obtain ⟨v3, g4, hf⟩ := ob hf
  refine r_lI X hR g4 dX8_findsFolds_5 ?_
  refine lv_iconst (v := 1) hx hb dX8_findsFolds_6 (by decide) ?_
  refine lv_isub hx hb dX8_findsFolds_7 ?_
  refine lv_istore (lv' := [(4, .int (v3 - (1 : Int32))), (0, .ref (B + x0)), (1, .int x1), (2, .int x2), (3, .int x3)]) hx hb dX8_findsFolds_8 hl (by decide) rfl (fun ls hl => ?_)
  obtain ⟨e6, hwe6, hf⟩ := ob hf
  refine whl_rule (P := (fun t5 => ∀ (H : Heap) (locs : List Loc) (ls : Array Slot), Rl B D cA t5.2 H → va_S (fun q => B ≤ q) s.heap H locs → lv_has ls 8 [(0, .ref (B + x0)), (1, .int x1), (2, .int x2), (3, .int x3), (4, .int t5.1)] → W p l e (rmm 4 0 0 96) s mt args below meth c H locs 0 0 (MQ below (mQ B D cA none mZ) args s 0 0 (fun q => B ≤ q)) (F0 mt 10 ls []))) (Qx := (fun e6 => ∀ (H : Heap) (locs : List Loc) (ls : Array Slot), Rl B D cA e6 H → va_S (fun q => B ≤ q) s.heap H locs → lv_has ls 8 [] → W p l e (rmm 4 0 0 96) s mt args below meth c H locs 0 0 (MQ below (mQ B D cA none mZ) args s 0 0 (fun q => B ≤ q)) (F0 mt 161 ls []))) ?_ FU _ e6 hwe6 ?_ H locs ls hR hS (lv_sub hl [1, 2, 3, 4, 0] rfl)
  · clear hwe6 hf
    intro t5 q7 hf hxlq7 hxrq7 H locs ls hR hS hl
    obtain ⟨z8, m9⟩ := t5
    have hf : f_X8_findsFolds_L10 m9 x0 x1 x2 x3 z8 = some q7 := hf
    have hR : Rl B D cA m9 H := hR
    have hl : lv_has ls 8 [(0, .ref (B + x0)), (1, .int x1), (2, .int x2), (3, .int x3), (4, .int z8)] := hl
    unfold f_X8_findsFolds_L10 at hf
    refine lv_iload hx hb dX8_findsFolds_10 (lv_at hl 4 rfl) ?_
    refine lv_if_lt (tgt := 161) hx hb dX8_findsFolds_12 (by decide) (fun c10 => ?_) (fun c10 => ?_)
    · rw [if_pos c10] at hf
      obtain rfl := Option.some.inj hf
      exact hxrq7 _ rfl H locs ls hR hS (lv_sub hl [] rfl)
    · rw [if_neg c10] at hf
      refine lv_aload_n hx hb dX8_findsFolds_15 rfl (lv_at hl 0 rfl) ?_
      obtain ⟨v11, g12, hf⟩ := ob hf
      refine gR_X8_44 X hR g12 dX8_findsFolds_16 ?_
      refine lv_iload hx hb dX8_findsFolds_19 (lv_at hl 4 rfl) ?_
      refine lv_iconst (v := 0) hx hb dX8_findsFolds_21 (by decide) ?_
      obtain ⟨m13, g14, hf⟩ := ob hf
      refine r_sI X hR hS g14 dX8_findsFolds_22 (fun H locs hR hS => ?_)
      refine lv_iconst (v := 0) hx hb dX8_findsFolds_23 (by decide) ?_
      refine lv_istore (lv' := [(5, .int (0 : Int32)), (0, .ref (B + x0)), (1, .int x1), (2, .int x2), (3, .int x3), (4, .int z8)]) hx hb dX8_findsFolds_24 hl (by decide) rfl (fun ls hl => ?_)
      obtain ⟨e16, hwe16, hf⟩ := ob hf
      refine whl_rule (P := (fun t15 => ∀ (H : Heap) (locs : List Loc) (ls : Array Slot), Rl B D cA t15.2 H → va_S (fun q => B ≤ q) s.heap H locs → lv_has ls 8 [(0, .ref (B + x0)), (1, .int x1), (2, .int x2), (3, .int x3), (4, .int z8), (5, .int t15.1)] → W p l e (rmm 4 0 0 96) s mt args below meth c H locs 0 0 (MQ below (mQ B D cA none mZ) args s 0 0 (fun q => B ≤ q)) (F0 mt 26 ls []))) (Qx := (fun e16 => ∀ (H : Heap) (locs : List Loc) (ls : Array Slot), Rl B D cA e16 H → va_S (fun q => B ≤ q) s.heap H locs → lv_has ls 8 [(0, .ref (B + x0)), (1, .int x1), (2, .int x2), (3, .int x3), (4, .int z8)] → W p l e (rmm 4 0 0 96) s mt args below meth c H locs 0 0 (MQ below (mQ B D cA none mZ) args s 0 0 (fun q => B ≤ q)) (F0 mt 155 ls []))) ?_ FU _ e16 hwe16 ?_ H locs ls hR hS (lv_sub hl [1, 2, 3, 4, 5, 0] rfl)
      · clear hwe16 hf
        intro t15 q17 hf hxlq17 hxrq17 H locs ls hR hS hl
        obtain ⟨z18, m19⟩ := t15
        have hf : f_X8_findsFolds_L26 m19 x0 x1 x2 x3 z8 z18 = some q17 := hf
        have hR : Rl B D cA m19 H := hR
        have hl : lv_has ls 8 [(0, .ref (B + x0)), (1, .int x1), (2, .int x2), (3, .int x3), (4, .int z8), (5, .int z18)] := hl
        unfold f_X8_findsFolds_L26 at hf
        refine lv_iload hx hb dX8_findsFolds_26 (lv_at hl 5 rfl) ?_
        refine lv_aload_n hx hb dX8_findsFolds_28 rfl (lv_at hl 0 rfl) ?_
        obtain ⟨v20, g21, hf⟩ := ob hf
        refine gR_X8_32 X hR g21 dX8_findsFolds_29 ?_
        refine lv_iload_n hx hb dX8_findsFolds_32 rfl (lv_at hl 2 rfl) ?_
        obtain ⟨v22, g23, hf⟩ := ob hf
        refine r_lI X hR g23 dX8_findsFolds_33 ?_
        refine lv_icmp_ge (tgt := 155) hx hb dX8_findsFolds_34 (by decide) (fun c24 => ?_) (fun c24 => ?_)
        · rw [if_pos c24] at hf
          obtain rfl := Option.some.inj hf
          exact hxrq17 _ rfl H locs ls hR hS (lv_sub hl [0, 1, 2, 3, 4] rfl)
        · rw [if_neg c24] at hf
          refine lv_aload_n hx hb dX8_findsFolds_37 rfl (lv_at hl 0 rfl) ?_
          refine lv_iload_n hx hb dX8_findsFolds_38 rfl (lv_at hl 1 rfl) ?_
          refine lv_iload hx hb dX8_findsFolds_39 (lv_at hl 4 rfl) ?_
          refine lv_iload_n hx hb dX8_findsFolds_41 rfl (lv_at hl 2 rfl) ?_
          refine lv_iload hx hb dX8_findsFolds_42 (lv_at hl 5 rfl) ?_
          obtain ⟨o25, h26, hf⟩ := obO hf
          obtain ⟨v28, g27, hf⟩ := ob hf
          refine r_callV X kw_X8_170 (ci := 8) rfl (c_X8_takes l B D cA m19 x0 x1 z8 x2 z18 v28 g27) ⟨Nat.le_of_ble_eq_true rfl, Nat.le_of_ble_eq_true rfl⟩ h26 hR hS hl.1 rfl rfl (Nat.le_of_ble_eq_true rfl) ⟨Nat.le_of_ble_eq_true rfl, Nat.le_of_ble_eq_true rfl⟩ dX8_findsFolds_44 (fun H locs hR hS => ?_)
          refine W.eq (g2 := F0 mt 47 ls [.int v28]) rfl ?_
          obtain ⟨t29, hjt29, hf⟩ := ob hf
          have hJt29 : ∀ (H : Heap) (locs : List Loc) (ls : Array Slot), Rl B D cA m19 H → va_S (fun q => B ≤ q) s.heap H locs → lv_has ls 8 [(0, .ref (B + x0)), (1, .int x1), (2, .int x2), (3, .int x3), (4, .int z8), (5, .int z18)] → W p l e (rmm 4 0 0 96) s mt args below meth c H locs 0 0 (MQ below (mQ B D cA none mZ) args s 0 0 (fun q => B ≤ q)) (F0 mt 64 ls [.int t29]) := by
            intro H locs ls hR hS hl
            refine lv_istore (lv' := [(6, .int t29), (0, .ref (B + x0)), (1, .int x1), (2, .int x2), (3, .int x3), (4, .int z8), (5, .int z18)]) hx hb dX8_findsFolds_64 hl (by decide) rfl (fun ls hl => ?_)
            refine lv_iload hx hb dX8_findsFolds_66 (lv_at hl 5 rfl) ?_
            refine lv_iconst (v := 1) hx hb dX8_findsFolds_68 (by decide) ?_
            refine lv_iadd hx hb dX8_findsFolds_69 ?_
            refine lv_istore (lv' := [(7, .int (z8 + (1 : Int32))), (6, .int t29), (0, .ref (B + x0)), (1, .int x1), (2, .int x2), (3, .int x3), (4, .int z8), (5, .int z18)]) hx hb dX8_findsFolds_70 hl (by decide) rfl (fun ls hl => ?_)
            obtain ⟨e33, hwe33, hf⟩ := ob hf
            refine whl_rule (P := (fun t32 => ∀ (H : Heap) (locs : List Loc) (ls : Array Slot), Rl B D cA m19 H → va_S (fun q => B ≤ q) s.heap H locs → lv_has ls 8 [(0, .ref (B + x0)), (1, .int x1), (2, .int x2), (3, .int x3), (4, .int z8), (5, .int z18), (6, .int t32.1), (7, .int t32.2)] → W p l e (rmm 4 0 0 96) s mt args below meth c H locs 0 0 (MQ below (mQ B D cA none mZ) args s 0 0 (fun q => B ≤ q)) (F0 mt 72 ls []))) (Qx := (fun e33 => ∀ (H : Heap) (locs : List Loc) (ls : Array Slot), Rl B D cA m19 H → va_S (fun q => B ≤ q) s.heap H locs → lv_has ls 8 [(0, .ref (B + x0)), (1, .int x1), (2, .int x2), (3, .int x3), (4, .int z8), (5, .int z18), (6, .int e33)] → W p l e (rmm 4 0 0 96) s mt args below meth c H locs 0 0 (MQ below (mQ B D cA none mZ) args s 0 0 (fun q => B ≤ q)) (F0 mt 126 ls []))) ?_ FU _ e33 hwe33 ?_ H locs ls hR hS (lv_sub hl [2, 3, 4, 5, 6, 7, 1, 0] rfl)
            · clear hwe33 hf
              intro t32 q34 hf hxlq34 hxrq34 H locs ls hR hS hl
              obtain ⟨z35, z36⟩ := t32
              have hf : f_X8_findsFolds_L72 m19 x0 x1 x2 x3 z8 z18 z35 z36 = some q34 := hf
              have hR : Rl B D cA m19 H := hR
              have hl : lv_has ls 8 [(0, .ref (B + x0)), (1, .int x1), (2, .int x2), (3, .int x3), (4, .int z8), (5, .int z18), (6, .int z35), (7, .int z36)] := hl
              unfold f_X8_findsFolds_L72 at hf
              refine lv_iload hx hb dX8_findsFolds_72 (lv_at hl 7 rfl) ?_
              refine lv_aload_n hx hb dX8_findsFolds_74 rfl (lv_at hl 0 rfl) ?_
              obtain ⟨v37, g38, hf⟩ := ob hf
              refine gR_X8_32 X hR g38 dX8_findsFolds_75 ?_
              refine lv_iload_n hx hb dX8_findsFolds_78 rfl (lv_at hl 1 rfl) ?_
              obtain ⟨v39, g40, hf⟩ := ob hf
              refine r_lI X hR g40 dX8_findsFolds_79 ?_
              refine lv_icmp_ge (tgt := 126) hx hb dX8_findsFolds_80 (by decide) (fun c41 => ?_) (fun c41 => ?_)
              · rw [if_pos c41] at hf
                obtain rfl := Option.some.inj hf
                exact hxrq34 _ rfl H locs ls hR hS (lv_sub hl [0, 1, 2, 3, 4, 5, 6] rfl)
              · rw [if_neg c41] at hf
                refine lv_iload hx hb dX8_findsFolds_83 (lv_at hl 6 rfl) ?_
                refine lv_if_eq (tgt := 126) hx hb dX8_findsFolds_85 (by decide) (fun c42 => ?_) (fun c42 => ?_)
                · rw [if_pos c42] at hf
                  obtain rfl := Option.some.inj hf
                  exact hxrq34 _ rfl H locs ls hR hS (lv_sub hl [0, 1, 2, 3, 4, 5, 6] rfl)
                · rw [if_neg c42] at hf
                  refine lv_aload_n hx hb dX8_findsFolds_88 rfl (lv_at hl 0 rfl) ?_
                  refine lv_iload_n hx hb dX8_findsFolds_89 rfl (lv_at hl 1 rfl) ?_
                  refine lv_iload hx hb dX8_findsFolds_90 (lv_at hl 7 rfl) ?_
                  obtain ⟨o43, h44, hf⟩ := obO hf
                  obtain ⟨v46, g45, hf⟩ := ob hf
                  refine r_callV X kw_X8_113 (ci := 8) rfl (c_X8_ofNode l B D cA m19 x0 x1 z36 v46 g45) ⟨Nat.le_of_ble_eq_true rfl, Nat.le_of_ble_eq_true rfl⟩ h44 hR hS hl.1 rfl rfl (Nat.le_of_ble_eq_true rfl) ⟨Nat.le_of_ble_eq_true rfl, Nat.le_of_ble_eq_true rfl⟩ dX8_findsFolds_92 (fun H locs hR hS => ?_)
                  refine W.eq (g2 := F0 mt 95 ls [.int v46]) rfl ?_
                  refine lv_iload hx hb dX8_findsFolds_95 (lv_at hl 4 rfl) ?_
                  refine lv_icmp_ne (tgt := 113) hx hb dX8_findsFolds_97 (by decide) (fun c47 => ?_) (fun c47 => ?_)
                  · rw [if_neg c47] at hf
                    refine lv_iconst (v := 1) hx hb dX8_findsFolds_113 (by decide) ?_
                    refine lv_goto (tgt := 118) hx hb dX8_findsFolds_114 (by decide) ?_
                    refine lv_istore (lv' := [(6, .int (1 : Int32)), (0, .ref (B + x0)), (1, .int x1), (2, .int x2), (3, .int x3), (4, .int z8), (5, .int z18), (7, .int z36)]) hx hb dX8_findsFolds_118 hl (by decide) rfl (fun ls hl => ?_)
                    refine lv_iinc (v := (z36 + 1)) (lv' := [(7, .int (z36 + 1)), (6, .int (1 : Int32)), (0, .ref (B + x0)), (1, .int x1), (2, .int x2), (3, .int x3), (4, .int z8), (5, .int z18)]) hx hb dX8_findsFolds_120 hl (k := 7) rfl (congrArg (fun z => z36 + z) (by decide)) (by decide) rfl (fun ls hl => ?_)
                    refine lv_goto (tgt := 72) hx hb dX8_findsFolds_123 (by decide) ?_
                    obtain rfl := Option.some.inj hf
                    exact hxlq34 _ rfl H locs ls hR hS (lv_sub hl [2, 3, 4, 5, 6, 7, 1, 0] rfl)
                  · rw [if_pos c47] at hf
                    refine lv_aload_n hx hb dX8_findsFolds_100 rfl (lv_at hl 0 rfl) ?_
                    refine lv_iload_n hx hb dX8_findsFolds_101 rfl (lv_at hl 1 rfl) ?_
                    refine lv_iload hx hb dX8_findsFolds_102 (lv_at hl 7 rfl) ?_
                    refine lv_iload_n hx hb dX8_findsFolds_104 rfl (lv_at hl 2 rfl) ?_
                    refine lv_iload hx hb dX8_findsFolds_105 (lv_at hl 5 rfl) ?_
                    obtain ⟨o48, h49, hf⟩ := obO hf
                    obtain ⟨v51, g50, hf⟩ := ob hf
                    refine r_callV X kw_X8_174 (ci := 8) rfl (c_X8_follows l B D cA m19 x0 x1 z36 x2 z18 v51 g50) ⟨Nat.le_of_ble_eq_true rfl, Nat.le_of_ble_eq_true rfl⟩ h49 hR hS hl.1 rfl rfl (Nat.le_of_ble_eq_true rfl) ⟨Nat.le_of_ble_eq_true rfl, Nat.le_of_ble_eq_true rfl⟩ dX8_findsFolds_107 (fun H locs hR hS => ?_)
                    refine W.eq (g2 := F0 mt 110 ls [.int v51]) rfl ?_
                    refine lv_if_eq (tgt := 117) hx hb dX8_findsFolds_110 (by decide) (fun c52 => ?_) (fun c52 => ?_)
                    · rw [if_pos c52] at hf
                      refine lv_iconst (v := 0) hx hb dX8_findsFolds_117 (by decide) ?_
                      refine lv_istore (lv' := [(6, .int (0 : Int32)), (0, .ref (B + x0)), (1, .int x1), (2, .int x2), (3, .int x3), (4, .int z8), (5, .int z18), (7, .int z36)]) hx hb dX8_findsFolds_118 hl (by decide) rfl (fun ls hl => ?_)
                      refine lv_iinc (v := (z36 + 1)) (lv' := [(7, .int (z36 + 1)), (6, .int (0 : Int32)), (0, .ref (B + x0)), (1, .int x1), (2, .int x2), (3, .int x3), (4, .int z8), (5, .int z18)]) hx hb dX8_findsFolds_120 hl (k := 7) rfl (congrArg (fun z => z36 + z) (by decide)) (by decide) rfl (fun ls hl => ?_)
                      refine lv_goto (tgt := 72) hx hb dX8_findsFolds_123 (by decide) ?_
                      obtain rfl := Option.some.inj hf
                      exact hxlq34 _ rfl H locs ls hR hS (lv_sub hl [2, 3, 4, 5, 6, 7, 1, 0] rfl)
                    · rw [if_neg c52] at hf
                      refine lv_iconst (v := 1) hx hb dX8_findsFolds_113 (by decide) ?_
                      refine lv_goto (tgt := 118) hx hb dX8_findsFolds_114 (by decide) ?_
                      refine lv_istore (lv' := [(6, .int (1 : Int32)), (0, .ref (B + x0)), (1, .int x1), (2, .int x2), (3, .int x3), (4, .int z8), (5, .int z18), (7, .int z36)]) hx hb dX8_findsFolds_118 hl (by decide) rfl (fun ls hl => ?_)
                      refine lv_iinc (v := (z36 + 1)) (lv' := [(7, .int (z36 + 1)), (6, .int (1 : Int32)), (0, .ref (B + x0)), (1, .int x1), (2, .int x2), (3, .int x3), (4, .int z8), (5, .int z18)]) hx hb dX8_findsFolds_120 hl (k := 7) rfl (congrArg (fun z => z36 + z) (by decide)) (by decide) rfl (fun ls hl => ?_)
                      refine lv_goto (tgt := 72) hx hb dX8_findsFolds_123 (by decide) ?_
                      obtain rfl := Option.some.inj hf
                      exact hxlq34 _ rfl H locs ls hR hS (lv_sub hl [2, 3, 4, 5, 6, 7, 1, 0] rfl)
            · intro H locs ls hR hS hl
              refine lv_aload_n hx hb dX8_findsFolds_126 rfl (lv_at hl 0 rfl) ?_
              obtain ⟨v53, g54, hf⟩ := ob hf
              refine gR_X8_44 X hR g54 dX8_findsFolds_127 ?_
              refine lv_iload hx hb dX8_findsFolds_130 (lv_at hl 4 rfl) ?_
              refine lv_dup2_11 hx hb dX8_findsFolds_132 rfl rfl ?_
              obtain ⟨v55, g56, hf⟩ := ob hf
              refine r_lI X hR g56 dX8_findsFolds_133 ?_
              refine lv_iload hx hb dX8_findsFolds_134 (lv_at hl 6 rfl) ?_
              refine lv_if_eq (tgt := 146) hx hb dX8_findsFolds_136 (by decide) (fun c57 => ?_) (fun c57 => ?_)
              · rw [if_pos c57] at hf
                refine lv_iconst (v := 0) hx hb dX8_findsFolds_146 (by decide) ?_
                refine lv_ior hx hb dX8_findsFolds_147 ?_
                obtain ⟨m58, g59, hf⟩ := ob hf
                refine r_sI X hR hS g59 dX8_findsFolds_148 (fun H locs hR hS => ?_)
                refine lv_iinc (v := (z18 + 1)) (lv' := [(5, .int (z18 + 1)), (0, .ref (B + x0)), (1, .int x1), (2, .int x2), (3, .int x3), (4, .int z8), (6, .int e33)]) hx hb dX8_findsFolds_149 hl (k := 5) rfl (congrArg (fun z => z18 + z) (by decide)) (by decide) rfl (fun ls hl => ?_)
                refine lv_goto (tgt := 26) hx hb dX8_findsFolds_152 (by decide) ?_
                obtain rfl := Option.some.inj hf
                exact hxlq17 _ rfl H locs ls hR hS (lv_sub hl [1, 2, 3, 4, 5, 0] rfl)
              · rw [if_neg c57] at hf
                refine lv_iconst (v := 1) hx hb dX8_findsFolds_139 (by decide) ?_
                refine lv_iload hx hb dX8_findsFolds_140 (lv_at hl 5 rfl) ?_
                refine lv_ishl hx hb dX8_findsFolds_142 ?_
                refine lv_goto (tgt := 147) hx hb dX8_findsFolds_143 (by decide) ?_
                refine lv_ior hx hb dX8_findsFolds_147 ?_
                obtain ⟨m60, g61, hf⟩ := ob hf
                refine r_sI X hR hS g61 dX8_findsFolds_148 (fun H locs hR hS => ?_)
                refine lv_iinc (v := (z18 + 1)) (lv' := [(5, .int (z18 + 1)), (0, .ref (B + x0)), (1, .int x1), (2, .int x2), (3, .int x3), (4, .int z8), (6, .int e33)]) hx hb dX8_findsFolds_149 hl (k := 5) rfl (congrArg (fun z => z18 + z) (by decide)) (by decide) rfl (fun ls hl => ?_)
                refine lv_goto (tgt := 26) hx hb dX8_findsFolds_152 (by decide) ?_
                obtain rfl := Option.some.inj hf
                exact hxlq17 _ rfl H locs ls hR hS (lv_sub hl [1, 2, 3, 4, 5, 0] rfl)
          have hf := hjt29
          clear hjt29
          refine lv_if_eq (tgt := 63) hx hb dX8_findsFolds_47 (by decide) (fun c30 => ?_) (fun c30 => ?_)
          · rw [if_pos c30] at hf
            refine lv_iconst (v := 0) hx hb dX8_findsFolds_63 (by decide) ?_
            obtain rfl := Option.some.inj hf
            exact hJt29 H locs ls hR hS (lv_sub hl [0, 1, 2, 3, 4, 5] rfl)
          · rw [if_neg c30] at hf
            refine lv_iload_n hx hb dX8_findsFolds_50 rfl (lv_at hl 3 rfl) ?_
            refine lv_iload hx hb dX8_findsFolds_51 (lv_at hl 5 rfl) ?_
            refine lv_ishr hx hb dX8_findsFolds_53 ?_
            refine lv_iconst (v := 1) hx hb dX8_findsFolds_54 (by decide) ?_
            refine lv_iand hx hb dX8_findsFolds_55 ?_
            refine lv_if_ne (tgt := 63) hx hb dX8_findsFolds_56 (by decide) (fun c31 => ?_) (fun c31 => ?_)
            · rw [if_neg c31] at hf
              refine lv_iconst (v := 0) hx hb dX8_findsFolds_63 (by decide) ?_
              obtain rfl := Option.some.inj hf
              exact hJt29 H locs ls hR hS (lv_sub hl [0, 1, 2, 3, 4, 5] rfl)
            · rw [if_pos c31] at hf
              refine lv_iconst (v := 1) hx hb dX8_findsFolds_59 (by decide) ?_
              refine lv_goto (tgt := 64) hx hb dX8_findsFolds_60 (by decide) ?_
              obtain rfl := Option.some.inj hf
              exact hJt29 H locs ls hR hS (lv_sub hl [0, 1, 2, 3, 4, 5] rfl)
      · intro H locs ls hR hS hl
        refine lv_iinc (v := (z8 + (-1))) (lv' := [(4, .int (z8 + (-1))), (0, .ref (B + x0)), (1, .int x1), (2, .int x2), (3, .int x3)]) hx hb dX8_findsFolds_155 hl (k := 4) rfl (congrArg (fun z => z8 + z) (by decide)) (by decide) rfl (fun ls hl => ?_)
        refine lv_goto (tgt := 10) hx hb dX8_findsFolds_158 (by decide) ?_
        obtain rfl := Option.some.inj hf
        exact hxlq7 _ rfl H locs ls hR hS (lv_sub hl [1, 2, 3, 4, 0] rfl)
  · intro H locs ls hR hS hl
    obtain rfl := Option.some.inj hf
    exact r_vret X hr hlocks hR hS dX8_findsFolds_161
/-! ===== TwigMatchesModel.folds(II)I ===== -/
theorem dX8_folds_0 : decode cX8_folds 0 = .ok (.iload_n 1, 1) := by decide +kernel
theorem dX8_folds_1 : decode cX8_folds 1 = .ok (.invokestatic 161, 3) := by decide +kernel
theorem dX8_folds_4 : decode cX8_folds 4 = .ok (.ifCond .eq 10, 3) := by decide +kernel
theorem dX8_folds_7 : decode cX8_folds 7 = .ok (.iload_n 2, 1) := by decide +kernel
theorem dX8_folds_8 : decode cX8_folds 8 = .ok (.invokestatic 161, 3) := by decide +kernel
theorem dX8_folds_11 : decode cX8_folds 11 = .ok (.ifCond .ne 8, 3) := by decide +kernel
theorem dX8_folds_14 : decode cX8_folds 14 = .ok (.aload_n 0, 1) := by decide +kernel
theorem dX8_folds_15 : decode cX8_folds 15 = .ok (.invokevirtual 134, 3) := by decide +kernel
theorem dX8_folds_18 : decode cX8_folds 18 = .ok (.ireturn, 1) := by decide +kernel
theorem dX8_folds_19 : decode cX8_folds 19 = .ok (.aload_n 0, 1) := by decide +kernel
theorem dX8_folds_20 : decode cX8_folds 20 = .ok (.getfield 32, 3) := by decide +kernel
theorem dX8_folds_23 : decode cX8_folds 23 = .ok (.iload_n 1, 1) := by decide +kernel
theorem dX8_folds_24 : decode cX8_folds 24 = .ok (.iaload, 1) := by decide +kernel
theorem dX8_folds_25 : decode cX8_folds 25 = .ok (.ifCond .eq 28, 3) := by decide +kernel
theorem dX8_folds_28 : decode cX8_folds 28 = .ok (.aload_n 0, 1) := by decide +kernel
theorem dX8_folds_29 : decode cX8_folds 29 = .ok (.getfield 32, 3) := by decide +kernel
theorem dX8_folds_32 : decode cX8_folds 32 = .ok (.iload_n 2, 1) := by decide +kernel
theorem dX8_folds_33 : decode cX8_folds 33 = .ok (.iaload, 1) := by decide +kernel
theorem dX8_folds_34 : decode cX8_folds 34 = .ok (.ifCond .eq 19, 3) := by decide +kernel
theorem dX8_folds_37 : decode cX8_folds 37 = .ok (.aload_n 0, 1) := by decide +kernel
theorem dX8_folds_38 : decode cX8_folds 38 = .ok (.iload_n 1, 1) := by decide +kernel
theorem dX8_folds_39 : decode cX8_folds 39 = .ok (.invokevirtual 177, 3) := by decide +kernel
theorem dX8_folds_42 : decode cX8_folds 42 = .ok (.ifCond .ne 11, 3) := by decide +kernel
theorem dX8_folds_45 : decode cX8_folds 45 = .ok (.aload_n 0, 1) := by decide +kernel
theorem dX8_folds_46 : decode cX8_folds 46 = .ok (.iload_n 2, 1) := by decide +kernel
theorem dX8_folds_47 : decode cX8_folds 47 = .ok (.invokevirtual 177, 3) := by decide +kernel
theorem dX8_folds_50 : decode cX8_folds 50 = .ok (.ifCond .eq 8, 3) := by decide +kernel
theorem dX8_folds_53 : decode cX8_folds 53 = .ok (.aload_n 0, 1) := by decide +kernel
theorem dX8_folds_54 : decode cX8_folds 54 = .ok (.invokevirtual 119, 3) := by decide +kernel
theorem dX8_folds_57 : decode cX8_folds 57 = .ok (.ireturn, 1) := by decide +kernel
theorem dX8_folds_58 : decode cX8_folds 58 = .ok (.aload_n 0, 1) := by decide +kernel
theorem dX8_folds_59 : decode cX8_folds 59 = .ok (.iload_n 1, 1) := by decide +kernel
theorem dX8_folds_60 : decode cX8_folds 60 = .ok (.iload_n 2, 1) := by decide +kernel
theorem dX8_folds_61 : decode cX8_folds 61 = .ok (.iconst 0, 1) := by decide +kernel
theorem dX8_folds_62 : decode cX8_folds 62 = .ok (.invokevirtual 180, 3) := by decide +kernel
theorem dX8_folds_65 : decode cX8_folds 65 = .ok (.aload_n 0, 1) := by decide +kernel
theorem dX8_folds_66 : decode cX8_folds 66 = .ok (.getfield 44, 3) := by decide +kernel
theorem dX8_folds_69 : decode cX8_folds 69 = .ok (.iconst 0, 1) := by decide +kernel
theorem dX8_folds_70 : decode cX8_folds 70 = .ok (.iaload, 1) := by decide +kernel
theorem dX8_folds_71 : decode cX8_folds 71 = .ok (.ifCond .ne 7, 3) := by decide +kernel
theorem dX8_folds_74 : decode cX8_folds 74 = .ok (.iconst 0, 1) := by decide +kernel
theorem dX8_folds_75 : decode cX8_folds 75 = .ok (.goto 4, 3) := by decide +kernel
theorem dX8_folds_78 : decode cX8_folds 78 = .ok (.iconst 1, 1) := by decide +kernel
theorem dX8_folds_79 : decode cX8_folds 79 = .ok (.ireturn, 1) := by decide +kernel
set_option maxHeartbeats 4000000 in
set_option maxRecDepth 100000 in
theorem c_X8_folds (l : Launch) (B : Nat) (D : va_G) (cA : Nat → ClassId) (m : Mm) (x0 : Nat) (x1 : Int32) (x2 : Int32) (rZ : Int32) (mZ : Mm) (hf : f_X8_folds m x0 x1 x2 = some (rZ, mZ)) : Mt l B D cA yX8_folds cX8_folds 3 (some .int) 5 123 0 0 [.ref (B + x0), .int x1, .int x2] m (some (.int rZ)) mZ := by
  refine r_start (by decide) (Nat.le_of_ble_eq_true rfl) ?_
  intro p e s mt args below meth c ls H locs X hr hlocks hnm hR hl hS
  have hx := X.1
  have hb := X.2.1
  have hl : lv_has ls 3 [(0, .ref (B + x0)), (1, .int x1), (2, .int x2)] := hl
  unfold f_X8_folds at hf
  refine lv_iload_n hx hb dX8_folds_0 rfl (lv_at hl 1 rfl) ?_
  obtain ⟨v2, g1, hf⟩ := ob hf
  refine r_callS X kw_X8_161 (c_X8_isTwig l B D cA m x1 v2 g1) ⟨Nat.le_of_ble_eq_true rfl, Nat.le_of_ble_eq_true rfl⟩ hR hS hl.1 rfl rfl (Nat.le_of_ble_eq_true rfl) ⟨Nat.le_of_ble_eq_true rfl, Nat.le_of_ble_eq_true rfl⟩ dX8_folds_1 (fun H locs hR hS => ?_)
  refine W.eq (g2 := F0 mt 4 ls [.int v2]) rfl ?_
  refine lv_if_eq (tgt := 14) hx hb dX8_folds_4 (by decide) (fun c3 => ?_) (fun c3 => ?_)
  · rw [if_pos c3] at hf
    refine lv_aload_n hx hb dX8_folds_14 rfl (lv_at hl 0 rfl) ?_
    obtain ⟨o4, h5, hf⟩ := obO hf
    obtain ⟨t7, g6, hf⟩ := ob hf
    refine r_callV X kw_X8_134 (ci := 8) rfl (c_X8_bad l B D cA m x0 t7.1 t7.2 g6) ⟨Nat.le_of_ble_eq_true rfl, Nat.le_of_ble_eq_true rfl⟩ h5 hR hS hl.1 rfl rfl (Nat.le_of_ble_eq_true rfl) ⟨Nat.le_of_ble_eq_true rfl, Nat.le_of_ble_eq_true rfl⟩ dX8_folds_15 (fun H locs hR hS => ?_)
    refine W.eq (g2 := F0 mt 18 ls [.int t7.1]) rfl ?_
    obtain ⟨rfl, rfl⟩ := Prod.mk.inj (Option.some.inj hf)
    exact r_iret X hr hlocks hR hS rfl dX8_folds_18
  · rw [if_neg c3] at hf
    refine lv_iload_n hx hb dX8_folds_7 rfl (lv_at hl 2 rfl) ?_
    obtain ⟨v9, g8, hf⟩ := ob hf
    refine r_callS X kw_X8_161 (c_X8_isTwig l B D cA m x2 v9 g8) ⟨Nat.le_of_ble_eq_true rfl, Nat.le_of_ble_eq_true rfl⟩ hR hS hl.1 rfl rfl (Nat.le_of_ble_eq_true rfl) ⟨Nat.le_of_ble_eq_true rfl, Nat.le_of_ble_eq_true rfl⟩ dX8_folds_8 (fun H locs hR hS => ?_)
    refine W.eq (g2 := F0 mt 11 ls [.int v9]) rfl ?_
    refine lv_if_ne (tgt := 19) hx hb dX8_folds_11 (by decide) (fun c10 => ?_) (fun c10 => ?_)
    · rw [if_neg c10] at hf
      refine lv_aload_n hx hb dX8_folds_19 rfl (lv_at hl 0 rfl) ?_
      obtain ⟨v11, g12, hf⟩ := ob hf
      refine gR_X8_32 X hR g12 dX8_folds_20 ?_
      refine lv_iload_n hx hb dX8_folds_23 rfl (lv_at hl 1 rfl) ?_
      obtain ⟨v13, g14, hf⟩ := ob hf
      refine r_lI X hR g14 dX8_folds_24 ?_
      refine lv_if_eq (tgt := 53) hx hb dX8_folds_25 (by decide) (fun c15 => ?_) (fun c15 => ?_)
      · rw [if_pos c15] at hf
        refine lv_aload_n hx hb dX8_folds_53 rfl (lv_at hl 0 rfl) ?_
        obtain ⟨o16, h17, hf⟩ := obO hf
        obtain ⟨t19, g18, hf⟩ := ob hf
        refine r_callV X kw_X8_119 (ci := 8) rfl (c_X8_no l B D cA m x0 t19.1 t19.2 g18) ⟨Nat.le_of_ble_eq_true rfl, Nat.le_of_ble_eq_true rfl⟩ h17 hR hS hl.1 rfl rfl (Nat.le_of_ble_eq_true rfl) ⟨Nat.le_of_ble_eq_true rfl, Nat.le_of_ble_eq_true rfl⟩ dX8_folds_54 (fun H locs hR hS => ?_)
        refine W.eq (g2 := F0 mt 57 ls [.int t19.1]) rfl ?_
        obtain ⟨rfl, rfl⟩ := Prod.mk.inj (Option.some.inj hf)
        exact r_iret X hr hlocks hR hS rfl dX8_folds_57
      · rw [if_neg c15] at hf
        refine lv_aload_n hx hb dX8_folds_28 rfl (lv_at hl 0 rfl) ?_
        obtain ⟨v20, g21, hf⟩ := ob hf
        refine gR_X8_32 X hR g21 dX8_folds_29 ?_
        refine lv_iload_n hx hb dX8_folds_32 rfl (lv_at hl 2 rfl) ?_
        obtain ⟨v22, g23, hf⟩ := ob hf
        refine r_lI X hR g23 dX8_folds_33 ?_
        refine lv_if_eq (tgt := 53) hx hb dX8_folds_34 (by decide) (fun c24 => ?_) (fun c24 => ?_)
        · rw [if_pos c24] at hf
          refine lv_aload_n hx hb dX8_folds_53 rfl (lv_at hl 0 rfl) ?_
          obtain ⟨o25, h26, hf⟩ := obO hf
          obtain ⟨t28, g27, hf⟩ := ob hf
          refine r_callV X kw_X8_119 (ci := 8) rfl (c_X8_no l B D cA m x0 t28.1 t28.2 g27) ⟨Nat.le_of_ble_eq_true rfl, Nat.le_of_ble_eq_true rfl⟩ h26 hR hS hl.1 rfl rfl (Nat.le_of_ble_eq_true rfl) ⟨Nat.le_of_ble_eq_true rfl, Nat.le_of_ble_eq_true rfl⟩ dX8_folds_54 (fun H locs hR hS => ?_)
          refine W.eq (g2 := F0 mt 57 ls [.int t28.1]) rfl ?_
          obtain ⟨rfl, rfl⟩ := Prod.mk.inj (Option.some.inj hf)
          exact r_iret X hr hlocks hR hS rfl dX8_folds_57
        · rw [if_neg c24] at hf
          refine lv_aload_n hx hb dX8_folds_37 rfl (lv_at hl 0 rfl) ?_
          refine lv_iload_n hx hb dX8_folds_38 rfl (lv_at hl 1 rfl) ?_
          obtain ⟨o29, h30, hf⟩ := obO hf
          obtain ⟨v32, g31, hf⟩ := ob hf
          refine r_callV X kw_X8_177 (ci := 8) rfl (c_X8_hasOrder l B D cA m x0 x1 v32 g31) ⟨Nat.le_of_ble_eq_true rfl, Nat.le_of_ble_eq_true rfl⟩ h30 hR hS hl.1 rfl rfl (Nat.le_of_ble_eq_true rfl) ⟨Nat.le_of_ble_eq_true rfl, Nat.le_of_ble_eq_true rfl⟩ dX8_folds_39 (fun H locs hR hS => ?_)
          refine W.eq (g2 := F0 mt 42 ls [.int v32]) rfl ?_
          refine lv_if_ne (tgt := 53) hx hb dX8_folds_42 (by decide) (fun c33 => ?_) (fun c33 => ?_)
          · rw [if_neg c33] at hf
            refine lv_aload_n hx hb dX8_folds_53 rfl (lv_at hl 0 rfl) ?_
            obtain ⟨o34, h35, hf⟩ := obO hf
            obtain ⟨t37, g36, hf⟩ := ob hf
            refine r_callV X kw_X8_119 (ci := 8) rfl (c_X8_no l B D cA m x0 t37.1 t37.2 g36) ⟨Nat.le_of_ble_eq_true rfl, Nat.le_of_ble_eq_true rfl⟩ h35 hR hS hl.1 rfl rfl (Nat.le_of_ble_eq_true rfl) ⟨Nat.le_of_ble_eq_true rfl, Nat.le_of_ble_eq_true rfl⟩ dX8_folds_54 (fun H locs hR hS => ?_)
            refine W.eq (g2 := F0 mt 57 ls [.int t37.1]) rfl ?_
            obtain ⟨rfl, rfl⟩ := Prod.mk.inj (Option.some.inj hf)
            exact r_iret X hr hlocks hR hS rfl dX8_folds_57
          · rw [if_pos c33] at hf
            refine lv_aload_n hx hb dX8_folds_45 rfl (lv_at hl 0 rfl) ?_
            refine lv_iload_n hx hb dX8_folds_46 rfl (lv_at hl 2 rfl) ?_
            obtain ⟨o38, h39, hf⟩ := obO hf
            obtain ⟨v41, g40, hf⟩ := ob hf
            refine r_callV X kw_X8_177 (ci := 8) rfl (c_X8_hasOrder l B D cA m x0 x2 v41 g40) ⟨Nat.le_of_ble_eq_true rfl, Nat.le_of_ble_eq_true rfl⟩ h39 hR hS hl.1 rfl rfl (Nat.le_of_ble_eq_true rfl) ⟨Nat.le_of_ble_eq_true rfl, Nat.le_of_ble_eq_true rfl⟩ dX8_folds_47 (fun H locs hR hS => ?_)
            refine W.eq (g2 := F0 mt 50 ls [.int v41]) rfl ?_
            refine lv_if_eq (tgt := 58) hx hb dX8_folds_50 (by decide) (fun c42 => ?_) (fun c42 => ?_)
            · rw [if_pos c42] at hf
              refine lv_aload_n hx hb dX8_folds_58 rfl (lv_at hl 0 rfl) ?_
              refine lv_iload_n hx hb dX8_folds_59 rfl (lv_at hl 1 rfl) ?_
              refine lv_iload_n hx hb dX8_folds_60 rfl (lv_at hl 2 rfl) ?_
              refine lv_iconst (v := 0) hx hb dX8_folds_61 (by decide) ?_
              obtain ⟨o43, h44, hf⟩ := obO hf
              obtain ⟨m46, g45, hf⟩ := ob hf
              refine r_callV X kw_X8_180 (ci := 8) rfl (c_X8_findsFolds l B D cA m x0 x1 x2 (0 : Int32) m46 g45) ⟨Nat.le_of_ble_eq_true rfl, Nat.le_of_ble_eq_true rfl⟩ h44 hR hS hl.1 rfl rfl (Nat.le_of_ble_eq_true rfl) ⟨Nat.le_of_ble_eq_true rfl, Nat.le_of_ble_eq_true rfl⟩ dX8_folds_62 (fun H locs hR hS => ?_)
              refine W.eq (g2 := F0 mt 65 ls []) rfl ?_
              refine lv_aload_n hx hb dX8_folds_65 rfl (lv_at hl 0 rfl) ?_
              obtain ⟨v47, g48, hf⟩ := ob hf
              refine gR_X8_44 X hR g48 dX8_folds_66 ?_
              refine lv_iconst (v := 0) hx hb dX8_folds_69 (by decide) ?_
              obtain ⟨v49, g50, hf⟩ := ob hf
              refine r_lI X hR g50 dX8_folds_70 ?_
              refine lv_if_ne (tgt := 78) hx hb dX8_folds_71 (by decide) (fun c51 => ?_) (fun c51 => ?_)
              · rw [if_neg c51] at hf
                refine lv_iconst (v := 1) hx hb dX8_folds_78 (by decide) ?_
                obtain ⟨rfl, rfl⟩ := Prod.mk.inj (Option.some.inj hf)
                exact r_iret X hr hlocks hR hS rfl dX8_folds_79
              · rw [if_pos c51] at hf
                refine lv_iconst (v := 0) hx hb dX8_folds_74 (by decide) ?_
                refine lv_goto (tgt := 79) hx hb dX8_folds_75 (by decide) ?_
                obtain ⟨rfl, rfl⟩ := Prod.mk.inj (Option.some.inj hf)
                exact r_iret X hr hlocks hR hS rfl dX8_folds_79
            · rw [if_neg c42] at hf
              refine lv_aload_n hx hb dX8_folds_53 rfl (lv_at hl 0 rfl) ?_
              obtain ⟨o52, h53, hf⟩ := obO hf
              obtain ⟨t55, g54, hf⟩ := ob hf
              refine r_callV X kw_X8_119 (ci := 8) rfl (c_X8_no l B D cA m x0 t55.1 t55.2 g54) ⟨Nat.le_of_ble_eq_true rfl, Nat.le_of_ble_eq_true rfl⟩ h53 hR hS hl.1 rfl rfl (Nat.le_of_ble_eq_true rfl) ⟨Nat.le_of_ble_eq_true rfl, Nat.le_of_ble_eq_true rfl⟩ dX8_folds_54 (fun H locs hR hS => ?_)
              refine W.eq (g2 := F0 mt 57 ls [.int t55.1]) rfl ?_
              obtain ⟨rfl, rfl⟩ := Prod.mk.inj (Option.some.inj hf)
              exact r_iret X hr hlocks hR hS rfl dX8_folds_57
    · rw [if_pos c10] at hf
      refine lv_aload_n hx hb dX8_folds_14 rfl (lv_at hl 0 rfl) ?_
      obtain ⟨o56, h57, hf⟩ := obO hf
      obtain ⟨t59, g58, hf⟩ := ob hf
      refine r_callV X kw_X8_134 (ci := 8) rfl (c_X8_bad l B D cA m x0 t59.1 t59.2 g58) ⟨Nat.le_of_ble_eq_true rfl, Nat.le_of_ble_eq_true rfl⟩ h57 hR hS hl.1 rfl rfl (Nat.le_of_ble_eq_true rfl) ⟨Nat.le_of_ble_eq_true rfl, Nat.le_of_ble_eq_true rfl⟩ dX8_folds_15 (fun H locs hR hS => ?_)
      refine W.eq (g2 := F0 mt 18 ls [.int t59.1]) rfl ?_
      obtain ⟨rfl, rfl⟩ := Prod.mk.inj (Option.some.inj hf)
      exact r_iret X hr hlocks hR hS rfl dX8_folds_18
/-! ===== TwigMatchesModel.spare(II)I ===== -/
theorem dX8_spare_0 : decode cX8_spare 0 = .ok (.iload_n 1, 1) := by decide +kernel
theorem dX8_spare_1 : decode cX8_spare 1 = .ok (.invokestatic 161, 3) := by decide +kernel
theorem dX8_spare_4 : decode cX8_spare 4 = .ok (.ifCond .eq 8, 3) := by decide +kernel
theorem dX8_spare_7 : decode cX8_spare 7 = .ok (.iload_n 2, 1) := by decide +kernel
theorem dX8_spare_8 : decode cX8_spare 8 = .ok (.iconst 1, 1) := by decide +kernel
theorem dX8_spare_9 : decode cX8_spare 9 = .ok (.if_icmp .ge 8, 3) := by decide +kernel
theorem dX8_spare_12 : decode cX8_spare 12 = .ok (.aload_n 0, 1) := by decide +kernel
theorem dX8_spare_13 : decode cX8_spare 13 = .ok (.invokevirtual 134, 3) := by decide +kernel
theorem dX8_spare_16 : decode cX8_spare 16 = .ok (.ireturn, 1) := by decide +kernel
theorem dX8_spare_17 : decode cX8_spare 17 = .ok (.iload_n 2, 1) := by decide +kernel
theorem dX8_spare_18 : decode cX8_spare 18 = .ok (.aload_n 0, 1) := by decide +kernel
theorem dX8_spare_19 : decode cX8_spare 19 = .ok (.getfield 32, 3) := by decide +kernel
theorem dX8_spare_22 : decode cX8_spare 22 = .ok (.iload_n 1, 1) := by decide +kernel
theorem dX8_spare_23 : decode cX8_spare 23 = .ok (.iaload, 1) := by decide +kernel
theorem dX8_spare_24 : decode cX8_spare 24 = .ok (.if_icmp .ge 11, 3) := by decide +kernel
theorem dX8_spare_27 : decode cX8_spare 27 = .ok (.aload_n 0, 1) := by decide +kernel
theorem dX8_spare_28 : decode cX8_spare 28 = .ok (.iload_n 1, 1) := by decide +kernel
theorem dX8_spare_29 : decode cX8_spare 29 = .ok (.invokevirtual 177, 3) := by decide +kernel
theorem dX8_spare_32 : decode cX8_spare 32 = .ok (.ifCond .eq 8, 3) := by decide +kernel
theorem dX8_spare_35 : decode cX8_spare 35 = .ok (.aload_n 0, 1) := by decide +kernel
theorem dX8_spare_36 : decode cX8_spare 36 = .ok (.invokevirtual 119, 3) := by decide +kernel
theorem dX8_spare_39 : decode cX8_spare 39 = .ok (.ireturn, 1) := by decide +kernel
theorem dX8_spare_40 : decode cX8_spare 40 = .ok (.iconst 0, 1) := by decide +kernel
theorem dX8_spare_41 : decode cX8_spare 41 = .ok (.istore_n 3, 1) := by decide +kernel
theorem dX8_spare_42 : decode cX8_spare 42 = .ok (.iconst 0, 1) := by decide +kernel
theorem dX8_spare_43 : decode cX8_spare 43 = .ok (.istore 4, 2) := by decide +kernel
theorem dX8_spare_45 : decode cX8_spare 45 = .ok (.iload 4, 2) := by decide +kernel
theorem dX8_spare_47 : decode cX8_spare 47 = .ok (.aload_n 0, 1) := by decide +kernel
theorem dX8_spare_48 : decode cX8_spare 48 = .ok (.getfield 32, 3) := by decide +kernel
theorem dX8_spare_51 : decode cX8_spare 51 = .ok (.iload_n 1, 1) := by decide +kernel
theorem dX8_spare_52 : decode cX8_spare 52 = .ok (.iaload, 1) := by decide +kernel
theorem dX8_spare_53 : decode cX8_spare 53 = .ok (.if_icmp .ge 31, 3) := by decide +kernel
theorem dX8_spare_56 : decode cX8_spare 56 = .ok (.iload_n 3, 1) := by decide +kernel
theorem dX8_spare_57 : decode cX8_spare 57 = .ok (.aload_n 0, 1) := by decide +kernel
theorem dX8_spare_58 : decode cX8_spare 58 = .ok (.iload_n 1, 1) := by decide +kernel
theorem dX8_spare_59 : decode cX8_spare 59 = .ok (.iload 4, 2) := by decide +kernel
theorem dX8_spare_61 : decode cX8_spare 61 = .ok (.iload_n 2, 1) := by decide +kernel
theorem dX8_spare_62 : decode cX8_spare 62 = .ok (.invokevirtual 167, 3) := by decide +kernel
theorem dX8_spare_65 : decode cX8_spare 65 = .ok (.ifCond .eq 10, 3) := by decide +kernel
theorem dX8_spare_68 : decode cX8_spare 68 = .ok (.iconst 1, 1) := by decide +kernel
theorem dX8_spare_69 : decode cX8_spare 69 = .ok (.iload 4, 2) := by decide +kernel
theorem dX8_spare_71 : decode cX8_spare 71 = .ok (.ishl, 1) := by decide +kernel
theorem dX8_spare_72 : decode cX8_spare 72 = .ok (.goto 4, 3) := by decide +kernel
theorem dX8_spare_75 : decode cX8_spare 75 = .ok (.iconst 0, 1) := by decide +kernel
theorem dX8_spare_76 : decode cX8_spare 76 = .ok (.ior, 1) := by decide +kernel
theorem dX8_spare_77 : decode cX8_spare 77 = .ok (.istore_n 3, 1) := by decide +kernel
theorem dX8_spare_78 : decode cX8_spare 78 = .ok (.iinc 4 1, 3) := by decide +kernel
theorem dX8_spare_81 : decode cX8_spare 81 = .ok (.goto (-36), 3) := by decide +kernel
theorem dX8_spare_84 : decode cX8_spare 84 = .ok (.aload_n 0, 1) := by decide +kernel
theorem dX8_spare_85 : decode cX8_spare 85 = .ok (.iload_n 1, 1) := by decide +kernel
theorem dX8_spare_86 : decode cX8_spare 86 = .ok (.iload_n 1, 1) := by decide +kernel
theorem dX8_spare_87 : decode cX8_spare 87 = .ok (.iload_n 3, 1) := by decide +kernel
theorem dX8_spare_88 : decode cX8_spare 88 = .ok (.invokevirtual 180, 3) := by decide +kernel
theorem dX8_spare_91 : decode cX8_spare 91 = .ok (.aload_n 0, 1) := by decide +kernel
theorem dX8_spare_92 : decode cX8_spare 92 = .ok (.getfield 44, 3) := by decide +kernel
theorem dX8_spare_95 : decode cX8_spare 95 = .ok (.iconst 0, 1) := by decide +kernel
theorem dX8_spare_96 : decode cX8_spare 96 = .ok (.iaload, 1) := by decide +kernel
theorem dX8_spare_97 : decode cX8_spare 97 = .ok (.iconst 1, 1) := by decide +kernel
theorem dX8_spare_98 : decode cX8_spare 98 = .ok (.iand, 1) := by decide +kernel
theorem dX8_spare_99 : decode cX8_spare 99 = .ok (.ireturn, 1) := by decide +kernel
set_option maxHeartbeats 4000000 in
set_option maxRecDepth 100000 in
theorem c_X8_spare (l : Launch) (B : Nat) (D : va_G) (cA : Nat → ClassId) (m : Mm) (x0 : Nat) (x1 : Int32) (x2 : Int32) (rZ : Int32) (mZ : Mm) (hf : f_X8_spare m x0 x1 x2 = some (rZ, mZ)) : Mt l B D cA yX8_spare cX8_spare 5 (some .int) 5 123 0 0 [.ref (B + x0), .int x1, .int x2] m (some (.int rZ)) mZ := by
  refine r_start (by decide) (Nat.le_of_ble_eq_true rfl) ?_
  intro p e s mt args below meth c ls H locs X hr hlocks hnm hR hl hS
  have hx := X.1
  have hb := X.2.1
  have hl : lv_has ls 5 [(0, .ref (B + x0)), (1, .int x1), (2, .int x2)] := hl
  unfold f_X8_spare at hf
  refine lv_iload_n hx hb dX8_spare_0 rfl (lv_at hl 1 rfl) ?_
  obtain ⟨v2, g1, hf⟩ := ob hf
  refine r_callS X kw_X8_161 (c_X8_isTwig l B D cA m x1 v2 g1) ⟨Nat.le_of_ble_eq_true rfl, Nat.le_of_ble_eq_true rfl⟩ hR hS hl.1 rfl rfl (Nat.le_of_ble_eq_true rfl) ⟨Nat.le_of_ble_eq_true rfl, Nat.le_of_ble_eq_true rfl⟩ dX8_spare_1 (fun H locs hR hS => ?_)
  refine W.eq (g2 := F0 mt 4 ls [.int v2]) rfl ?_
  refine lv_if_eq (tgt := 12) hx hb dX8_spare_4 (by decide) (fun c3 => ?_) (fun c3 => ?_)
  · rw [if_pos c3] at hf
    refine lv_aload_n hx hb dX8_spare_12 rfl (lv_at hl 0 rfl) ?_
    obtain ⟨o4, h5, hf⟩ := obO hf
    obtain ⟨t7, g6, hf⟩ := ob hf
    refine r_callV X kw_X8_134 (ci := 8) rfl (c_X8_bad l B D cA m x0 t7.1 t7.2 g6) ⟨Nat.le_of_ble_eq_true rfl, Nat.le_of_ble_eq_true rfl⟩ h5 hR hS hl.1 rfl rfl (Nat.le_of_ble_eq_true rfl) ⟨Nat.le_of_ble_eq_true rfl, Nat.le_of_ble_eq_true rfl⟩ dX8_spare_13 (fun H locs hR hS => ?_)
    refine W.eq (g2 := F0 mt 16 ls [.int t7.1]) rfl ?_
    obtain ⟨rfl, rfl⟩ := Prod.mk.inj (Option.some.inj hf)
    exact r_iret X hr hlocks hR hS rfl dX8_spare_16
  · rw [if_neg c3] at hf
    refine lv_iload_n hx hb dX8_spare_7 rfl (lv_at hl 2 rfl) ?_
    refine lv_iconst (v := 1) hx hb dX8_spare_8 (by decide) ?_
    refine lv_icmp_ge (tgt := 17) hx hb dX8_spare_9 (by decide) (fun c8 => ?_) (fun c8 => ?_)
    · rw [if_pos c8] at hf
      refine lv_iload_n hx hb dX8_spare_17 rfl (lv_at hl 2 rfl) ?_
      refine lv_aload_n hx hb dX8_spare_18 rfl (lv_at hl 0 rfl) ?_
      obtain ⟨v9, g10, hf⟩ := ob hf
      refine gR_X8_32 X hR g10 dX8_spare_19 ?_
      refine lv_iload_n hx hb dX8_spare_22 rfl (lv_at hl 1 rfl) ?_
      obtain ⟨v11, g12, hf⟩ := ob hf
      refine r_lI X hR g12 dX8_spare_23 ?_
      refine lv_icmp_ge (tgt := 35) hx hb dX8_spare_24 (by decide) (fun c13 => ?_) (fun c13 => ?_)
      · rw [if_pos c13] at hf
        refine lv_aload_n hx hb dX8_spare_35 rfl (lv_at hl 0 rfl) ?_
        obtain ⟨o14, h15, hf⟩ := obO hf
        obtain ⟨t17, g16, hf⟩ := ob hf
        refine r_callV X kw_X8_119 (ci := 8) rfl (c_X8_no l B D cA m x0 t17.1 t17.2 g16) ⟨Nat.le_of_ble_eq_true rfl, Nat.le_of_ble_eq_true rfl⟩ h15 hR hS hl.1 rfl rfl (Nat.le_of_ble_eq_true rfl) ⟨Nat.le_of_ble_eq_true rfl, Nat.le_of_ble_eq_true rfl⟩ dX8_spare_36 (fun H locs hR hS => ?_)
        refine W.eq (g2 := F0 mt 39 ls [.int t17.1]) rfl ?_
        obtain ⟨rfl, rfl⟩ := Prod.mk.inj (Option.some.inj hf)
        exact r_iret X hr hlocks hR hS rfl dX8_spare_39
      · rw [if_neg c13] at hf
        refine lv_aload_n hx hb dX8_spare_27 rfl (lv_at hl 0 rfl) ?_
        refine lv_iload_n hx hb dX8_spare_28 rfl (lv_at hl 1 rfl) ?_
        obtain ⟨o18, h19, hf⟩ := obO hf
        obtain ⟨v21, g20, hf⟩ := ob hf
        refine r_callV X kw_X8_177 (ci := 8) rfl (c_X8_hasOrder l B D cA m x0 x1 v21 g20) ⟨Nat.le_of_ble_eq_true rfl, Nat.le_of_ble_eq_true rfl⟩ h19 hR hS hl.1 rfl rfl (Nat.le_of_ble_eq_true rfl) ⟨Nat.le_of_ble_eq_true rfl, Nat.le_of_ble_eq_true rfl⟩ dX8_spare_29 (fun H locs hR hS => ?_)
        refine W.eq (g2 := F0 mt 32 ls [.int v21]) rfl ?_
        refine lv_if_eq (tgt := 40) hx hb dX8_spare_32 (by decide) (fun c22 => ?_) (fun c22 => ?_)
        · rw [if_pos c22] at hf
          refine lv_iconst (v := 0) hx hb dX8_spare_40 (by decide) ?_
          refine lv_istore_n (lv' := [(3, .int (0 : Int32)), (0, .ref (B + x0)), (1, .int x1), (2, .int x2)]) hx hb dX8_spare_41 rfl hl (by decide) rfl (fun ls hl => ?_)
          refine lv_iconst (v := 0) hx hb dX8_spare_42 (by decide) ?_
          refine lv_istore (lv' := [(4, .int (0 : Int32)), (3, .int (0 : Int32)), (0, .ref (B + x0)), (1, .int x1), (2, .int x2)]) hx hb dX8_spare_43 hl (by decide) rfl (fun ls hl => ?_)
          obtain ⟨e24, hwe24, hf⟩ := ob hf
          refine whl_rule (P := (fun t23 => ∀ (H : Heap) (locs : List Loc) (ls : Array Slot), Rl B D cA m H → va_S (fun q => B ≤ q) s.heap H locs → lv_has ls 5 [(0, .ref (B + x0)), (1, .int x1), (2, .int x2), (3, .int t23.1), (4, .int t23.2)] → W p l e (rmm 5 0 0 123) s mt args below meth c H locs 0 0 (MQ below (mQ B D cA (some (.int rZ)) mZ) args s 0 0 (fun q => B ≤ q)) (F0 mt 45 ls []))) (Qx := (fun e24 => ∀ (H : Heap) (locs : List Loc) (ls : Array Slot), Rl B D cA m H → va_S (fun q => B ≤ q) s.heap H locs → lv_has ls 5 [(0, .ref (B + x0)), (1, .int x1), (3, .int e24)] → W p l e (rmm 5 0 0 123) s mt args below meth c H locs 0 0 (MQ below (mQ B D cA (some (.int rZ)) mZ) args s 0 0 (fun q => B ≤ q)) (F0 mt 84 ls []))) ?_ FU _ e24 hwe24 ?_ H locs ls hR hS (lv_sub hl [2, 3, 4, 1, 0] rfl)
          · clear hwe24 hf
            intro t23 q25 hf hxlq25 hxrq25 H locs ls hR hS hl
            obtain ⟨z26, z27⟩ := t23
            have hf : f_X8_spare_L45 m x0 x1 x2 z26 z27 = some q25 := hf
            have hR : Rl B D cA m H := hR
            have hl : lv_has ls 5 [(0, .ref (B + x0)), (1, .int x1), (2, .int x2), (3, .int z26), (4, .int z27)] := hl
            unfold f_X8_spare_L45 at hf
            refine lv_iload hx hb dX8_spare_45 (lv_at hl 4 rfl) ?_
            refine lv_aload_n hx hb dX8_spare_47 rfl (lv_at hl 0 rfl) ?_
            obtain ⟨v28, g29, hf⟩ := ob hf
            refine gR_X8_32 X hR g29 dX8_spare_48 ?_
            refine lv_iload_n hx hb dX8_spare_51 rfl (lv_at hl 1 rfl) ?_
            obtain ⟨v30, g31, hf⟩ := ob hf
            refine r_lI X hR g31 dX8_spare_52 ?_
            refine lv_icmp_ge (tgt := 84) hx hb dX8_spare_53 (by decide) (fun c32 => ?_) (fun c32 => ?_)
            · rw [if_pos c32] at hf
              obtain rfl := Option.some.inj hf
              exact hxrq25 _ rfl H locs ls hR hS (lv_sub hl [0, 1, 3] rfl)
            · rw [if_neg c32] at hf
              refine lv_iload_n hx hb dX8_spare_56 rfl (lv_at hl 3 rfl) ?_
              refine lv_aload_n hx hb dX8_spare_57 rfl (lv_at hl 0 rfl) ?_
              refine lv_iload_n hx hb dX8_spare_58 rfl (lv_at hl 1 rfl) ?_
              refine lv_iload hx hb dX8_spare_59 (lv_at hl 4 rfl) ?_
              refine lv_iload_n hx hb dX8_spare_61 rfl (lv_at hl 2 rfl) ?_
              obtain ⟨o33, h34, hf⟩ := obO hf
              obtain ⟨v36, g35, hf⟩ := ob hf
              refine r_callV X kw_X8_167 (ci := 8) rfl (c_X8_isWithin l B D cA m x0 x1 z27 x2 v36 g35) ⟨Nat.le_of_ble_eq_true rfl, Nat.le_of_ble_eq_true rfl⟩ h34 hR hS hl.1 rfl rfl (Nat.le_of_ble_eq_true rfl) ⟨Nat.le_of_ble_eq_true rfl, Nat.le_of_ble_eq_true rfl⟩ dX8_spare_62 (fun H locs hR hS => ?_)
              refine W.eq (g2 := F0 mt 65 ls [.int v36, .int z26]) rfl ?_
              refine lv_if_eq (tgt := 75) hx hb dX8_spare_65 (by decide) (fun c37 => ?_) (fun c37 => ?_)
              · rw [if_pos c37] at hf
                refine lv_iconst (v := 0) hx hb dX8_spare_75 (by decide) ?_
                refine lv_ior hx hb dX8_spare_76 ?_
                refine lv_istore_n (lv' := [(3, .int (z26 ||| (0 : Int32))), (0, .ref (B + x0)), (1, .int x1), (2, .int x2), (4, .int z27)]) hx hb dX8_spare_77 rfl hl (by decide) rfl (fun ls hl => ?_)
                refine lv_iinc (v := (z27 + 1)) (lv' := [(4, .int (z27 + 1)), (3, .int (z26 ||| (0 : Int32))), (0, .ref (B + x0)), (1, .int x1), (2, .int x2)]) hx hb dX8_spare_78 hl (k := 4) rfl (congrArg (fun z => z27 + z) (by decide)) (by decide) rfl (fun ls hl => ?_)
                refine lv_goto (tgt := 45) hx hb dX8_spare_81 (by decide) ?_
                obtain rfl := Option.some.inj hf
                exact hxlq25 _ rfl H locs ls hR hS (lv_sub hl [2, 3, 4, 1, 0] rfl)
              · rw [if_neg c37] at hf
                refine lv_iconst (v := 1) hx hb dX8_spare_68 (by decide) ?_
                refine lv_iload hx hb dX8_spare_69 (lv_at hl 4 rfl) ?_
                refine lv_ishl hx hb dX8_spare_71 ?_
                refine lv_goto (tgt := 76) hx hb dX8_spare_72 (by decide) ?_
                refine lv_ior hx hb dX8_spare_76 ?_
                refine lv_istore_n (lv' := [(3, .int (z26 ||| ((1 : Int32) <<< (z27 &&& 31)))), (0, .ref (B + x0)), (1, .int x1), (2, .int x2), (4, .int z27)]) hx hb dX8_spare_77 rfl hl (by decide) rfl (fun ls hl => ?_)
                refine lv_iinc (v := (z27 + 1)) (lv' := [(4, .int (z27 + 1)), (3, .int (z26 ||| ((1 : Int32) <<< (z27 &&& 31)))), (0, .ref (B + x0)), (1, .int x1), (2, .int x2)]) hx hb dX8_spare_78 hl (k := 4) rfl (congrArg (fun z => z27 + z) (by decide)) (by decide) rfl (fun ls hl => ?_)
                refine lv_goto (tgt := 45) hx hb dX8_spare_81 (by decide) ?_
                obtain rfl := Option.some.inj hf
                exact hxlq25 _ rfl H locs ls hR hS (lv_sub hl [2, 3, 4, 1, 0] rfl)
          · intro H locs ls hR hS hl
            refine lv_aload_n hx hb dX8_spare_84 rfl (lv_at hl 0 rfl) ?_
            refine lv_iload_n hx hb dX8_spare_85 rfl (lv_at hl 1 rfl) ?_
            refine lv_iload_n hx hb dX8_spare_86 rfl (lv_at hl 1 rfl) ?_
            refine lv_iload_n hx hb dX8_spare_87 rfl (lv_at hl 2 rfl) ?_
            obtain ⟨o38, h39, hf⟩ := obO hf
            obtain ⟨m41, g40, hf⟩ := ob hf
            refine r_callV X kw_X8_180 (ci := 8) rfl (c_X8_findsFolds l B D cA m x0 x1 x1 e24 m41 g40) ⟨Nat.le_of_ble_eq_true rfl, Nat.le_of_ble_eq_true rfl⟩ h39 hR hS hl.1 rfl rfl (Nat.le_of_ble_eq_true rfl) ⟨Nat.le_of_ble_eq_true rfl, Nat.le_of_ble_eq_true rfl⟩ dX8_spare_88 (fun H locs hR hS => ?_)
            refine W.eq (g2 := F0 mt 91 ls []) rfl ?_
            refine lv_aload_n hx hb dX8_spare_91 rfl (lv_at hl 0 rfl) ?_
            obtain ⟨v42, g43, hf⟩ := ob hf
            refine gR_X8_44 X hR g43 dX8_spare_92 ?_
            refine lv_iconst (v := 0) hx hb dX8_spare_95 (by decide) ?_
            obtain ⟨v44, g45, hf⟩ := ob hf
            refine r_lI X hR g45 dX8_spare_96 ?_
            refine lv_iconst (v := 1) hx hb dX8_spare_97 (by decide) ?_
            refine lv_iand hx hb dX8_spare_98 ?_
            obtain ⟨rfl, rfl⟩ := Prod.mk.inj (Option.some.inj hf)
            exact r_iret X hr hlocks hR hS rfl dX8_spare_99
        · rw [if_neg c22] at hf
          refine lv_aload_n hx hb dX8_spare_35 rfl (lv_at hl 0 rfl) ?_
          obtain ⟨o46, h47, hf⟩ := obO hf
          obtain ⟨t49, g48, hf⟩ := ob hf
          refine r_callV X kw_X8_119 (ci := 8) rfl (c_X8_no l B D cA m x0 t49.1 t49.2 g48) ⟨Nat.le_of_ble_eq_true rfl, Nat.le_of_ble_eq_true rfl⟩ h47 hR hS hl.1 rfl rfl (Nat.le_of_ble_eq_true rfl) ⟨Nat.le_of_ble_eq_true rfl, Nat.le_of_ble_eq_true rfl⟩ dX8_spare_36 (fun H locs hR hS => ?_)
          refine W.eq (g2 := F0 mt 39 ls [.int t49.1]) rfl ?_
          obtain ⟨rfl, rfl⟩ := Prod.mk.inj (Option.some.inj hf)
          exact r_iret X hr hlocks hR hS rfl dX8_spare_39
    · rw [if_neg c8] at hf
      refine lv_aload_n hx hb dX8_spare_12 rfl (lv_at hl 0 rfl) ?_
      obtain ⟨o50, h51, hf⟩ := obO hf
      obtain ⟨t53, g52, hf⟩ := ob hf
      refine r_callV X kw_X8_134 (ci := 8) rfl (c_X8_bad l B D cA m x0 t53.1 t53.2 g52) ⟨Nat.le_of_ble_eq_true rfl, Nat.le_of_ble_eq_true rfl⟩ h51 hR hS hl.1 rfl rfl (Nat.le_of_ble_eq_true rfl) ⟨Nat.le_of_ble_eq_true rfl, Nat.le_of_ble_eq_true rfl⟩ dX8_spare_13 (fun H locs hR hS => ?_)
      refine W.eq (g2 := F0 mt 16 ls [.int t53.1]) rfl ?_
      obtain ⟨rfl, rfl⟩ := Prod.mk.inj (Option.some.inj hf)
      exact r_iret X hr hlocks hR hS rfl dX8_spare_16
/-! ===== TwigMatchesModel.isJoined(IIII)Z ===== -/
theorem dX8_isJoined_0 : decode cX8_isJoined 0 = .ok (.aload_n 0, 1) := by decide +kernel
theorem dX8_isJoined_1 : decode cX8_isJoined 1 = .ok (.iload_n 1, 1) := by decide +kernel
theorem dX8_isJoined_2 : decode cX8_isJoined 2 = .ok (.iload_n 2, 1) := by decide +kernel
theorem dX8_isJoined_3 : decode cX8_isJoined 3 = .ok (.invokevirtual 158, 3) := by decide +kernel
theorem dX8_isJoined_6 : decode cX8_isJoined 6 = .ok (.iconst 1, 1) := by decide +kernel
theorem dX8_isJoined_7 : decode cX8_isJoined 7 = .ok (.if_icmp .ne 22, 3) := by decide +kernel
theorem dX8_isJoined_10 : decode cX8_isJoined 10 = .ok (.aload_n 0, 1) := by decide +kernel
theorem dX8_isJoined_11 : decode cX8_isJoined 11 = .ok (.getfield 29, 3) := by decide +kernel
theorem dX8_isJoined_14 : decode cX8_isJoined 14 = .ok (.iload 4, 2) := by decide +kernel
theorem dX8_isJoined_16 : decode cX8_isJoined 16 = .ok (.iaload, 1) := by decide +kernel
theorem dX8_isJoined_17 : decode cX8_isJoined 17 = .ok (.iload_n 3, 1) := by decide +kernel
theorem dX8_isJoined_18 : decode cX8_isJoined 18 = .ok (.if_icmp .ne 7, 3) := by decide +kernel
theorem dX8_isJoined_21 : decode cX8_isJoined 21 = .ok (.iconst 1, 1) := by decide +kernel
theorem dX8_isJoined_22 : decode cX8_isJoined 22 = .ok (.goto 29, 3) := by decide +kernel
theorem dX8_isJoined_25 : decode cX8_isJoined 25 = .ok (.iconst 0, 1) := by decide +kernel
theorem dX8_isJoined_26 : decode cX8_isJoined 26 = .ok (.goto 25, 3) := by decide +kernel
theorem dX8_isJoined_29 : decode cX8_isJoined 29 = .ok (.iload 4, 2) := by decide +kernel
theorem dX8_isJoined_31 : decode cX8_isJoined 31 = .ok (.iload_n 3, 1) := by decide +kernel
theorem dX8_isJoined_32 : decode cX8_isJoined 32 = .ok (.if_icmp .le 18, 3) := by decide +kernel
theorem dX8_isJoined_35 : decode cX8_isJoined 35 = .ok (.iload 4, 2) := by decide +kernel
theorem dX8_isJoined_37 : decode cX8_isJoined 37 = .ok (.aload_n 0, 1) := by decide +kernel
theorem dX8_isJoined_38 : decode cX8_isJoined 38 = .ok (.getfield 26, 3) := by decide +kernel
theorem dX8_isJoined_41 : decode cX8_isJoined 41 = .ok (.iload_n 3, 1) := by decide +kernel
theorem dX8_isJoined_42 : decode cX8_isJoined 42 = .ok (.iaload, 1) := by decide +kernel
theorem dX8_isJoined_43 : decode cX8_isJoined 43 = .ok (.if_icmp .ge 7, 3) := by decide +kernel
theorem dX8_isJoined_46 : decode cX8_isJoined 46 = .ok (.iconst 1, 1) := by decide +kernel
theorem dX8_isJoined_47 : decode cX8_isJoined 47 = .ok (.goto 4, 3) := by decide +kernel
theorem dX8_isJoined_50 : decode cX8_isJoined 50 = .ok (.iconst 0, 1) := by decide +kernel
theorem dX8_isJoined_51 : decode cX8_isJoined 51 = .ok (.ireturn, 1) := by decide +kernel
set_option maxHeartbeats 4000000 in
set_option maxRecDepth 100000 in
theorem c_X8_isJoined (l : Launch) (B : Nat) (D : va_G) (cA : Nat → ClassId) (m : Mm) (x0 : Nat) (x1 : Int32) (x2 : Int32) (x3 : Int32) (x4 : Int32) (rZ : Int32) (hf : f_X8_isJoined m x0 x1 x2 x3 x4 = some rZ) : Mt l B D cA yX8_isJoined cX8_isJoined 5 (some .boolean) 2 44 0 0 [.ref (B + x0), .int x1, .int x2, .int x3, .int x4] m (some (.int rZ)) m := by
  refine r_start (by decide) (Nat.le_of_ble_eq_true rfl) ?_
  intro p e s mt args below meth c ls H locs X hr hlocks hnm hR hl hS
  have hx := X.1
  have hb := X.2.1
  have hl : lv_has ls 5 [(0, .ref (B + x0)), (1, .int x1), (2, .int x2), (3, .int x3), (4, .int x4)] := hl
  unfold f_X8_isJoined at hf
  refine lv_aload_n hx hb dX8_isJoined_0 rfl (lv_at hl 0 rfl) ?_
  refine lv_iload_n hx hb dX8_isJoined_1 rfl (lv_at hl 1 rfl) ?_
  refine lv_iload_n hx hb dX8_isJoined_2 rfl (lv_at hl 2 rfl) ?_
  obtain ⟨o1, h2, hf⟩ := obO hf
  obtain ⟨v4, g3, hf⟩ := ob hf
  refine r_callV X kw_X8_158 (ci := 8) rfl (c_X8_jointOf l B D cA m x0 x1 x2 v4 g3) ⟨Nat.le_of_ble_eq_true rfl, Nat.le_of_ble_eq_true rfl⟩ h2 hR hS hl.1 rfl rfl (Nat.le_of_ble_eq_true rfl) ⟨Nat.le_of_ble_eq_true rfl, Nat.le_of_ble_eq_true rfl⟩ dX8_isJoined_3 (fun H locs hR hS => ?_)
  refine W.eq (g2 := F0 mt 6 ls [.int v4]) rfl ?_
  refine lv_iconst (v := 1) hx hb dX8_isJoined_6 (by decide) ?_
  refine lv_icmp_ne (tgt := 29) hx hb dX8_isJoined_7 (by decide) (fun c5 => ?_) (fun c5 => ?_)
  · rw [if_neg c5] at hf
    refine lv_iload hx hb dX8_isJoined_29 (lv_at hl 4 rfl) ?_
    refine lv_iload_n hx hb dX8_isJoined_31 rfl (lv_at hl 3 rfl) ?_
    refine lv_icmp_le (tgt := 50) hx hb dX8_isJoined_32 (by decide) (fun c6 => ?_) (fun c6 => ?_)
    · rw [if_pos c6] at hf
      refine lv_iconst (v := 0) hx hb dX8_isJoined_50 (by decide) ?_
      obtain rfl := Option.some.inj hf
      exact r_iret X hr hlocks hR hS rfl dX8_isJoined_51
    · rw [if_neg c6] at hf
      refine lv_iload hx hb dX8_isJoined_35 (lv_at hl 4 rfl) ?_
      refine lv_aload_n hx hb dX8_isJoined_37 rfl (lv_at hl 0 rfl) ?_
      obtain ⟨v7, g8, hf⟩ := ob hf
      refine gR_X8_26 X hR g8 dX8_isJoined_38 ?_
      refine lv_iload_n hx hb dX8_isJoined_41 rfl (lv_at hl 3 rfl) ?_
      obtain ⟨v9, g10, hf⟩ := ob hf
      refine r_lI X hR g10 dX8_isJoined_42 ?_
      refine lv_icmp_ge (tgt := 50) hx hb dX8_isJoined_43 (by decide) (fun c11 => ?_) (fun c11 => ?_)
      · rw [if_pos c11] at hf
        refine lv_iconst (v := 0) hx hb dX8_isJoined_50 (by decide) ?_
        obtain rfl := Option.some.inj hf
        exact r_iret X hr hlocks hR hS rfl dX8_isJoined_51
      · rw [if_neg c11] at hf
        refine lv_iconst (v := 1) hx hb dX8_isJoined_46 (by decide) ?_
        refine lv_goto (tgt := 51) hx hb dX8_isJoined_47 (by decide) ?_
        obtain rfl := Option.some.inj hf
        exact r_iret X hr hlocks hR hS rfl dX8_isJoined_51
  · rw [if_pos c5] at hf
    refine lv_aload_n hx hb dX8_isJoined_10 rfl (lv_at hl 0 rfl) ?_
    obtain ⟨v12, g13, hf⟩ := ob hf
    refine gR_X8_29 X hR g13 dX8_isJoined_11 ?_
    refine lv_iload hx hb dX8_isJoined_14 (lv_at hl 4 rfl) ?_
    obtain ⟨v14, g15, hf⟩ := ob hf
    refine r_lI X hR g15 dX8_isJoined_16 ?_
    refine lv_iload_n hx hb dX8_isJoined_17 rfl (lv_at hl 3 rfl) ?_
    refine lv_icmp_ne (tgt := 25) hx hb dX8_isJoined_18 (by decide) (fun c16 => ?_) (fun c16 => ?_)
    · rw [if_neg c16] at hf
      refine lv_iconst (v := 0) hx hb dX8_isJoined_25 (by decide) ?_
      refine lv_goto (tgt := 51) hx hb dX8_isJoined_26 (by decide) ?_
      obtain rfl := Option.some.inj hf
      exact r_iret X hr hlocks hR hS rfl dX8_isJoined_51
    · rw [if_pos c16] at hf
      refine lv_iconst (v := 1) hx hb dX8_isJoined_21 (by decide) ?_
      refine lv_goto (tgt := 51) hx hb dX8_isJoined_22 (by decide) ?_
      obtain rfl := Option.some.inj hf
      exact r_iret X hr hlocks hR hS rfl dX8_isJoined_51
/-! ===== TwigMatchesModel.goesOn(ZZ)V ===== -/
theorem dX8_goesOn_0 : decode cX8_goesOn 0 = .ok (.lconst 0, 1) := by decide +kernel
theorem dX8_goesOn_1 : decode cX8_goesOn 1 = .ok (.lstore_n 3, 1) := by decide +kernel
theorem dX8_goesOn_2 : decode cX8_goesOn 2 = .ok (.iconst 0, 1) := by decide +kernel
theorem dX8_goesOn_3 : decode cX8_goesOn 3 = .ok (.istore 5, 2) := by decide +kernel
theorem dX8_goesOn_5 : decode cX8_goesOn 5 = .ok (.iload 5, 2) := by decide +kernel
theorem dX8_goesOn_7 : decode cX8_goesOn 7 = .ok (.bipush 32, 2) := by decide +kernel
theorem dX8_goesOn_9 : decode cX8_goesOn 9 = .ok (.if_icmp .gt 17, 3) := by decide +kernel
theorem dX8_goesOn_12 : decode cX8_goesOn 12 = .ok (.aload_n 0, 1) := by decide +kernel
theorem dX8_goesOn_13 : decode cX8_goesOn 13 = .ok (.getfield 60, 3) := by decide +kernel
theorem dX8_goesOn_16 : decode cX8_goesOn 16 = .ok (.iload 5, 2) := by decide +kernel
theorem dX8_goesOn_18 : decode cX8_goesOn 18 = .ok (.lconst 0, 1) := by decide +kernel
theorem dX8_goesOn_19 : decode cX8_goesOn 19 = .ok (.lastore, 1) := by decide +kernel
theorem dX8_goesOn_20 : decode cX8_goesOn 20 = .ok (.iinc 5 1, 3) := by decide +kernel
theorem dX8_goesOn_23 : decode cX8_goesOn 23 = .ok (.goto (-18), 3) := by decide +kernel
theorem dX8_goesOn_26 : decode cX8_goesOn 26 = .ok (.iconst 0, 1) := by decide +kernel
theorem dX8_goesOn_27 : decode cX8_goesOn 27 = .ok (.istore 5, 2) := by decide +kernel
theorem dX8_goesOn_29 : decode cX8_goesOn 29 = .ok (.iload 5, 2) := by decide +kernel
theorem dX8_goesOn_31 : decode cX8_goesOn 31 = .ok (.aload_n 0, 1) := by decide +kernel
theorem dX8_goesOn_32 : decode cX8_goesOn 32 = .ok (.getfield 13, 3) := by decide +kernel
theorem dX8_goesOn_35 : decode cX8_goesOn 35 = .ok (.if_icmp .ge 41, 3) := by decide +kernel
theorem dX8_goesOn_38 : decode cX8_goesOn 38 = .ok (.aload_n 0, 1) := by decide +kernel
theorem dX8_goesOn_39 : decode cX8_goesOn 39 = .ok (.getfield 60, 3) := by decide +kernel
theorem dX8_goesOn_42 : decode cX8_goesOn 42 = .ok (.aload_n 0, 1) := by decide +kernel
theorem dX8_goesOn_43 : decode cX8_goesOn 43 = .ok (.getfield 26, 3) := by decide +kernel
theorem dX8_goesOn_46 : decode cX8_goesOn 46 = .ok (.iload 5, 2) := by decide +kernel
theorem dX8_goesOn_48 : decode cX8_goesOn 48 = .ok (.iaload, 1) := by decide +kernel
theorem dX8_goesOn_49 : decode cX8_goesOn 49 = .ok (.dup2, 1) := by decide +kernel
theorem dX8_goesOn_50 : decode cX8_goesOn 50 = .ok (.laload, 1) := by decide +kernel
theorem dX8_goesOn_51 : decode cX8_goesOn 51 = .ok (.aload_n 0, 1) := by decide +kernel
theorem dX8_goesOn_52 : decode cX8_goesOn 52 = .ok (.getfield 54, 3) := by decide +kernel
theorem dX8_goesOn_55 : decode cX8_goesOn 55 = .ok (.iload 5, 2) := by decide +kernel
theorem dX8_goesOn_57 : decode cX8_goesOn 57 = .ok (.laload, 1) := by decide +kernel
theorem dX8_goesOn_58 : decode cX8_goesOn 58 = .ok (.ladd, 1) := by decide +kernel
theorem dX8_goesOn_59 : decode cX8_goesOn 59 = .ok (.lastore, 1) := by decide +kernel
theorem dX8_goesOn_60 : decode cX8_goesOn 60 = .ok (.lload_n 3, 1) := by decide +kernel
theorem dX8_goesOn_61 : decode cX8_goesOn 61 = .ok (.aload_n 0, 1) := by decide +kernel
theorem dX8_goesOn_62 : decode cX8_goesOn 62 = .ok (.getfield 54, 3) := by decide +kernel
theorem dX8_goesOn_65 : decode cX8_goesOn 65 = .ok (.iload 5, 2) := by decide +kernel
theorem dX8_goesOn_67 : decode cX8_goesOn 67 = .ok (.laload, 1) := by decide +kernel
theorem dX8_goesOn_68 : decode cX8_goesOn 68 = .ok (.ladd, 1) := by decide +kernel
theorem dX8_goesOn_69 : decode cX8_goesOn 69 = .ok (.lstore_n 3, 1) := by decide +kernel
theorem dX8_goesOn_70 : decode cX8_goesOn 70 = .ok (.iinc 5 1, 3) := by decide +kernel
theorem dX8_goesOn_73 : decode cX8_goesOn 73 = .ok (.goto (-44), 3) := by decide +kernel
theorem dX8_goesOn_76 : decode cX8_goesOn 76 = .ok (.lconst 0, 1) := by decide +kernel
theorem dX8_goesOn_77 : decode cX8_goesOn 77 = .ok (.lstore 5, 2) := by decide +kernel
theorem dX8_goesOn_79 : decode cX8_goesOn 79 = .ok (.iconst 0, 1) := by decide +kernel
theorem dX8_goesOn_80 : decode cX8_goesOn 80 = .ok (.istore 7, 2) := by decide +kernel
theorem dX8_goesOn_82 : decode cX8_goesOn 82 = .ok (.iload 7, 2) := by decide +kernel
theorem dX8_goesOn_84 : decode cX8_goesOn 84 = .ok (.aload_n 0, 1) := by decide +kernel
theorem dX8_goesOn_85 : decode cX8_goesOn 85 = .ok (.getfield 13, 3) := by decide +kernel
theorem dX8_goesOn_88 : decode cX8_goesOn 88 = .ok (.if_icmp .ge 60, 3) := by decide +kernel
theorem dX8_goesOn_91 : decode cX8_goesOn 91 = .ok (.lload 5, 2) := by decide +kernel
theorem dX8_goesOn_93 : decode cX8_goesOn 93 = .ok (.aload_n 0, 1) := by decide +kernel
theorem dX8_goesOn_94 : decode cX8_goesOn 94 = .ok (.getfield 60, 3) := by decide +kernel
theorem dX8_goesOn_97 : decode cX8_goesOn 97 = .ok (.iload 7, 2) := by decide +kernel
theorem dX8_goesOn_99 : decode cX8_goesOn 99 = .ok (.laload, 1) := by decide +kernel
theorem dX8_goesOn_100 : decode cX8_goesOn 100 = .ok (.ladd, 1) := by decide +kernel
theorem dX8_goesOn_101 : decode cX8_goesOn 101 = .ok (.lstore 5, 2) := by decide +kernel
theorem dX8_goesOn_103 : decode cX8_goesOn 103 = .ok (.aload_n 0, 1) := by decide +kernel
theorem dX8_goesOn_104 : decode cX8_goesOn 104 = .ok (.getfield 54, 3) := by decide +kernel
theorem dX8_goesOn_107 : decode cX8_goesOn 107 = .ok (.iload 7, 2) := by decide +kernel
theorem dX8_goesOn_109 : decode cX8_goesOn 109 = .ok (.iload_n 2, 1) := by decide +kernel
theorem dX8_goesOn_110 : decode cX8_goesOn 110 = .ok (.ifCond .ne 13, 3) := by decide +kernel
theorem dX8_goesOn_113 : decode cX8_goesOn 113 = .ok (.aload_n 0, 1) := by decide +kernel
theorem dX8_goesOn_114 : decode cX8_goesOn 114 = .ok (.getfield 57, 3) := by decide +kernel
theorem dX8_goesOn_117 : decode cX8_goesOn 117 = .ok (.iload 7, 2) := by decide +kernel
theorem dX8_goesOn_119 : decode cX8_goesOn 119 = .ok (.laload, 1) := by decide +kernel
theorem dX8_goesOn_120 : decode cX8_goesOn 120 = .ok (.goto 21, 3) := by decide +kernel
theorem dX8_goesOn_123 : decode cX8_goesOn 123 = .ok (.aload_n 0, 1) := by decide +kernel
theorem dX8_goesOn_124 : decode cX8_goesOn 124 = .ok (.getfield 57, 3) := by decide +kernel
theorem dX8_goesOn_127 : decode cX8_goesOn 127 = .ok (.iload 7, 2) := by decide +kernel
theorem dX8_goesOn_129 : decode cX8_goesOn 129 = .ok (.laload, 1) := by decide +kernel
theorem dX8_goesOn_130 : decode cX8_goesOn 130 = .ok (.iload_n 1, 1) := by decide +kernel
theorem dX8_goesOn_131 : decode cX8_goesOn 131 = .ok (.ifCond .eq 8, 3) := by decide +kernel
theorem dX8_goesOn_134 : decode cX8_goesOn 134 = .ok (.lload 5, 2) := by decide +kernel
theorem dX8_goesOn_136 : decode cX8_goesOn 136 = .ok (.goto 4, 3) := by decide +kernel
theorem dX8_goesOn_139 : decode cX8_goesOn 139 = .ok (.lload_n 3, 1) := by decide +kernel
theorem dX8_goesOn_140 : decode cX8_goesOn 140 = .ok (.lmul, 1) := by decide +kernel
theorem dX8_goesOn_141 : decode cX8_goesOn 141 = .ok (.lastore, 1) := by decide +kernel
theorem dX8_goesOn_142 : decode cX8_goesOn 142 = .ok (.iinc 7 1, 3) := by decide +kernel
theorem dX8_goesOn_145 : decode cX8_goesOn 145 = .ok (.goto (-63), 3) := by decide +kernel
theorem dX8_goesOn_148 : decode cX8_goesOn 148 = .ok (.return_, 1) := by decide +kernel
set_option maxHeartbeats 4000000 in
set_option maxRecDepth 100000 in
theorem c_X8_goesOn (l : Launch) (B : Nat) (D : va_G) (cA : Nat → ClassId) (m : Mm) (x0 : Nat) (x1 : Int32) (x2 : Int32) (mZ : Mm) (hf : f_X8_goesOn m x0 x1 x2 = some mZ) : Mt l B D cA yX8_goesOn cX8_goesOn 8 none 0 0 0 0 [.ref (B + x0), .int x1, .int x2] m none mZ := by
  refine r_start (by decide) (Nat.le_of_ble_eq_true rfl) ?_
  intro p e s mt args below meth c ls H locs X hr hlocks hnm hR hl hS
  have hx := X.1
  have hb := X.2.1
  have hl : lv_has ls 8 [(0, .ref (B + x0)), (1, .int x1), (2, .int x2)] := hl
  unfold f_X8_goesOn at hf
  refine lv_lconst (v := 0) hx hb dX8_goesOn_0 (by decide) ?_
  refine lv_lstore_n (lv' := [(3, .long (0 : Int64)), (0, .ref (B + x0)), (1, .int x1), (2, .int x2)]) hx hb dX8_goesOn_1 rfl hl (by decide) rfl (fun ls hl => ?_)
  refine lv_iconst (v := 0) hx hb dX8_goesOn_2 (by decide) ?_
  refine lv_istore (lv' := [(5, .int (0 : Int32)), (3, .long (0 : Int64)), (0, .ref (B + x0)), (1, .int x1), (2, .int x2)]) hx hb dX8_goesOn_3 hl (by decide) rfl (fun ls hl => ?_)
  obtain ⟨e2, hwe2, hf⟩ := ob hf
  refine whl_rule (P := (fun t1 => ∀ (H : Heap) (locs : List Loc) (ls : Array Slot), Rl B D cA t1.2 H → va_S (fun q => B ≤ q) s.heap H locs → lv_has ls 8 [(0, .ref (B + x0)), (1, .int x1), (2, .int x2), (3, .long (0 : Int64)), (5, .int t1.1)] → W p l e (rmm 0 0 0 0) s mt args below meth c H locs 0 0 (MQ below (mQ B D cA none mZ) args s 0 0 (fun q => B ≤ q)) (F0 mt 5 ls []))) (Qx := (fun e2 => ∀ (H : Heap) (locs : List Loc) (ls : Array Slot), Rl B D cA e2 H → va_S (fun q => B ≤ q) s.heap H locs → lv_has ls 8 [(0, .ref (B + x0)), (1, .int x1), (2, .int x2), (3, .long (0 : Int64))] → W p l e (rmm 0 0 0 0) s mt args below meth c H locs 0 0 (MQ below (mQ B D cA none mZ) args s 0 0 (fun q => B ≤ q)) (F0 mt 26 ls []))) ?_ FU _ e2 hwe2 ?_ H locs ls hR hS (lv_sub hl [2, 3, 4, 1, 0] rfl)
  · clear hwe2 hf
    intro t1 q3 hf hxlq3 hxrq3 H locs ls hR hS hl
    obtain ⟨z4, m5⟩ := t1
    have hf : f_X8_goesOn_L5 m5 x0 x1 x2 (0 : Int64) z4 = some q3 := hf
    have hR : Rl B D cA m5 H := hR
    have hl : lv_has ls 8 [(0, .ref (B + x0)), (1, .int x1), (2, .int x2), (3, .long (0 : Int64)), (5, .int z4)] := hl
    unfold f_X8_goesOn_L5 at hf
    refine lv_iload hx hb dX8_goesOn_5 (lv_at hl 4 rfl) ?_
    refine lv_bipush (v := 32) hx hb dX8_goesOn_7 (by decide) ?_
    refine lv_icmp_gt (tgt := 26) hx hb dX8_goesOn_9 (by decide) (fun c6 => ?_) (fun c6 => ?_)
    · rw [if_pos c6] at hf
      obtain rfl := Option.some.inj hf
      exact hxrq3 _ rfl H locs ls hR hS (lv_sub hl [0, 1, 2, 3] rfl)
    · rw [if_neg c6] at hf
      refine lv_aload_n hx hb dX8_goesOn_12 rfl (lv_at hl 0 rfl) ?_
      obtain ⟨v7, g8, hf⟩ := ob hf
      refine gR_X8_60 X hR g8 dX8_goesOn_13 ?_
      refine lv_iload hx hb dX8_goesOn_16 (lv_at hl 4 rfl) ?_
      refine lv_lconst (v := 0) hx hb dX8_goesOn_18 (by decide) ?_
      obtain ⟨m9, g10, hf⟩ := ob hf
      refine r_sJ X hR hS g10 dX8_goesOn_19 (fun H locs hR hS => ?_)
      refine lv_iinc (v := (z4 + 1)) (lv' := [(5, .int (z4 + 1)), (0, .ref (B + x0)), (1, .int x1), (2, .int x2), (3, .long (0 : Int64))]) hx hb dX8_goesOn_20 hl (k := 4) rfl (congrArg (fun z => z4 + z) (by decide)) (by decide) rfl (fun ls hl => ?_)
      refine lv_goto (tgt := 5) hx hb dX8_goesOn_23 (by decide) ?_
      obtain rfl := Option.some.inj hf
      exact hxlq3 _ rfl H locs ls hR hS (lv_sub hl [1, 2, 3, 4, 0] rfl)
  · intro H locs ls hR hS hl
    refine lv_iconst (v := 0) hx hb dX8_goesOn_26 (by decide) ?_
    refine lv_istore (lv' := [(5, .int (0 : Int32)), (0, .ref (B + x0)), (1, .int x1), (2, .int x2), (3, .long (0 : Int64))]) hx hb dX8_goesOn_27 hl (by decide) rfl (fun ls hl => ?_)
    obtain ⟨e12, hwe12, hf⟩ := ob hf
    refine whl_rule (P := (fun t11 => ∀ (H : Heap) (locs : List Loc) (ls : Array Slot), Rl B D cA t11.2.2 H → va_S (fun q => B ≤ q) s.heap H locs → lv_has ls 8 [(0, .ref (B + x0)), (1, .int x1), (2, .int x2), (3, .long t11.1), (5, .int t11.2.1)] → W p l e (rmm 0 0 0 0) s mt args below meth c H locs 0 0 (MQ below (mQ B D cA none mZ) args s 0 0 (fun q => B ≤ q)) (F0 mt 29 ls []))) (Qx := (fun e12 => ∀ (H : Heap) (locs : List Loc) (ls : Array Slot), Rl B D cA e12.2 H → va_S (fun q => B ≤ q) s.heap H locs → lv_has ls 8 [(0, .ref (B + x0)), (1, .int x1), (2, .int x2), (3, .long e12.1)] → W p l e (rmm 0 0 0 0) s mt args below meth c H locs 0 0 (MQ below (mQ B D cA none mZ) args s 0 0 (fun q => B ≤ q)) (F0 mt 76 ls []))) ?_ FU _ e12 hwe12 ?_ H locs ls hR hS (lv_sub hl [1, 2, 3, 4, 0] rfl)
    · clear hwe12 hf
      intro t11 q13 hf hxlq13 hxrq13 H locs ls hR hS hl
      obtain ⟨z14, z15, m16⟩ := t11
      have hf : f_X8_goesOn_L29 m16 x0 x1 x2 z14 z15 = some q13 := hf
      have hR : Rl B D cA m16 H := hR
      have hl : lv_has ls 8 [(0, .ref (B + x0)), (1, .int x1), (2, .int x2), (3, .long z14), (5, .int z15)] := hl
      unfold f_X8_goesOn_L29 at hf
      refine lv_iload hx hb dX8_goesOn_29 (lv_at hl 4 rfl) ?_
      refine lv_aload_n hx hb dX8_goesOn_31 rfl (lv_at hl 0 rfl) ?_
      obtain ⟨v17, g18, hf⟩ := ob hf
      refine gI_X8_13 X hR g18 dX8_goesOn_32 ?_
      refine lv_icmp_ge (tgt := 76) hx hb dX8_goesOn_35 (by decide) (fun c19 => ?_) (fun c19 => ?_)
      · rw [if_pos c19] at hf
        obtain rfl := Option.some.inj hf
        exact hxrq13 _ rfl H locs ls hR hS (lv_sub hl [0, 1, 2, 3] rfl)
      · rw [if_neg c19] at hf
        refine lv_aload_n hx hb dX8_goesOn_38 rfl (lv_at hl 0 rfl) ?_
        obtain ⟨v20, g21, hf⟩ := ob hf
        refine gR_X8_60 X hR g21 dX8_goesOn_39 ?_
        refine lv_aload_n hx hb dX8_goesOn_42 rfl (lv_at hl 0 rfl) ?_
        obtain ⟨v22, g23, hf⟩ := ob hf
        refine gR_X8_26 X hR g23 dX8_goesOn_43 ?_
        refine lv_iload hx hb dX8_goesOn_46 (lv_at hl 4 rfl) ?_
        obtain ⟨v24, g25, hf⟩ := ob hf
        refine r_lI X hR g25 dX8_goesOn_48 ?_
        refine lv_dup2_11 hx hb dX8_goesOn_49 rfl rfl ?_
        obtain ⟨v26, g27, hf⟩ := ob hf
        refine r_lJ X hR g27 dX8_goesOn_50 ?_
        refine lv_aload_n hx hb dX8_goesOn_51 rfl (lv_at hl 0 rfl) ?_
        obtain ⟨v28, g29, hf⟩ := ob hf
        refine gR_X8_54 X hR g29 dX8_goesOn_52 ?_
        refine lv_iload hx hb dX8_goesOn_55 (lv_at hl 4 rfl) ?_
        obtain ⟨v30, g31, hf⟩ := ob hf
        refine r_lJ X hR g31 dX8_goesOn_57 ?_
        refine lv_ladd hx hb dX8_goesOn_58 ?_
        obtain ⟨m32, g33, hf⟩ := ob hf
        refine r_sJ X hR hS g33 dX8_goesOn_59 (fun H locs hR hS => ?_)
        refine lv_lload_n hx hb dX8_goesOn_60 rfl (lv_at hl 3 rfl) ?_
        refine lv_aload_n hx hb dX8_goesOn_61 rfl (lv_at hl 0 rfl) ?_
        obtain ⟨v34, g35, hf⟩ := ob hf
        refine gR_X8_54 X hR g35 dX8_goesOn_62 ?_
        refine lv_iload hx hb dX8_goesOn_65 (lv_at hl 4 rfl) ?_
        obtain ⟨v36, g37, hf⟩ := ob hf
        refine r_lJ X hR g37 dX8_goesOn_67 ?_
        refine lv_ladd hx hb dX8_goesOn_68 ?_
        refine lv_lstore_n (lv' := [(3, .long (z14 + v36)), (0, .ref (B + x0)), (1, .int x1), (2, .int x2), (5, .int z15)]) hx hb dX8_goesOn_69 rfl hl (by decide) rfl (fun ls hl => ?_)
        refine lv_iinc (v := (z15 + 1)) (lv' := [(5, .int (z15 + 1)), (3, .long (z14 + v36)), (0, .ref (B + x0)), (1, .int x1), (2, .int x2)]) hx hb dX8_goesOn_70 hl (k := 4) rfl (congrArg (fun z => z15 + z) (by decide)) (by decide) rfl (fun ls hl => ?_)
        refine lv_goto (tgt := 29) hx hb dX8_goesOn_73 (by decide) ?_
        obtain rfl := Option.some.inj hf
        exact hxlq13 _ rfl H locs ls hR hS (lv_sub hl [2, 3, 4, 1, 0] rfl)
    · intro H locs ls hR hS hl
      refine lv_lconst (v := 0) hx hb dX8_goesOn_76 (by decide) ?_
      refine lv_lstore (lv' := [(5, .long (0 : Int64)), (0, .ref (B + x0)), (1, .int x1), (2, .int x2), (3, .long e12.1)]) hx hb dX8_goesOn_77 hl (by decide) rfl (fun ls hl => ?_)
      refine lv_iconst (v := 0) hx hb dX8_goesOn_79 (by decide) ?_
      refine lv_istore (lv' := [(7, .int (0 : Int32)), (5, .long (0 : Int64)), (0, .ref (B + x0)), (1, .int x1), (2, .int x2), (3, .long e12.1)]) hx hb dX8_goesOn_80 hl (by decide) rfl (fun ls hl => ?_)
      obtain ⟨e39, hwe39, hf⟩ := ob hf
      refine whl_rule (P := (fun t38 => ∀ (H : Heap) (locs : List Loc) (ls : Array Slot), Rl B D cA t38.2.2 H → va_S (fun q => B ≤ q) s.heap H locs → lv_has ls 8 [(0, .ref (B + x0)), (1, .int x1), (2, .int x2), (3, .long e12.1), (5, .long t38.1), (7, .int t38.2.1)] → W p l e (rmm 0 0 0 0) s mt args below meth c H locs 0 0 (MQ below (mQ B D cA none mZ) args s 0 0 (fun q => B ≤ q)) (F0 mt 82 ls []))) (Qx := (fun e39 => ∀ (H : Heap) (locs : List Loc) (ls : Array Slot), Rl B D cA e39 H → va_S (fun q => B ≤ q) s.heap H locs → lv_has ls 8 [] → W p l e (rmm 0 0 0 0) s mt args below meth c H locs 0 0 (MQ below (mQ B D cA none mZ) args s 0 0 (fun q => B ≤ q)) (F0 mt 148 ls []))) ?_ FU _ e39 hwe39 ?_ H locs ls hR hS (lv_sub hl [2, 3, 4, 5, 1, 0] rfl)
      · clear hwe39 hf
        intro t38 q40 hf hxlq40 hxrq40 H locs ls hR hS hl
        obtain ⟨z41, z42, m43⟩ := t38
        have hf : f_X8_goesOn_L82 m43 x0 x1 x2 e12.1 z41 z42 = some q40 := hf
        have hR : Rl B D cA m43 H := hR
        have hl : lv_has ls 8 [(0, .ref (B + x0)), (1, .int x1), (2, .int x2), (3, .long e12.1), (5, .long z41), (7, .int z42)] := hl
        unfold f_X8_goesOn_L82 at hf
        refine lv_iload hx hb dX8_goesOn_82 (lv_at hl 5 rfl) ?_
        refine lv_aload_n hx hb dX8_goesOn_84 rfl (lv_at hl 0 rfl) ?_
        obtain ⟨v44, g45, hf⟩ := ob hf
        refine gI_X8_13 X hR g45 dX8_goesOn_85 ?_
        refine lv_icmp_ge (tgt := 148) hx hb dX8_goesOn_88 (by decide) (fun c46 => ?_) (fun c46 => ?_)
        · rw [if_pos c46] at hf
          obtain rfl := Option.some.inj hf
          exact hxrq40 _ rfl H locs ls hR hS (lv_sub hl [] rfl)
        · rw [if_neg c46] at hf
          refine lv_lload hx hb dX8_goesOn_91 (lv_at hl 4 rfl) ?_
          refine lv_aload_n hx hb dX8_goesOn_93 rfl (lv_at hl 0 rfl) ?_
          obtain ⟨v47, g48, hf⟩ := ob hf
          refine gR_X8_60 X hR g48 dX8_goesOn_94 ?_
          refine lv_iload hx hb dX8_goesOn_97 (lv_at hl 5 rfl) ?_
          obtain ⟨v49, g50, hf⟩ := ob hf
          refine r_lJ X hR g50 dX8_goesOn_99 ?_
          refine lv_ladd hx hb dX8_goesOn_100 ?_
          refine lv_lstore (lv' := [(5, .long (z41 + v49)), (0, .ref (B + x0)), (1, .int x1), (2, .int x2), (3, .long e12.1), (7, .int z42)]) hx hb dX8_goesOn_101 hl (by decide) rfl (fun ls hl => ?_)
          refine lv_aload_n hx hb dX8_goesOn_103 rfl (lv_at hl 1 rfl) ?_
          obtain ⟨v51, g52, hf⟩ := ob hf
          refine gR_X8_54 X hR g52 dX8_goesOn_104 ?_
          refine lv_iload hx hb dX8_goesOn_107 (lv_at hl 5 rfl) ?_
          refine lv_iload_n hx hb dX8_goesOn_109 rfl (lv_at hl 3 rfl) ?_
          refine lv_if_ne (tgt := 123) hx hb dX8_goesOn_110 (by decide) (fun c53 => ?_) (fun c53 => ?_)
          · rw [if_neg c53] at hf
            refine lv_aload_n hx hb dX8_goesOn_123 rfl (lv_at hl 1 rfl) ?_
            obtain ⟨v54, g55, hf⟩ := ob hf
            refine gR_X8_57 X hR g55 dX8_goesOn_124 ?_
            refine lv_iload hx hb dX8_goesOn_127 (lv_at hl 5 rfl) ?_
            obtain ⟨v56, g57, hf⟩ := ob hf
            refine r_lJ X hR g57 dX8_goesOn_129 ?_
            refine lv_iload_n hx hb dX8_goesOn_130 rfl (lv_at hl 2 rfl) ?_
            refine lv_if_eq (tgt := 139) hx hb dX8_goesOn_131 (by decide) (fun c58 => ?_) (fun c58 => ?_)
            · rw [if_pos c58] at hf
              refine lv_lload_n hx hb dX8_goesOn_139 rfl (lv_at hl 4 rfl) ?_
              refine lv_lmul hx hb dX8_goesOn_140 ?_
              obtain ⟨m59, g60, hf⟩ := ob hf
              refine r_sJ X hR hS g60 dX8_goesOn_141 (fun H locs hR hS => ?_)
              refine lv_iinc (v := (z42 + 1)) (lv' := [(7, .int (z42 + 1)), (5, .long (z41 + v49)), (0, .ref (B + x0)), (1, .int x1), (2, .int x2), (3, .long e12.1)]) hx hb dX8_goesOn_142 hl (k := 5) rfl (congrArg (fun z => z42 + z) (by decide)) (by decide) rfl (fun ls hl => ?_)
              refine lv_goto (tgt := 82) hx hb dX8_goesOn_145 (by decide) ?_
              obtain rfl := Option.some.inj hf
              exact hxlq40 _ rfl H locs ls hR hS (lv_sub hl [2, 3, 4, 5, 1, 0] rfl)
            · rw [if_neg c58] at hf
              refine lv_lload hx hb dX8_goesOn_134 (lv_at hl 0 rfl) ?_
              refine lv_goto (tgt := 140) hx hb dX8_goesOn_136 (by decide) ?_
              refine lv_lmul hx hb dX8_goesOn_140 ?_
              obtain ⟨m61, g62, hf⟩ := ob hf
              refine r_sJ X hR hS g62 dX8_goesOn_141 (fun H locs hR hS => ?_)
              refine lv_iinc (v := (z42 + 1)) (lv' := [(7, .int (z42 + 1)), (5, .long (z41 + v49)), (0, .ref (B + x0)), (1, .int x1), (2, .int x2), (3, .long e12.1)]) hx hb dX8_goesOn_142 hl (k := 5) rfl (congrArg (fun z => z42 + z) (by decide)) (by decide) rfl (fun ls hl => ?_)
              refine lv_goto (tgt := 82) hx hb dX8_goesOn_145 (by decide) ?_
              obtain rfl := Option.some.inj hf
              exact hxlq40 _ rfl H locs ls hR hS (lv_sub hl [2, 3, 4, 5, 1, 0] rfl)
          · rw [if_pos c53] at hf
            refine lv_aload_n hx hb dX8_goesOn_113 rfl (lv_at hl 1 rfl) ?_
            obtain ⟨v63, g64, hf⟩ := ob hf
            refine gR_X8_57 X hR g64 dX8_goesOn_114 ?_
            refine lv_iload hx hb dX8_goesOn_117 (lv_at hl 5 rfl) ?_
            obtain ⟨v65, g66, hf⟩ := ob hf
            refine r_lJ X hR g66 dX8_goesOn_119 ?_
            refine lv_goto (tgt := 141) hx hb dX8_goesOn_120 (by decide) ?_
            obtain ⟨m67, g68, hf⟩ := ob hf
            refine r_sJ X hR hS g68 dX8_goesOn_141 (fun H locs hR hS => ?_)
            refine lv_iinc (v := (z42 + 1)) (lv' := [(7, .int (z42 + 1)), (5, .long (z41 + v49)), (0, .ref (B + x0)), (1, .int x1), (2, .int x2), (3, .long e12.1)]) hx hb dX8_goesOn_142 hl (k := 5) rfl (congrArg (fun z => z42 + z) (by decide)) (by decide) rfl (fun ls hl => ?_)
            refine lv_goto (tgt := 82) hx hb dX8_goesOn_145 (by decide) ?_
            obtain rfl := Option.some.inj hf
            exact hxlq40 _ rfl H locs ls hR hS (lv_sub hl [2, 3, 4, 5, 1, 0] rfl)
      · intro H locs ls hR hS hl
        obtain rfl := Option.some.inj hf
        exact r_vret X hr hlocks hR hS dX8_goesOn_148
/-! ===== TwigMatchesModel.chains(IIIII)J ===== -/
theorem dX8_chains_0 : decode cX8_chains 0 = .ok (.iconst 0, 1) := by decide +kernel
theorem dX8_chains_1 : decode cX8_chains 1 = .ok (.istore 6, 2) := by decide +kernel
theorem dX8_chains_3 : decode cX8_chains 3 = .ok (.iload_n 2, 1) := by decide +kernel
theorem dX8_chains_4 : decode cX8_chains 4 = .ok (.iconst 1, 1) := by decide +kernel
theorem dX8_chains_5 : decode cX8_chains 5 = .ok (.iadd, 1) := by decide +kernel
theorem dX8_chains_6 : decode cX8_chains 6 = .ok (.istore 7, 2) := by decide +kernel
theorem dX8_chains_8 : decode cX8_chains 8 = .ok (.iload 7, 2) := by decide +kernel
theorem dX8_chains_10 : decode cX8_chains 10 = .ok (.aload_n 0, 1) := by decide +kernel
theorem dX8_chains_11 : decode cX8_chains 11 = .ok (.getfield 32, 3) := by decide +kernel
theorem dX8_chains_14 : decode cX8_chains 14 = .ok (.iload_n 1, 1) := by decide +kernel
theorem dX8_chains_15 : decode cX8_chains 15 = .ok (.iaload, 1) := by decide +kernel
theorem dX8_chains_16 : decode cX8_chains 16 = .ok (.if_icmp .ge 117, 3) := by decide +kernel
theorem dX8_chains_19 : decode cX8_chains 19 = .ok (.aload_n 0, 1) := by decide +kernel
theorem dX8_chains_20 : decode cX8_chains 20 = .ok (.iload_n 1, 1) := by decide +kernel
theorem dX8_chains_21 : decode cX8_chains 21 = .ok (.iload 7, 2) := by decide +kernel
theorem dX8_chains_23 : decode cX8_chains 23 = .ok (.invokevirtual 113, 3) := by decide +kernel
theorem dX8_chains_26 : decode cX8_chains 26 = .ok (.iload_n 2, 1) := by decide +kernel
theorem dX8_chains_27 : decode cX8_chains 27 = .ok (.if_icmp .ne 100, 3) := by decide +kernel
theorem dX8_chains_30 : decode cX8_chains 30 = .ok (.iconst 0, 1) := by decide +kernel
theorem dX8_chains_31 : decode cX8_chains 31 = .ok (.istore 8, 2) := by decide +kernel
theorem dX8_chains_33 : decode cX8_chains 33 = .ok (.iload 8, 2) := by decide +kernel
theorem dX8_chains_35 : decode cX8_chains 35 = .ok (.aload_n 0, 1) := by decide +kernel
theorem dX8_chains_36 : decode cX8_chains 36 = .ok (.getfield 13, 3) := by decide +kernel
theorem dX8_chains_39 : decode cX8_chains 39 = .ok (.if_icmp .ge 72, 3) := by decide +kernel
theorem dX8_chains_42 : decode cX8_chains 42 = .ok (.iload 7, 2) := by decide +kernel
theorem dX8_chains_44 : decode cX8_chains 44 = .ok (.iload 4, 2) := by decide +kernel
theorem dX8_chains_46 : decode cX8_chains 46 = .ok (.if_icmp .ne 18, 3) := by decide +kernel
theorem dX8_chains_49 : decode cX8_chains 49 = .ok (.iload 8, 2) := by decide +kernel
theorem dX8_chains_51 : decode cX8_chains 51 = .ok (.iload 5, 2) := by decide +kernel
theorem dX8_chains_53 : decode cX8_chains 53 = .ok (.if_icmp .ne 7, 3) := by decide +kernel
theorem dX8_chains_56 : decode cX8_chains 56 = .ok (.lconst 1, 1) := by decide +kernel
theorem dX8_chains_57 : decode cX8_chains 57 = .ok (.goto 20, 3) := by decide +kernel
theorem dX8_chains_60 : decode cX8_chains 60 = .ok (.lconst 0, 1) := by decide +kernel
theorem dX8_chains_61 : decode cX8_chains 61 = .ok (.goto 16, 3) := by decide +kernel
theorem dX8_chains_64 : decode cX8_chains 64 = .ok (.aload_n 0, 1) := by decide +kernel
theorem dX8_chains_65 : decode cX8_chains 65 = .ok (.getfield 50, 3) := by decide +kernel
theorem dX8_chains_68 : decode cX8_chains 68 = .ok (.bipush 32, 2) := by decide +kernel
theorem dX8_chains_70 : decode cX8_chains 70 = .ok (.iload 7, 2) := by decide +kernel
theorem dX8_chains_72 : decode cX8_chains 72 = .ok (.imul, 1) := by decide +kernel
theorem dX8_chains_73 : decode cX8_chains 73 = .ok (.iload 8, 2) := by decide +kernel
theorem dX8_chains_75 : decode cX8_chains 75 = .ok (.iadd, 1) := by decide +kernel
theorem dX8_chains_76 : decode cX8_chains 76 = .ok (.laload, 1) := by decide +kernel
theorem dX8_chains_77 : decode cX8_chains 77 = .ok (.lstore 9, 2) := by decide +kernel
theorem dX8_chains_79 : decode cX8_chains 79 = .ok (.aload_n 0, 1) := by decide +kernel
theorem dX8_chains_80 : decode cX8_chains 80 = .ok (.getfield 57, 3) := by decide +kernel
theorem dX8_chains_83 : decode cX8_chains 83 = .ok (.iload 8, 2) := by decide +kernel
theorem dX8_chains_85 : decode cX8_chains 85 = .ok (.aload_n 0, 1) := by decide +kernel
theorem dX8_chains_86 : decode cX8_chains 86 = .ok (.iload_n 1, 1) := by decide +kernel
theorem dX8_chains_87 : decode cX8_chains 87 = .ok (.iload 7, 2) := by decide +kernel
theorem dX8_chains_89 : decode cX8_chains 89 = .ok (.iload_n 3, 1) := by decide +kernel
theorem dX8_chains_90 : decode cX8_chains 90 = .ok (.iload 8, 2) := by decide +kernel
theorem dX8_chains_92 : decode cX8_chains 92 = .ok (.invokevirtual 184, 3) := by decide +kernel
theorem dX8_chains_95 : decode cX8_chains 95 = .ok (.ifCond .eq 8, 3) := by decide +kernel
theorem dX8_chains_98 : decode cX8_chains 98 = .ok (.lload 9, 2) := by decide +kernel
theorem dX8_chains_100 : decode cX8_chains 100 = .ok (.goto 4, 3) := by decide +kernel
theorem dX8_chains_103 : decode cX8_chains 103 = .ok (.lconst 0, 1) := by decide +kernel
theorem dX8_chains_104 : decode cX8_chains 104 = .ok (.lastore, 1) := by decide +kernel
theorem dX8_chains_105 : decode cX8_chains 105 = .ok (.iinc 8 1, 3) := by decide +kernel
theorem dX8_chains_108 : decode cX8_chains 108 = .ok (.goto (-75), 3) := by decide +kernel
theorem dX8_chains_111 : decode cX8_chains 111 = .ok (.aload_n 0, 1) := by decide +kernel
theorem dX8_chains_112 : decode cX8_chains 112 = .ok (.aload_n 0, 1) := by decide +kernel
theorem dX8_chains_113 : decode cX8_chains 113 = .ok (.iload_n 1, 1) := by decide +kernel
theorem dX8_chains_114 : decode cX8_chains 114 = .ok (.iload 7, 2) := by decide +kernel
theorem dX8_chains_116 : decode cX8_chains 116 = .ok (.invokevirtual 109, 3) := by decide +kernel
theorem dX8_chains_119 : decode cX8_chains 119 = .ok (.iload 6, 2) := by decide +kernel
theorem dX8_chains_121 : decode cX8_chains 121 = .ok (.invokevirtual 187, 3) := by decide +kernel
theorem dX8_chains_124 : decode cX8_chains 124 = .ok (.iconst 1, 1) := by decide +kernel
theorem dX8_chains_125 : decode cX8_chains 125 = .ok (.istore 6, 2) := by decide +kernel
theorem dX8_chains_127 : decode cX8_chains 127 = .ok (.iinc 7 1, 3) := by decide +kernel
theorem dX8_chains_130 : decode cX8_chains 130 = .ok (.goto (-122), 3) := by decide +kernel
theorem dX8_chains_133 : decode cX8_chains 133 = .ok (.iload 6, 2) := by decide +kernel
theorem dX8_chains_135 : decode cX8_chains 135 = .ok (.ifCond .eq 7, 3) := by decide +kernel
theorem dX8_chains_138 : decode cX8_chains 138 = .ok (.lconst 0, 1) := by decide +kernel
theorem dX8_chains_139 : decode cX8_chains 139 = .ok (.goto 4, 3) := by decide +kernel
theorem dX8_chains_142 : decode cX8_chains 142 = .ok (.lconst 1, 1) := by decide +kernel
theorem dX8_chains_143 : decode cX8_chains 143 = .ok (.lstore 7, 2) := by decide +kernel
theorem dX8_chains_145 : decode cX8_chains 145 = .ok (.iconst 0, 1) := by decide +kernel
theorem dX8_chains_146 : decode cX8_chains 146 = .ok (.istore 9, 2) := by decide +kernel
theorem dX8_chains_148 : decode cX8_chains 148 = .ok (.iload 9, 2) := by decide +kernel
theorem dX8_chains_150 : decode cX8_chains 150 = .ok (.aload_n 0, 1) := by decide +kernel
theorem dX8_chains_151 : decode cX8_chains 151 = .ok (.getfield 13, 3) := by decide +kernel
theorem dX8_chains_154 : decode cX8_chains 154 = .ok (.if_icmp .ge 26, 3) := by decide +kernel
theorem dX8_chains_157 : decode cX8_chains 157 = .ok (.iload 6, 2) := by decide +kernel
theorem dX8_chains_159 : decode cX8_chains 159 = .ok (.ifCond .eq 21, 3) := by decide +kernel
theorem dX8_chains_162 : decode cX8_chains 162 = .ok (.lload 7, 2) := by decide +kernel
theorem dX8_chains_164 : decode cX8_chains 164 = .ok (.aload_n 0, 1) := by decide +kernel
theorem dX8_chains_165 : decode cX8_chains 165 = .ok (.getfield 54, 3) := by decide +kernel
theorem dX8_chains_168 : decode cX8_chains 168 = .ok (.iload 9, 2) := by decide +kernel
theorem dX8_chains_170 : decode cX8_chains 170 = .ok (.laload, 1) := by decide +kernel
theorem dX8_chains_171 : decode cX8_chains 171 = .ok (.ladd, 1) := by decide +kernel
theorem dX8_chains_172 : decode cX8_chains 172 = .ok (.lstore 7, 2) := by decide +kernel
theorem dX8_chains_174 : decode cX8_chains 174 = .ok (.iinc 9 1, 3) := by decide +kernel
theorem dX8_chains_177 : decode cX8_chains 177 = .ok (.goto (-29), 3) := by decide +kernel
theorem dX8_chains_180 : decode cX8_chains 180 = .ok (.lload 7, 2) := by decide +kernel
theorem dX8_chains_182 : decode cX8_chains 182 = .ok (.lreturn, 1) := by decide +kernel
set_option maxHeartbeats 4000000 in
set_option maxRecDepth 100000 in
theorem c_X8_chains (l : Launch) (B : Nat) (D : va_G) (cA : Nat → ClassId) (m : Mm) (x0 : Nat) (x1 : Int32) (x2 : Int32) (x3 : Int32) (x4 : Int32) (x5 : Int32) (rZ : Int64) (mZ : Mm) (hf : f_X8_chains m x0 x1 x2 x3 x4 x5 = some (rZ, mZ)) : Mt l B D cA yX8_chains cX8_chains 11 (some .long) 3 68 0 0 [.ref (B + x0), .int x1, .int x2, .int x3, .int x4, .int x5] m (some (.long rZ)) mZ := by
  refine r_start (by decide) (Nat.le_of_ble_eq_true rfl) ?_
  intro p e s mt args below meth c ls H locs X hr hlocks hnm hR hl hS
  have hx := X.1
  have hb := X.2.1
  have hl : lv_has ls 11 [(0, .ref (B + x0)), (1, .int x1), (2, .int x2), (3, .int x3), (4, .int x4), (5, .int x5)] := hl
  unfold f_X8_chains at hf
  refine lv_iconst (v := 0) hx hb dX8_chains_0 (by decide) ?_
  refine lv_istore (lv' := [(6, .int (0 : Int32)), (0, .ref (B + x0)), (1, .int x1), (2, .int x2), (3, .int x3), (4, .int x4), (5, .int x5)]) hx hb dX8_chains_1 hl (by decide) rfl (fun ls hl => ?_)
  refine lv_iload_n hx hb dX8_chains_3 rfl (lv_at hl 3 rfl) ?_
  refine lv_iconst (v := 1) hx hb dX8_chains_4 (by decide) ?_
  refine lv_iadd hx hb dX8_chains_5 ?_
  refine lv_istore (lv' := [(7, .int (x2 + (1 : Int32))), (6, .int (0 : Int32)), (0, .ref (B + x0)), (1, .int x1), (2, .int x2), (3, .int x3), (4, .int x4), (5, .int x5)]) hx hb dX8_chains_6 hl (by decide) rfl (fun ls hl => ?_)
  obtain ⟨e2, hwe2, hf⟩ := ob hf
  refine whl_rule (P := (fun t1 => ∀ (H : Heap) (locs : List Loc) (ls : Array Slot), Rl B D cA t1.2.2 H → va_S (fun q => B ≤ q) s.heap H locs → lv_has ls 11 [(0, .ref (B + x0)), (1, .int x1), (2, .int x2), (3, .int x3), (4, .int x4), (5, .int x5), (6, .int t1.1), (7, .int t1.2.1)] → W p l e (rmm 3 0 0 68) s mt args below meth c H locs 0 0 (MQ below (mQ B D cA (some (.long rZ)) mZ) args s 0 0 (fun q => B ≤ q)) (F0 mt 8 ls []))) (Qx := (fun e2 => ∀ (H : Heap) (locs : List Loc) (ls : Array Slot), Rl B D cA e2.2 H → va_S (fun q => B ≤ q) s.heap H locs → lv_has ls 11 [(0, .ref (B + x0)), (6, .int e2.1)] → W p l e (rmm 3 0 0 68) s mt args below meth c H locs 0 0 (MQ below (mQ B D cA (some (.long rZ)) mZ) args s 0 0 (fun q => B ≤ q)) (F0 mt 133 ls []))) ?_ FU _ e2 hwe2 ?_ H locs ls hR hS (lv_sub hl [2, 3, 4, 5, 6, 7, 1, 0] rfl)
  · clear hwe2 hf
    intro t1 q3 hf hxlq3 hxrq3 H locs ls hR hS hl
    obtain ⟨z4, z5, m6⟩ := t1
    have hf : f_X8_chains_L8 m6 x0 x1 x2 x3 x4 x5 z4 z5 = some q3 := hf
    have hR : Rl B D cA m6 H := hR
    have hl : lv_has ls 11 [(0, .ref (B + x0)), (1, .int x1), (2, .int x2), (3, .int x3), (4, .int x4), (5, .int x5), (6, .int z4), (7, .int z5)] := hl
    unfold f_X8_chains_L8 at hf
    refine lv_iload hx hb dX8_chains_8 (lv_at hl 7 rfl) ?_
    refine lv_aload_n hx hb dX8_chains_10 rfl (lv_at hl 0 rfl) ?_
    obtain ⟨v7, g8, hf⟩ := ob hf
    refine gR_X8_32 X hR g8 dX8_chains_11 ?_
    refine lv_iload_n hx hb dX8_chains_14 rfl (lv_at hl 1 rfl) ?_
    obtain ⟨v9, g10, hf⟩ := ob hf
    refine r_lI X hR g10 dX8_chains_15 ?_
    refine lv_icmp_ge (tgt := 133) hx hb dX8_chains_16 (by decide) (fun c11 => ?_) (fun c11 => ?_)
    · rw [if_pos c11] at hf
      obtain rfl := Option.some.inj hf
      exact hxrq3 _ rfl H locs ls hR hS (lv_sub hl [0, 6] rfl)
    · rw [if_neg c11] at hf
      refine lv_aload_n hx hb dX8_chains_19 rfl (lv_at hl 0 rfl) ?_
      refine lv_iload_n hx hb dX8_chains_20 rfl (lv_at hl 1 rfl) ?_
      refine lv_iload hx hb dX8_chains_21 (lv_at hl 7 rfl) ?_
      obtain ⟨o12, h13, hf⟩ := obO hf
      obtain ⟨v15, g14, hf⟩ := ob hf
      refine r_callV X kw_X8_113 (ci := 8) rfl (c_X8_ofNode l B D cA m6 x0 x1 z5 v15 g14) ⟨Nat.le_of_ble_eq_true rfl, Nat.le_of_ble_eq_true rfl⟩ h13 hR hS hl.1 rfl rfl (Nat.le_of_ble_eq_true rfl) ⟨Nat.le_of_ble_eq_true rfl, Nat.le_of_ble_eq_true rfl⟩ dX8_chains_23 (fun H locs hR hS => ?_)
      refine W.eq (g2 := F0 mt 26 ls [.int v15]) rfl ?_
      refine lv_iload_n hx hb dX8_chains_26 rfl (lv_at hl 2 rfl) ?_
      refine lv_icmp_ne (tgt := 127) hx hb dX8_chains_27 (by decide) (fun c16 => ?_) (fun c16 => ?_)
      · rw [if_neg c16] at hf
        refine lv_iinc (v := (z5 + 1)) (lv' := [(7, .int (z5 + 1)), (0, .ref (B + x0)), (1, .int x1), (2, .int x2), (3, .int x3), (4, .int x4), (5, .int x5), (6, .int z4)]) hx hb dX8_chains_127 hl (k := 7) rfl (congrArg (fun z => z5 + z) (by decide)) (by decide) rfl (fun ls hl => ?_)
        refine lv_goto (tgt := 8) hx hb dX8_chains_130 (by decide) ?_
        obtain rfl := Option.some.inj hf
        exact hxlq3 _ rfl H locs ls hR hS (lv_sub hl [1, 2, 3, 4, 5, 6, 7, 0] rfl)
      · rw [if_pos c16] at hf
        refine lv_iconst (v := 0) hx hb dX8_chains_30 (by decide) ?_
        refine lv_istore (lv' := [(8, .int (0 : Int32)), (0, .ref (B + x0)), (1, .int x1), (2, .int x2), (3, .int x3), (4, .int x4), (5, .int x5), (6, .int z4), (7, .int z5)]) hx hb dX8_chains_31 hl (by decide) rfl (fun ls hl => ?_)
        obtain ⟨e18, hwe18, hf⟩ := ob hf
        refine whl_rule (P := (fun t17 => ∀ (H : Heap) (locs : List Loc) (ls : Array Slot), Rl B D cA t17.2 H → va_S (fun q => B ≤ q) s.heap H locs → lv_has ls 11 [(0, .ref (B + x0)), (1, .int x1), (2, .int x2), (3, .int x3), (4, .int x4), (5, .int x5), (6, .int z4), (7, .int z5), (8, .int t17.1)] → W p l e (rmm 3 0 0 68) s mt args below meth c H locs 0 0 (MQ below (mQ B D cA (some (.long rZ)) mZ) args s 0 0 (fun q => B ≤ q)) (F0 mt 33 ls []))) (Qx := (fun e18 => ∀ (H : Heap) (locs : List Loc) (ls : Array Slot), Rl B D cA e18 H → va_S (fun q => B ≤ q) s.heap H locs → lv_has ls 11 [(0, .ref (B + x0)), (1, .int x1), (2, .int x2), (3, .int x3), (4, .int x4), (5, .int x5), (6, .int z4), (7, .int z5)] → W p l e (rmm 3 0 0 68) s mt args below meth c H locs 0 0 (MQ below (mQ B D cA (some (.long rZ)) mZ) args s 0 0 (fun q => B ≤ q)) (F0 mt 111 ls []))) ?_ FU _ e18 hwe18 ?_ H locs ls hR hS (lv_sub hl [1, 2, 3, 4, 5, 6, 7, 8, 0] rfl)
        · clear hwe18 hf
          intro t17 q19 hf hxlq19 hxrq19 H locs ls hR hS hl
          obtain ⟨z20, m21⟩ := t17
          have hf : f_X8_chains_L33 m21 x0 x1 x2 x3 x4 x5 z4 z5 z20 = some q19 := hf
          have hR : Rl B D cA m21 H := hR
          have hl : lv_has ls 11 [(0, .ref (B + x0)), (1, .int x1), (2, .int x2), (3, .int x3), (4, .int x4), (5, .int x5), (6, .int z4), (7, .int z5), (8, .int z20)] := hl
          unfold f_X8_chains_L33 at hf
          refine lv_iload hx hb dX8_chains_33 (lv_at hl 8 rfl) ?_
          refine lv_aload_n hx hb dX8_chains_35 rfl (lv_at hl 0 rfl) ?_
          obtain ⟨v22, g23, hf⟩ := ob hf
          refine gI_X8_13 X hR g23 dX8_chains_36 ?_
          refine lv_icmp_ge (tgt := 111) hx hb dX8_chains_39 (by decide) (fun c24 => ?_) (fun c24 => ?_)
          · rw [if_pos c24] at hf
            obtain rfl := Option.some.inj hf
            exact hxrq19 _ rfl H locs ls hR hS (lv_sub hl [0, 1, 2, 3, 4, 5, 6, 7] rfl)
          · rw [if_neg c24] at hf
            refine lv_iload hx hb dX8_chains_42 (lv_at hl 7 rfl) ?_
            refine lv_iload hx hb dX8_chains_44 (lv_at hl 4 rfl) ?_
            obtain ⟨t25, hjt25, hf⟩ := ob hf
            have hJt25 : ∀ (H : Heap) (locs : List Loc) (ls : Array Slot), Rl B D cA m21 H → va_S (fun q => B ≤ q) s.heap H locs → lv_has ls 11 [(0, .ref (B + x0)), (1, .int x1), (2, .int x2), (3, .int x3), (4, .int x4), (5, .int x5), (6, .int z4), (7, .int z5), (8, .int z20)] → W p l e (rmm 3 0 0 68) s mt args below meth c H locs 0 0 (MQ below (mQ B D cA (some (.long rZ)) mZ) args s 0 0 (fun q => B ≤ q)) (F0 mt 77 ls [.long t25]) := by
              intro H locs ls hR hS hl
              refine lv_lstore (lv' := [(9, .long t25), (0, .ref (B + x0)), (1, .int x1), (2, .int x2), (3, .int x3), (4, .int x4), (5, .int x5), (6, .int z4), (7, .int z5), (8, .int z20)]) hx hb dX8_chains_77 hl (by decide) rfl (fun ls hl => ?_)
              refine lv_aload_n hx hb dX8_chains_79 rfl (lv_at hl 1 rfl) ?_
              obtain ⟨v32, g33, hf⟩ := ob hf
              refine gR_X8_57 X hR g33 dX8_chains_80 ?_
              refine lv_iload hx hb dX8_chains_83 (lv_at hl 9 rfl) ?_
              refine lv_aload_n hx hb dX8_chains_85 rfl (lv_at hl 1 rfl) ?_
              refine lv_iload_n hx hb dX8_chains_86 rfl (lv_at hl 2 rfl) ?_
              refine lv_iload hx hb dX8_chains_87 (lv_at hl 8 rfl) ?_
              refine lv_iload_n hx hb dX8_chains_89 rfl (lv_at hl 4 rfl) ?_
              refine lv_iload hx hb dX8_chains_90 (lv_at hl 9 rfl) ?_
              obtain ⟨o34, h35, hf⟩ := obO hf
              obtain ⟨v37, g36, hf⟩ := ob hf
              refine r_callV X kw_X8_184 (ci := 8) rfl (c_X8_isJoined l B D cA m21 x0 x1 z5 x3 z20 v37 g36) ⟨Nat.le_of_ble_eq_true rfl, Nat.le_of_ble_eq_true rfl⟩ h35 hR hS hl.1 rfl rfl (Nat.le_of_ble_eq_true rfl) ⟨Nat.le_of_ble_eq_true rfl, Nat.le_of_ble_eq_true rfl⟩ dX8_chains_92 (fun H locs hR hS => ?_)
              refine W.eq (g2 := F0 mt 95 ls [.int v37, .int z20, .ref (B + v32)]) rfl ?_
              refine lv_if_eq (tgt := 103) hx hb dX8_chains_95 (by decide) (fun c38 => ?_) (fun c38 => ?_)
              · rw [if_pos c38] at hf
                refine lv_lconst (v := 0) hx hb dX8_chains_103 (by decide) ?_
                obtain ⟨m39, g40, hf⟩ := ob hf
                refine r_sJ X hR hS g40 dX8_chains_104 (fun H locs hR hS => ?_)
                refine lv_iinc (v := (z20 + 1)) (lv' := [(8, .int (z20 + 1)), (9, .long t25), (0, .ref (B + x0)), (1, .int x1), (2, .int x2), (3, .int x3), (4, .int x4), (5, .int x5), (6, .int z4), (7, .int z5)]) hx hb dX8_chains_105 hl (k := 9) rfl (congrArg (fun z => z20 + z) (by decide)) (by decide) rfl (fun ls hl => ?_)
                refine lv_goto (tgt := 33) hx hb dX8_chains_108 (by decide) ?_
                obtain rfl := Option.some.inj hf
                exact hxlq19 _ rfl H locs ls hR hS (lv_sub hl [2, 3, 4, 5, 6, 7, 8, 9, 0] rfl)
              · rw [if_neg c38] at hf
                refine lv_lload hx hb dX8_chains_98 (lv_at hl 0 rfl) ?_
                refine lv_goto (tgt := 104) hx hb dX8_chains_100 (by decide) ?_
                obtain ⟨m41, g42, hf⟩ := ob hf
                refine r_sJ X hR hS g42 dX8_chains_104 (fun H locs hR hS => ?_)
                refine lv_iinc (v := (z20 + 1)) (lv' := [(8, .int (z20 + 1)), (9, .long t25), (0, .ref (B + x0)), (1, .int x1), (2, .int x2), (3, .int x3), (4, .int x4), (5, .int x5), (6, .int z4), (7, .int z5)]) hx hb dX8_chains_105 hl (k := 9) rfl (congrArg (fun z => z20 + z) (by decide)) (by decide) rfl (fun ls hl => ?_)
                refine lv_goto (tgt := 33) hx hb dX8_chains_108 (by decide) ?_
                obtain rfl := Option.some.inj hf
                exact hxlq19 _ rfl H locs ls hR hS (lv_sub hl [2, 3, 4, 5, 6, 7, 8, 9, 0] rfl)
            have hf := hjt25
            clear hjt25
            refine lv_icmp_ne (tgt := 64) hx hb dX8_chains_46 (by decide) (fun c26 => ?_) (fun c26 => ?_)
            · rw [if_neg c26] at hf
              refine lv_aload_n hx hb dX8_chains_64 rfl (lv_at hl 0 rfl) ?_
              obtain ⟨v27, g28, hf⟩ := ob hf
              refine gR_X8_50 X hR g28 dX8_chains_65 ?_
              refine lv_bipush (v := 32) hx hb dX8_chains_68 (by decide) ?_
              refine lv_iload hx hb dX8_chains_70 (lv_at hl 7 rfl) ?_
              refine lv_imul hx hb dX8_chains_72 ?_
              refine lv_iload hx hb dX8_chains_73 (lv_at hl 8 rfl) ?_
              refine lv_iadd hx hb dX8_chains_75 ?_
              obtain ⟨v29, g30, hf⟩ := ob hf
              refine r_lJ X hR g30 dX8_chains_76 ?_
              obtain rfl := Option.some.inj hf
              exact hJt25 H locs ls hR hS (lv_sub hl [0, 1, 2, 3, 4, 5, 6, 7, 8] rfl)
            · rw [if_pos c26] at hf
              refine lv_iload hx hb dX8_chains_49 (lv_at hl 8 rfl) ?_
              refine lv_iload hx hb dX8_chains_51 (lv_at hl 5 rfl) ?_
              refine lv_icmp_ne (tgt := 60) hx hb dX8_chains_53 (by decide) (fun c31 => ?_) (fun c31 => ?_)
              · rw [if_neg c31] at hf
                refine lv_lconst (v := 0) hx hb dX8_chains_60 (by decide) ?_
                refine lv_goto (tgt := 77) hx hb dX8_chains_61 (by decide) ?_
                obtain rfl := Option.some.inj hf
                exact hJt25 H locs ls hR hS (lv_sub hl [0, 1, 2, 3, 4, 5, 6, 7, 8] rfl)
              · rw [if_pos c31] at hf
                refine lv_lconst (v := 1) hx hb dX8_chains_56 (by decide) ?_
                refine lv_goto (tgt := 77) hx hb dX8_chains_57 (by decide) ?_
                obtain rfl := Option.some.inj hf
                exact hJt25 H locs ls hR hS (lv_sub hl [0, 1, 2, 3, 4, 5, 6, 7, 8] rfl)
        · intro H locs ls hR hS hl
          refine lv_aload_n hx hb dX8_chains_111 rfl (lv_at hl 0 rfl) ?_
          refine lv_aload_n hx hb dX8_chains_112 rfl (lv_at hl 0 rfl) ?_
          refine lv_iload_n hx hb dX8_chains_113 rfl (lv_at hl 1 rfl) ?_
          refine lv_iload hx hb dX8_chains_114 (lv_at hl 7 rfl) ?_
          obtain ⟨o43, h44, hf⟩ := obO hf
          obtain ⟨v46, g45, hf⟩ := ob hf
          refine r_callV X kw_X8_109 (ci := 8) rfl (c_X8_isOrdered l B D cA e18 x0 x1 z5 v46 g45) ⟨Nat.le_of_ble_eq_true rfl, Nat.le_of_ble_eq_true rfl⟩ h44 hR hS hl.1 rfl rfl (Nat.le_of_ble_eq_true rfl) ⟨Nat.le_of_ble_eq_true rfl, Nat.le_of_ble_eq_true rfl⟩ dX8_chains_116 (fun H locs hR hS => ?_)
          refine W.eq (g2 := F0 mt 119 ls [.int v46, .ref (B + x0)]) rfl ?_
          refine lv_iload hx hb dX8_chains_119 (lv_at hl 6 rfl) ?_
          obtain ⟨o47, h48, hf⟩ := obO hf
          obtain ⟨m50, g49, hf⟩ := ob hf
          refine r_callV X kw_X8_187 (ci := 8) rfl (c_X8_goesOn l B D cA e18 x0 v46 z4 m50 g49) ⟨Nat.le_of_ble_eq_true rfl, Nat.le_of_ble_eq_true rfl⟩ h48 hR hS hl.1 rfl rfl (Nat.le_of_ble_eq_true rfl) ⟨Nat.le_of_ble_eq_true rfl, Nat.le_of_ble_eq_true rfl⟩ dX8_chains_121 (fun H locs hR hS => ?_)
          refine W.eq (g2 := F0 mt 124 ls []) rfl ?_
          refine lv_iconst (v := 1) hx hb dX8_chains_124 (by decide) ?_
          refine lv_istore (lv' := [(6, .int (1 : Int32)), (0, .ref (B + x0)), (1, .int x1), (2, .int x2), (3, .int x3), (4, .int x4), (5, .int x5), (7, .int z5)]) hx hb dX8_chains_125 hl (by decide) rfl (fun ls hl => ?_)
          refine lv_iinc (v := (z5 + 1)) (lv' := [(7, .int (z5 + 1)), (6, .int (1 : Int32)), (0, .ref (B + x0)), (1, .int x1), (2, .int x2), (3, .int x3), (4, .int x4), (5, .int x5)]) hx hb dX8_chains_127 hl (k := 7) rfl (congrArg (fun z => z5 + z) (by decide)) (by decide) rfl (fun ls hl => ?_)
          refine lv_goto (tgt := 8) hx hb dX8_chains_130 (by decide) ?_
          obtain rfl := Option.some.inj hf
          exact hxlq3 _ rfl H locs ls hR hS (lv_sub hl [2, 3, 4, 5, 6, 7, 1, 0] rfl)
  · intro H locs ls hR hS hl
    refine lv_iload hx hb dX8_chains_133 (lv_at hl 1 rfl) ?_
    obtain ⟨t51, hjt51, hf⟩ := ob hf
    have hJt51 : ∀ (H : Heap) (locs : List Loc) (ls : Array Slot), Rl B D cA e2.2 H → va_S (fun q => B ≤ q) s.heap H locs → lv_has ls 11 [(0, .ref (B + x0)), (6, .int e2.1)] → W p l e (rmm 3 0 0 68) s mt args below meth c H locs 0 0 (MQ below (mQ B D cA (some (.long rZ)) mZ) args s 0 0 (fun q => B ≤ q)) (F0 mt 143 ls [.long t51]) := by
      intro H locs ls hR hS hl
      refine lv_lstore (lv' := [(7, .long t51), (0, .ref (B + x0)), (6, .int e2.1)]) hx hb dX8_chains_143 hl (by decide) rfl (fun ls hl => ?_)
      refine lv_iconst (v := 0) hx hb dX8_chains_145 (by decide) ?_
      refine lv_istore (lv' := [(9, .int (0 : Int32)), (7, .long t51), (0, .ref (B + x0)), (6, .int e2.1)]) hx hb dX8_chains_146 hl (by decide) rfl (fun ls hl => ?_)
      obtain ⟨e54, hwe54, hf⟩ := ob hf
      refine whl_rule (P := (fun t53 => ∀ (H : Heap) (locs : List Loc) (ls : Array Slot), Rl B D cA e2.2 H → va_S (fun q => B ≤ q) s.heap H locs → lv_has ls 11 [(0, .ref (B + x0)), (6, .int e2.1), (7, .long t53.1), (9, .int t53.2)] → W p l e (rmm 3 0 0 68) s mt args below meth c H locs 0 0 (MQ below (mQ B D cA (some (.long rZ)) mZ) args s 0 0 (fun q => B ≤ q)) (F0 mt 148 ls []))) (Qx := (fun e54 => ∀ (H : Heap) (locs : List Loc) (ls : Array Slot), Rl B D cA e2.2 H → va_S (fun q => B ≤ q) s.heap H locs → lv_has ls 11 [(7, .long e54)] → W p l e (rmm 3 0 0 68) s mt args below meth c H locs 0 0 (MQ below (mQ B D cA (some (.long rZ)) mZ) args s 0 0 (fun q => B ≤ q)) (F0 mt 180 ls []))) ?_ FU _ e54 hwe54 ?_ H locs ls hR hS (lv_sub hl [2, 3, 1, 0] rfl)
      · clear hwe54 hf
        intro t53 q55 hf hxlq55 hxrq55 H locs ls hR hS hl
        obtain ⟨z56, z57⟩ := t53
        have hf : f_X8_chains_L148 e2.2 x0 e2.1 z56 z57 = some q55 := hf
        have hR : Rl B D cA e2.2 H := hR
        have hl : lv_has ls 11 [(0, .ref (B + x0)), (6, .int e2.1), (7, .long z56), (9, .int z57)] := hl
        unfold f_X8_chains_L148 at hf
        refine lv_iload hx hb dX8_chains_148 (lv_at hl 3 rfl) ?_
        refine lv_aload_n hx hb dX8_chains_150 rfl (lv_at hl 0 rfl) ?_
        obtain ⟨v58, g59, hf⟩ := ob hf
        refine gI_X8_13 X hR g59 dX8_chains_151 ?_
        refine lv_icmp_ge (tgt := 180) hx hb dX8_chains_154 (by decide) (fun c60 => ?_) (fun c60 => ?_)
        · rw [if_pos c60] at hf
          obtain rfl := Option.some.inj hf
          exact hxrq55 _ rfl H locs ls hR hS (lv_sub hl [2] rfl)
        · rw [if_neg c60] at hf
          refine lv_iload hx hb dX8_chains_157 (lv_at hl 1 rfl) ?_
          refine lv_if_eq (tgt := 180) hx hb dX8_chains_159 (by decide) (fun c61 => ?_) (fun c61 => ?_)
          · rw [if_pos c61] at hf
            obtain rfl := Option.some.inj hf
            exact hxrq55 _ rfl H locs ls hR hS (lv_sub hl [2] rfl)
          · rw [if_neg c61] at hf
            refine lv_lload hx hb dX8_chains_162 (lv_at hl 2 rfl) ?_
            refine lv_aload_n hx hb dX8_chains_164 rfl (lv_at hl 0 rfl) ?_
            obtain ⟨v62, g63, hf⟩ := ob hf
            refine gR_X8_54 X hR g63 dX8_chains_165 ?_
            refine lv_iload hx hb dX8_chains_168 (lv_at hl 3 rfl) ?_
            obtain ⟨v64, g65, hf⟩ := ob hf
            refine r_lJ X hR g65 dX8_chains_170 ?_
            refine lv_ladd hx hb dX8_chains_171 ?_
            refine lv_lstore (lv' := [(7, .long (z56 + v64)), (0, .ref (B + x0)), (6, .int e2.1), (9, .int z57)]) hx hb dX8_chains_172 hl (by decide) rfl (fun ls hl => ?_)
            refine lv_iinc (v := (z57 + 1)) (lv' := [(9, .int (z57 + 1)), (7, .long (z56 + v64)), (0, .ref (B + x0)), (6, .int e2.1)]) hx hb dX8_chains_174 hl (k := 3) rfl (congrArg (fun z => z57 + z) (by decide)) (by decide) rfl (fun ls hl => ?_)
            refine lv_goto (tgt := 148) hx hb dX8_chains_177 (by decide) ?_
            obtain rfl := Option.some.inj hf
            exact hxlq55 _ rfl H locs ls hR hS (lv_sub hl [2, 3, 1, 0] rfl)
      · intro H locs ls hR hS hl
        refine lv_lload hx hb dX8_chains_180 (lv_at hl 0 rfl) ?_
        obtain ⟨rfl, rfl⟩ := Prod.mk.inj (Option.some.inj hf)
        exact r_lret X hr hlocks hR hS dX8_chains_182
    have hf := hjt51
    clear hjt51
    refine lv_if_eq (tgt := 142) hx hb dX8_chains_135 (by decide) (fun c52 => ?_) (fun c52 => ?_)
    · rw [if_pos c52] at hf
      refine lv_lconst (v := 1) hx hb dX8_chains_142 (by decide) ?_
      obtain rfl := Option.some.inj hf
      exact hJt51 H locs ls hR hS (lv_sub hl [0, 1] rfl)
    · rw [if_neg c52] at hf
      refine lv_lconst (v := 0) hx hb dX8_chains_138 (by decide) ?_
      refine lv_goto (tgt := 143) hx hb dX8_chains_139 (by decide) ?_
      obtain rfl := Option.some.inj hf
      exact hJt51 H locs ls hR hS (lv_sub hl [0, 1] rfl)
/-! ===== TwigMatchesModel.counts(I)J ===== -/
theorem dX8_counts_0 : decode cX8_counts 0 = .ok (.aload_n 0, 1) := by decide +kernel
theorem dX8_counts_1 : decode cX8_counts 1 = .ok (.getfield 32, 3) := by decide +kernel
theorem dX8_counts_4 : decode cX8_counts 4 = .ok (.iload_n 1, 1) := by decide +kernel
theorem dX8_counts_5 : decode cX8_counts 5 = .ok (.iaload, 1) := by decide +kernel
theorem dX8_counts_6 : decode cX8_counts 6 = .ok (.iconst 1, 1) := by decide +kernel
theorem dX8_counts_7 : decode cX8_counts 7 = .ok (.isub, 1) := by decide +kernel
theorem dX8_counts_8 : decode cX8_counts 8 = .ok (.istore_n 2, 1) := by decide +kernel
theorem dX8_counts_9 : decode cX8_counts 9 = .ok (.iload_n 2, 1) := by decide +kernel
theorem dX8_counts_10 : decode cX8_counts 10 = .ok (.ifCond .lt 85, 3) := by decide +kernel
theorem dX8_counts_13 : decode cX8_counts 13 = .ok (.iconst 0, 1) := by decide +kernel
theorem dX8_counts_14 : decode cX8_counts 14 = .ok (.istore_n 3, 1) := by decide +kernel
theorem dX8_counts_15 : decode cX8_counts 15 = .ok (.iload_n 3, 1) := by decide +kernel
theorem dX8_counts_16 : decode cX8_counts 16 = .ok (.aload_n 0, 1) := by decide +kernel
theorem dX8_counts_17 : decode cX8_counts 17 = .ok (.getfield 13, 3) := by decide +kernel
theorem dX8_counts_20 : decode cX8_counts 20 = .ok (.if_icmp .ge 69, 3) := by decide +kernel
theorem dX8_counts_23 : decode cX8_counts 23 = .ok (.aload_n 0, 1) := by decide +kernel
theorem dX8_counts_24 : decode cX8_counts 24 = .ok (.getfield 47, 3) := by decide +kernel
theorem dX8_counts_27 : decode cX8_counts 27 = .ok (.iload_n 2, 1) := by decide +kernel
theorem dX8_counts_28 : decode cX8_counts 28 = .ok (.iaload, 1) := by decide +kernel
theorem dX8_counts_29 : decode cX8_counts 29 = .ok (.iload_n 3, 1) := by decide +kernel
theorem dX8_counts_30 : decode cX8_counts 30 = .ok (.iushr, 1) := by decide +kernel
theorem dX8_counts_31 : decode cX8_counts 31 = .ok (.iconst 1, 1) := by decide +kernel
theorem dX8_counts_32 : decode cX8_counts 32 = .ok (.iand, 1) := by decide +kernel
theorem dX8_counts_33 : decode cX8_counts 33 = .ok (.iconst 1, 1) := by decide +kernel
theorem dX8_counts_34 : decode cX8_counts 34 = .ok (.if_icmp .ne 17, 3) := by decide +kernel
theorem dX8_counts_37 : decode cX8_counts 37 = .ok (.aload_n 0, 1) := by decide +kernel
theorem dX8_counts_38 : decode cX8_counts 38 = .ok (.iload_n 1, 1) := by decide +kernel
theorem dX8_counts_39 : decode cX8_counts 39 = .ok (.iload_n 2, 1) := by decide +kernel
theorem dX8_counts_40 : decode cX8_counts 40 = .ok (.iload_n 3, 1) := by decide +kernel
theorem dX8_counts_41 : decode cX8_counts 41 = .ok (.invokevirtual 191, 3) := by decide +kernel
theorem dX8_counts_44 : decode cX8_counts 44 = .ok (.ifCond .eq 7, 3) := by decide +kernel
theorem dX8_counts_47 : decode cX8_counts 47 = .ok (.iconst 1, 1) := by decide +kernel
theorem dX8_counts_48 : decode cX8_counts 48 = .ok (.goto 4, 3) := by decide +kernel
theorem dX8_counts_51 : decode cX8_counts 51 = .ok (.iconst 0, 1) := by decide +kernel
theorem dX8_counts_52 : decode cX8_counts 52 = .ok (.istore 4, 2) := by decide +kernel
theorem dX8_counts_54 : decode cX8_counts 54 = .ok (.aload_n 0, 1) := by decide +kernel
theorem dX8_counts_55 : decode cX8_counts 55 = .ok (.getfield 50, 3) := by decide +kernel
theorem dX8_counts_58 : decode cX8_counts 58 = .ok (.bipush 32, 2) := by decide +kernel
theorem dX8_counts_60 : decode cX8_counts 60 = .ok (.iload_n 2, 1) := by decide +kernel
theorem dX8_counts_61 : decode cX8_counts 61 = .ok (.imul, 1) := by decide +kernel
theorem dX8_counts_62 : decode cX8_counts 62 = .ok (.iload_n 3, 1) := by decide +kernel
theorem dX8_counts_63 : decode cX8_counts 63 = .ok (.iadd, 1) := by decide +kernel
theorem dX8_counts_64 : decode cX8_counts 64 = .ok (.iload 4, 2) := by decide +kernel
theorem dX8_counts_66 : decode cX8_counts 66 = .ok (.ifCond .eq 15, 3) := by decide +kernel
theorem dX8_counts_69 : decode cX8_counts 69 = .ok (.aload_n 0, 1) := by decide +kernel
theorem dX8_counts_70 : decode cX8_counts 70 = .ok (.iload_n 1, 1) := by decide +kernel
theorem dX8_counts_71 : decode cX8_counts 71 = .ok (.iload_n 2, 1) := by decide +kernel
theorem dX8_counts_72 : decode cX8_counts 72 = .ok (.iload_n 3, 1) := by decide +kernel
theorem dX8_counts_73 : decode cX8_counts 73 = .ok (.iconst (-1), 1) := by decide +kernel
theorem dX8_counts_74 : decode cX8_counts 74 = .ok (.iconst 0, 1) := by decide +kernel
theorem dX8_counts_75 : decode cX8_counts 75 = .ok (.invokevirtual 194, 3) := by decide +kernel
theorem dX8_counts_78 : decode cX8_counts 78 = .ok (.goto 4, 3) := by decide +kernel
theorem dX8_counts_81 : decode cX8_counts 81 = .ok (.lconst 0, 1) := by decide +kernel
theorem dX8_counts_82 : decode cX8_counts 82 = .ok (.lastore, 1) := by decide +kernel
theorem dX8_counts_83 : decode cX8_counts 83 = .ok (.iinc 3 1, 3) := by decide +kernel
theorem dX8_counts_86 : decode cX8_counts 86 = .ok (.goto (-71), 3) := by decide +kernel
theorem dX8_counts_89 : decode cX8_counts 89 = .ok (.iinc 2 (-1), 3) := by decide +kernel
theorem dX8_counts_92 : decode cX8_counts 92 = .ok (.goto (-83), 3) := by decide +kernel
theorem dX8_counts_95 : decode cX8_counts 95 = .ok (.lconst 0, 1) := by decide +kernel
theorem dX8_counts_96 : decode cX8_counts 96 = .ok (.lstore_n 2, 1) := by decide +kernel
theorem dX8_counts_97 : decode cX8_counts 97 = .ok (.iconst 0, 1) := by decide +kernel
theorem dX8_counts_98 : decode cX8_counts 98 = .ok (.istore 4, 2) := by decide +kernel
theorem dX8_counts_100 : decode cX8_counts 100 = .ok (.iload 4, 2) := by decide +kernel
theorem dX8_counts_102 : decode cX8_counts 102 = .ok (.aload_n 0, 1) := by decide +kernel
theorem dX8_counts_103 : decode cX8_counts 103 = .ok (.getfield 13, 3) := by decide +kernel
theorem dX8_counts_106 : decode cX8_counts 106 = .ok (.if_icmp .ge 19, 3) := by decide +kernel
theorem dX8_counts_109 : decode cX8_counts 109 = .ok (.lload_n 2, 1) := by decide +kernel
theorem dX8_counts_110 : decode cX8_counts 110 = .ok (.aload_n 0, 1) := by decide +kernel
theorem dX8_counts_111 : decode cX8_counts 111 = .ok (.getfield 50, 3) := by decide +kernel
theorem dX8_counts_114 : decode cX8_counts 114 = .ok (.iload 4, 2) := by decide +kernel
theorem dX8_counts_116 : decode cX8_counts 116 = .ok (.laload, 1) := by decide +kernel
theorem dX8_counts_117 : decode cX8_counts 117 = .ok (.ladd, 1) := by decide +kernel
theorem dX8_counts_118 : decode cX8_counts 118 = .ok (.lstore_n 2, 1) := by decide +kernel
theorem dX8_counts_119 : decode cX8_counts 119 = .ok (.iinc 4 1, 3) := by decide +kernel
theorem dX8_counts_122 : decode cX8_counts 122 = .ok (.goto (-22), 3) := by decide +kernel
theorem dX8_counts_125 : decode cX8_counts 125 = .ok (.lload_n 2, 1) := by decide +kernel
theorem dX8_counts_126 : decode cX8_counts 126 = .ok (.lreturn, 1) := by decide +kernel
set_option maxHeartbeats 4000000 in
set_option maxRecDepth 100000 in
theorem c_X8_counts (l : Launch) (B : Nat) (D : va_G) (cA : Nat → ClassId) (m : Mm) (x0 : Nat) (x1 : Int32) (rZ : Int64) (mZ : Mm) (hf : f_X8_counts m x0 x1 = some (rZ, mZ)) : Mt l B D cA yX8_counts cX8_counts 5 (some .long) 4 98 0 0 [.ref (B + x0), .int x1] m (some (.long rZ)) mZ := by
  refine r_start (by decide) (Nat.le_of_ble_eq_true rfl) ?_
  intro p e s mt args below meth c ls H locs X hr hlocks hnm hR hl hS
  have hx := X.1
  have hb := X.2.1
  have hl : lv_has ls 5 [(0, .ref (B + x0)), (1, .int x1)] := hl
  unfold f_X8_counts at hf
  refine lv_aload_n hx hb dX8_counts_0 rfl (lv_at hl 0 rfl) ?_
  obtain ⟨v1, g2, hf⟩ := ob hf
  refine gR_X8_32 X hR g2 dX8_counts_1 ?_
  refine lv_iload_n hx hb dX8_counts_4 rfl (lv_at hl 1 rfl) ?_
  obtain ⟨v3, g4, hf⟩ := ob hf
  refine r_lI X hR g4 dX8_counts_5 ?_
  refine lv_iconst (v := 1) hx hb dX8_counts_6 (by decide) ?_
  refine lv_isub hx hb dX8_counts_7 ?_
  refine lv_istore_n (lv' := [(2, .int (v3 - (1 : Int32))), (0, .ref (B + x0)), (1, .int x1)]) hx hb dX8_counts_8 rfl hl (by decide) rfl (fun ls hl => ?_)
  obtain ⟨e6, hwe6, hf⟩ := ob hf
  refine whl_rule (P := (fun t5 => ∀ (H : Heap) (locs : List Loc) (ls : Array Slot), Rl B D cA t5.2 H → va_S (fun q => B ≤ q) s.heap H locs → lv_has ls 5 [(0, .ref (B + x0)), (1, .int x1), (2, .int t5.1)] → W p l e (rmm 4 0 0 98) s mt args below meth c H locs 0 0 (MQ below (mQ B D cA (some (.long rZ)) mZ) args s 0 0 (fun q => B ≤ q)) (F0 mt 9 ls []))) (Qx := (fun e6 => ∀ (H : Heap) (locs : List Loc) (ls : Array Slot), Rl B D cA e6 H → va_S (fun q => B ≤ q) s.heap H locs → lv_has ls 5 [(0, .ref (B + x0))] → W p l e (rmm 4 0 0 98) s mt args below meth c H locs 0 0 (MQ below (mQ B D cA (some (.long rZ)) mZ) args s 0 0 (fun q => B ≤ q)) (F0 mt 95 ls []))) ?_ FU _ e6 hwe6 ?_ H locs ls hR hS (lv_sub hl [1, 2, 0] rfl)
  · clear hwe6 hf
    intro t5 q7 hf hxlq7 hxrq7 H locs ls hR hS hl
    obtain ⟨z8, m9⟩ := t5
    have hf : f_X8_counts_L9 m9 x0 x1 z8 = some q7 := hf
    have hR : Rl B D cA m9 H := hR
    have hl : lv_has ls 5 [(0, .ref (B + x0)), (1, .int x1), (2, .int z8)] := hl
    unfold f_X8_counts_L9 at hf
    refine lv_iload_n hx hb dX8_counts_9 rfl (lv_at hl 2 rfl) ?_
    refine lv_if_lt (tgt := 95) hx hb dX8_counts_10 (by decide) (fun c10 => ?_) (fun c10 => ?_)
    · rw [if_pos c10] at hf
      obtain rfl := Option.some.inj hf
      exact hxrq7 _ rfl H locs ls hR hS (lv_sub hl [0] rfl)
    · rw [if_neg c10] at hf
      refine lv_iconst (v := 0) hx hb dX8_counts_13 (by decide) ?_
      refine lv_istore_n (lv' := [(3, .int (0 : Int32)), (0, .ref (B + x0)), (1, .int x1), (2, .int z8)]) hx hb dX8_counts_14 rfl hl (by decide) rfl (fun ls hl => ?_)
      obtain ⟨e12, hwe12, hf⟩ := ob hf
      refine whl_rule (P := (fun t11 => ∀ (H : Heap) (locs : List Loc) (ls : Array Slot), Rl B D cA t11.2 H → va_S (fun q => B ≤ q) s.heap H locs → lv_has ls 5 [(0, .ref (B + x0)), (1, .int x1), (2, .int z8), (3, .int t11.1)] → W p l e (rmm 4 0 0 98) s mt args below meth c H locs 0 0 (MQ below (mQ B D cA (some (.long rZ)) mZ) args s 0 0 (fun q => B ≤ q)) (F0 mt 15 ls []))) (Qx := (fun e12 => ∀ (H : Heap) (locs : List Loc) (ls : Array Slot), Rl B D cA e12 H → va_S (fun q => B ≤ q) s.heap H locs → lv_has ls 5 [(0, .ref (B + x0)), (1, .int x1), (2, .int z8)] → W p l e (rmm 4 0 0 98) s mt args below meth c H locs 0 0 (MQ below (mQ B D cA (some (.long rZ)) mZ) args s 0 0 (fun q => B ≤ q)) (F0 mt 89 ls []))) ?_ FU _ e12 hwe12 ?_ H locs ls hR hS (lv_sub hl [1, 2, 3, 0] rfl)
      · clear hwe12 hf
        intro t11 q13 hf hxlq13 hxrq13 H locs ls hR hS hl
        obtain ⟨z14, m15⟩ := t11
        have hf : f_X8_counts_L15 m15 x0 x1 z8 z14 = some q13 := hf
        have hR : Rl B D cA m15 H := hR
        have hl : lv_has ls 5 [(0, .ref (B + x0)), (1, .int x1), (2, .int z8), (3, .int z14)] := hl
        unfold f_X8_counts_L15 at hf
        refine lv_iload_n hx hb dX8_counts_15 rfl (lv_at hl 3 rfl) ?_
        refine lv_aload_n hx hb dX8_counts_16 rfl (lv_at hl 0 rfl) ?_
        obtain ⟨v16, g17, hf⟩ := ob hf
        refine gI_X8_13 X hR g17 dX8_counts_17 ?_
        refine lv_icmp_ge (tgt := 89) hx hb dX8_counts_20 (by decide) (fun c18 => ?_) (fun c18 => ?_)
        · rw [if_pos c18] at hf
          obtain rfl := Option.some.inj hf
          exact hxrq13 _ rfl H locs ls hR hS (lv_sub hl [0, 1, 2] rfl)
        · rw [if_neg c18] at hf
          refine lv_aload_n hx hb dX8_counts_23 rfl (lv_at hl 0 rfl) ?_
          obtain ⟨v19, g20, hf⟩ := ob hf
          refine gR_X8_47 X hR g20 dX8_counts_24 ?_
          refine lv_iload_n hx hb dX8_counts_27 rfl (lv_at hl 2 rfl) ?_
          obtain ⟨v21, g22, hf⟩ := ob hf
          refine r_lI X hR g22 dX8_counts_28 ?_
          refine lv_iload_n hx hb dX8_counts_29 rfl (lv_at hl 3 rfl) ?_
          refine lv_iushr (v := (iushrJ v21 z14)) hx hb dX8_counts_30 rfl ?_
          refine lv_iconst (v := 1) hx hb dX8_counts_31 (by decide) ?_
          refine lv_iand hx hb dX8_counts_32 ?_
          refine lv_iconst (v := 1) hx hb dX8_counts_33 (by decide) ?_
          obtain ⟨t23, hjt23, hf⟩ := ob hf
          have hJt23 : ∀ (H : Heap) (locs : List Loc) (ls : Array Slot), Rl B D cA m15 H → va_S (fun q => B ≤ q) s.heap H locs → lv_has ls 5 [(0, .ref (B + x0)), (1, .int x1), (2, .int z8), (3, .int z14)] → W p l e (rmm 4 0 0 98) s mt args below meth c H locs 0 0 (MQ below (mQ B D cA (some (.long rZ)) mZ) args s 0 0 (fun q => B ≤ q)) (F0 mt 52 ls [.int t23]) := by
            intro H locs ls hR hS hl
            refine lv_istore (lv' := [(4, .int t23), (0, .ref (B + x0)), (1, .int x1), (2, .int z8), (3, .int z14)]) hx hb dX8_counts_52 hl (by decide) rfl (fun ls hl => ?_)
            refine lv_aload_n hx hb dX8_counts_54 rfl (lv_at hl 1 rfl) ?_
            obtain ⟨v30, g31, hf⟩ := ob hf
            refine gR_X8_50 X hR g31 dX8_counts_55 ?_
            refine lv_bipush (v := 32) hx hb dX8_counts_58 (by decide) ?_
            refine lv_iload_n hx hb dX8_counts_60 rfl (lv_at hl 3 rfl) ?_
            refine lv_imul hx hb dX8_counts_61 ?_
            refine lv_iload_n hx hb dX8_counts_62 rfl (lv_at hl 4 rfl) ?_
            refine lv_iadd hx hb dX8_counts_63 ?_
            refine lv_iload hx hb dX8_counts_64 (lv_at hl 0 rfl) ?_
            refine lv_if_eq (tgt := 81) hx hb dX8_counts_66 (by decide) (fun c32 => ?_) (fun c32 => ?_)
            · rw [if_pos c32] at hf
              refine lv_lconst (v := 0) hx hb dX8_counts_81 (by decide) ?_
              obtain ⟨m33, g34, hf⟩ := ob hf
              refine r_sJ X hR hS g34 dX8_counts_82 (fun H locs hR hS => ?_)
              refine lv_iinc (v := (z14 + 1)) (lv' := [(3, .int (z14 + 1)), (4, .int t23), (0, .ref (B + x0)), (1, .int x1), (2, .int z8)]) hx hb dX8_counts_83 hl (k := 4) rfl (congrArg (fun z => z14 + z) (by decide)) (by decide) rfl (fun ls hl => ?_)
              refine lv_goto (tgt := 15) hx hb dX8_counts_86 (by decide) ?_
              obtain rfl := Option.some.inj hf
              exact hxlq13 _ rfl H locs ls hR hS (lv_sub hl [2, 3, 4, 0] rfl)
            · rw [if_neg c32] at hf
              refine lv_aload_n hx hb dX8_counts_69 rfl (lv_at hl 1 rfl) ?_
              refine lv_iload_n hx hb dX8_counts_70 rfl (lv_at hl 2 rfl) ?_
              refine lv_iload_n hx hb dX8_counts_71 rfl (lv_at hl 3 rfl) ?_
              refine lv_iload_n hx hb dX8_counts_72 rfl (lv_at hl 4 rfl) ?_
              refine lv_iconst (v := -1) hx hb dX8_counts_73 (by decide) ?_
              refine lv_iconst (v := 0) hx hb dX8_counts_74 (by decide) ?_
              obtain ⟨o35, h36, hf⟩ := obO hf
              obtain ⟨t38, g37, hf⟩ := ob hf
              refine r_callV X kw_X8_194 (ci := 8) rfl (c_X8_chains l B D cA m15 x0 x1 z8 z14 (-1 : Int32) (0 : Int32) t38.1 t38.2 g37) ⟨Nat.le_of_ble_eq_true rfl, Nat.le_of_ble_eq_true rfl⟩ h36 hR hS hl.1 rfl rfl (Nat.le_of_ble_eq_true rfl) ⟨Nat.le_of_ble_eq_true rfl, Nat.le_of_ble_eq_true rfl⟩ dX8_counts_75 (fun H locs hR hS => ?_)
              refine W.eq (g2 := F0 mt 78 ls [.long t38.1, .int (((32 : Int32) * z8) + z14), .ref (B + v30)]) rfl ?_
              refine lv_goto (tgt := 82) hx hb dX8_counts_78 (by decide) ?_
              obtain ⟨m39, g40, hf⟩ := ob hf
              refine r_sJ X hR hS g40 dX8_counts_82 (fun H locs hR hS => ?_)
              refine lv_iinc (v := (z14 + 1)) (lv' := [(3, .int (z14 + 1)), (4, .int t23), (0, .ref (B + x0)), (1, .int x1), (2, .int z8)]) hx hb dX8_counts_83 hl (k := 4) rfl (congrArg (fun z => z14 + z) (by decide)) (by decide) rfl (fun ls hl => ?_)
              refine lv_goto (tgt := 15) hx hb dX8_counts_86 (by decide) ?_
              obtain rfl := Option.some.inj hf
              exact hxlq13 _ rfl H locs ls hR hS (lv_sub hl [2, 3, 4, 0] rfl)
          have hf := hjt23
          clear hjt23
          refine lv_icmp_ne (tgt := 51) hx hb dX8_counts_34 (by decide) (fun c24 => ?_) (fun c24 => ?_)
          · rw [if_neg c24] at hf
            refine lv_iconst (v := 0) hx hb dX8_counts_51 (by decide) ?_
            obtain rfl := Option.some.inj hf
            exact hJt23 H locs ls hR hS (lv_sub hl [0, 1, 2, 3] rfl)
          · rw [if_pos c24] at hf
            refine lv_aload_n hx hb dX8_counts_37 rfl (lv_at hl 0 rfl) ?_
            refine lv_iload_n hx hb dX8_counts_38 rfl (lv_at hl 1 rfl) ?_
            refine lv_iload_n hx hb dX8_counts_39 rfl (lv_at hl 2 rfl) ?_
            refine lv_iload_n hx hb dX8_counts_40 rfl (lv_at hl 3 rfl) ?_
            obtain ⟨o25, h26, hf⟩ := obO hf
            obtain ⟨v28, g27, hf⟩ := ob hf
            refine r_callV X kw_X8_191 (ci := 8) rfl (c_X8_fitsIn l B D cA m15 x0 x1 z8 z14 v28 g27) ⟨Nat.le_of_ble_eq_true rfl, Nat.le_of_ble_eq_true rfl⟩ h26 hR hS hl.1 rfl rfl (Nat.le_of_ble_eq_true rfl) ⟨Nat.le_of_ble_eq_true rfl, Nat.le_of_ble_eq_true rfl⟩ dX8_counts_41 (fun H locs hR hS => ?_)
            refine W.eq (g2 := F0 mt 44 ls [.int v28]) rfl ?_
            refine lv_if_eq (tgt := 51) hx hb dX8_counts_44 (by decide) (fun c29 => ?_) (fun c29 => ?_)
            · rw [if_pos c29] at hf
              refine lv_iconst (v := 0) hx hb dX8_counts_51 (by decide) ?_
              obtain rfl := Option.some.inj hf
              exact hJt23 H locs ls hR hS (lv_sub hl [0, 1, 2, 3] rfl)
            · rw [if_neg c29] at hf
              refine lv_iconst (v := 1) hx hb dX8_counts_47 (by decide) ?_
              refine lv_goto (tgt := 52) hx hb dX8_counts_48 (by decide) ?_
              obtain rfl := Option.some.inj hf
              exact hJt23 H locs ls hR hS (lv_sub hl [0, 1, 2, 3] rfl)
      · intro H locs ls hR hS hl
        refine lv_iinc (v := (z8 + (-1))) (lv' := [(2, .int (z8 + (-1))), (0, .ref (B + x0)), (1, .int x1)]) hx hb dX8_counts_89 hl (k := 2) rfl (congrArg (fun z => z8 + z) (by decide)) (by decide) rfl (fun ls hl => ?_)
        refine lv_goto (tgt := 9) hx hb dX8_counts_92 (by decide) ?_
        obtain rfl := Option.some.inj hf
        exact hxlq7 _ rfl H locs ls hR hS (lv_sub hl [1, 2, 0] rfl)
  · intro H locs ls hR hS hl
    refine lv_lconst (v := 0) hx hb dX8_counts_95 (by decide) ?_
    refine lv_lstore_n (lv' := [(2, .long (0 : Int64)), (0, .ref (B + x0))]) hx hb dX8_counts_96 rfl hl (by decide) rfl (fun ls hl => ?_)
    refine lv_iconst (v := 0) hx hb dX8_counts_97 (by decide) ?_
    refine lv_istore (lv' := [(4, .int (0 : Int32)), (2, .long (0 : Int64)), (0, .ref (B + x0))]) hx hb dX8_counts_98 hl (by decide) rfl (fun ls hl => ?_)
    obtain ⟨e42, hwe42, hf⟩ := ob hf
    refine whl_rule (P := (fun t41 => ∀ (H : Heap) (locs : List Loc) (ls : Array Slot), Rl B D cA e6 H → va_S (fun q => B ≤ q) s.heap H locs → lv_has ls 5 [(0, .ref (B + x0)), (2, .long t41.1), (4, .int t41.2)] → W p l e (rmm 4 0 0 98) s mt args below meth c H locs 0 0 (MQ below (mQ B D cA (some (.long rZ)) mZ) args s 0 0 (fun q => B ≤ q)) (F0 mt 100 ls []))) (Qx := (fun e42 => ∀ (H : Heap) (locs : List Loc) (ls : Array Slot), Rl B D cA e6 H → va_S (fun q => B ≤ q) s.heap H locs → lv_has ls 5 [(2, .long e42)] → W p l e (rmm 4 0 0 98) s mt args below meth c H locs 0 0 (MQ below (mQ B D cA (some (.long rZ)) mZ) args s 0 0 (fun q => B ≤ q)) (F0 mt 125 ls []))) ?_ FU _ e42 hwe42 ?_ H locs ls hR hS (lv_sub hl [2, 1, 0] rfl)
    · clear hwe42 hf
      intro t41 q43 hf hxlq43 hxrq43 H locs ls hR hS hl
      obtain ⟨z44, z45⟩ := t41
      have hf : f_X8_counts_L100 e6 x0 z44 z45 = some q43 := hf
      have hR : Rl B D cA e6 H := hR
      have hl : lv_has ls 5 [(0, .ref (B + x0)), (2, .long z44), (4, .int z45)] := hl
      unfold f_X8_counts_L100 at hf
      refine lv_iload hx hb dX8_counts_100 (lv_at hl 2 rfl) ?_
      refine lv_aload_n hx hb dX8_counts_102 rfl (lv_at hl 0 rfl) ?_
      obtain ⟨v46, g47, hf⟩ := ob hf
      refine gI_X8_13 X hR g47 dX8_counts_103 ?_
      refine lv_icmp_ge (tgt := 125) hx hb dX8_counts_106 (by decide) (fun c48 => ?_) (fun c48 => ?_)
      · rw [if_pos c48] at hf
        obtain rfl := Option.some.inj hf
        exact hxrq43 _ rfl H locs ls hR hS (lv_sub hl [1] rfl)
      · rw [if_neg c48] at hf
        refine lv_lload_n hx hb dX8_counts_109 rfl (lv_at hl 1 rfl) ?_
        refine lv_aload_n hx hb dX8_counts_110 rfl (lv_at hl 0 rfl) ?_
        obtain ⟨v49, g50, hf⟩ := ob hf
        refine gR_X8_50 X hR g50 dX8_counts_111 ?_
        refine lv_iload hx hb dX8_counts_114 (lv_at hl 2 rfl) ?_
        obtain ⟨v51, g52, hf⟩ := ob hf
        refine r_lJ X hR g52 dX8_counts_116 ?_
        refine lv_ladd hx hb dX8_counts_117 ?_
        refine lv_lstore_n (lv' := [(2, .long (z44 + v51)), (0, .ref (B + x0)), (4, .int z45)]) hx hb dX8_counts_118 rfl hl (by decide) rfl (fun ls hl => ?_)
        refine lv_iinc (v := (z45 + 1)) (lv' := [(4, .int (z45 + 1)), (2, .long (z44 + v51)), (0, .ref (B + x0))]) hx hb dX8_counts_119 hl (k := 2) rfl (congrArg (fun z => z45 + z) (by decide)) (by decide) rfl (fun ls hl => ?_)
        refine lv_goto (tgt := 100) hx hb dX8_counts_122 (by decide) ?_
        obtain rfl := Option.some.inj hf
        exact hxlq43 _ rfl H locs ls hR hS (lv_sub hl [2, 1, 0] rfl)
    · intro H locs ls hR hS hl
      refine lv_lload_n hx hb dX8_counts_125 rfl (lv_at hl 0 rfl) ?_
      obtain ⟨rfl, rfl⟩ := Prod.mk.inj (Option.some.inj hf)
      exact r_lret X hr hlocks hR hS dX8_counts_126
/-! ===== TwigMatchesModel.mayAll()V ===== -/
theorem dX8_mayAll_0 : decode cX8_mayAll 0 = .ok (.iconst 0, 1) := by decide +kernel
theorem dX8_mayAll_1 : decode cX8_mayAll 1 = .ok (.istore_n 1, 1) := by decide +kernel
theorem dX8_mayAll_2 : decode cX8_mayAll 2 = .ok (.iload_n 1, 1) := by decide +kernel
theorem dX8_mayAll_3 : decode cX8_mayAll 3 = .ok (.bipush 6, 2) := by decide +kernel
theorem dX8_mayAll_5 : decode cX8_mayAll 5 = .ok (.if_icmp .ge 16, 3) := by decide +kernel
theorem dX8_mayAll_8 : decode cX8_mayAll 8 = .ok (.aload_n 0, 1) := by decide +kernel
theorem dX8_mayAll_9 : decode cX8_mayAll 9 = .ok (.getfield 47, 3) := by decide +kernel
theorem dX8_mayAll_12 : decode cX8_mayAll 12 = .ok (.iload_n 1, 1) := by decide +kernel
theorem dX8_mayAll_13 : decode cX8_mayAll 13 = .ok (.iconst (-1), 1) := by decide +kernel
theorem dX8_mayAll_14 : decode cX8_mayAll 14 = .ok (.iastore, 1) := by decide +kernel
theorem dX8_mayAll_15 : decode cX8_mayAll 15 = .ok (.iinc 1 1, 3) := by decide +kernel
theorem dX8_mayAll_18 : decode cX8_mayAll 18 = .ok (.goto (-16), 3) := by decide +kernel
theorem dX8_mayAll_21 : decode cX8_mayAll 21 = .ok (.return_, 1) := by decide +kernel
set_option maxHeartbeats 4000000 in
set_option maxRecDepth 100000 in
theorem c_X8_mayAll (l : Launch) (B : Nat) (D : va_G) (cA : Nat → ClassId) (m : Mm) (x0 : Nat) (mZ : Mm) (hf : f_X8_mayAll m x0 = some mZ) : Mt l B D cA yX8_mayAll cX8_mayAll 2 none 0 0 0 0 [.ref (B + x0)] m none mZ := by
  refine r_start (by decide) (Nat.le_of_ble_eq_true rfl) ?_
  intro p e s mt args below meth c ls H locs X hr hlocks hnm hR hl hS
  have hx := X.1
  have hb := X.2.1
  have hl : lv_has ls 2 [(0, .ref (B + x0))] := hl
  unfold f_X8_mayAll at hf
  refine lv_iconst (v := 0) hx hb dX8_mayAll_0 (by decide) ?_
  refine lv_istore_n (lv' := [(1, .int (0 : Int32)), (0, .ref (B + x0))]) hx hb dX8_mayAll_1 rfl hl (by decide) rfl (fun ls hl => ?_)
  obtain ⟨e2, hwe2, hf⟩ := ob hf
  refine whl_rule (P := (fun t1 => ∀ (H : Heap) (locs : List Loc) (ls : Array Slot), Rl B D cA t1.2 H → va_S (fun q => B ≤ q) s.heap H locs → lv_has ls 2 [(0, .ref (B + x0)), (1, .int t1.1)] → W p l e (rmm 0 0 0 0) s mt args below meth c H locs 0 0 (MQ below (mQ B D cA none mZ) args s 0 0 (fun q => B ≤ q)) (F0 mt 2 ls []))) (Qx := (fun e2 => ∀ (H : Heap) (locs : List Loc) (ls : Array Slot), Rl B D cA e2 H → va_S (fun q => B ≤ q) s.heap H locs → lv_has ls 2 [] → W p l e (rmm 0 0 0 0) s mt args below meth c H locs 0 0 (MQ below (mQ B D cA none mZ) args s 0 0 (fun q => B ≤ q)) (F0 mt 21 ls []))) ?_ FU _ e2 hwe2 ?_ H locs ls hR hS (lv_sub hl [1, 0] rfl)
  · clear hwe2 hf
    intro t1 q3 hf hxlq3 hxrq3 H locs ls hR hS hl
    obtain ⟨z4, m5⟩ := t1
    have hf : f_X8_mayAll_L2 m5 x0 z4 = some q3 := hf
    have hR : Rl B D cA m5 H := hR
    have hl : lv_has ls 2 [(0, .ref (B + x0)), (1, .int z4)] := hl
    unfold f_X8_mayAll_L2 at hf
    refine lv_iload_n hx hb dX8_mayAll_2 rfl (lv_at hl 1 rfl) ?_
    refine lv_bipush (v := 6) hx hb dX8_mayAll_3 (by decide) ?_
    refine lv_icmp_ge (tgt := 21) hx hb dX8_mayAll_5 (by decide) (fun c6 => ?_) (fun c6 => ?_)
    · rw [if_pos c6] at hf
      obtain rfl := Option.some.inj hf
      exact hxrq3 _ rfl H locs ls hR hS (lv_sub hl [] rfl)
    · rw [if_neg c6] at hf
      refine lv_aload_n hx hb dX8_mayAll_8 rfl (lv_at hl 0 rfl) ?_
      obtain ⟨v7, g8, hf⟩ := ob hf
      refine gR_X8_47 X hR g8 dX8_mayAll_9 ?_
      refine lv_iload_n hx hb dX8_mayAll_12 rfl (lv_at hl 1 rfl) ?_
      refine lv_iconst (v := -1) hx hb dX8_mayAll_13 (by decide) ?_
      obtain ⟨m9, g10, hf⟩ := ob hf
      refine r_sI X hR hS g10 dX8_mayAll_14 (fun H locs hR hS => ?_)
      refine lv_iinc (v := (z4 + 1)) (lv' := [(1, .int (z4 + 1)), (0, .ref (B + x0))]) hx hb dX8_mayAll_15 hl (k := 1) rfl (congrArg (fun z => z4 + z) (by decide)) (by decide) rfl (fun ls hl => ?_)
      refine lv_goto (tgt := 2) hx hb dX8_mayAll_18 (by decide) ?_
      obtain rfl := Option.some.inj hf
      exact hxlq3 _ rfl H locs ls hR hS (lv_sub hl [1, 0] rfl)
  · intro H locs ls hR hS hl
    obtain rfl := Option.some.inj hf
    exact r_vret X hr hlocks hR hS dX8_mayAll_21
/-! ===== TwigMatchesModel.matchesOf(I)J ===== -/
theorem dX8_matchesOf_0 : decode cX8_matchesOf 0 = .ok (.aload_n 0, 1) := by decide +kernel
theorem dX8_matchesOf_1 : decode cX8_matchesOf 1 = .ok (.invokevirtual 198, 3) := by decide +kernel
theorem dX8_matchesOf_4 : decode cX8_matchesOf 4 = .ok (.aload_n 0, 1) := by decide +kernel
theorem dX8_matchesOf_5 : decode cX8_matchesOf 5 = .ok (.iload_n 1, 1) := by decide +kernel
theorem dX8_matchesOf_6 : decode cX8_matchesOf 6 = .ok (.invokevirtual 201, 3) := by decide +kernel
theorem dX8_matchesOf_9 : decode cX8_matchesOf 9 = .ok (.lreturn, 1) := by decide +kernel
set_option maxHeartbeats 4000000 in
set_option maxRecDepth 100000 in
theorem c_X8_matchesOf (l : Launch) (B : Nat) (D : va_G) (cA : Nat → ClassId) (m : Mm) (x0 : Nat) (x1 : Int32) (rZ : Int64) (mZ : Mm) (hf : f_X8_matchesOf m x0 x1 = some (rZ, mZ)) : Mt l B D cA yX8_matchesOf cX8_matchesOf 2 (some .long) 5 122 0 0 [.ref (B + x0), .int x1] m (some (.long rZ)) mZ := by
  refine r_start (by decide) (Nat.le_of_ble_eq_true rfl) ?_
  intro p e s mt args below meth c ls H locs X hr hlocks hnm hR hl hS
  have hx := X.1
  have hb := X.2.1
  have hl : lv_has ls 2 [(0, .ref (B + x0)), (1, .int x1)] := hl
  unfold f_X8_matchesOf at hf
  refine lv_aload_n hx hb dX8_matchesOf_0 rfl (lv_at hl 0 rfl) ?_
  obtain ⟨o1, h2, hf⟩ := obO hf
  obtain ⟨m4, g3, hf⟩ := ob hf
  refine r_callV X kw_X8_198 (ci := 8) rfl (c_X8_mayAll l B D cA m x0 m4 g3) ⟨Nat.le_of_ble_eq_true rfl, Nat.le_of_ble_eq_true rfl⟩ h2 hR hS hl.1 rfl rfl (Nat.le_of_ble_eq_true rfl) ⟨Nat.le_of_ble_eq_true rfl, Nat.le_of_ble_eq_true rfl⟩ dX8_matchesOf_1 (fun H locs hR hS => ?_)
  refine W.eq (g2 := F0 mt 4 ls []) rfl ?_
  refine lv_aload_n hx hb dX8_matchesOf_4 rfl (lv_at hl 0 rfl) ?_
  refine lv_iload_n hx hb dX8_matchesOf_5 rfl (lv_at hl 1 rfl) ?_
  obtain ⟨o5, h6, hf⟩ := obO hf
  obtain ⟨t8, g7, hf⟩ := ob hf
  refine r_callV X kw_X8_201 (ci := 8) rfl (c_X8_counts l B D cA m4 x0 x1 t8.1 t8.2 g7) ⟨Nat.le_of_ble_eq_true rfl, Nat.le_of_ble_eq_true rfl⟩ h6 hR hS hl.1 rfl rfl (Nat.le_of_ble_eq_true rfl) ⟨Nat.le_of_ble_eq_true rfl, Nat.le_of_ble_eq_true rfl⟩ dX8_matchesOf_6 (fun H locs hR hS => ?_)
  refine W.eq (g2 := F0 mt 9 ls [.long t8.1]) rfl ?_
  obtain ⟨rfl, rfl⟩ := Prod.mk.inj (Option.some.inj hf)
  exact r_lret X hr hlocks hR hS dX8_matchesOf_9
/-! ===== TwigMatchesModel.matches(I)J ===== -/
theorem dX8_matches_0 : decode cX8_matches 0 = .ok (.iload_n 1, 1) := by decide +kernel
theorem dX8_matches_1 : decode cX8_matches 1 = .ok (.invokestatic 161, 3) := by decide +kernel
theorem dX8_matches_4 : decode cX8_matches 4 = .ok (.ifCond .ne 9, 3) := by decide +kernel
theorem dX8_matches_7 : decode cX8_matches 7 = .ok (.aload_n 0, 1) := by decide +kernel
theorem dX8_matches_8 : decode cX8_matches 8 = .ok (.invokevirtual 134, 3) := by decide +kernel
theorem dX8_matches_11 : decode cX8_matches 11 = .ok (.i2l, 1) := by decide +kernel
theorem dX8_matches_12 : decode cX8_matches 12 = .ok (.lreturn, 1) := by decide +kernel
theorem dX8_matches_13 : decode cX8_matches 13 = .ok (.aload_n 0, 1) := by decide +kernel
theorem dX8_matches_14 : decode cX8_matches 14 = .ok (.getfield 32, 3) := by decide +kernel
theorem dX8_matches_17 : decode cX8_matches 17 = .ok (.iload_n 1, 1) := by decide +kernel
theorem dX8_matches_18 : decode cX8_matches 18 = .ok (.iaload, 1) := by decide +kernel
theorem dX8_matches_19 : decode cX8_matches 19 = .ok (.ifCond .ne 11, 3) := by decide +kernel
theorem dX8_matches_22 : decode cX8_matches 22 = .ok (.aload_n 0, 1) := by decide +kernel
theorem dX8_matches_23 : decode cX8_matches 23 = .ok (.invokevirtual 119, 3) := by decide +kernel
theorem dX8_matches_26 : decode cX8_matches 26 = .ok (.i2l, 1) := by decide +kernel
theorem dX8_matches_27 : decode cX8_matches 27 = .ok (.goto 8, 3) := by decide +kernel
theorem dX8_matches_30 : decode cX8_matches 30 = .ok (.aload_n 0, 1) := by decide +kernel
theorem dX8_matches_31 : decode cX8_matches 31 = .ok (.iload_n 1, 1) := by decide +kernel
theorem dX8_matches_32 : decode cX8_matches 32 = .ok (.invokevirtual 205, 3) := by decide +kernel
theorem dX8_matches_35 : decode cX8_matches 35 = .ok (.lreturn, 1) := by decide +kernel
set_option maxHeartbeats 4000000 in
set_option maxRecDepth 100000 in
theorem c_X8_matches (l : Launch) (B : Nat) (D : va_G) (cA : Nat → ClassId) (m : Mm) (x0 : Nat) (x1 : Int32) (rZ : Int64) (mZ : Mm) (hf : f_X8_matches m x0 x1 = some (rZ, mZ)) : Mt l B D cA yX8_matches cX8_matches 2 (some .long) 6 143 0 0 [.ref (B + x0), .int x1] m (some (.long rZ)) mZ := by
  refine r_start (by decide) (Nat.le_of_ble_eq_true rfl) ?_
  intro p e s mt args below meth c ls H locs X hr hlocks hnm hR hl hS
  have hx := X.1
  have hb := X.2.1
  have hl : lv_has ls 2 [(0, .ref (B + x0)), (1, .int x1)] := hl
  unfold f_X8_matches at hf
  refine lv_iload_n hx hb dX8_matches_0 rfl (lv_at hl 1 rfl) ?_
  obtain ⟨v2, g1, hf⟩ := ob hf
  refine r_callS X kw_X8_161 (c_X8_isTwig l B D cA m x1 v2 g1) ⟨Nat.le_of_ble_eq_true rfl, Nat.le_of_ble_eq_true rfl⟩ hR hS hl.1 rfl rfl (Nat.le_of_ble_eq_true rfl) ⟨Nat.le_of_ble_eq_true rfl, Nat.le_of_ble_eq_true rfl⟩ dX8_matches_1 (fun H locs hR hS => ?_)
  refine W.eq (g2 := F0 mt 4 ls [.int v2]) rfl ?_
  refine lv_if_ne (tgt := 13) hx hb dX8_matches_4 (by decide) (fun c3 => ?_) (fun c3 => ?_)
  · rw [if_neg c3] at hf
    refine lv_aload_n hx hb dX8_matches_13 rfl (lv_at hl 0 rfl) ?_
    obtain ⟨v4, g5, hf⟩ := ob hf
    refine gR_X8_32 X hR g5 dX8_matches_14 ?_
    refine lv_iload_n hx hb dX8_matches_17 rfl (lv_at hl 1 rfl) ?_
    obtain ⟨v6, g7, hf⟩ := ob hf
    refine r_lI X hR g7 dX8_matches_18 ?_
    refine lv_if_ne (tgt := 30) hx hb dX8_matches_19 (by decide) (fun c8 => ?_) (fun c8 => ?_)
    · rw [if_neg c8] at hf
      refine lv_aload_n hx hb dX8_matches_30 rfl (lv_at hl 0 rfl) ?_
      refine lv_iload_n hx hb dX8_matches_31 rfl (lv_at hl 1 rfl) ?_
      obtain ⟨o9, h10, hf⟩ := obO hf
      obtain ⟨t12, g11, hf⟩ := ob hf
      refine r_callV X kw_X8_205 (ci := 8) rfl (c_X8_matchesOf l B D cA m x0 x1 t12.1 t12.2 g11) ⟨Nat.le_of_ble_eq_true rfl, Nat.le_of_ble_eq_true rfl⟩ h10 hR hS hl.1 rfl rfl (Nat.le_of_ble_eq_true rfl) ⟨Nat.le_of_ble_eq_true rfl, Nat.le_of_ble_eq_true rfl⟩ dX8_matches_32 (fun H locs hR hS => ?_)
      refine W.eq (g2 := F0 mt 35 ls [.long t12.1]) rfl ?_
      obtain ⟨rfl, rfl⟩ := Prod.mk.inj (Option.some.inj hf)
      exact r_lret X hr hlocks hR hS dX8_matches_35
    · rw [if_pos c8] at hf
      refine lv_aload_n hx hb dX8_matches_22 rfl (lv_at hl 0 rfl) ?_
      obtain ⟨o13, h14, hf⟩ := obO hf
      obtain ⟨t16, g15, hf⟩ := ob hf
      refine r_callV X kw_X8_119 (ci := 8) rfl (c_X8_no l B D cA m x0 t16.1 t16.2 g15) ⟨Nat.le_of_ble_eq_true rfl, Nat.le_of_ble_eq_true rfl⟩ h14 hR hS hl.1 rfl rfl (Nat.le_of_ble_eq_true rfl) ⟨Nat.le_of_ble_eq_true rfl, Nat.le_of_ble_eq_true rfl⟩ dX8_matches_23 (fun H locs hR hS => ?_)
      refine W.eq (g2 := F0 mt 26 ls [.int t16.1]) rfl ?_
      refine lv_i2l (v := t16.1.toInt64) hx hb dX8_matches_26 rfl ?_
      refine lv_goto (tgt := 35) hx hb dX8_matches_27 (by decide) ?_
      obtain ⟨rfl, rfl⟩ := Prod.mk.inj (Option.some.inj hf)
      exact r_lret X hr hlocks hR hS dX8_matches_35
  · rw [if_pos c3] at hf
    refine lv_aload_n hx hb dX8_matches_7 rfl (lv_at hl 0 rfl) ?_
    obtain ⟨o17, h18, hf⟩ := obO hf
    obtain ⟨t20, g19, hf⟩ := ob hf
    refine r_callV X kw_X8_134 (ci := 8) rfl (c_X8_bad l B D cA m x0 t20.1 t20.2 g19) ⟨Nat.le_of_ble_eq_true rfl, Nat.le_of_ble_eq_true rfl⟩ h18 hR hS hl.1 rfl rfl (Nat.le_of_ble_eq_true rfl) ⟨Nat.le_of_ble_eq_true rfl, Nat.le_of_ble_eq_true rfl⟩ dX8_matches_8 (fun H locs hR hS => ?_)
    refine W.eq (g2 := F0 mt 11 ls [.int t20.1]) rfl ?_
    refine lv_i2l (v := t20.1.toInt64) hx hb dX8_matches_11 rfl ?_
    obtain ⟨rfl, rfl⟩ := Prod.mk.inj (Option.some.inj hf)
    exact r_lret X hr hlocks hR hS dX8_matches_12
