/-! ===== TwigMatches$Tree.relocate(LTwigMatches$Tree;III)V ===== -/
theorem dX4_relocate_0 : decode cX4_relocate 0 = .ok (.aload_n 1, 1) := by decide +kernel
theorem dX4_relocate_1 : decode cX4_relocate 1 = .ok (.getfield 28, 3) := by decide +kernel
theorem dX4_relocate_4 : decode cX4_relocate 4 = .ok (.iload_n 2, 1) := by decide +kernel
theorem dX4_relocate_5 : decode cX4_relocate 5 = .ok (.iaload, 1) := by decide +kernel
theorem dX4_relocate_6 : decode cX4_relocate 6 = .ok (.iload_n 2, 1) := by decide +kernel
theorem dX4_relocate_7 : decode cX4_relocate 7 = .ok (.isub, 1) := by decide +kernel
theorem dX4_relocate_8 : decode cX4_relocate 8 = .ok (.iconst 1, 1) := by decide +kernel
theorem dX4_relocate_9 : decode cX4_relocate 9 = .ok (.iadd, 1) := by decide +kernel
theorem dX4_relocate_10 : decode cX4_relocate 10 = .ok (.istore 5, 2) := by decide +kernel
theorem dX4_relocate_12 : decode cX4_relocate 12 = .ok (.iconst 0, 1) := by decide +kernel
theorem dX4_relocate_13 : decode cX4_relocate 13 = .ok (.istore 6, 2) := by decide +kernel
theorem dX4_relocate_15 : decode cX4_relocate 15 = .ok (.iload 6, 2) := by decide +kernel
theorem dX4_relocate_17 : decode cX4_relocate 17 = .ok (.aload_n 0, 1) := by decide +kernel
theorem dX4_relocate_18 : decode cX4_relocate 18 = .ok (.getfield 9, 3) := by decide +kernel
theorem dX4_relocate_21 : decode cX4_relocate 21 = .ok (.if_icmp .ge 130, 3) := by decide +kernel
theorem dX4_relocate_24 : decode cX4_relocate 24 = .ok (.iload 6, 2) := by decide +kernel
theorem dX4_relocate_26 : decode cX4_relocate 26 = .ok (.iload_n 3, 1) := by decide +kernel
theorem dX4_relocate_27 : decode cX4_relocate 27 = .ok (.if_icmp .lt 16, 3) := by decide +kernel
theorem dX4_relocate_30 : decode cX4_relocate 30 = .ok (.iload 6, 2) := by decide +kernel
theorem dX4_relocate_32 : decode cX4_relocate 32 = .ok (.iload_n 3, 1) := by decide +kernel
theorem dX4_relocate_33 : decode cX4_relocate 33 = .ok (.iload 5, 2) := by decide +kernel
theorem dX4_relocate_35 : decode cX4_relocate 35 = .ok (.iadd, 1) := by decide +kernel
theorem dX4_relocate_36 : decode cX4_relocate 36 = .ok (.if_icmp .ge 7, 3) := by decide +kernel
theorem dX4_relocate_39 : decode cX4_relocate 39 = .ok (.iconst 1, 1) := by decide +kernel
theorem dX4_relocate_40 : decode cX4_relocate 40 = .ok (.goto 4, 3) := by decide +kernel
theorem dX4_relocate_43 : decode cX4_relocate 43 = .ok (.iconst 0, 1) := by decide +kernel
theorem dX4_relocate_44 : decode cX4_relocate 44 = .ok (.istore 7, 2) := by decide +kernel
theorem dX4_relocate_46 : decode cX4_relocate 46 = .ok (.iload 6, 2) := by decide +kernel
theorem dX4_relocate_48 : decode cX4_relocate 48 = .ok (.iload_n 3, 1) := by decide +kernel
theorem dX4_relocate_49 : decode cX4_relocate 49 = .ok (.if_icmp .ge 8, 3) := by decide +kernel
theorem dX4_relocate_52 : decode cX4_relocate 52 = .ok (.iload 6, 2) := by decide +kernel
theorem dX4_relocate_54 : decode cX4_relocate 54 = .ok (.goto 8, 3) := by decide +kernel
theorem dX4_relocate_57 : decode cX4_relocate 57 = .ok (.iload 6, 2) := by decide +kernel
theorem dX4_relocate_59 : decode cX4_relocate 59 = .ok (.iload 5, 2) := by decide +kernel
theorem dX4_relocate_61 : decode cX4_relocate 61 = .ok (.isub, 1) := by decide +kernel
theorem dX4_relocate_62 : decode cX4_relocate 62 = .ok (.istore 8, 2) := by decide +kernel
theorem dX4_relocate_64 : decode cX4_relocate 64 = .ok (.iload 7, 2) := by decide +kernel
theorem dX4_relocate_66 : decode cX4_relocate 66 = .ok (.ifCond .eq 12, 3) := by decide +kernel
theorem dX4_relocate_69 : decode cX4_relocate 69 = .ok (.iload 6, 2) := by decide +kernel
theorem dX4_relocate_71 : decode cX4_relocate 71 = .ok (.iload_n 3, 1) := by decide +kernel
theorem dX4_relocate_72 : decode cX4_relocate 72 = .ok (.isub, 1) := by decide +kernel
theorem dX4_relocate_73 : decode cX4_relocate 73 = .ok (.iload_n 2, 1) := by decide +kernel
theorem dX4_relocate_74 : decode cX4_relocate 74 = .ok (.iadd, 1) := by decide +kernel
theorem dX4_relocate_75 : decode cX4_relocate 75 = .ok (.goto 19, 3) := by decide +kernel
theorem dX4_relocate_78 : decode cX4_relocate 78 = .ok (.iload 8, 2) := by decide +kernel
theorem dX4_relocate_80 : decode cX4_relocate 80 = .ok (.iload_n 2, 1) := by decide +kernel
theorem dX4_relocate_81 : decode cX4_relocate 81 = .ok (.if_icmp .ge 8, 3) := by decide +kernel
theorem dX4_relocate_84 : decode cX4_relocate 84 = .ok (.iload 8, 2) := by decide +kernel
theorem dX4_relocate_86 : decode cX4_relocate 86 = .ok (.goto 8, 3) := by decide +kernel
theorem dX4_relocate_89 : decode cX4_relocate 89 = .ok (.iload 8, 2) := by decide +kernel
theorem dX4_relocate_91 : decode cX4_relocate 91 = .ok (.iload 5, 2) := by decide +kernel
theorem dX4_relocate_93 : decode cX4_relocate 93 = .ok (.iadd, 1) := by decide +kernel
theorem dX4_relocate_94 : decode cX4_relocate 94 = .ok (.istore 9, 2) := by decide +kernel
theorem dX4_relocate_96 : decode cX4_relocate 96 = .ok (.iload 7, 2) := by decide +kernel
theorem dX4_relocate_98 : decode cX4_relocate 98 = .ok (.ifCond .eq 16, 3) := by decide +kernel
theorem dX4_relocate_101 : decode cX4_relocate 101 = .ok (.aload_n 1, 1) := by decide +kernel
theorem dX4_relocate_102 : decode cX4_relocate 102 = .ok (.getfield 22, 3) := by decide +kernel
theorem dX4_relocate_105 : decode cX4_relocate 105 = .ok (.iload 9, 2) := by decide +kernel
theorem dX4_relocate_107 : decode cX4_relocate 107 = .ok (.iaload, 1) := by decide +kernel
theorem dX4_relocate_108 : decode cX4_relocate 108 = .ok (.iload 4, 2) := by decide +kernel
theorem dX4_relocate_110 : decode cX4_relocate 110 = .ok (.iadd, 1) := by decide +kernel
theorem dX4_relocate_111 : decode cX4_relocate 111 = .ok (.goto 10, 3) := by decide +kernel
theorem dX4_relocate_114 : decode cX4_relocate 114 = .ok (.aload_n 1, 1) := by decide +kernel
theorem dX4_relocate_115 : decode cX4_relocate 115 = .ok (.getfield 22, 3) := by decide +kernel
theorem dX4_relocate_118 : decode cX4_relocate 118 = .ok (.iload 9, 2) := by decide +kernel
theorem dX4_relocate_120 : decode cX4_relocate 120 = .ok (.iaload, 1) := by decide +kernel
theorem dX4_relocate_121 : decode cX4_relocate 121 = .ok (.istore 10, 2) := by decide +kernel
theorem dX4_relocate_123 : decode cX4_relocate 123 = .ok (.aload_n 0, 1) := by decide +kernel
theorem dX4_relocate_124 : decode cX4_relocate 124 = .ok (.iload 6, 2) := by decide +kernel
theorem dX4_relocate_126 : decode cX4_relocate 126 = .ok (.aload_n 1, 1) := by decide +kernel
theorem dX4_relocate_127 : decode cX4_relocate 127 = .ok (.getfield 15, 3) := by decide +kernel
theorem dX4_relocate_130 : decode cX4_relocate 130 = .ok (.iload 9, 2) := by decide +kernel
theorem dX4_relocate_132 : decode cX4_relocate 132 = .ok (.iaload, 1) := by decide +kernel
theorem dX4_relocate_133 : decode cX4_relocate 133 = .ok (.aload_n 1, 1) := by decide +kernel
theorem dX4_relocate_134 : decode cX4_relocate 134 = .ok (.getfield 19, 3) := by decide +kernel
theorem dX4_relocate_137 : decode cX4_relocate 137 = .ok (.iload 9, 2) := by decide +kernel
theorem dX4_relocate_139 : decode cX4_relocate 139 = .ok (.iaload, 1) := by decide +kernel
theorem dX4_relocate_140 : decode cX4_relocate 140 = .ok (.iload 10, 2) := by decide +kernel
theorem dX4_relocate_142 : decode cX4_relocate 142 = .ok (.invokevirtual 37, 3) := by decide +kernel
theorem dX4_relocate_145 : decode cX4_relocate 145 = .ok (.iinc 6 1, 3) := by decide +kernel
theorem dX4_relocate_148 : decode cX4_relocate 148 = .ok (.goto (-133), 3) := by decide +kernel
theorem dX4_relocate_151 : decode cX4_relocate 151 = .ok (.aload_n 0, 1) := by decide +kernel
theorem dX4_relocate_152 : decode cX4_relocate 152 = .ok (.invokevirtual 47, 3) := by decide +kernel
theorem dX4_relocate_155 : decode cX4_relocate 155 = .ok (.return_, 1) := by decide +kernel
set_option maxHeartbeats 4000000 in
set_option maxRecDepth 100000 in
theorem c_X4_relocate (l : Launch) (B : Nat) (D : va_G) (cA : Nat → ClassId) (m : Mm) (x0 : Nat) (x1 : Nat) (x2 : Int32) (x3 : Int32) (x4 : Int32) (mZ : Mm) (hf : f_X4_relocate m x0 x1 x2 x3 x4 = some mZ) : Mt l B D cA yX4_relocate cX4_relocate 11 none 2 46 0 0 [.ref (B + x0), .ref (B + x1), .int x2, .int x3, .int x4] m none mZ := by
  refine r_start (by decide) (Nat.le_of_ble_eq_true rfl) ?_
  intro p e s mt args below meth c ls H locs X hr hlocks hnm hR hl hS
  have hx := X.1
  have hb := X.2.1
  have hl : lv_has ls 11 [(0, .ref (B + x0)), (1, .ref (B + x1)), (2, .int x2), (3, .int x3), (4, .int x4)] := hl
  unfold f_X4_relocate at hf
  refine lv_aload_n hx hb dX4_relocate_0 rfl (lv_at hl 1 rfl) ?_
  obtain ⟨v1, g2, hf⟩ := ob hf
  refine gR_X4_28 X hR g2 dX4_relocate_1 ?_
  refine lv_iload_n hx hb dX4_relocate_4 rfl (lv_at hl 2 rfl) ?_
  obtain ⟨v3, g4, hf⟩ := ob hf
  refine r_lI X hR g4 dX4_relocate_5 ?_
  refine lv_iload_n hx hb dX4_relocate_6 rfl (lv_at hl 2 rfl) ?_
  refine lv_isub hx hb dX4_relocate_7 ?_
  refine lv_iconst (v := 1) hx hb dX4_relocate_8 (by decide) ?_
  refine lv_iadd hx hb dX4_relocate_9 ?_
  refine lv_istore (lv' := [(5, .int ((v3 - x2) + (1 : Int32))), (0, .ref (B + x0)), (1, .ref (B + x1)), (2, .int x2), (3, .int x3), (4, .int x4)]) hx hb dX4_relocate_10 hl (by decide) rfl (fun ls hl => ?_)
  refine lv_iconst (v := 0) hx hb dX4_relocate_12 (by decide) ?_
  refine lv_istore (lv' := [(6, .int (0 : Int32)), (5, .int ((v3 - x2) + (1 : Int32))), (0, .ref (B + x0)), (1, .ref (B + x1)), (2, .int x2), (3, .int x3), (4, .int x4)]) hx hb dX4_relocate_13 hl (by decide) rfl (fun ls hl => ?_)
  obtain ⟨e6, hwe6, hf⟩ := ob hf
  refine whl_rule (P := (fun t5 => ∀ (H : Heap) (locs : List Loc) (ls : Array Slot), Rl B D cA t5.2 H → va_S (fun q => B ≤ q) s.heap H locs → lv_has ls 11 [(0, .ref (B + x0)), (1, .ref (B + x1)), (2, .int x2), (3, .int x3), (4, .int x4), (5, .int ((v3 - x2) + (1 : Int32))), (6, .int t5.1)] → W p l e (rmm 2 0 0 46) s mt args below meth c H locs 0 0 (MQ below (mQ B D cA none mZ) args s 0 0 (fun q => B ≤ q)) (F0 mt 15 ls []))) (Qx := (fun e6 => ∀ (H : Heap) (locs : List Loc) (ls : Array Slot), Rl B D cA e6 H → va_S (fun q => B ≤ q) s.heap H locs → lv_has ls 11 [(0, .ref (B + x0))] → W p l e (rmm 2 0 0 46) s mt args below meth c H locs 0 0 (MQ below (mQ B D cA none mZ) args s 0 0 (fun q => B ≤ q)) (F0 mt 151 ls []))) ?_ FU _ e6 hwe6 ?_ H locs ls hR hS (lv_sub hl [2, 3, 4, 5, 6, 1, 0] rfl)
  · clear hwe6 hf
    intro t5 q7 hf hxlq7 hxrq7 H locs ls hR hS hl
    obtain ⟨z8, m9⟩ := t5
    have hf : f_X4_relocate_L15 m9 x0 x1 x2 x3 x4 ((v3 - x2) + (1 : Int32)) z8 = some q7 := hf
    have hR : Rl B D cA m9 H := hR
    have hl : lv_has ls 11 [(0, .ref (B + x0)), (1, .ref (B + x1)), (2, .int x2), (3, .int x3), (4, .int x4), (5, .int ((v3 - x2) + (1 : Int32))), (6, .int z8)] := hl
    unfold f_X4_relocate_L15 at hf
    refine lv_iload hx hb dX4_relocate_15 (lv_at hl 6 rfl) ?_
    refine lv_aload_n hx hb dX4_relocate_17 rfl (lv_at hl 0 rfl) ?_
    obtain ⟨v10, g11, hf⟩ := ob hf
    refine gI_X4_9 X hR g11 dX4_relocate_18 ?_
    refine lv_icmp_ge (tgt := 151) hx hb dX4_relocate_21 (by decide) (fun c12 => ?_) (fun c12 => ?_)
    · rw [if_pos c12] at hf
      obtain rfl := Option.some.inj hf
      exact hxrq7 _ rfl H locs ls hR hS (lv_sub hl [0] rfl)
    · rw [if_neg c12] at hf
      refine lv_iload hx hb dX4_relocate_24 (lv_at hl 6 rfl) ?_
      refine lv_iload_n hx hb dX4_relocate_26 rfl (lv_at hl 3 rfl) ?_
      obtain ⟨t13, hjt13, hf⟩ := ob hf
      have hJt13 : ∀ (H : Heap) (locs : List Loc) (ls : Array Slot), Rl B D cA m9 H → va_S (fun q => B ≤ q) s.heap H locs → lv_has ls 11 [(0, .ref (B + x0)), (1, .ref (B + x1)), (2, .int x2), (3, .int x3), (4, .int x4), (5, .int ((v3 - x2) + (1 : Int32))), (6, .int z8)] → W p l e (rmm 2 0 0 46) s mt args below meth c H locs 0 0 (MQ below (mQ B D cA none mZ) args s 0 0 (fun q => B ≤ q)) (F0 mt 44 ls [.int t13]) := by
        intro H locs ls hR hS hl
        refine lv_istore (lv' := [(7, .int t13), (0, .ref (B + x0)), (1, .ref (B + x1)), (2, .int x2), (3, .int x3), (4, .int x4), (5, .int ((v3 - x2) + (1 : Int32))), (6, .int z8)]) hx hb dX4_relocate_44 hl (by decide) rfl (fun ls hl => ?_)
        refine lv_iload hx hb dX4_relocate_46 (lv_at hl 7 rfl) ?_
        refine lv_iload_n hx hb dX4_relocate_48 rfl (lv_at hl 4 rfl) ?_
        obtain ⟨t16, hjt16, hf⟩ := ob hf
        have hJt16 : ∀ (H : Heap) (locs : List Loc) (ls : Array Slot), Rl B D cA m9 H → va_S (fun q => B ≤ q) s.heap H locs → lv_has ls 11 [(0, .ref (B + x0)), (1, .ref (B + x1)), (2, .int x2), (3, .int x3), (4, .int x4), (5, .int ((v3 - x2) + (1 : Int32))), (6, .int z8), (7, .int t13)] → W p l e (rmm 2 0 0 46) s mt args below meth c H locs 0 0 (MQ below (mQ B D cA none mZ) args s 0 0 (fun q => B ≤ q)) (F0 mt 62 ls [.int t16]) := by
          intro H locs ls hR hS hl
          refine lv_istore (lv' := [(8, .int t16), (0, .ref (B + x0)), (1, .ref (B + x1)), (2, .int x2), (3, .int x3), (4, .int x4), (5, .int ((v3 - x2) + (1 : Int32))), (6, .int z8), (7, .int t13)]) hx hb dX4_relocate_62 hl (by decide) rfl (fun ls hl => ?_)
          refine lv_iload hx hb dX4_relocate_64 (lv_at hl 8 rfl) ?_
          obtain ⟨t18, hjt18, hf⟩ := ob hf
          have hJt18 : ∀ (H : Heap) (locs : List Loc) (ls : Array Slot), Rl B D cA m9 H → va_S (fun q => B ≤ q) s.heap H locs → lv_has ls 11 [(0, .ref (B + x0)), (1, .ref (B + x1)), (2, .int x2), (3, .int x3), (4, .int x4), (5, .int ((v3 - x2) + (1 : Int32))), (6, .int z8), (7, .int t13)] → W p l e (rmm 2 0 0 46) s mt args below meth c H locs 0 0 (MQ below (mQ B D cA none mZ) args s 0 0 (fun q => B ≤ q)) (F0 mt 94 ls [.int t18]) := by
            intro H locs ls hR hS hl
            refine lv_istore (lv' := [(9, .int t18), (0, .ref (B + x0)), (1, .ref (B + x1)), (2, .int x2), (3, .int x3), (4, .int x4), (5, .int ((v3 - x2) + (1 : Int32))), (6, .int z8), (7, .int t13)]) hx hb dX4_relocate_94 hl (by decide) rfl (fun ls hl => ?_)
            refine lv_iload hx hb dX4_relocate_96 (lv_at hl 8 rfl) ?_
            obtain ⟨t21, hjt21, hf⟩ := ob hf
            have hJt21 : ∀ (H : Heap) (locs : List Loc) (ls : Array Slot), Rl B D cA m9 H → va_S (fun q => B ≤ q) s.heap H locs → lv_has ls 11 [(0, .ref (B + x0)), (1, .ref (B + x1)), (2, .int x2), (3, .int x3), (4, .int x4), (5, .int ((v3 - x2) + (1 : Int32))), (6, .int z8), (9, .int t18)] → W p l e (rmm 2 0 0 46) s mt args below meth c H locs 0 0 (MQ below (mQ B D cA none mZ) args s 0 0 (fun q => B ≤ q)) (F0 mt 121 ls [.int t21]) := by
              intro H locs ls hR hS hl
              refine lv_istore (lv' := [(10, .int t21), (0, .ref (B + x0)), (1, .ref (B + x1)), (2, .int x2), (3, .int x3), (4, .int x4), (5, .int ((v3 - x2) + (1 : Int32))), (6, .int z8), (9, .int t18)]) hx hb dX4_relocate_121 hl (by decide) rfl (fun ls hl => ?_)
              refine lv_aload_n hx hb dX4_relocate_123 rfl (lv_at hl 1 rfl) ?_
              refine lv_iload hx hb dX4_relocate_124 (lv_at hl 7 rfl) ?_
              refine lv_aload_n hx hb dX4_relocate_126 rfl (lv_at hl 2 rfl) ?_
              obtain ⟨v31, g32, hf⟩ := ob hf
              refine gR_X4_15 X hR g32 dX4_relocate_127 ?_
              refine lv_iload hx hb dX4_relocate_130 (lv_at hl 8 rfl) ?_
              obtain ⟨v33, g34, hf⟩ := ob hf
              refine r_lI X hR g34 dX4_relocate_132 ?_
              refine lv_aload_n hx hb dX4_relocate_133 rfl (lv_at hl 2 rfl) ?_
              obtain ⟨v35, g36, hf⟩ := ob hf
              refine gR_X4_19 X hR g36 dX4_relocate_134 ?_
              refine lv_iload hx hb dX4_relocate_137 (lv_at hl 8 rfl) ?_
              obtain ⟨v37, g38, hf⟩ := ob hf
              refine r_lI X hR g38 dX4_relocate_139 ?_
              refine lv_iload hx hb dX4_relocate_140 (lv_at hl 0 rfl) ?_
              obtain ⟨o39, h40, hf⟩ := obO hf
              obtain ⟨m42, g41, hf⟩ := ob hf
              refine r_callV X kw_X4_37 (ci := 4) rfl (c_X4_put l B D cA m9 x0 z8 v33 v37 t21 m42 g41) ⟨Nat.le_of_ble_eq_true rfl, Nat.le_of_ble_eq_true rfl⟩ h40 hR hS hl.1 rfl rfl (Nat.le_of_ble_eq_true rfl) ⟨Nat.le_of_ble_eq_true rfl, Nat.le_of_ble_eq_true rfl⟩ dX4_relocate_142 (fun H locs hR hS => ?_)
              refine W.eq (g2 := F0 mt 145 ls []) rfl ?_
              refine lv_iinc (v := (z8 + 1)) (lv' := [(6, .int (z8 + 1)), (10, .int t21), (0, .ref (B + x0)), (1, .ref (B + x1)), (2, .int x2), (3, .int x3), (4, .int x4), (5, .int ((v3 - x2) + (1 : Int32))), (9, .int t18)]) hx hb dX4_relocate_145 hl (k := 7) rfl (congrArg (fun z => z8 + z) (by decide)) (by decide) rfl (fun ls hl => ?_)
              refine lv_goto (tgt := 15) hx hb dX4_relocate_148 (by decide) ?_
              obtain rfl := Option.some.inj hf
              exact hxlq7 _ rfl H locs ls hR hS (lv_sub hl [2, 3, 4, 5, 6, 7, 0] rfl)
            have hf := hjt21
            clear hjt21
            refine lv_if_eq (tgt := 114) hx hb dX4_relocate_98 (by decide) (fun c22 => ?_) (fun c22 => ?_)
            · rw [if_pos c22] at hf
              refine lv_aload_n hx hb dX4_relocate_114 rfl (lv_at hl 2 rfl) ?_
              obtain ⟨v23, g24, hf⟩ := ob hf
              refine gR_X4_22 X hR g24 dX4_relocate_115 ?_
              refine lv_iload hx hb dX4_relocate_118 (lv_at hl 0 rfl) ?_
              obtain ⟨v25, g26, hf⟩ := ob hf
              refine r_lI X hR g26 dX4_relocate_120 ?_
              obtain rfl := Option.some.inj hf
              exact hJt21 H locs ls hR hS (lv_sub hl [1, 2, 3, 4, 5, 6, 7, 0] rfl)
            · rw [if_neg c22] at hf
              refine lv_aload_n hx hb dX4_relocate_101 rfl (lv_at hl 2 rfl) ?_
              obtain ⟨v27, g28, hf⟩ := ob hf
              refine gR_X4_22 X hR g28 dX4_relocate_102 ?_
              refine lv_iload hx hb dX4_relocate_105 (lv_at hl 0 rfl) ?_
              obtain ⟨v29, g30, hf⟩ := ob hf
              refine r_lI X hR g30 dX4_relocate_107 ?_
              refine lv_iload hx hb dX4_relocate_108 (lv_at hl 5 rfl) ?_
              refine lv_iadd hx hb dX4_relocate_110 ?_
              refine lv_goto (tgt := 121) hx hb dX4_relocate_111 (by decide) ?_
              obtain rfl := Option.some.inj hf
              exact hJt21 H locs ls hR hS (lv_sub hl [1, 2, 3, 4, 5, 6, 7, 0] rfl)
          have hf := hjt18
          clear hjt18
          refine lv_if_eq (tgt := 78) hx hb dX4_relocate_66 (by decide) (fun c19 => ?_) (fun c19 => ?_)
          · rw [if_pos c19] at hf
            refine lv_iload hx hb dX4_relocate_78 (lv_at hl 0 rfl) ?_
            refine lv_iload_n hx hb dX4_relocate_80 rfl (lv_at hl 3 rfl) ?_
            refine lv_icmp_ge (tgt := 89) hx hb dX4_relocate_81 (by decide) (fun c20 => ?_) (fun c20 => ?_)
            · rw [if_pos c20] at hf
              refine lv_iload hx hb dX4_relocate_89 (lv_at hl 0 rfl) ?_
              refine lv_iload hx hb dX4_relocate_91 (lv_at hl 6 rfl) ?_
              refine lv_iadd hx hb dX4_relocate_93 ?_
              obtain rfl := Option.some.inj hf
              exact hJt18 H locs ls hR hS (lv_sub hl [1, 2, 3, 4, 5, 6, 7, 8] rfl)
            · rw [if_neg c20] at hf
              refine lv_iload hx hb dX4_relocate_84 (lv_at hl 0 rfl) ?_
              refine lv_goto (tgt := 94) hx hb dX4_relocate_86 (by decide) ?_
              obtain rfl := Option.some.inj hf
              exact hJt18 H locs ls hR hS (lv_sub hl [1, 2, 3, 4, 5, 6, 7, 8] rfl)
          · rw [if_neg c19] at hf
            refine lv_iload hx hb dX4_relocate_69 (lv_at hl 7 rfl) ?_
            refine lv_iload_n hx hb dX4_relocate_71 rfl (lv_at hl 4 rfl) ?_
            refine lv_isub hx hb dX4_relocate_72 ?_
            refine lv_iload_n hx hb dX4_relocate_73 rfl (lv_at hl 3 rfl) ?_
            refine lv_iadd hx hb dX4_relocate_74 ?_
            refine lv_goto (tgt := 94) hx hb dX4_relocate_75 (by decide) ?_
            obtain rfl := Option.some.inj hf
            exact hJt18 H locs ls hR hS (lv_sub hl [1, 2, 3, 4, 5, 6, 7, 8] rfl)
        have hf := hjt16
        clear hjt16
        refine lv_icmp_ge (tgt := 57) hx hb dX4_relocate_49 (by decide) (fun c17 => ?_) (fun c17 => ?_)
        · rw [if_pos c17] at hf
          refine lv_iload hx hb dX4_relocate_57 (lv_at hl 7 rfl) ?_
          refine lv_iload hx hb dX4_relocate_59 (lv_at hl 6 rfl) ?_
          refine lv_isub hx hb dX4_relocate_61 ?_
          obtain rfl := Option.some.inj hf
          exact hJt16 H locs ls hR hS (lv_sub hl [1, 2, 3, 4, 5, 6, 7, 0] rfl)
        · rw [if_neg c17] at hf
          refine lv_iload hx hb dX4_relocate_52 (lv_at hl 7 rfl) ?_
          refine lv_goto (tgt := 62) hx hb dX4_relocate_54 (by decide) ?_
          obtain rfl := Option.some.inj hf
          exact hJt16 H locs ls hR hS (lv_sub hl [1, 2, 3, 4, 5, 6, 7, 0] rfl)
      have hf := hjt13
      clear hjt13
      refine lv_icmp_lt (tgt := 43) hx hb dX4_relocate_27 (by decide) (fun c14 => ?_) (fun c14 => ?_)
      · rw [if_pos c14] at hf
        refine lv_iconst (v := 0) hx hb dX4_relocate_43 (by decide) ?_
        obtain rfl := Option.some.inj hf
        exact hJt13 H locs ls hR hS (lv_sub hl [0, 1, 2, 3, 4, 5, 6] rfl)
      · rw [if_neg c14] at hf
        refine lv_iload hx hb dX4_relocate_30 (lv_at hl 6 rfl) ?_
        refine lv_iload_n hx hb dX4_relocate_32 rfl (lv_at hl 3 rfl) ?_
        refine lv_iload hx hb dX4_relocate_33 (lv_at hl 5 rfl) ?_
        refine lv_iadd hx hb dX4_relocate_35 ?_
        refine lv_icmp_ge (tgt := 43) hx hb dX4_relocate_36 (by decide) (fun c15 => ?_) (fun c15 => ?_)
        · rw [if_pos c15] at hf
          refine lv_iconst (v := 0) hx hb dX4_relocate_43 (by decide) ?_
          obtain rfl := Option.some.inj hf
          exact hJt13 H locs ls hR hS (lv_sub hl [0, 1, 2, 3, 4, 5, 6] rfl)
        · rw [if_neg c15] at hf
          refine lv_iconst (v := 1) hx hb dX4_relocate_39 (by decide) ?_
          refine lv_goto (tgt := 44) hx hb dX4_relocate_40 (by decide) ?_
          obtain rfl := Option.some.inj hf
          exact hJt13 H locs ls hR hS (lv_sub hl [0, 1, 2, 3, 4, 5, 6] rfl)
  · intro H locs ls hR hS hl
    refine lv_aload_n hx hb dX4_relocate_151 rfl (lv_at hl 0 rfl) ?_
    obtain ⟨o43, h44, hf⟩ := obO hf
    obtain ⟨m46, g45, hf⟩ := ob hf
    refine r_callV X kw_X4_47 (ci := 4) rfl (c_X4_link l B D cA e6 x0 m46 g45) ⟨Nat.le_of_ble_eq_true rfl, Nat.le_of_ble_eq_true rfl⟩ h44 hR hS hl.1 rfl rfl (Nat.le_of_ble_eq_true rfl) ⟨Nat.le_of_ble_eq_true rfl, Nat.le_of_ble_eq_true rfl⟩ dX4_relocate_152 (fun H locs hR hS => ?_)
    refine W.eq (g2 := F0 mt 155 ls []) rfl ?_
    obtain rfl := Option.some.inj hf
    exact r_vret X hr hlocks hR hS dX4_relocate_155
/-! ===== TwigMatches$Tree.childCount(II)I ===== -/
theorem dX4_childCount_0 : decode cX4_childCount 0 = .ok (.iconst 0, 1) := by decide +kernel
theorem dX4_childCount_1 : decode cX4_childCount 1 = .ok (.istore_n 3, 1) := by decide +kernel
theorem dX4_childCount_2 : decode cX4_childCount 2 = .ok (.iload_n 1, 1) := by decide +kernel
theorem dX4_childCount_3 : decode cX4_childCount 3 = .ok (.iconst 1, 1) := by decide +kernel
theorem dX4_childCount_4 : decode cX4_childCount 4 = .ok (.iadd, 1) := by decide +kernel
theorem dX4_childCount_5 : decode cX4_childCount 5 = .ok (.istore 4, 2) := by decide +kernel
theorem dX4_childCount_7 : decode cX4_childCount 7 = .ok (.iload 4, 2) := by decide +kernel
theorem dX4_childCount_9 : decode cX4_childCount 9 = .ok (.aload_n 0, 1) := by decide +kernel
theorem dX4_childCount_10 : decode cX4_childCount 10 = .ok (.getfield 28, 3) := by decide +kernel
theorem dX4_childCount_13 : decode cX4_childCount 13 = .ok (.iload_n 1, 1) := by decide +kernel
theorem dX4_childCount_14 : decode cX4_childCount 14 = .ok (.iaload, 1) := by decide +kernel
theorem dX4_childCount_15 : decode cX4_childCount 15 = .ok (.if_icmp .gt 29, 3) := by decide +kernel
theorem dX4_childCount_18 : decode cX4_childCount 18 = .ok (.aload_n 0, 1) := by decide +kernel
theorem dX4_childCount_19 : decode cX4_childCount 19 = .ok (.getfield 25, 3) := by decide +kernel
theorem dX4_childCount_22 : decode cX4_childCount 22 = .ok (.iload 4, 2) := by decide +kernel
theorem dX4_childCount_24 : decode cX4_childCount 24 = .ok (.iaload, 1) := by decide +kernel
theorem dX4_childCount_25 : decode cX4_childCount 25 = .ok (.iload_n 1, 1) := by decide +kernel
theorem dX4_childCount_26 : decode cX4_childCount 26 = .ok (.if_icmp .ne 12, 3) := by decide +kernel
theorem dX4_childCount_29 : decode cX4_childCount 29 = .ok (.iload 4, 2) := by decide +kernel
theorem dX4_childCount_31 : decode cX4_childCount 31 = .ok (.iload_n 2, 1) := by decide +kernel
theorem dX4_childCount_32 : decode cX4_childCount 32 = .ok (.if_icmp .eq 6, 3) := by decide +kernel
theorem dX4_childCount_35 : decode cX4_childCount 35 = .ok (.iinc 3 1, 3) := by decide +kernel
theorem dX4_childCount_38 : decode cX4_childCount 38 = .ok (.iinc 4 1, 3) := by decide +kernel
theorem dX4_childCount_41 : decode cX4_childCount 41 = .ok (.goto (-34), 3) := by decide +kernel
theorem dX4_childCount_44 : decode cX4_childCount 44 = .ok (.iload_n 3, 1) := by decide +kernel
theorem dX4_childCount_45 : decode cX4_childCount 45 = .ok (.ireturn, 1) := by decide +kernel
set_option maxHeartbeats 4000000 in
set_option maxRecDepth 100000 in
theorem c_X4_childCount (l : Launch) (B : Nat) (D : va_G) (cA : Nat → ClassId) (m : Mm) (x0 : Nat) (x1 : Int32) (x2 : Int32) (rZ : Int32) (hf : f_X4_childCount m x0 x1 x2 = some rZ) : Mt l B D cA yX4_childCount cX4_childCount 5 (some .int) 0 0 0 0 [.ref (B + x0), .int x1, .int x2] m (some (.int rZ)) m := by
  refine r_start (by decide) (Nat.le_of_ble_eq_true rfl) ?_
  intro p e s mt args below meth c ls H locs X hr hlocks hnm hR hl hS
  have hx := X.1
  have hb := X.2.1
  have hl : lv_has ls 5 [(0, .ref (B + x0)), (1, .int x1), (2, .int x2)] := hl
  unfold f_X4_childCount at hf
  refine lv_iconst (v := 0) hx hb dX4_childCount_0 (by decide) ?_
  refine lv_istore_n (lv' := [(3, .int (0 : Int32)), (0, .ref (B + x0)), (1, .int x1), (2, .int x2)]) hx hb dX4_childCount_1 rfl hl (by decide) rfl (fun ls hl => ?_)
  refine lv_iload_n hx hb dX4_childCount_2 rfl (lv_at hl 2 rfl) ?_
  refine lv_iconst (v := 1) hx hb dX4_childCount_3 (by decide) ?_
  refine lv_iadd hx hb dX4_childCount_4 ?_
  refine lv_istore (lv' := [(4, .int (x1 + (1 : Int32))), (3, .int (0 : Int32)), (0, .ref (B + x0)), (1, .int x1), (2, .int x2)]) hx hb dX4_childCount_5 hl (by decide) rfl (fun ls hl => ?_)
  obtain ⟨e2, hwe2, hf⟩ := ob hf
  refine whl_rule (P := (fun t1 => ∀ (H : Heap) (locs : List Loc) (ls : Array Slot), Rl B D cA m H → va_S (fun q => B ≤ q) s.heap H locs → lv_has ls 5 [(0, .ref (B + x0)), (1, .int x1), (2, .int x2), (3, .int t1.1), (4, .int t1.2)] → W p l e (rmm 0 0 0 0) s mt args below meth c H locs 0 0 (MQ below (mQ B D cA (some (.int rZ)) m) args s 0 0 (fun q => B ≤ q)) (F0 mt 7 ls []))) (Qx := (fun e2 => ∀ (H : Heap) (locs : List Loc) (ls : Array Slot), Rl B D cA m H → va_S (fun q => B ≤ q) s.heap H locs → lv_has ls 5 [(3, .int e2)] → W p l e (rmm 0 0 0 0) s mt args below meth c H locs 0 0 (MQ below (mQ B D cA (some (.int rZ)) m) args s 0 0 (fun q => B ≤ q)) (F0 mt 44 ls []))) ?_ FU _ e2 hwe2 ?_ H locs ls hR hS (lv_sub hl [2, 3, 4, 1, 0] rfl)
  · clear hwe2 hf
    intro t1 q3 hf hxlq3 hxrq3 H locs ls hR hS hl
    obtain ⟨z4, z5⟩ := t1
    have hf : f_X4_childCount_L7 m x0 x1 x2 z4 z5 = some q3 := hf
    have hR : Rl B D cA m H := hR
    have hl : lv_has ls 5 [(0, .ref (B + x0)), (1, .int x1), (2, .int x2), (3, .int z4), (4, .int z5)] := hl
    unfold f_X4_childCount_L7 at hf
    refine lv_iload hx hb dX4_childCount_7 (lv_at hl 4 rfl) ?_
    refine lv_aload_n hx hb dX4_childCount_9 rfl (lv_at hl 0 rfl) ?_
    obtain ⟨v6, g7, hf⟩ := ob hf
    refine gR_X4_28 X hR g7 dX4_childCount_10 ?_
    refine lv_iload_n hx hb dX4_childCount_13 rfl (lv_at hl 1 rfl) ?_
    obtain ⟨v8, g9, hf⟩ := ob hf
    refine r_lI X hR g9 dX4_childCount_14 ?_
    refine lv_icmp_gt (tgt := 44) hx hb dX4_childCount_15 (by decide) (fun c10 => ?_) (fun c10 => ?_)
    · rw [if_pos c10] at hf
      obtain rfl := Option.some.inj hf
      exact hxrq3 _ rfl H locs ls hR hS (lv_sub hl [3] rfl)
    · rw [if_neg c10] at hf
      refine lv_aload_n hx hb dX4_childCount_18 rfl (lv_at hl 0 rfl) ?_
      obtain ⟨v11, g12, hf⟩ := ob hf
      refine gR_X4_25 X hR g12 dX4_childCount_19 ?_
      refine lv_iload hx hb dX4_childCount_22 (lv_at hl 4 rfl) ?_
      obtain ⟨v13, g14, hf⟩ := ob hf
      refine r_lI X hR g14 dX4_childCount_24 ?_
      refine lv_iload_n hx hb dX4_childCount_25 rfl (lv_at hl 1 rfl) ?_
      refine lv_icmp_ne (tgt := 38) hx hb dX4_childCount_26 (by decide) (fun c15 => ?_) (fun c15 => ?_)
      · rw [if_neg c15] at hf
        refine lv_iinc (v := (z5 + 1)) (lv' := [(4, .int (z5 + 1)), (0, .ref (B + x0)), (1, .int x1), (2, .int x2), (3, .int z4)]) hx hb dX4_childCount_38 hl (k := 4) rfl (congrArg (fun z => z5 + z) (by decide)) (by decide) rfl (fun ls hl => ?_)
        refine lv_goto (tgt := 7) hx hb dX4_childCount_41 (by decide) ?_
        obtain rfl := Option.some.inj hf
        exact hxlq3 _ rfl H locs ls hR hS (lv_sub hl [1, 2, 3, 4, 0] rfl)
      · rw [if_pos c15] at hf
        refine lv_iload hx hb dX4_childCount_29 (lv_at hl 4 rfl) ?_
        refine lv_iload_n hx hb dX4_childCount_31 rfl (lv_at hl 2 rfl) ?_
        refine lv_icmp_eq (tgt := 38) hx hb dX4_childCount_32 (by decide) (fun c16 => ?_) (fun c16 => ?_)
        · rw [if_pos c16] at hf
          refine lv_iinc (v := (z5 + 1)) (lv' := [(4, .int (z5 + 1)), (0, .ref (B + x0)), (1, .int x1), (2, .int x2), (3, .int z4)]) hx hb dX4_childCount_38 hl (k := 4) rfl (congrArg (fun z => z5 + z) (by decide)) (by decide) rfl (fun ls hl => ?_)
          refine lv_goto (tgt := 7) hx hb dX4_childCount_41 (by decide) ?_
          obtain rfl := Option.some.inj hf
          exact hxlq3 _ rfl H locs ls hR hS (lv_sub hl [1, 2, 3, 4, 0] rfl)
        · rw [if_neg c16] at hf
          refine lv_iinc (v := (z4 + 1)) (lv' := [(3, .int (z4 + 1)), (0, .ref (B + x0)), (1, .int x1), (2, .int x2), (4, .int z5)]) hx hb dX4_childCount_35 hl (k := 3) rfl (congrArg (fun z => z4 + z) (by decide)) (by decide) rfl (fun ls hl => ?_)
          refine lv_iinc (v := (z5 + 1)) (lv' := [(4, .int (z5 + 1)), (3, .int (z4 + 1)), (0, .ref (B + x0)), (1, .int x1), (2, .int x2)]) hx hb dX4_childCount_38 hl (k := 4) rfl (congrArg (fun z => z5 + z) (by decide)) (by decide) rfl (fun ls hl => ?_)
          refine lv_goto (tgt := 7) hx hb dX4_childCount_41 (by decide) ?_
          obtain rfl := Option.some.inj hf
          exact hxlq3 _ rfl H locs ls hR hS (lv_sub hl [2, 3, 4, 1, 0] rfl)
  · intro H locs ls hR hS hl
    refine lv_iload_n hx hb dX4_childCount_44 rfl (lv_at hl 0 rfl) ?_
    obtain rfl := Option.some.inj hf
    exact r_iret X hr hlocks hR hS rfl dX4_childCount_45
/-! ===== TwigMatches$Tree.slot(III)I ===== -/
theorem dX4_slot_0 : decode cX4_slot 0 = .ok (.iload_n 1, 1) := by decide +kernel
theorem dX4_slot_1 : decode cX4_slot 1 = .ok (.iconst 1, 1) := by decide +kernel
theorem dX4_slot_2 : decode cX4_slot 2 = .ok (.iadd, 1) := by decide +kernel
theorem dX4_slot_3 : decode cX4_slot 3 = .ok (.istore 4, 2) := by decide +kernel
theorem dX4_slot_5 : decode cX4_slot 5 = .ok (.iconst 0, 1) := by decide +kernel
theorem dX4_slot_6 : decode cX4_slot 6 = .ok (.istore 5, 2) := by decide +kernel
theorem dX4_slot_8 : decode cX4_slot 8 = .ok (.iload_n 1, 1) := by decide +kernel
theorem dX4_slot_9 : decode cX4_slot 9 = .ok (.iconst 1, 1) := by decide +kernel
theorem dX4_slot_10 : decode cX4_slot 10 = .ok (.iadd, 1) := by decide +kernel
theorem dX4_slot_11 : decode cX4_slot 11 = .ok (.istore 6, 2) := by decide +kernel
theorem dX4_slot_13 : decode cX4_slot 13 = .ok (.iload 6, 2) := by decide +kernel
theorem dX4_slot_15 : decode cX4_slot 15 = .ok (.aload_n 0, 1) := by decide +kernel
theorem dX4_slot_16 : decode cX4_slot 16 = .ok (.getfield 28, 3) := by decide +kernel
theorem dX4_slot_19 : decode cX4_slot 19 = .ok (.iload_n 1, 1) := by decide +kernel
theorem dX4_slot_20 : decode cX4_slot 20 = .ok (.iaload, 1) := by decide +kernel
theorem dX4_slot_21 : decode cX4_slot 21 = .ok (.if_icmp .gt 46, 3) := by decide +kernel
theorem dX4_slot_24 : decode cX4_slot 24 = .ok (.iload 5, 2) := by decide +kernel
theorem dX4_slot_26 : decode cX4_slot 26 = .ok (.iload_n 2, 1) := by decide +kernel
theorem dX4_slot_27 : decode cX4_slot 27 = .ok (.if_icmp .ge 40, 3) := by decide +kernel
theorem dX4_slot_30 : decode cX4_slot 30 = .ok (.aload_n 0, 1) := by decide +kernel
theorem dX4_slot_31 : decode cX4_slot 31 = .ok (.getfield 25, 3) := by decide +kernel
theorem dX4_slot_34 : decode cX4_slot 34 = .ok (.iload 6, 2) := by decide +kernel
theorem dX4_slot_36 : decode cX4_slot 36 = .ok (.iaload, 1) := by decide +kernel
theorem dX4_slot_37 : decode cX4_slot 37 = .ok (.iload_n 1, 1) := by decide +kernel
theorem dX4_slot_38 : decode cX4_slot 38 = .ok (.if_icmp .ne 23, 3) := by decide +kernel
theorem dX4_slot_41 : decode cX4_slot 41 = .ok (.iload 6, 2) := by decide +kernel
theorem dX4_slot_43 : decode cX4_slot 43 = .ok (.iload_n 3, 1) := by decide +kernel
theorem dX4_slot_44 : decode cX4_slot 44 = .ok (.if_icmp .eq 17, 3) := by decide +kernel
theorem dX4_slot_47 : decode cX4_slot 47 = .ok (.iinc 5 1, 3) := by decide +kernel
theorem dX4_slot_50 : decode cX4_slot 50 = .ok (.aload_n 0, 1) := by decide +kernel
theorem dX4_slot_51 : decode cX4_slot 51 = .ok (.getfield 28, 3) := by decide +kernel
theorem dX4_slot_54 : decode cX4_slot 54 = .ok (.iload 6, 2) := by decide +kernel
theorem dX4_slot_56 : decode cX4_slot 56 = .ok (.iaload, 1) := by decide +kernel
theorem dX4_slot_57 : decode cX4_slot 57 = .ok (.iconst 1, 1) := by decide +kernel
theorem dX4_slot_58 : decode cX4_slot 58 = .ok (.iadd, 1) := by decide +kernel
theorem dX4_slot_59 : decode cX4_slot 59 = .ok (.istore 4, 2) := by decide +kernel
theorem dX4_slot_61 : decode cX4_slot 61 = .ok (.iinc 6 1, 3) := by decide +kernel
theorem dX4_slot_64 : decode cX4_slot 64 = .ok (.goto (-51), 3) := by decide +kernel
theorem dX4_slot_67 : decode cX4_slot 67 = .ok (.iload 4, 2) := by decide +kernel
theorem dX4_slot_69 : decode cX4_slot 69 = .ok (.ireturn, 1) := by decide +kernel
set_option maxHeartbeats 4000000 in
set_option maxRecDepth 100000 in
theorem c_X4_slot (l : Launch) (B : Nat) (D : va_G) (cA : Nat → ClassId) (m : Mm) (x0 : Nat) (x1 : Int32) (x2 : Int32) (x3 : Int32) (rZ : Int32) (hf : f_X4_slot m x0 x1 x2 x3 = some rZ) : Mt l B D cA yX4_slot cX4_slot 7 (some .int) 0 0 0 0 [.ref (B + x0), .int x1, .int x2, .int x3] m (some (.int rZ)) m := by
  refine r_start (by decide) (Nat.le_of_ble_eq_true rfl) ?_
  intro p e s mt args below meth c ls H locs X hr hlocks hnm hR hl hS
  have hx := X.1
  have hb := X.2.1
  have hl : lv_has ls 7 [(0, .ref (B + x0)), (1, .int x1), (2, .int x2), (3, .int x3)] := hl
  unfold f_X4_slot at hf
  refine lv_iload_n hx hb dX4_slot_0 rfl (lv_at hl 1 rfl) ?_
  refine lv_iconst (v := 1) hx hb dX4_slot_1 (by decide) ?_
  refine lv_iadd hx hb dX4_slot_2 ?_
  refine lv_istore (lv' := [(4, .int (x1 + (1 : Int32))), (0, .ref (B + x0)), (1, .int x1), (2, .int x2), (3, .int x3)]) hx hb dX4_slot_3 hl (by decide) rfl (fun ls hl => ?_)
  refine lv_iconst (v := 0) hx hb dX4_slot_5 (by decide) ?_
  refine lv_istore (lv' := [(5, .int (0 : Int32)), (4, .int (x1 + (1 : Int32))), (0, .ref (B + x0)), (1, .int x1), (2, .int x2), (3, .int x3)]) hx hb dX4_slot_6 hl (by decide) rfl (fun ls hl => ?_)
  refine lv_iload_n hx hb dX4_slot_8 rfl (lv_at hl 3 rfl) ?_
  refine lv_iconst (v := 1) hx hb dX4_slot_9 (by decide) ?_
  refine lv_iadd hx hb dX4_slot_10 ?_
  refine lv_istore (lv' := [(6, .int (x1 + (1 : Int32))), (5, .int (0 : Int32)), (4, .int (x1 + (1 : Int32))), (0, .ref (B + x0)), (1, .int x1), (2, .int x2), (3, .int x3)]) hx hb dX4_slot_11 hl (by decide) rfl (fun ls hl => ?_)
  obtain ⟨e2, hwe2, hf⟩ := ob hf
  refine whl_rule (P := (fun t1 => ∀ (H : Heap) (locs : List Loc) (ls : Array Slot), Rl B D cA m H → va_S (fun q => B ≤ q) s.heap H locs → lv_has ls 7 [(0, .ref (B + x0)), (1, .int x1), (2, .int x2), (3, .int x3), (4, .int t1.1), (5, .int t1.2.1), (6, .int t1.2.2)] → W p l e (rmm 0 0 0 0) s mt args below meth c H locs 0 0 (MQ below (mQ B D cA (some (.int rZ)) m) args s 0 0 (fun q => B ≤ q)) (F0 mt 13 ls []))) (Qx := (fun e2 => ∀ (H : Heap) (locs : List Loc) (ls : Array Slot), Rl B D cA m H → va_S (fun q => B ≤ q) s.heap H locs → lv_has ls 7 [(4, .int e2)] → W p l e (rmm 0 0 0 0) s mt args below meth c H locs 0 0 (MQ below (mQ B D cA (some (.int rZ)) m) args s 0 0 (fun q => B ≤ q)) (F0 mt 67 ls []))) ?_ FU _ e2 hwe2 ?_ H locs ls hR hS (lv_sub hl [3, 4, 5, 6, 2, 1, 0] rfl)
  · clear hwe2 hf
    intro t1 q3 hf hxlq3 hxrq3 H locs ls hR hS hl
    obtain ⟨z4, z5, z6⟩ := t1
    have hf : f_X4_slot_L13 m x0 x1 x2 x3 z4 z5 z6 = some q3 := hf
    have hR : Rl B D cA m H := hR
    have hl : lv_has ls 7 [(0, .ref (B + x0)), (1, .int x1), (2, .int x2), (3, .int x3), (4, .int z4), (5, .int z5), (6, .int z6)] := hl
    unfold f_X4_slot_L13 at hf
    refine lv_iload hx hb dX4_slot_13 (lv_at hl 6 rfl) ?_
    refine lv_aload_n hx hb dX4_slot_15 rfl (lv_at hl 0 rfl) ?_
    obtain ⟨v7, g8, hf⟩ := ob hf
    refine gR_X4_28 X hR g8 dX4_slot_16 ?_
    refine lv_iload_n hx hb dX4_slot_19 rfl (lv_at hl 1 rfl) ?_
    obtain ⟨v9, g10, hf⟩ := ob hf
    refine r_lI X hR g10 dX4_slot_20 ?_
    refine lv_icmp_gt (tgt := 67) hx hb dX4_slot_21 (by decide) (fun c11 => ?_) (fun c11 => ?_)
    · rw [if_pos c11] at hf
      obtain rfl := Option.some.inj hf
      exact hxrq3 _ rfl H locs ls hR hS (lv_sub hl [4] rfl)
    · rw [if_neg c11] at hf
      refine lv_iload hx hb dX4_slot_24 (lv_at hl 5 rfl) ?_
      refine lv_iload_n hx hb dX4_slot_26 rfl (lv_at hl 2 rfl) ?_
      refine lv_icmp_ge (tgt := 67) hx hb dX4_slot_27 (by decide) (fun c12 => ?_) (fun c12 => ?_)
      · rw [if_pos c12] at hf
        obtain rfl := Option.some.inj hf
        exact hxrq3 _ rfl H locs ls hR hS (lv_sub hl [4] rfl)
      · rw [if_neg c12] at hf
        refine lv_aload_n hx hb dX4_slot_30 rfl (lv_at hl 0 rfl) ?_
        obtain ⟨v13, g14, hf⟩ := ob hf
        refine gR_X4_25 X hR g14 dX4_slot_31 ?_
        refine lv_iload hx hb dX4_slot_34 (lv_at hl 6 rfl) ?_
        obtain ⟨v15, g16, hf⟩ := ob hf
        refine r_lI X hR g16 dX4_slot_36 ?_
        refine lv_iload_n hx hb dX4_slot_37 rfl (lv_at hl 1 rfl) ?_
        refine lv_icmp_ne (tgt := 61) hx hb dX4_slot_38 (by decide) (fun c17 => ?_) (fun c17 => ?_)
        · rw [if_neg c17] at hf
          refine lv_iinc (v := (z6 + 1)) (lv' := [(6, .int (z6 + 1)), (0, .ref (B + x0)), (1, .int x1), (2, .int x2), (3, .int x3), (4, .int z4), (5, .int z5)]) hx hb dX4_slot_61 hl (k := 6) rfl (congrArg (fun z => z6 + z) (by decide)) (by decide) rfl (fun ls hl => ?_)
          refine lv_goto (tgt := 13) hx hb dX4_slot_64 (by decide) ?_
          obtain rfl := Option.some.inj hf
          exact hxlq3 _ rfl H locs ls hR hS (lv_sub hl [1, 2, 3, 4, 5, 6, 0] rfl)
        · rw [if_pos c17] at hf
          refine lv_iload hx hb dX4_slot_41 (lv_at hl 6 rfl) ?_
          refine lv_iload_n hx hb dX4_slot_43 rfl (lv_at hl 3 rfl) ?_
          refine lv_icmp_eq (tgt := 61) hx hb dX4_slot_44 (by decide) (fun c18 => ?_) (fun c18 => ?_)
          · rw [if_pos c18] at hf
            refine lv_iinc (v := (z6 + 1)) (lv' := [(6, .int (z6 + 1)), (0, .ref (B + x0)), (1, .int x1), (2, .int x2), (3, .int x3), (4, .int z4), (5, .int z5)]) hx hb dX4_slot_61 hl (k := 6) rfl (congrArg (fun z => z6 + z) (by decide)) (by decide) rfl (fun ls hl => ?_)
            refine lv_goto (tgt := 13) hx hb dX4_slot_64 (by decide) ?_
            obtain rfl := Option.some.inj hf
            exact hxlq3 _ rfl H locs ls hR hS (lv_sub hl [1, 2, 3, 4, 5, 6, 0] rfl)
          · rw [if_neg c18] at hf
            refine lv_iinc (v := (z5 + 1)) (lv' := [(5, .int (z5 + 1)), (0, .ref (B + x0)), (1, .int x1), (2, .int x2), (3, .int x3), (4, .int z4), (6, .int z6)]) hx hb dX4_slot_47 hl (k := 5) rfl (congrArg (fun z => z5 + z) (by decide)) (by decide) rfl (fun ls hl => ?_)
            refine lv_aload_n hx hb dX4_slot_50 rfl (lv_at hl 1 rfl) ?_
            obtain ⟨v19, g20, hf⟩ := ob hf
            refine gR_X4_28 X hR g20 dX4_slot_51 ?_
            refine lv_iload hx hb dX4_slot_54 (lv_at hl 6 rfl) ?_
            obtain ⟨v21, g22, hf⟩ := ob hf
            refine r_lI X hR g22 dX4_slot_56 ?_
            refine lv_iconst (v := 1) hx hb dX4_slot_57 (by decide) ?_
            refine lv_iadd hx hb dX4_slot_58 ?_
            refine lv_istore (lv' := [(4, .int (v21 + (1 : Int32))), (5, .int (z5 + 1)), (0, .ref (B + x0)), (1, .int x1), (2, .int x2), (3, .int x3), (6, .int z6)]) hx hb dX4_slot_59 hl (by decide) rfl (fun ls hl => ?_)
            refine lv_iinc (v := (z6 + 1)) (lv' := [(6, .int (z6 + 1)), (4, .int (v21 + (1 : Int32))), (5, .int (z5 + 1)), (0, .ref (B + x0)), (1, .int x1), (2, .int x2), (3, .int x3)]) hx hb dX4_slot_61 hl (k := 6) rfl (congrArg (fun z => z6 + z) (by decide)) (by decide) rfl (fun ls hl => ?_)
            refine lv_goto (tgt := 13) hx hb dX4_slot_64 (by decide) ?_
            obtain rfl := Option.some.inj hf
            exact hxlq3 _ rfl H locs ls hR hS (lv_sub hl [3, 4, 5, 6, 1, 2, 0] rfl)
  · intro H locs ls hR hS hl
    refine lv_iload hx hb dX4_slot_67 (lv_at hl 0 rfl) ?_
    obtain rfl := Option.some.inj hf
    exact r_iret X hr hlocks hR hS rfl dX4_slot_69
/-! ===== TwigMatches$Tree.deepest(I)I ===== -/
theorem dX4_deepest_0 : decode cX4_deepest 0 = .ok (.aload_n 0, 1) := by decide +kernel
theorem dX4_deepest_1 : decode cX4_deepest 1 = .ok (.getfield 22, 3) := by decide +kernel
theorem dX4_deepest_4 : decode cX4_deepest 4 = .ok (.iload_n 1, 1) := by decide +kernel
theorem dX4_deepest_5 : decode cX4_deepest 5 = .ok (.iaload, 1) := by decide +kernel
theorem dX4_deepest_6 : decode cX4_deepest 6 = .ok (.istore_n 2, 1) := by decide +kernel
theorem dX4_deepest_7 : decode cX4_deepest 7 = .ok (.iload_n 1, 1) := by decide +kernel
theorem dX4_deepest_8 : decode cX4_deepest 8 = .ok (.iconst 1, 1) := by decide +kernel
theorem dX4_deepest_9 : decode cX4_deepest 9 = .ok (.iadd, 1) := by decide +kernel
theorem dX4_deepest_10 : decode cX4_deepest 10 = .ok (.istore_n 3, 1) := by decide +kernel
theorem dX4_deepest_11 : decode cX4_deepest 11 = .ok (.iload_n 3, 1) := by decide +kernel
theorem dX4_deepest_12 : decode cX4_deepest 12 = .ok (.aload_n 0, 1) := by decide +kernel
theorem dX4_deepest_13 : decode cX4_deepest 13 = .ok (.getfield 28, 3) := by decide +kernel
theorem dX4_deepest_16 : decode cX4_deepest 16 = .ok (.iload_n 1, 1) := by decide +kernel
theorem dX4_deepest_17 : decode cX4_deepest 17 = .ok (.iaload, 1) := by decide +kernel
theorem dX4_deepest_18 : decode cX4_deepest 18 = .ok (.if_icmp .gt 20, 3) := by decide +kernel
theorem dX4_deepest_21 : decode cX4_deepest 21 = .ok (.iload_n 2, 1) := by decide +kernel
theorem dX4_deepest_22 : decode cX4_deepest 22 = .ok (.aload_n 0, 1) := by decide +kernel
theorem dX4_deepest_23 : decode cX4_deepest 23 = .ok (.getfield 22, 3) := by decide +kernel
theorem dX4_deepest_26 : decode cX4_deepest 26 = .ok (.iload_n 3, 1) := by decide +kernel
theorem dX4_deepest_27 : decode cX4_deepest 27 = .ok (.iaload, 1) := by decide +kernel
theorem dX4_deepest_28 : decode cX4_deepest 28 = .ok (.invokestatic 41, 3) := by decide +kernel
theorem dX4_deepest_31 : decode cX4_deepest 31 = .ok (.istore_n 2, 1) := by decide +kernel
theorem dX4_deepest_32 : decode cX4_deepest 32 = .ok (.iinc 3 1, 3) := by decide +kernel
theorem dX4_deepest_35 : decode cX4_deepest 35 = .ok (.goto (-24), 3) := by decide +kernel
theorem dX4_deepest_38 : decode cX4_deepest 38 = .ok (.iload_n 2, 1) := by decide +kernel
theorem dX4_deepest_39 : decode cX4_deepest 39 = .ok (.ireturn, 1) := by decide +kernel
set_option maxHeartbeats 4000000 in
set_option maxRecDepth 100000 in
theorem c_X4_deepest (l : Launch) (B : Nat) (D : va_G) (cA : Nat → ClassId) (m : Mm) (x0 : Nat) (x1 : Int32) (rZ : Int32) (hf : f_X4_deepest m x0 x1 = some rZ) : Mt l B D cA yX4_deepest cX4_deepest 4 (some .int) 1 24 0 0 [.ref (B + x0), .int x1] m (some (.int rZ)) m := by
  refine r_start (by decide) (Nat.le_of_ble_eq_true rfl) ?_
  intro p e s mt args below meth c ls H locs X hr hlocks hnm hR hl hS
  have hx := X.1
  have hb := X.2.1
  have hl : lv_has ls 4 [(0, .ref (B + x0)), (1, .int x1)] := hl
  unfold f_X4_deepest at hf
  refine lv_aload_n hx hb dX4_deepest_0 rfl (lv_at hl 0 rfl) ?_
  obtain ⟨v1, g2, hf⟩ := ob hf
  refine gR_X4_22 X hR g2 dX4_deepest_1 ?_
  refine lv_iload_n hx hb dX4_deepest_4 rfl (lv_at hl 1 rfl) ?_
  obtain ⟨v3, g4, hf⟩ := ob hf
  refine r_lI X hR g4 dX4_deepest_5 ?_
  refine lv_istore_n (lv' := [(2, .int v3), (0, .ref (B + x0)), (1, .int x1)]) hx hb dX4_deepest_6 rfl hl (by decide) rfl (fun ls hl => ?_)
  refine lv_iload_n hx hb dX4_deepest_7 rfl (lv_at hl 2 rfl) ?_
  refine lv_iconst (v := 1) hx hb dX4_deepest_8 (by decide) ?_
  refine lv_iadd hx hb dX4_deepest_9 ?_
  refine lv_istore_n (lv' := [(3, .int (x1 + (1 : Int32))), (2, .int v3), (0, .ref (B + x0)), (1, .int x1)]) hx hb dX4_deepest_10 rfl hl (by decide) rfl (fun ls hl => ?_)
  obtain ⟨e6, hwe6, hf⟩ := ob hf
  refine whl_rule (P := (fun t5 => ∀ (H : Heap) (locs : List Loc) (ls : Array Slot), Rl B D cA m H → va_S (fun q => B ≤ q) s.heap H locs → lv_has ls 4 [(0, .ref (B + x0)), (1, .int x1), (2, .int t5.1), (3, .int t5.2)] → W p l e (rmm 1 0 0 24) s mt args below meth c H locs 0 0 (MQ below (mQ B D cA (some (.int rZ)) m) args s 0 0 (fun q => B ≤ q)) (F0 mt 11 ls []))) (Qx := (fun e6 => ∀ (H : Heap) (locs : List Loc) (ls : Array Slot), Rl B D cA m H → va_S (fun q => B ≤ q) s.heap H locs → lv_has ls 4 [(2, .int e6)] → W p l e (rmm 1 0 0 24) s mt args below meth c H locs 0 0 (MQ below (mQ B D cA (some (.int rZ)) m) args s 0 0 (fun q => B ≤ q)) (F0 mt 38 ls []))) ?_ FU _ e6 hwe6 ?_ H locs ls hR hS (lv_sub hl [2, 3, 1, 0] rfl)
  · clear hwe6 hf
    intro t5 q7 hf hxlq7 hxrq7 H locs ls hR hS hl
    obtain ⟨z8, z9⟩ := t5
    have hf : f_X4_deepest_L11 m x0 x1 z8 z9 = some q7 := hf
    have hR : Rl B D cA m H := hR
    have hl : lv_has ls 4 [(0, .ref (B + x0)), (1, .int x1), (2, .int z8), (3, .int z9)] := hl
    unfold f_X4_deepest_L11 at hf
    refine lv_iload_n hx hb dX4_deepest_11 rfl (lv_at hl 3 rfl) ?_
    refine lv_aload_n hx hb dX4_deepest_12 rfl (lv_at hl 0 rfl) ?_
    obtain ⟨v10, g11, hf⟩ := ob hf
    refine gR_X4_28 X hR g11 dX4_deepest_13 ?_
    refine lv_iload_n hx hb dX4_deepest_16 rfl (lv_at hl 1 rfl) ?_
    obtain ⟨v12, g13, hf⟩ := ob hf
    refine r_lI X hR g13 dX4_deepest_17 ?_
    refine lv_icmp_gt (tgt := 38) hx hb dX4_deepest_18 (by decide) (fun c14 => ?_) (fun c14 => ?_)
    · rw [if_pos c14] at hf
      obtain rfl := Option.some.inj hf
      exact hxrq7 _ rfl H locs ls hR hS (lv_sub hl [2] rfl)
    · rw [if_neg c14] at hf
      refine lv_iload_n hx hb dX4_deepest_21 rfl (lv_at hl 2 rfl) ?_
      refine lv_aload_n hx hb dX4_deepest_22 rfl (lv_at hl 0 rfl) ?_
      obtain ⟨v15, g16, hf⟩ := ob hf
      refine gR_X4_22 X hR g16 dX4_deepest_23 ?_
      refine lv_iload_n hx hb dX4_deepest_26 rfl (lv_at hl 3 rfl) ?_
      obtain ⟨v17, g18, hf⟩ := ob hf
      refine r_lI X hR g18 dX4_deepest_27 ?_
      refine r_max X (tb1 226 rfl rfl) (tb1 227 rfl rfl) (tb1 9 rfl rfl) (tb1 228 rfl rfl) hl.1 (Nat.le_of_ble_eq_true rfl) (Nat.le_of_ble_eq_true rfl) (Nat.le_of_ble_eq_true rfl) (Nat.le_of_ble_eq_true rfl) dX4_deepest_28 ?_
      refine lv_istore_n (lv' := [(2, .int (if z8 < v17 then v17 else z8)), (0, .ref (B + x0)), (1, .int x1), (3, .int z9)]) hx hb dX4_deepest_31 rfl hl (by decide) rfl (fun ls hl => ?_)
      refine lv_iinc (v := (z9 + 1)) (lv' := [(3, .int (z9 + 1)), (2, .int (if z8 < v17 then v17 else z8)), (0, .ref (B + x0)), (1, .int x1)]) hx hb dX4_deepest_32 hl (k := 3) rfl (congrArg (fun z => z9 + z) (by decide)) (by decide) rfl (fun ls hl => ?_)
      refine lv_goto (tgt := 11) hx hb dX4_deepest_35 (by decide) ?_
      obtain rfl := Option.some.inj hf
      exact hxlq7 _ rfl H locs ls hR hS (lv_sub hl [2, 3, 1, 0] rfl)
  · intro H locs ls hR hS hl
    refine lv_iload_n hx hb dX4_deepest_38 rfl (lv_at hl 0 rfl) ?_
    obtain rfl := Option.some.inj hf
    exact r_iret X hr hlocks hR hS rfl dX4_deepest_39
/-! ===== TwigMatches$Tree.start(I)I ===== -/
theorem dX4_start_0 : decode cX4_start 0 = .ok (.iconst 2, 1) := by decide +kernel
theorem dX4_start_1 : decode cX4_start 1 = .ok (.iload_n 1, 1) := by decide +kernel
theorem dX4_start_2 : decode cX4_start 2 = .ok (.imul, 1) := by decide +kernel
theorem dX4_start_3 : decode cX4_start 3 = .ok (.aload_n 0, 1) := by decide +kernel
theorem dX4_start_4 : decode cX4_start 4 = .ok (.getfield 22, 3) := by decide +kernel
theorem dX4_start_7 : decode cX4_start 7 = .ok (.iload_n 1, 1) := by decide +kernel
theorem dX4_start_8 : decode cX4_start 8 = .ok (.iaload, 1) := by decide +kernel
theorem dX4_start_9 : decode cX4_start 9 = .ok (.isub, 1) := by decide +kernel
theorem dX4_start_10 : decode cX4_start 10 = .ok (.iconst 2, 1) := by decide +kernel
theorem dX4_start_11 : decode cX4_start 11 = .ok (.iadd, 1) := by decide +kernel
theorem dX4_start_12 : decode cX4_start 12 = .ok (.ireturn, 1) := by decide +kernel
set_option maxHeartbeats 4000000 in
set_option maxRecDepth 100000 in
theorem c_X4_start (l : Launch) (B : Nat) (D : va_G) (cA : Nat → ClassId) (m : Mm) (x0 : Nat) (x1 : Int32) (rZ : Int32) (hf : f_X4_start m x0 x1 = some rZ) : Mt l B D cA yX4_start cX4_start 2 (some .int) 0 0 0 0 [.ref (B + x0), .int x1] m (some (.int rZ)) m := by
  refine r_start (by decide) (Nat.le_of_ble_eq_true rfl) ?_
  intro p e s mt args below meth c ls H locs X hr hlocks hnm hR hl hS
  have hx := X.1
  have hb := X.2.1
  have hl : lv_has ls 2 [(0, .ref (B + x0)), (1, .int x1)] := hl
  unfold f_X4_start at hf
  refine lv_iconst (v := 2) hx hb dX4_start_0 (by decide) ?_
  refine lv_iload_n hx hb dX4_start_1 rfl (lv_at hl 1 rfl) ?_
  refine lv_imul hx hb dX4_start_2 ?_
  refine lv_aload_n hx hb dX4_start_3 rfl (lv_at hl 0 rfl) ?_
  obtain ⟨v1, g2, hf⟩ := ob hf
  refine gR_X4_22 X hR g2 dX4_start_4 ?_
  refine lv_iload_n hx hb dX4_start_7 rfl (lv_at hl 1 rfl) ?_
  obtain ⟨v3, g4, hf⟩ := ob hf
  refine r_lI X hR g4 dX4_start_8 ?_
  refine lv_isub hx hb dX4_start_9 ?_
  refine lv_iconst (v := 2) hx hb dX4_start_10 (by decide) ?_
  refine lv_iadd hx hb dX4_start_11 ?_
  obtain rfl := Option.some.inj hf
  exact r_iret X hr hlocks hR hS rfl dX4_start_12
/-! ===== TwigMatches$Tree.end(I)I ===== -/
theorem dX4_end_0 : decode cX4_end 0 = .ok (.aload_n 0, 1) := by decide +kernel
theorem dX4_end_1 : decode cX4_end 1 = .ok (.iload_n 1, 1) := by decide +kernel
theorem dX4_end_2 : decode cX4_end 2 = .ok (.invokevirtual 50, 3) := by decide +kernel
theorem dX4_end_5 : decode cX4_end 5 = .ok (.iconst 2, 1) := by decide +kernel
theorem dX4_end_6 : decode cX4_end 6 = .ok (.aload_n 0, 1) := by decide +kernel
theorem dX4_end_7 : decode cX4_end 7 = .ok (.getfield 28, 3) := by decide +kernel
theorem dX4_end_10 : decode cX4_end 10 = .ok (.iload_n 1, 1) := by decide +kernel
theorem dX4_end_11 : decode cX4_end 11 = .ok (.iaload, 1) := by decide +kernel
theorem dX4_end_12 : decode cX4_end 12 = .ok (.iload_n 1, 1) := by decide +kernel
theorem dX4_end_13 : decode cX4_end 13 = .ok (.isub, 1) := by decide +kernel
theorem dX4_end_14 : decode cX4_end 14 = .ok (.imul, 1) := by decide +kernel
theorem dX4_end_15 : decode cX4_end 15 = .ok (.iadd, 1) := by decide +kernel
theorem dX4_end_16 : decode cX4_end 16 = .ok (.iconst 1, 1) := by decide +kernel
theorem dX4_end_17 : decode cX4_end 17 = .ok (.iadd, 1) := by decide +kernel
theorem dX4_end_18 : decode cX4_end 18 = .ok (.ireturn, 1) := by decide +kernel
set_option maxHeartbeats 4000000 in
set_option maxRecDepth 100000 in
theorem c_X4_end (l : Launch) (B : Nat) (D : va_G) (cA : Nat → ClassId) (m : Mm) (x0 : Nat) (x1 : Int32) (rZ : Int32) (hf : f_X4_end m x0 x1 = some rZ) : Mt l B D cA yX4_end cX4_end 2 (some .int) 1 21 0 0 [.ref (B + x0), .int x1] m (some (.int rZ)) m := by
  refine r_start (by decide) (Nat.le_of_ble_eq_true rfl) ?_
  intro p e s mt args below meth c ls H locs X hr hlocks hnm hR hl hS
  have hx := X.1
  have hb := X.2.1
  have hl : lv_has ls 2 [(0, .ref (B + x0)), (1, .int x1)] := hl
  unfold f_X4_end at hf
  refine lv_aload_n hx hb dX4_end_0 rfl (lv_at hl 0 rfl) ?_
  refine lv_iload_n hx hb dX4_end_1 rfl (lv_at hl 1 rfl) ?_
  obtain ⟨o1, h2, hf⟩ := obO hf
  obtain ⟨v4, g3, hf⟩ := ob hf
  refine r_callV X kw_X4_50 (ci := 4) rfl (c_X4_start l B D cA m x0 x1 v4 g3) ⟨Nat.le_of_ble_eq_true rfl, Nat.le_of_ble_eq_true rfl⟩ h2 hR hS hl.1 rfl rfl (Nat.le_of_ble_eq_true rfl) ⟨Nat.le_of_ble_eq_true rfl, Nat.le_of_ble_eq_true rfl⟩ dX4_end_2 (fun H locs hR hS => ?_)
  refine W.eq (g2 := F0 mt 5 ls [.int v4]) rfl ?_
  refine lv_iconst (v := 2) hx hb dX4_end_5 (by decide) ?_
  refine lv_aload_n hx hb dX4_end_6 rfl (lv_at hl 0 rfl) ?_
  obtain ⟨v5, g6, hf⟩ := ob hf
  refine gR_X4_28 X hR g6 dX4_end_7 ?_
  refine lv_iload_n hx hb dX4_end_10 rfl (lv_at hl 1 rfl) ?_
  obtain ⟨v7, g8, hf⟩ := ob hf
  refine r_lI X hR g8 dX4_end_11 ?_
  refine lv_iload_n hx hb dX4_end_12 rfl (lv_at hl 1 rfl) ?_
  refine lv_isub hx hb dX4_end_13 ?_
  refine lv_imul hx hb dX4_end_14 ?_
  refine lv_iadd hx hb dX4_end_15 ?_
  refine lv_iconst (v := 1) hx hb dX4_end_16 (by decide) ?_
  refine lv_iadd hx hb dX4_end_17 ?_
  obtain rfl := Option.some.inj hf
  exact r_iret X hr hlocks hR hS rfl dX4_end_18
/-! ===== TwigMatches$Twig.property(II)I ===== -/
theorem dX5_property_0 : decode cX5_property 0 = .ok (.iload_n 2, 1) := by decide +kernel
theorem dX5_property_1 : decode cX5_property 1 = .ok (.tableswitch 58 0 3 #[31, 38, 44, 51], 31) := by decide +kernel
theorem dX5_property_32 : decode cX5_property 32 = .ok (.aload_n 0, 1) := by decide +kernel
theorem dX5_property_33 : decode cX5_property 33 = .ok (.getfield 15, 3) := by decide +kernel
theorem dX5_property_36 : decode cX5_property 36 = .ok (.iload_n 1, 1) := by decide +kernel
theorem dX5_property_37 : decode cX5_property 37 = .ok (.iaload, 1) := by decide +kernel
theorem dX5_property_38 : decode cX5_property 38 = .ok (.ireturn, 1) := by decide +kernel
theorem dX5_property_39 : decode cX5_property 39 = .ok (.aload_n 0, 1) := by decide +kernel
theorem dX5_property_40 : decode cX5_property 40 = .ok (.iload_n 1, 1) := by decide +kernel
theorem dX5_property_41 : decode cX5_property 41 = .ok (.invokevirtual 40, 3) := by decide +kernel
theorem dX5_property_44 : decode cX5_property 44 = .ok (.ireturn, 1) := by decide +kernel
theorem dX5_property_45 : decode cX5_property 45 = .ok (.aload_n 0, 1) := by decide +kernel
theorem dX5_property_46 : decode cX5_property 46 = .ok (.getfield 25, 3) := by decide +kernel
theorem dX5_property_49 : decode cX5_property 49 = .ok (.iload_n 1, 1) := by decide +kernel
theorem dX5_property_50 : decode cX5_property 50 = .ok (.iaload, 1) := by decide +kernel
theorem dX5_property_51 : decode cX5_property 51 = .ok (.ireturn, 1) := by decide +kernel
theorem dX5_property_52 : decode cX5_property 52 = .ok (.aload_n 0, 1) := by decide +kernel
theorem dX5_property_53 : decode cX5_property 53 = .ok (.getfield 28, 3) := by decide +kernel
theorem dX5_property_56 : decode cX5_property 56 = .ok (.iload_n 1, 1) := by decide +kernel
theorem dX5_property_57 : decode cX5_property 57 = .ok (.iaload, 1) := by decide +kernel
theorem dX5_property_58 : decode cX5_property 58 = .ok (.ireturn, 1) := by decide +kernel
theorem dX5_property_59 : decode cX5_property 59 = .ok (.aload_n 0, 1) := by decide +kernel
theorem dX5_property_60 : decode cX5_property 60 = .ok (.getfield 31, 3) := by decide +kernel
theorem dX5_property_63 : decode cX5_property 63 = .ok (.iload_n 1, 1) := by decide +kernel
theorem dX5_property_64 : decode cX5_property 64 = .ok (.iaload, 1) := by decide +kernel
theorem dX5_property_65 : decode cX5_property 65 = .ok (.ireturn, 1) := by decide +kernel
set_option maxHeartbeats 4000000 in
set_option maxRecDepth 100000 in
theorem c_X5_property (l : Launch) (B : Nat) (D : va_G) (cA : Nat → ClassId) (m : Mm) (x0 : Nat) (x1 : Int32) (x2 : Int32) (rZ : Int32) (hf : f_X5_property m x0 x1 x2 = some rZ) : Mt l B D cA yX5_property cX5_property 3 (some .int) 1 22 0 0 [.ref (B + x0), .int x1, .int x2] m (some (.int rZ)) m := by
  refine r_start (by decide) (Nat.le_of_ble_eq_true rfl) ?_
  intro p e s mt args below meth c ls H locs X hr hlocks hnm hR hl hS
  have hx := X.1
  have hb := X.2.1
  have hl : lv_has ls 3 [(0, .ref (B + x0)), (1, .int x1), (2, .int x2)] := hl
  unfold f_X5_property at hf
  refine lv_iload_n hx hb dX5_property_0 rfl (lv_at hl 2 rfl) ?_
  by_cases c1 : x2 = (0 : Int32)
  · rw [if_pos c1] at hf
    refine lv_tableIn (tgt := 32) (off := 31) hx hb dX5_property_1 (by rw [c1]; decide) (by rw [c1]; decide) (by rw [c1]; rfl) (by decide) ?_
    refine lv_aload_n hx hb dX5_property_32 rfl (lv_at hl 0 rfl) ?_
    obtain ⟨v2, g3, hf⟩ := ob hf
    refine gR_X5_15 X hR g3 dX5_property_33 ?_
    refine lv_iload_n hx hb dX5_property_36 rfl (lv_at hl 1 rfl) ?_
    obtain ⟨v4, g5, hf⟩ := ob hf
    refine r_lI X hR g5 dX5_property_37 ?_
    obtain rfl := Option.some.inj hf
    exact r_iret X hr hlocks hR hS rfl dX5_property_38
  rw [if_neg c1] at hf
  by_cases c6 : x2 = (1 : Int32)
  · rw [if_pos c6] at hf
    refine lv_tableIn (tgt := 39) (off := 38) hx hb dX5_property_1 (by rw [c6]; decide) (by rw [c6]; decide) (by rw [c6]; rfl) (by decide) ?_
    refine lv_aload_n hx hb dX5_property_39 rfl (lv_at hl 0 rfl) ?_
    refine lv_iload_n hx hb dX5_property_40 rfl (lv_at hl 1 rfl) ?_
    obtain ⟨o7, h8, hf⟩ := obO hf
    obtain ⟨v10, g9, hf⟩ := ob hf
    refine r_callV X kw_X5_40 (ci := 5) rfl (c_X5_passing l B D cA m x0 x1 v10 g9) ⟨Nat.le_of_ble_eq_true rfl, Nat.le_of_ble_eq_true rfl⟩ h8 hR hS hl.1 rfl rfl (Nat.le_of_ble_eq_true rfl) ⟨Nat.le_of_ble_eq_true rfl, Nat.le_of_ble_eq_true rfl⟩ dX5_property_41 (fun H locs hR hS => ?_)
    refine W.eq (g2 := F0 mt 44 ls [.int v10]) rfl ?_
    obtain rfl := Option.some.inj hf
    exact r_iret X hr hlocks hR hS rfl dX5_property_44
  rw [if_neg c6] at hf
  by_cases c11 : x2 = (2 : Int32)
  · rw [if_pos c11] at hf
    refine lv_tableIn (tgt := 45) (off := 44) hx hb dX5_property_1 (by rw [c11]; decide) (by rw [c11]; decide) (by rw [c11]; rfl) (by decide) ?_
    refine lv_aload_n hx hb dX5_property_45 rfl (lv_at hl 0 rfl) ?_
    obtain ⟨v12, g13, hf⟩ := ob hf
    refine gR_X5_25 X hR g13 dX5_property_46 ?_
    refine lv_iload_n hx hb dX5_property_49 rfl (lv_at hl 1 rfl) ?_
    obtain ⟨v14, g15, hf⟩ := ob hf
    refine r_lI X hR g15 dX5_property_50 ?_
    obtain rfl := Option.some.inj hf
    exact r_iret X hr hlocks hR hS rfl dX5_property_51
  rw [if_neg c11] at hf
  by_cases c16 : x2 = (3 : Int32)
  · rw [if_pos c16] at hf
    refine lv_tableIn (tgt := 52) (off := 51) hx hb dX5_property_1 (by rw [c16]; decide) (by rw [c16]; decide) (by rw [c16]; rfl) (by decide) ?_
    refine lv_aload_n hx hb dX5_property_52 rfl (lv_at hl 0 rfl) ?_
    obtain ⟨v17, g18, hf⟩ := ob hf
    refine gR_X5_28 X hR g18 dX5_property_53 ?_
    refine lv_iload_n hx hb dX5_property_56 rfl (lv_at hl 1 rfl) ?_
    obtain ⟨v19, g20, hf⟩ := ob hf
    refine r_lI X hR g20 dX5_property_57 ?_
    obtain rfl := Option.some.inj hf
    exact r_iret X hr hlocks hR hS rfl dX5_property_58
  rw [if_neg c16] at hf
  refine lv_tableOut (tgt := 59) hx hb dX5_property_1 (by have zc1 := sw_ne (k := 0) c1; have zc6 := sw_ne (k := 1) c6; have zc11 := sw_ne (k := 2) c11; have zc16 := sw_ne (k := 3) c16; omega) (by decide) ?_
  refine lv_aload_n hx hb dX5_property_59 rfl (lv_at hl 0 rfl) ?_
  obtain ⟨v21, g22, hf⟩ := ob hf
  refine gR_X5_31 X hR g22 dX5_property_60 ?_
  refine lv_iload_n hx hb dX5_property_63 rfl (lv_at hl 1 rfl) ?_
  obtain ⟨v23, g24, hf⟩ := ob hf
  refine r_lI X hR g24 dX5_property_64 ?_
  obtain rfl := Option.some.inj hf
  exact r_iret X hr hlocks hR hS rfl dX5_property_65
/-! ===== TwigMatches$Twig.hasOrdered()Z ===== -/
theorem dX5_hasOrdered_0 : decode cX5_hasOrdered 0 = .ok (.iconst 0, 1) := by decide +kernel
theorem dX5_hasOrdered_1 : decode cX5_hasOrdered 1 = .ok (.istore_n 1, 1) := by decide +kernel
theorem dX5_hasOrdered_2 : decode cX5_hasOrdered 2 = .ok (.iload_n 1, 1) := by decide +kernel
theorem dX5_hasOrdered_3 : decode cX5_hasOrdered 3 = .ok (.aload_n 0, 1) := by decide +kernel
theorem dX5_hasOrdered_4 : decode cX5_hasOrdered 4 = .ok (.getfield 9, 3) := by decide +kernel
theorem dX5_hasOrdered_7 : decode cX5_hasOrdered 7 = .ok (.if_icmp .ge 20, 3) := by decide +kernel
theorem dX5_hasOrdered_10 : decode cX5_hasOrdered 10 = .ok (.aload_n 0, 1) := by decide +kernel
theorem dX5_hasOrdered_11 : decode cX5_hasOrdered 11 = .ok (.getfield 28, 3) := by decide +kernel
theorem dX5_hasOrdered_14 : decode cX5_hasOrdered 14 = .ok (.iload_n 1, 1) := by decide +kernel
theorem dX5_hasOrdered_15 : decode cX5_hasOrdered 15 = .ok (.iaload, 1) := by decide +kernel
theorem dX5_hasOrdered_16 : decode cX5_hasOrdered 16 = .ok (.ifCond .eq 5, 3) := by decide +kernel
theorem dX5_hasOrdered_19 : decode cX5_hasOrdered 19 = .ok (.iconst 1, 1) := by decide +kernel
theorem dX5_hasOrdered_20 : decode cX5_hasOrdered 20 = .ok (.ireturn, 1) := by decide +kernel
theorem dX5_hasOrdered_21 : decode cX5_hasOrdered 21 = .ok (.iinc 1 1, 3) := by decide +kernel
theorem dX5_hasOrdered_24 : decode cX5_hasOrdered 24 = .ok (.goto (-22), 3) := by decide +kernel
theorem dX5_hasOrdered_27 : decode cX5_hasOrdered 27 = .ok (.iconst 0, 1) := by decide +kernel
theorem dX5_hasOrdered_28 : decode cX5_hasOrdered 28 = .ok (.ireturn, 1) := by decide +kernel
set_option maxHeartbeats 4000000 in
set_option maxRecDepth 100000 in
theorem c_X5_hasOrdered (l : Launch) (B : Nat) (D : va_G) (cA : Nat → ClassId) (m : Mm) (x0 : Nat) (rZ : Int32) (hf : f_X5_hasOrdered m x0 = some rZ) : Mt l B D cA yX5_hasOrdered cX5_hasOrdered 2 (some .boolean) 0 0 0 0 [.ref (B + x0)] m (some (.int rZ)) m := by
  refine r_start (by decide) (Nat.le_of_ble_eq_true rfl) ?_
  intro p e s mt args below meth c ls H locs X hr hlocks hnm hR hl hS
  have hx := X.1
  have hb := X.2.1
  have hl : lv_has ls 2 [(0, .ref (B + x0))] := hl
  unfold f_X5_hasOrdered at hf
  refine lv_iconst (v := 0) hx hb dX5_hasOrdered_0 (by decide) ?_
  refine lv_istore_n (lv' := [(1, .int (0 : Int32)), (0, .ref (B + x0))]) hx hb dX5_hasOrdered_1 rfl hl (by decide) rfl (fun ls hl => ?_)
  obtain ⟨e2, hwe2, hf⟩ := ob hf
  refine whl_rule (P := (fun t1 => ∀ (H : Heap) (locs : List Loc) (ls : Array Slot), Rl B D cA m H → va_S (fun q => B ≤ q) s.heap H locs → lv_has ls 2 [(0, .ref (B + x0)), (1, .int t1)] → W p l e (rmm 0 0 0 0) s mt args below meth c H locs 0 0 (MQ below (mQ B D cA (some (.int rZ)) m) args s 0 0 (fun q => B ≤ q)) (F0 mt 2 ls []))) (Qx := (fun e2 => (match e2 with | .inl a0 => (∀ (H : Heap) (locs : List Loc) (ls : Array Slot), Rl B D cA m H → va_S (fun q => B ≤ q) s.heap H locs → lv_has ls 2 [] → W p l e (rmm 0 0 0 0) s mt args below meth c H locs 0 0 (MQ below (mQ B D cA (some (.int rZ)) m) args s 0 0 (fun q => B ≤ q)) (F0 mt 27 ls [])) | .inr b0 => ∀ (H : Heap) (locs : List Loc) (ls : Array Slot), Rl B D cA m H → va_S (fun q => B ≤ q) s.heap H locs → lv_has ls 2 [] → W p l e (rmm 0 0 0 0) s mt args below meth c H locs 0 0 (MQ below (mQ B D cA (some (.int rZ)) m) args s 0 0 (fun q => B ≤ q)) (F0 mt 19 ls [])))) ?_ FU _ e2 hwe2 ?_ H locs ls hR hS (lv_sub hl [1, 0] rfl)
  · clear hwe2 hf
    intro t1 q3 hf hxlq3 hxrq3 H locs ls hR hS hl
    have hf : f_X5_hasOrdered_L2 m x0 t1 = some q3 := hf
    have hR : Rl B D cA m H := hR
    have hl : lv_has ls 2 [(0, .ref (B + x0)), (1, .int t1)] := hl
    unfold f_X5_hasOrdered_L2 at hf
    refine lv_iload_n hx hb dX5_hasOrdered_2 rfl (lv_at hl 1 rfl) ?_
    refine lv_aload_n hx hb dX5_hasOrdered_3 rfl (lv_at hl 0 rfl) ?_
    obtain ⟨v5, g6, hf⟩ := ob hf
    refine gI_X5_9 X hR g6 dX5_hasOrdered_4 ?_
    refine lv_icmp_ge (tgt := 27) hx hb dX5_hasOrdered_7 (by decide) (fun c7 => ?_) (fun c7 => ?_)
    · rw [if_pos c7] at hf
      obtain rfl := Option.some.inj hf
      exact hxrq3 _ rfl H locs ls hR hS (lv_sub hl [] rfl)
    · rw [if_neg c7] at hf
      refine lv_aload_n hx hb dX5_hasOrdered_10 rfl (lv_at hl 0 rfl) ?_
      obtain ⟨v8, g9, hf⟩ := ob hf
      refine gR_X5_28 X hR g9 dX5_hasOrdered_11 ?_
      refine lv_iload_n hx hb dX5_hasOrdered_14 rfl (lv_at hl 1 rfl) ?_
      obtain ⟨v10, g11, hf⟩ := ob hf
      refine r_lI X hR g11 dX5_hasOrdered_15 ?_
      refine lv_if_eq (tgt := 21) hx hb dX5_hasOrdered_16 (by decide) (fun c12 => ?_) (fun c12 => ?_)
      · rw [if_pos c12] at hf
        refine lv_iinc (v := (t1 + 1)) (lv' := [(1, .int (t1 + 1)), (0, .ref (B + x0))]) hx hb dX5_hasOrdered_21 hl (k := 1) rfl (congrArg (fun z => t1 + z) (by decide)) (by decide) rfl (fun ls hl => ?_)
        refine lv_goto (tgt := 2) hx hb dX5_hasOrdered_24 (by decide) ?_
        obtain rfl := Option.some.inj hf
        exact hxlq3 _ rfl H locs ls hR hS (lv_sub hl [1, 0] rfl)
      · rw [if_neg c12] at hf
        obtain rfl := Option.some.inj hf
        exact hxrq3 _ rfl H locs ls hR hS (lv_sub hl [] rfl)
  · clear hwe2
    revert hf
    cases e2 with
    | inl a0e2 =>
      intro hf H locs ls hR hS hl
      refine lv_iconst (v := 0) hx hb dX5_hasOrdered_27 (by decide) ?_
      obtain rfl := Option.some.inj hf
      exact r_iret X hr hlocks hR hS rfl dX5_hasOrdered_28
    | inr b0e2 =>
      intro hf H locs ls hR hS hl
      refine lv_iconst (v := 1) hx hb dX5_hasOrdered_19 (by decide) ?_
      obtain rfl := Option.some.inj hf
      exact r_iret X hr hlocks hR hS rfl dX5_hasOrdered_20
/-! ===== TwigMatches$Twig.depth(I)I ===== -/
theorem dX5_depth_0 : decode cX5_depth 0 = .ok (.iconst 0, 1) := by decide +kernel
theorem dX5_depth_1 : decode cX5_depth 1 = .ok (.istore_n 2, 1) := by decide +kernel
theorem dX5_depth_2 : decode cX5_depth 2 = .ok (.iconst 0, 1) := by decide +kernel
theorem dX5_depth_3 : decode cX5_depth 3 = .ok (.istore_n 3, 1) := by decide +kernel
theorem dX5_depth_4 : decode cX5_depth 4 = .ok (.iload_n 3, 1) := by decide +kernel
theorem dX5_depth_5 : decode cX5_depth 5 = .ok (.iload_n 1, 1) := by decide +kernel
theorem dX5_depth_6 : decode cX5_depth 6 = .ok (.if_icmp .ge 21, 3) := by decide +kernel
theorem dX5_depth_9 : decode cX5_depth 9 = .ok (.aload_n 0, 1) := by decide +kernel
theorem dX5_depth_10 : decode cX5_depth 10 = .ok (.iload_n 3, 1) := by decide +kernel
theorem dX5_depth_11 : decode cX5_depth 11 = .ok (.invokevirtual 44, 3) := by decide +kernel
theorem dX5_depth_14 : decode cX5_depth 14 = .ok (.iload_n 1, 1) := by decide +kernel
theorem dX5_depth_15 : decode cX5_depth 15 = .ok (.if_icmp .lt 6, 3) := by decide +kernel
theorem dX5_depth_18 : decode cX5_depth 18 = .ok (.iinc 2 1, 3) := by decide +kernel
theorem dX5_depth_21 : decode cX5_depth 21 = .ok (.iinc 3 1, 3) := by decide +kernel
theorem dX5_depth_24 : decode cX5_depth 24 = .ok (.goto (-20), 3) := by decide +kernel
theorem dX5_depth_27 : decode cX5_depth 27 = .ok (.iload_n 2, 1) := by decide +kernel
theorem dX5_depth_28 : decode cX5_depth 28 = .ok (.ireturn, 1) := by decide +kernel
set_option maxHeartbeats 4000000 in
set_option maxRecDepth 100000 in
theorem c_X5_depth (l : Launch) (B : Nat) (D : va_G) (cA : Nat → ClassId) (m : Mm) (x0 : Nat) (x1 : Int32) (rZ : Int32) (hf : f_X5_depth m x0 x1 = some rZ) : Mt l B D cA yX5_depth cX5_depth 4 (some .int) 1 23 0 0 [.ref (B + x0), .int x1] m (some (.int rZ)) m := by
  refine r_start (by decide) (Nat.le_of_ble_eq_true rfl) ?_
  intro p e s mt args below meth c ls H locs X hr hlocks hnm hR hl hS
  have hx := X.1
  have hb := X.2.1
  have hl : lv_has ls 4 [(0, .ref (B + x0)), (1, .int x1)] := hl
  unfold f_X5_depth at hf
  refine lv_iconst (v := 0) hx hb dX5_depth_0 (by decide) ?_
  refine lv_istore_n (lv' := [(2, .int (0 : Int32)), (0, .ref (B + x0)), (1, .int x1)]) hx hb dX5_depth_1 rfl hl (by decide) rfl (fun ls hl => ?_)
  refine lv_iconst (v := 0) hx hb dX5_depth_2 (by decide) ?_
  refine lv_istore_n (lv' := [(3, .int (0 : Int32)), (2, .int (0 : Int32)), (0, .ref (B + x0)), (1, .int x1)]) hx hb dX5_depth_3 rfl hl (by decide) rfl (fun ls hl => ?_)
  obtain ⟨e2, hwe2, hf⟩ := ob hf
  refine whl_rule (P := (fun t1 => ∀ (H : Heap) (locs : List Loc) (ls : Array Slot), Rl B D cA m H → va_S (fun q => B ≤ q) s.heap H locs → lv_has ls 4 [(0, .ref (B + x0)), (1, .int x1), (2, .int t1.1), (3, .int t1.2)] → W p l e (rmm 1 0 0 23) s mt args below meth c H locs 0 0 (MQ below (mQ B D cA (some (.int rZ)) m) args s 0 0 (fun q => B ≤ q)) (F0 mt 4 ls []))) (Qx := (fun e2 => ∀ (H : Heap) (locs : List Loc) (ls : Array Slot), Rl B D cA m H → va_S (fun q => B ≤ q) s.heap H locs → lv_has ls 4 [(2, .int e2)] → W p l e (rmm 1 0 0 23) s mt args below meth c H locs 0 0 (MQ below (mQ B D cA (some (.int rZ)) m) args s 0 0 (fun q => B ≤ q)) (F0 mt 27 ls []))) ?_ FU _ e2 hwe2 ?_ H locs ls hR hS (lv_sub hl [2, 3, 1, 0] rfl)
  · clear hwe2 hf
    intro t1 q3 hf hxlq3 hxrq3 H locs ls hR hS hl
    obtain ⟨z4, z5⟩ := t1
    have hf : f_X5_depth_L4 m x0 x1 z4 z5 = some q3 := hf
    have hR : Rl B D cA m H := hR
    have hl : lv_has ls 4 [(0, .ref (B + x0)), (1, .int x1), (2, .int z4), (3, .int z5)] := hl
    unfold f_X5_depth_L4 at hf
    refine lv_iload_n hx hb dX5_depth_4 rfl (lv_at hl 3 rfl) ?_
    refine lv_iload_n hx hb dX5_depth_5 rfl (lv_at hl 1 rfl) ?_
    refine lv_icmp_ge (tgt := 27) hx hb dX5_depth_6 (by decide) (fun c6 => ?_) (fun c6 => ?_)
    · rw [if_pos c6] at hf
      obtain rfl := Option.some.inj hf
      exact hxrq3 _ rfl H locs ls hR hS (lv_sub hl [2] rfl)
    · rw [if_neg c6] at hf
      refine lv_aload_n hx hb dX5_depth_9 rfl (lv_at hl 0 rfl) ?_
      refine lv_iload_n hx hb dX5_depth_10 rfl (lv_at hl 3 rfl) ?_
      obtain ⟨o7, h8, hf⟩ := obO hf
      obtain ⟨v10, g9, hf⟩ := ob hf
      refine r_callV X kw_X5_44 (ci := 5) rfl (c_X5_last l B D cA m x0 z5 v10 g9) ⟨Nat.le_of_ble_eq_true rfl, Nat.le_of_ble_eq_true rfl⟩ h8 hR hS hl.1 rfl rfl (Nat.le_of_ble_eq_true rfl) ⟨Nat.le_of_ble_eq_true rfl, Nat.le_of_ble_eq_true rfl⟩ dX5_depth_11 (fun H locs hR hS => ?_)
      refine W.eq (g2 := F0 mt 14 ls [.int v10]) rfl ?_
      refine lv_iload_n hx hb dX5_depth_14 rfl (lv_at hl 1 rfl) ?_
      refine lv_icmp_lt (tgt := 21) hx hb dX5_depth_15 (by decide) (fun c11 => ?_) (fun c11 => ?_)
      · rw [if_pos c11] at hf
        refine lv_iinc (v := (z5 + 1)) (lv' := [(3, .int (z5 + 1)), (0, .ref (B + x0)), (1, .int x1), (2, .int z4)]) hx hb dX5_depth_21 hl (k := 3) rfl (congrArg (fun z => z5 + z) (by decide)) (by decide) rfl (fun ls hl => ?_)
        refine lv_goto (tgt := 4) hx hb dX5_depth_24 (by decide) ?_
        obtain rfl := Option.some.inj hf
        exact hxlq3 _ rfl H locs ls hR hS (lv_sub hl [1, 2, 3, 0] rfl)
      · rw [if_neg c11] at hf
        refine lv_iinc (v := (z4 + 1)) (lv' := [(2, .int (z4 + 1)), (0, .ref (B + x0)), (1, .int x1), (3, .int z5)]) hx hb dX5_depth_18 hl (k := 2) rfl (congrArg (fun z => z4 + z) (by decide)) (by decide) rfl (fun ls hl => ?_)
        refine lv_iinc (v := (z5 + 1)) (lv' := [(3, .int (z5 + 1)), (2, .int (z4 + 1)), (0, .ref (B + x0)), (1, .int x1)]) hx hb dX5_depth_21 hl (k := 3) rfl (congrArg (fun z => z5 + z) (by decide)) (by decide) rfl (fun ls hl => ?_)
        refine lv_goto (tgt := 4) hx hb dX5_depth_24 (by decide) ?_
        obtain rfl := Option.some.inj hf
        exact hxlq3 _ rfl H locs ls hR hS (lv_sub hl [2, 3, 1, 0] rfl)
  · intro H locs ls hR hS hl
    refine lv_iload_n hx hb dX5_depth_27 rfl (lv_at hl 0 rfl) ?_
    obtain rfl := Option.some.inj hf
    exact r_iret X hr hlocks hR hS rfl dX5_depth_28
/-! ===== TwigMatches$Writer.start(I)V ===== -/
theorem dX6_start_0 : decode cX6_start 0 = .ok (.aload_n 0, 1) := by decide +kernel
theorem dX6_start_1 : decode cX6_start 1 = .ok (.iload_n 1, 1) := by decide +kernel
theorem dX6_start_2 : decode cX6_start 2 = .ok (.putfield 9, 3) := by decide +kernel
theorem dX6_start_5 : decode cX6_start 5 = .ok (.aload_n 0, 1) := by decide +kernel
theorem dX6_start_6 : decode cX6_start 6 = .ok (.iconst 0, 1) := by decide +kernel
theorem dX6_start_7 : decode cX6_start 7 = .ok (.putfield 15, 3) := by decide +kernel
theorem dX6_start_10 : decode cX6_start 10 = .ok (.aload_n 0, 1) := by decide +kernel
theorem dX6_start_11 : decode cX6_start 11 = .ok (.iconst (-1), 1) := by decide +kernel
theorem dX6_start_12 : decode cX6_start 12 = .ok (.putfield 18, 3) := by decide +kernel
theorem dX6_start_15 : decode cX6_start 15 = .ok (.return_, 1) := by decide +kernel
set_option maxHeartbeats 4000000 in
set_option maxRecDepth 100000 in
theorem c_X6_start (l : Launch) (B : Nat) (D : va_G) (cA : Nat → ClassId) (m : Mm) (x0 : Nat) (x1 : Int32) (mZ : Mm) (hf : f_X6_start m x0 x1 = some mZ) : Mt l B D cA yX6_start cX6_start 2 none 0 0 0 0 [.ref (B + x0), .int x1] m none mZ := by
  refine r_start (by decide) (Nat.le_of_ble_eq_true rfl) ?_
  intro p e s mt args below meth c ls H locs X hr hlocks hnm hR hl hS
  have hx := X.1
  have hb := X.2.1
  have hl : lv_has ls 2 [(0, .ref (B + x0)), (1, .int x1)] := hl
  unfold f_X6_start at hf
  refine lv_aload_n hx hb dX6_start_0 rfl (lv_at hl 0 rfl) ?_
  refine lv_iload_n hx hb dX6_start_1 rfl (lv_at hl 1 rfl) ?_
  obtain ⟨m1, g2, hf⟩ := ob hf
  refine pI_X6_9 X hR hS g2 dX6_start_2 (fun H locs hR hS => ?_)
  refine lv_aload_n hx hb dX6_start_5 rfl (lv_at hl 0 rfl) ?_
  refine lv_iconst (v := 0) hx hb dX6_start_6 (by decide) ?_
  obtain ⟨m3, g4, hf⟩ := ob hf
  refine pI_X6_15 X hR hS g4 dX6_start_7 (fun H locs hR hS => ?_)
  refine lv_aload_n hx hb dX6_start_10 rfl (lv_at hl 0 rfl) ?_
  refine lv_iconst (v := -1) hx hb dX6_start_11 (by decide) ?_
  obtain ⟨m5, g6, hf⟩ := ob hf
  refine pI_X6_18 X hR hS g6 dX6_start_12 (fun H locs hR hS => ?_)
  obtain rfl := Option.some.inj hf
  exact r_vret X hr hlocks hR hS dX6_start_15
/-! ===== TwigMatches$Writer.put(I)V ===== -/
theorem dX6_put_0 : decode cX6_put 0 = .ok (.aload_n 0, 1) := by decide +kernel
theorem dX6_put_1 : decode cX6_put 1 = .ok (.getfield 15, 3) := by decide +kernel
theorem dX6_put_4 : decode cX6_put 4 = .ok (.aload_n 0, 1) := by decide +kernel
theorem dX6_put_5 : decode cX6_put 5 = .ok (.getfield 9, 3) := by decide +kernel
theorem dX6_put_8 : decode cX6_put 8 = .ok (.if_icmp .ne 8, 3) := by decide +kernel
theorem dX6_put_11 : decode cX6_put 11 = .ok (.aload_n 0, 1) := by decide +kernel
theorem dX6_put_12 : decode cX6_put 12 = .ok (.iload_n 1, 1) := by decide +kernel
theorem dX6_put_13 : decode cX6_put 13 = .ok (.putfield 18, 3) := by decide +kernel
theorem dX6_put_16 : decode cX6_put 16 = .ok (.aload_n 0, 1) := by decide +kernel
theorem dX6_put_17 : decode cX6_put 17 = .ok (.dup, 1) := by decide +kernel
theorem dX6_put_18 : decode cX6_put 18 = .ok (.getfield 15, 3) := by decide +kernel
theorem dX6_put_21 : decode cX6_put 21 = .ok (.iconst 1, 1) := by decide +kernel
theorem dX6_put_22 : decode cX6_put 22 = .ok (.iadd, 1) := by decide +kernel
theorem dX6_put_23 : decode cX6_put 23 = .ok (.putfield 15, 3) := by decide +kernel
theorem dX6_put_26 : decode cX6_put 26 = .ok (.return_, 1) := by decide +kernel
set_option maxHeartbeats 4000000 in
set_option maxRecDepth 100000 in
theorem c_X6_put (l : Launch) (B : Nat) (D : va_G) (cA : Nat → ClassId) (m : Mm) (x0 : Nat) (x1 : Int32) (mZ : Mm) (hf : f_X6_put m x0 x1 = some mZ) : Mt l B D cA yX6_put cX6_put 2 none 0 0 0 0 [.ref (B + x0), .int x1] m none mZ := by
  refine r_start (by decide) (Nat.le_of_ble_eq_true rfl) ?_
  intro p e s mt args below meth c ls H locs X hr hlocks hnm hR hl hS
  have hx := X.1
  have hb := X.2.1
  have hl : lv_has ls 2 [(0, .ref (B + x0)), (1, .int x1)] := hl
  unfold f_X6_put at hf
  refine lv_aload_n hx hb dX6_put_0 rfl (lv_at hl 0 rfl) ?_
  obtain ⟨v1, g2, hf⟩ := ob hf
  refine gI_X6_15 X hR g2 dX6_put_1 ?_
  refine lv_aload_n hx hb dX6_put_4 rfl (lv_at hl 0 rfl) ?_
  obtain ⟨v3, g4, hf⟩ := ob hf
  refine gI_X6_9 X hR g4 dX6_put_5 ?_
  obtain ⟨t5, hjt5, hf⟩ := ob hf
  have hJt5 : ∀ (H : Heap) (locs : List Loc) (ls : Array Slot), Rl B D cA t5 H → va_S (fun q => B ≤ q) s.heap H locs → lv_has ls 2 [(0, .ref (B + x0))] → W p l e (rmm 0 0 0 0) s mt args below meth c H locs 0 0 (MQ below (mQ B D cA none mZ) args s 0 0 (fun q => B ≤ q)) (F0 mt 16 ls []) := by
    intro H locs ls hR hS hl
    refine lv_aload_n hx hb dX6_put_16 rfl (lv_at hl 0 rfl) ?_
    refine lv_dup hx hb dX6_put_17 rfl ?_
    obtain ⟨v9, g10, hf⟩ := ob hf
    refine gI_X6_15 X hR g10 dX6_put_18 ?_
    refine lv_iconst (v := 1) hx hb dX6_put_21 (by decide) ?_
    refine lv_iadd hx hb dX6_put_22 ?_
    obtain ⟨m11, g12, hf⟩ := ob hf
    refine pI_X6_15 X hR hS g12 dX6_put_23 (fun H locs hR hS => ?_)
    obtain rfl := Option.some.inj hf
    exact r_vret X hr hlocks hR hS dX6_put_26
  have hf := hjt5
  clear hjt5
  refine lv_icmp_ne (tgt := 16) hx hb dX6_put_8 (by decide) (fun c6 => ?_) (fun c6 => ?_)
  · rw [if_neg c6] at hf
    obtain rfl := Option.some.inj hf
    exact hJt5 H locs ls hR hS (lv_sub hl [0] rfl)
  · rw [if_pos c6] at hf
    refine lv_aload_n hx hb dX6_put_11 rfl (lv_at hl 0 rfl) ?_
    refine lv_iload_n hx hb dX6_put_12 rfl (lv_at hl 1 rfl) ?_
    obtain ⟨m7, g8, hf⟩ := ob hf
    refine pI_X6_18 X hR hS g8 dX6_put_13 (fun H locs hR hS => ?_)
    obtain rfl := Option.some.inj hf
    exact hJt5 H locs ls hR hS (lv_sub hl [0] rfl)
/-! ===== TwigMatches$Writer.putParentheses(II)V ===== -/
theorem dX6_putParentheses_0 : decode cX6_putParentheses 0 = .ok (.iload_n 2, 1) := by decide +kernel
theorem dX6_putParentheses_1 : decode cX6_putParentheses 1 = .ok (.iload_n 1, 1) := by decide +kernel
theorem dX6_putParentheses_2 : decode cX6_putParentheses 2 = .ok (.if_icmp .le 9, 3) := by decide +kernel
theorem dX6_putParentheses_5 : decode cX6_putParentheses 5 = .ok (.aload_n 0, 1) := by decide +kernel
theorem dX6_putParentheses_6 : decode cX6_putParentheses 6 = .ok (.bipush 40, 2) := by decide +kernel
theorem dX6_putParentheses_8 : decode cX6_putParentheses 8 = .ok (.invokevirtual 21, 3) := by decide +kernel
theorem dX6_putParentheses_11 : decode cX6_putParentheses 11 = .ok (.iload_n 2, 1) := by decide +kernel
theorem dX6_putParentheses_12 : decode cX6_putParentheses 12 = .ok (.istore_n 3, 1) := by decide +kernel
theorem dX6_putParentheses_13 : decode cX6_putParentheses 13 = .ok (.iload_n 3, 1) := by decide +kernel
theorem dX6_putParentheses_14 : decode cX6_putParentheses 14 = .ok (.iload_n 1, 1) := by decide +kernel
theorem dX6_putParentheses_15 : decode cX6_putParentheses 15 = .ok (.if_icmp .ge 15, 3) := by decide +kernel
theorem dX6_putParentheses_18 : decode cX6_putParentheses 18 = .ok (.aload_n 0, 1) := by decide +kernel
theorem dX6_putParentheses_19 : decode cX6_putParentheses 19 = .ok (.bipush 41, 2) := by decide +kernel
theorem dX6_putParentheses_21 : decode cX6_putParentheses 21 = .ok (.invokevirtual 21, 3) := by decide +kernel
theorem dX6_putParentheses_24 : decode cX6_putParentheses 24 = .ok (.iinc 3 1, 3) := by decide +kernel
theorem dX6_putParentheses_27 : decode cX6_putParentheses 27 = .ok (.goto (-14), 3) := by decide +kernel
theorem dX6_putParentheses_30 : decode cX6_putParentheses 30 = .ok (.return_, 1) := by decide +kernel
set_option maxHeartbeats 4000000 in
set_option maxRecDepth 100000 in
theorem c_X6_putParentheses (l : Launch) (B : Nat) (D : va_G) (cA : Nat → ClassId) (m : Mm) (x0 : Nat) (x1 : Int32) (x2 : Int32) (mZ : Mm) (hf : f_X6_putParentheses m x0 x1 x2 = some mZ) : Mt l B D cA yX6_putParentheses cX6_putParentheses 4 none 1 21 0 0 [.ref (B + x0), .int x1, .int x2] m none mZ := by
  refine r_start (by decide) (Nat.le_of_ble_eq_true rfl) ?_
  intro p e s mt args below meth c ls H locs X hr hlocks hnm hR hl hS
  have hx := X.1
  have hb := X.2.1
  have hl : lv_has ls 4 [(0, .ref (B + x0)), (1, .int x1), (2, .int x2)] := hl
  unfold f_X6_putParentheses at hf
  refine lv_iload_n hx hb dX6_putParentheses_0 rfl (lv_at hl 2 rfl) ?_
  refine lv_iload_n hx hb dX6_putParentheses_1 rfl (lv_at hl 1 rfl) ?_
  obtain ⟨t1, hjt1, hf⟩ := ob hf
  have hJt1 : ∀ (H : Heap) (locs : List Loc) (ls : Array Slot), Rl B D cA t1 H → va_S (fun q => B ≤ q) s.heap H locs → lv_has ls 4 [(0, .ref (B + x0)), (1, .int x1), (2, .int x2)] → W p l e (rmm 1 0 0 21) s mt args below meth c H locs 0 0 (MQ below (mQ B D cA none mZ) args s 0 0 (fun q => B ≤ q)) (F0 mt 11 ls []) := by
    intro H locs ls hR hS hl
    refine lv_iload_n hx hb dX6_putParentheses_11 rfl (lv_at hl 2 rfl) ?_
    refine lv_istore_n (lv' := [(3, .int x2), (0, .ref (B + x0)), (1, .int x1), (2, .int x2)]) hx hb dX6_putParentheses_12 rfl hl (by decide) rfl (fun ls hl => ?_)
    obtain ⟨e8, hwe8, hf⟩ := ob hf
    refine whl_rule (P := (fun t7 => ∀ (H : Heap) (locs : List Loc) (ls : Array Slot), Rl B D cA t7.2 H → va_S (fun q => B ≤ q) s.heap H locs → lv_has ls 4 [(0, .ref (B + x0)), (1, .int x1), (3, .int t7.1)] → W p l e (rmm 1 0 0 21) s mt args below meth c H locs 0 0 (MQ below (mQ B D cA none mZ) args s 0 0 (fun q => B ≤ q)) (F0 mt 13 ls []))) (Qx := (fun e8 => ∀ (H : Heap) (locs : List Loc) (ls : Array Slot), Rl B D cA e8 H → va_S (fun q => B ≤ q) s.heap H locs → lv_has ls 4 [] → W p l e (rmm 1 0 0 21) s mt args below meth c H locs 0 0 (MQ below (mQ B D cA none mZ) args s 0 0 (fun q => B ≤ q)) (F0 mt 30 ls []))) ?_ FU _ e8 hwe8 ?_ H locs ls hR hS (lv_sub hl [1, 2, 0] rfl)
    · clear hwe8 hf
      intro t7 q9 hf hxlq9 hxrq9 H locs ls hR hS hl
      obtain ⟨z10, m11⟩ := t7
      have hf : f_X6_putParentheses_L13 m11 x0 x1 z10 = some q9 := hf
      have hR : Rl B D cA m11 H := hR
      have hl : lv_has ls 4 [(0, .ref (B + x0)), (1, .int x1), (3, .int z10)] := hl
      unfold f_X6_putParentheses_L13 at hf
      refine lv_iload_n hx hb dX6_putParentheses_13 rfl (lv_at hl 2 rfl) ?_
      refine lv_iload_n hx hb dX6_putParentheses_14 rfl (lv_at hl 1 rfl) ?_
      refine lv_icmp_ge (tgt := 30) hx hb dX6_putParentheses_15 (by decide) (fun c12 => ?_) (fun c12 => ?_)
      · rw [if_pos c12] at hf
        obtain rfl := Option.some.inj hf
        exact hxrq9 _ rfl H locs ls hR hS (lv_sub hl [] rfl)
      · rw [if_neg c12] at hf
        refine lv_aload_n hx hb dX6_putParentheses_18 rfl (lv_at hl 0 rfl) ?_
        refine lv_bipush (v := 41) hx hb dX6_putParentheses_19 (by decide) ?_
        obtain ⟨o13, h14, hf⟩ := obO hf
        obtain ⟨m16, g15, hf⟩ := ob hf
        refine r_callV X kw_X6_21 (ci := 6) rfl (c_X6_put l B D cA m11 x0 (41 : Int32) m16 g15) ⟨Nat.le_of_ble_eq_true rfl, Nat.le_of_ble_eq_true rfl⟩ h14 hR hS hl.1 rfl rfl (Nat.le_of_ble_eq_true rfl) ⟨Nat.le_of_ble_eq_true rfl, Nat.le_of_ble_eq_true rfl⟩ dX6_putParentheses_21 (fun H locs hR hS => ?_)
        refine W.eq (g2 := F0 mt 24 ls []) rfl ?_
        refine lv_iinc (v := (z10 + 1)) (lv' := [(3, .int (z10 + 1)), (0, .ref (B + x0)), (1, .int x1)]) hx hb dX6_putParentheses_24 hl (k := 2) rfl (congrArg (fun z => z10 + z) (by decide)) (by decide) rfl (fun ls hl => ?_)
        refine lv_goto (tgt := 13) hx hb dX6_putParentheses_27 (by decide) ?_
        obtain rfl := Option.some.inj hf
        exact hxlq9 _ rfl H locs ls hR hS (lv_sub hl [1, 2, 0] rfl)
    · intro H locs ls hR hS hl
      obtain rfl := Option.some.inj hf
      exact r_vret X hr hlocks hR hS dX6_putParentheses_30
  have hf := hjt1
  clear hjt1
  refine lv_icmp_le (tgt := 11) hx hb dX6_putParentheses_2 (by decide) (fun c2 => ?_) (fun c2 => ?_)
  · rw [if_pos c2] at hf
    obtain rfl := Option.some.inj hf
    exact hJt1 H locs ls hR hS (lv_sub hl [0, 1, 2] rfl)
  · rw [if_neg c2] at hf
    refine lv_aload_n hx hb dX6_putParentheses_5 rfl (lv_at hl 0 rfl) ?_
    refine lv_bipush (v := 40) hx hb dX6_putParentheses_6 (by decide) ?_
    obtain ⟨o3, h4, hf⟩ := obO hf
    obtain ⟨m6, g5, hf⟩ := ob hf
    refine r_callV X kw_X6_21 (ci := 6) rfl (c_X6_put l B D cA m x0 (40 : Int32) m6 g5) ⟨Nat.le_of_ble_eq_true rfl, Nat.le_of_ble_eq_true rfl⟩ h4 hR hS hl.1 rfl rfl (Nat.le_of_ble_eq_true rfl) ⟨Nat.le_of_ble_eq_true rfl, Nat.le_of_ble_eq_true rfl⟩ dX6_putParentheses_8 (fun H locs hR hS => ?_)
    refine W.eq (g2 := F0 mt 11 ls []) rfl ?_
    obtain rfl := Option.some.inj hf
    exact hJt1 H locs ls hR hS (lv_sub hl [0, 1, 2] rfl)
/-! ===== TwigMatches$Writer.writeTree(LTwigMatches$Tree;)V ===== -/
theorem dX6_writeTree_0 : decode cX6_writeTree 0 = .ok (.iconst 0, 1) := by decide +kernel
theorem dX6_writeTree_1 : decode cX6_writeTree 1 = .ok (.istore_n 2, 1) := by decide +kernel
theorem dX6_writeTree_2 : decode cX6_writeTree 2 = .ok (.iload_n 2, 1) := by decide +kernel
theorem dX6_writeTree_3 : decode cX6_writeTree 3 = .ok (.aload_n 1, 1) := by decide +kernel
theorem dX6_writeTree_4 : decode cX6_writeTree 4 = .ok (.getfield 25, 3) := by decide +kernel
theorem dX6_writeTree_7 : decode cX6_writeTree 7 = .ok (.if_icmp .ge 76, 3) := by decide +kernel
theorem dX6_writeTree_10 : decode cX6_writeTree 10 = .ok (.aload_n 0, 1) := by decide +kernel
theorem dX6_writeTree_11 : decode cX6_writeTree 11 = .ok (.bipush 97, 2) := by decide +kernel
theorem dX6_writeTree_13 : decode cX6_writeTree 13 = .ok (.aload_n 1, 1) := by decide +kernel
theorem dX6_writeTree_14 : decode cX6_writeTree 14 = .ok (.getfield 30, 3) := by decide +kernel
theorem dX6_writeTree_17 : decode cX6_writeTree 17 = .ok (.iload_n 2, 1) := by decide +kernel
theorem dX6_writeTree_18 : decode cX6_writeTree 18 = .ok (.iaload, 1) := by decide +kernel
theorem dX6_writeTree_19 : decode cX6_writeTree 19 = .ok (.iadd, 1) := by decide +kernel
theorem dX6_writeTree_20 : decode cX6_writeTree 20 = .ok (.invokevirtual 21, 3) := by decide +kernel
theorem dX6_writeTree_23 : decode cX6_writeTree 23 = .ok (.aload_n 1, 1) := by decide +kernel
theorem dX6_writeTree_24 : decode cX6_writeTree 24 = .ok (.getfield 34, 3) := by decide +kernel
theorem dX6_writeTree_27 : decode cX6_writeTree 27 = .ok (.iload_n 2, 1) := by decide +kernel
theorem dX6_writeTree_28 : decode cX6_writeTree 28 = .ok (.iaload, 1) := by decide +kernel
theorem dX6_writeTree_29 : decode cX6_writeTree 29 = .ok (.ifCond .eq 16, 3) := by decide +kernel
theorem dX6_writeTree_32 : decode cX6_writeTree 32 = .ok (.aload_n 0, 1) := by decide +kernel
theorem dX6_writeTree_33 : decode cX6_writeTree 33 = .ok (.bipush 48, 2) := by decide +kernel
theorem dX6_writeTree_35 : decode cX6_writeTree 35 = .ok (.aload_n 1, 1) := by decide +kernel
theorem dX6_writeTree_36 : decode cX6_writeTree 36 = .ok (.getfield 34, 3) := by decide +kernel
theorem dX6_writeTree_39 : decode cX6_writeTree 39 = .ok (.iload_n 2, 1) := by decide +kernel
theorem dX6_writeTree_40 : decode cX6_writeTree 40 = .ok (.iaload, 1) := by decide +kernel
theorem dX6_writeTree_41 : decode cX6_writeTree 41 = .ok (.iadd, 1) := by decide +kernel
theorem dX6_writeTree_42 : decode cX6_writeTree 42 = .ok (.invokevirtual 21, 3) := by decide +kernel
theorem dX6_writeTree_45 : decode cX6_writeTree 45 = .ok (.aload_n 0, 1) := by decide +kernel
theorem dX6_writeTree_46 : decode cX6_writeTree 46 = .ok (.aload_n 1, 1) := by decide +kernel
theorem dX6_writeTree_47 : decode cX6_writeTree 47 = .ok (.getfield 37, 3) := by decide +kernel
theorem dX6_writeTree_50 : decode cX6_writeTree 50 = .ok (.iload_n 2, 1) := by decide +kernel
theorem dX6_writeTree_51 : decode cX6_writeTree 51 = .ok (.iaload, 1) := by decide +kernel
theorem dX6_writeTree_52 : decode cX6_writeTree 52 = .ok (.iload_n 2, 1) := by decide +kernel
theorem dX6_writeTree_53 : decode cX6_writeTree 53 = .ok (.iconst 1, 1) := by decide +kernel
theorem dX6_writeTree_54 : decode cX6_writeTree 54 = .ok (.iadd, 1) := by decide +kernel
theorem dX6_writeTree_55 : decode cX6_writeTree 55 = .ok (.aload_n 1, 1) := by decide +kernel
theorem dX6_writeTree_56 : decode cX6_writeTree 56 = .ok (.getfield 25, 3) := by decide +kernel
theorem dX6_writeTree_59 : decode cX6_writeTree 59 = .ok (.if_icmp .ge 14, 3) := by decide +kernel
theorem dX6_writeTree_62 : decode cX6_writeTree 62 = .ok (.aload_n 1, 1) := by decide +kernel
theorem dX6_writeTree_63 : decode cX6_writeTree 63 = .ok (.getfield 37, 3) := by decide +kernel
theorem dX6_writeTree_66 : decode cX6_writeTree 66 = .ok (.iload_n 2, 1) := by decide +kernel
theorem dX6_writeTree_67 : decode cX6_writeTree 67 = .ok (.iconst 1, 1) := by decide +kernel
theorem dX6_writeTree_68 : decode cX6_writeTree 68 = .ok (.iadd, 1) := by decide +kernel
theorem dX6_writeTree_69 : decode cX6_writeTree 69 = .ok (.iaload, 1) := by decide +kernel
theorem dX6_writeTree_70 : decode cX6_writeTree 70 = .ok (.goto 4, 3) := by decide +kernel
theorem dX6_writeTree_73 : decode cX6_writeTree 73 = .ok (.iconst 1, 1) := by decide +kernel
theorem dX6_writeTree_74 : decode cX6_writeTree 74 = .ok (.invokevirtual 40, 3) := by decide +kernel
theorem dX6_writeTree_77 : decode cX6_writeTree 77 = .ok (.iinc 2 1, 3) := by decide +kernel
theorem dX6_writeTree_80 : decode cX6_writeTree 80 = .ok (.goto (-78), 3) := by decide +kernel
theorem dX6_writeTree_83 : decode cX6_writeTree 83 = .ok (.return_, 1) := by decide +kernel
set_option maxHeartbeats 4000000 in
set_option maxRecDepth 100000 in
theorem c_X6_writeTree (l : Launch) (B : Nat) (D : va_G) (cA : Nat → ClassId) (m : Mm) (x0 : Nat) (x1 : Nat) (mZ : Mm) (hf : f_X6_writeTree m x0 x1 = some mZ) : Mt l B D cA yX6_writeTree cX6_writeTree 3 none 2 44 0 0 [.ref (B + x0), .ref (B + x1)] m none mZ := by
  refine r_start (by decide) (Nat.le_of_ble_eq_true rfl) ?_
  intro p e s mt args below meth c ls H locs X hr hlocks hnm hR hl hS
  have hx := X.1
  have hb := X.2.1
  have hl : lv_has ls 3 [(0, .ref (B + x0)), (1, .ref (B + x1))] := hl
  unfold f_X6_writeTree at hf
  refine lv_iconst (v := 0) hx hb dX6_writeTree_0 (by decide) ?_
  refine lv_istore_n (lv' := [(2, .int (0 : Int32)), (0, .ref (B + x0)), (1, .ref (B + x1))]) hx hb dX6_writeTree_1 rfl hl (by decide) rfl (fun ls hl => ?_)
  obtain ⟨e2, hwe2, hf⟩ := ob hf
  refine whl_rule (P := (fun t1 => ∀ (H : Heap) (locs : List Loc) (ls : Array Slot), Rl B D cA t1.2 H → va_S (fun q => B ≤ q) s.heap H locs → lv_has ls 3 [(0, .ref (B + x0)), (1, .ref (B + x1)), (2, .int t1.1)] → W p l e (rmm 2 0 0 44) s mt args below meth c H locs 0 0 (MQ below (mQ B D cA none mZ) args s 0 0 (fun q => B ≤ q)) (F0 mt 2 ls []))) (Qx := (fun e2 => ∀ (H : Heap) (locs : List Loc) (ls : Array Slot), Rl B D cA e2 H → va_S (fun q => B ≤ q) s.heap H locs → lv_has ls 3 [] → W p l e (rmm 2 0 0 44) s mt args below meth c H locs 0 0 (MQ below (mQ B D cA none mZ) args s 0 0 (fun q => B ≤ q)) (F0 mt 83 ls []))) ?_ FU _ e2 hwe2 ?_ H locs ls hR hS (lv_sub hl [1, 2, 0] rfl)
  · clear hwe2 hf
    intro t1 q3 hf hxlq3 hxrq3 H locs ls hR hS hl
    obtain ⟨z4, m5⟩ := t1
    have hf : f_X6_writeTree_L2 m5 x0 x1 z4 = some q3 := hf
    have hR : Rl B D cA m5 H := hR
    have hl : lv_has ls 3 [(0, .ref (B + x0)), (1, .ref (B + x1)), (2, .int z4)] := hl
    unfold f_X6_writeTree_L2 at hf
    refine lv_iload_n hx hb dX6_writeTree_2 rfl (lv_at hl 2 rfl) ?_
    refine lv_aload_n hx hb dX6_writeTree_3 rfl (lv_at hl 1 rfl) ?_
    obtain ⟨v6, g7, hf⟩ := ob hf
    refine gI_X6_25 X hR g7 dX6_writeTree_4 ?_
    refine lv_icmp_ge (tgt := 83) hx hb dX6_writeTree_7 (by decide) (fun c8 => ?_) (fun c8 => ?_)
    · rw [if_pos c8] at hf
      obtain rfl := Option.some.inj hf
      exact hxrq3 _ rfl H locs ls hR hS (lv_sub hl [] rfl)
    · rw [if_neg c8] at hf
      refine lv_aload_n hx hb dX6_writeTree_10 rfl (lv_at hl 0 rfl) ?_
      refine lv_bipush (v := 97) hx hb dX6_writeTree_11 (by decide) ?_
      refine lv_aload_n hx hb dX6_writeTree_13 rfl (lv_at hl 1 rfl) ?_
      obtain ⟨v9, g10, hf⟩ := ob hf
      refine gR_X6_30 X hR g10 dX6_writeTree_14 ?_
      refine lv_iload_n hx hb dX6_writeTree_17 rfl (lv_at hl 2 rfl) ?_
      obtain ⟨v11, g12, hf⟩ := ob hf
      refine r_lI X hR g12 dX6_writeTree_18 ?_
      refine lv_iadd hx hb dX6_writeTree_19 ?_
      obtain ⟨o13, h14, hf⟩ := obO hf
      obtain ⟨m16, g15, hf⟩ := ob hf
      refine r_callV X kw_X6_21 (ci := 6) rfl (c_X6_put l B D cA m5 x0 ((97 : Int32) + v11) m16 g15) ⟨Nat.le_of_ble_eq_true rfl, Nat.le_of_ble_eq_true rfl⟩ h14 hR hS hl.1 rfl rfl (Nat.le_of_ble_eq_true rfl) ⟨Nat.le_of_ble_eq_true rfl, Nat.le_of_ble_eq_true rfl⟩ dX6_writeTree_20 (fun H locs hR hS => ?_)
      refine W.eq (g2 := F0 mt 23 ls []) rfl ?_
      refine lv_aload_n hx hb dX6_writeTree_23 rfl (lv_at hl 1 rfl) ?_
      obtain ⟨v17, g18, hf⟩ := ob hf
      refine gR_X6_34 X hR g18 dX6_writeTree_24 ?_
      refine lv_iload_n hx hb dX6_writeTree_27 rfl (lv_at hl 2 rfl) ?_
      obtain ⟨v19, g20, hf⟩ := ob hf
      refine r_lI X hR g20 dX6_writeTree_28 ?_
      obtain ⟨t21, hjt21, hf⟩ := ob hf
      have hJt21 : ∀ (H : Heap) (locs : List Loc) (ls : Array Slot), Rl B D cA t21 H → va_S (fun q => B ≤ q) s.heap H locs → lv_has ls 3 [(0, .ref (B + x0)), (1, .ref (B + x1)), (2, .int z4)] → W p l e (rmm 2 0 0 44) s mt args below meth c H locs 0 0 (MQ below (mQ B D cA none mZ) args s 0 0 (fun q => B ≤ q)) (F0 mt 45 ls []) := by
        intro H locs ls hR hS hl
        refine lv_aload_n hx hb dX6_writeTree_45 rfl (lv_at hl 0 rfl) ?_
        refine lv_aload_n hx hb dX6_writeTree_46 rfl (lv_at hl 1 rfl) ?_
        obtain ⟨v31, g32, hf⟩ := ob hf
        refine gR_X6_37 X hR g32 dX6_writeTree_47 ?_
        refine lv_iload_n hx hb dX6_writeTree_50 rfl (lv_at hl 2 rfl) ?_
        obtain ⟨v33, g34, hf⟩ := ob hf
        refine r_lI X hR g34 dX6_writeTree_51 ?_
        refine lv_iload_n hx hb dX6_writeTree_52 rfl (lv_at hl 2 rfl) ?_
        refine lv_iconst (v := 1) hx hb dX6_writeTree_53 (by decide) ?_
        refine lv_iadd hx hb dX6_writeTree_54 ?_
        refine lv_aload_n hx hb dX6_writeTree_55 rfl (lv_at hl 1 rfl) ?_
        obtain ⟨v35, g36, hf⟩ := ob hf
        refine gI_X6_25 X hR g36 dX6_writeTree_56 ?_
        refine lv_icmp_ge (tgt := 73) hx hb dX6_writeTree_59 (by decide) (fun c37 => ?_) (fun c37 => ?_)
        · rw [if_pos c37] at hf
          refine lv_iconst (v := 1) hx hb dX6_writeTree_73 (by decide) ?_
          obtain ⟨o38, h39, hf⟩ := obO hf
          obtain ⟨m41, g40, hf⟩ := ob hf
          refine r_callV X kw_X6_40 (ci := 6) rfl (c_X6_putParentheses l B D cA t21 x0 v33 (1 : Int32) m41 g40) ⟨Nat.le_of_ble_eq_true rfl, Nat.le_of_ble_eq_true rfl⟩ h39 hR hS hl.1 rfl rfl (Nat.le_of_ble_eq_true rfl) ⟨Nat.le_of_ble_eq_true rfl, Nat.le_of_ble_eq_true rfl⟩ dX6_writeTree_74 (fun H locs hR hS => ?_)
          refine W.eq (g2 := F0 mt 77 ls []) rfl ?_
          refine lv_iinc (v := (z4 + 1)) (lv' := [(2, .int (z4 + 1)), (0, .ref (B + x0)), (1, .ref (B + x1))]) hx hb dX6_writeTree_77 hl (k := 2) rfl (congrArg (fun z => z4 + z) (by decide)) (by decide) rfl (fun ls hl => ?_)
          refine lv_goto (tgt := 2) hx hb dX6_writeTree_80 (by decide) ?_
          obtain rfl := Option.some.inj hf
          exact hxlq3 _ rfl H locs ls hR hS (lv_sub hl [1, 2, 0] rfl)
        · rw [if_neg c37] at hf
          refine lv_aload_n hx hb dX6_writeTree_62 rfl (lv_at hl 1 rfl) ?_
          obtain ⟨v42, g43, hf⟩ := ob hf
          refine gR_X6_37 X hR g43 dX6_writeTree_63 ?_
          refine lv_iload_n hx hb dX6_writeTree_66 rfl (lv_at hl 2 rfl) ?_
          refine lv_iconst (v := 1) hx hb dX6_writeTree_67 (by decide) ?_
          refine lv_iadd hx hb dX6_writeTree_68 ?_
          obtain ⟨v44, g45, hf⟩ := ob hf
          refine r_lI X hR g45 dX6_writeTree_69 ?_
          refine lv_goto (tgt := 74) hx hb dX6_writeTree_70 (by decide) ?_
          obtain ⟨o46, h47, hf⟩ := obO hf
          obtain ⟨m49, g48, hf⟩ := ob hf
          refine r_callV X kw_X6_40 (ci := 6) rfl (c_X6_putParentheses l B D cA t21 x0 v33 v44 m49 g48) ⟨Nat.le_of_ble_eq_true rfl, Nat.le_of_ble_eq_true rfl⟩ h47 hR hS hl.1 rfl rfl (Nat.le_of_ble_eq_true rfl) ⟨Nat.le_of_ble_eq_true rfl, Nat.le_of_ble_eq_true rfl⟩ dX6_writeTree_74 (fun H locs hR hS => ?_)
          refine W.eq (g2 := F0 mt 77 ls []) rfl ?_
          refine lv_iinc (v := (z4 + 1)) (lv' := [(2, .int (z4 + 1)), (0, .ref (B + x0)), (1, .ref (B + x1))]) hx hb dX6_writeTree_77 hl (k := 2) rfl (congrArg (fun z => z4 + z) (by decide)) (by decide) rfl (fun ls hl => ?_)
          refine lv_goto (tgt := 2) hx hb dX6_writeTree_80 (by decide) ?_
          obtain rfl := Option.some.inj hf
          exact hxlq3 _ rfl H locs ls hR hS (lv_sub hl [1, 2, 0] rfl)
      have hf := hjt21
      clear hjt21
      refine lv_if_eq (tgt := 45) hx hb dX6_writeTree_29 (by decide) (fun c22 => ?_) (fun c22 => ?_)
      · rw [if_pos c22] at hf
        obtain rfl := Option.some.inj hf
        exact hJt21 H locs ls hR hS (lv_sub hl [0, 1, 2] rfl)
      · rw [if_neg c22] at hf
        refine lv_aload_n hx hb dX6_writeTree_32 rfl (lv_at hl 0 rfl) ?_
        refine lv_bipush (v := 48) hx hb dX6_writeTree_33 (by decide) ?_
        refine lv_aload_n hx hb dX6_writeTree_35 rfl (lv_at hl 1 rfl) ?_
        obtain ⟨v23, g24, hf⟩ := ob hf
        refine gR_X6_34 X hR g24 dX6_writeTree_36 ?_
        refine lv_iload_n hx hb dX6_writeTree_39 rfl (lv_at hl 2 rfl) ?_
        obtain ⟨v25, g26, hf⟩ := ob hf
        refine r_lI X hR g26 dX6_writeTree_40 ?_
        refine lv_iadd hx hb dX6_writeTree_41 ?_
        obtain ⟨o27, h28, hf⟩ := obO hf
        obtain ⟨m30, g29, hf⟩ := ob hf
        refine r_callV X kw_X6_21 (ci := 6) rfl (c_X6_put l B D cA m16 x0 ((48 : Int32) + v25) m30 g29) ⟨Nat.le_of_ble_eq_true rfl, Nat.le_of_ble_eq_true rfl⟩ h28 hR hS hl.1 rfl rfl (Nat.le_of_ble_eq_true rfl) ⟨Nat.le_of_ble_eq_true rfl, Nat.le_of_ble_eq_true rfl⟩ dX6_writeTree_42 (fun H locs hR hS => ?_)
        refine W.eq (g2 := F0 mt 45 ls []) rfl ?_
        obtain rfl := Option.some.inj hf
        exact hJt21 H locs ls hR hS (lv_sub hl [0, 1, 2] rfl)
  · intro H locs ls hR hS hl
    obtain rfl := Option.some.inj hf
    exact r_vret X hr hlocks hR hS dX6_writeTree_83
/-! ===== TwigMatches$Writer.writeTwig(LTwigMatches$Twig;)V ===== -/
theorem dX6_writeTwig_0 : decode cX6_writeTwig 0 = .ok (.iconst 0, 1) := by decide +kernel
theorem dX6_writeTwig_1 : decode cX6_writeTwig 1 = .ok (.istore_n 2, 1) := by decide +kernel
theorem dX6_writeTwig_2 : decode cX6_writeTwig 2 = .ok (.iload_n 2, 1) := by decide +kernel
theorem dX6_writeTwig_3 : decode cX6_writeTwig 3 = .ok (.aload_n 1, 1) := by decide +kernel
theorem dX6_writeTwig_4 : decode cX6_writeTwig 4 = .ok (.getfield 44, 3) := by decide +kernel
theorem dX6_writeTwig_7 : decode cX6_writeTwig 7 = .ok (.if_icmp .ge 145, 3) := by decide +kernel
theorem dX6_writeTwig_10 : decode cX6_writeTwig 10 = .ok (.aload_n 1, 1) := by decide +kernel
theorem dX6_writeTwig_11 : decode cX6_writeTwig 11 = .ok (.getfield 47, 3) := by decide +kernel
theorem dX6_writeTwig_14 : decode cX6_writeTwig 14 = .ok (.iload_n 2, 1) := by decide +kernel
theorem dX6_writeTwig_15 : decode cX6_writeTwig 15 = .ok (.iaload, 1) := by decide +kernel
theorem dX6_writeTwig_16 : decode cX6_writeTwig 16 = .ok (.ifCond .eq 9, 3) := by decide +kernel
theorem dX6_writeTwig_19 : decode cX6_writeTwig 19 = .ok (.aload_n 0, 1) := by decide +kernel
theorem dX6_writeTwig_20 : decode cX6_writeTwig 20 = .ok (.bipush 59, 2) := by decide +kernel
theorem dX6_writeTwig_22 : decode cX6_writeTwig 22 = .ok (.invokevirtual 21, 3) := by decide +kernel
theorem dX6_writeTwig_25 : decode cX6_writeTwig 25 = .ok (.aload_n 1, 1) := by decide +kernel
theorem dX6_writeTwig_26 : decode cX6_writeTwig 26 = .ok (.getfield 50, 3) := by decide +kernel
theorem dX6_writeTwig_29 : decode cX6_writeTwig 29 = .ok (.iload_n 2, 1) := by decide +kernel
theorem dX6_writeTwig_30 : decode cX6_writeTwig 30 = .ok (.iaload, 1) := by decide +kernel
theorem dX6_writeTwig_31 : decode cX6_writeTwig 31 = .ok (.ifCond .eq 24, 3) := by decide +kernel
theorem dX6_writeTwig_34 : decode cX6_writeTwig 34 = .ok (.aload_n 0, 1) := by decide +kernel
theorem dX6_writeTwig_35 : decode cX6_writeTwig 35 = .ok (.aload_n 1, 1) := by decide +kernel
theorem dX6_writeTwig_36 : decode cX6_writeTwig 36 = .ok (.getfield 50, 3) := by decide +kernel
theorem dX6_writeTwig_39 : decode cX6_writeTwig 39 = .ok (.iload_n 2, 1) := by decide +kernel
theorem dX6_writeTwig_40 : decode cX6_writeTwig 40 = .ok (.iaload, 1) := by decide +kernel
theorem dX6_writeTwig_41 : decode cX6_writeTwig 41 = .ok (.iconst 1, 1) := by decide +kernel
theorem dX6_writeTwig_42 : decode cX6_writeTwig 42 = .ok (.if_icmp .ne 8, 3) := by decide +kernel
theorem dX6_writeTwig_45 : decode cX6_writeTwig 45 = .ok (.bipush 47, 2) := by decide +kernel
theorem dX6_writeTwig_47 : decode cX6_writeTwig 47 = .ok (.goto 5, 3) := by decide +kernel
theorem dX6_writeTwig_50 : decode cX6_writeTwig 50 = .ok (.bipush 126, 2) := by decide +kernel
theorem dX6_writeTwig_52 : decode cX6_writeTwig 52 = .ok (.invokevirtual 21, 3) := by decide +kernel
theorem dX6_writeTwig_55 : decode cX6_writeTwig 55 = .ok (.aload_n 0, 1) := by decide +kernel
theorem dX6_writeTwig_56 : decode cX6_writeTwig 56 = .ok (.aload_n 1, 1) := by decide +kernel
theorem dX6_writeTwig_57 : decode cX6_writeTwig 57 = .ok (.getfield 53, 3) := by decide +kernel
theorem dX6_writeTwig_60 : decode cX6_writeTwig 60 = .ok (.iload_n 2, 1) := by decide +kernel
theorem dX6_writeTwig_61 : decode cX6_writeTwig 61 = .ok (.iaload, 1) := by decide +kernel
theorem dX6_writeTwig_62 : decode cX6_writeTwig 62 = .ok (.bipush 6, 2) := by decide +kernel
theorem dX6_writeTwig_64 : decode cX6_writeTwig 64 = .ok (.if_icmp .ne 8, 3) := by decide +kernel
theorem dX6_writeTwig_67 : decode cX6_writeTwig 67 = .ok (.bipush 42, 2) := by decide +kernel
theorem dX6_writeTwig_69 : decode cX6_writeTwig 69 = .ok (.goto 12, 3) := by decide +kernel
theorem dX6_writeTwig_72 : decode cX6_writeTwig 72 = .ok (.bipush 97, 2) := by decide +kernel
theorem dX6_writeTwig_74 : decode cX6_writeTwig 74 = .ok (.aload_n 1, 1) := by decide +kernel
theorem dX6_writeTwig_75 : decode cX6_writeTwig 75 = .ok (.getfield 53, 3) := by decide +kernel
theorem dX6_writeTwig_78 : decode cX6_writeTwig 78 = .ok (.iload_n 2, 1) := by decide +kernel
theorem dX6_writeTwig_79 : decode cX6_writeTwig 79 = .ok (.iaload, 1) := by decide +kernel
theorem dX6_writeTwig_80 : decode cX6_writeTwig 80 = .ok (.iadd, 1) := by decide +kernel
theorem dX6_writeTwig_81 : decode cX6_writeTwig 81 = .ok (.invokevirtual 21, 3) := by decide +kernel
theorem dX6_writeTwig_84 : decode cX6_writeTwig 84 = .ok (.aload_n 1, 1) := by decide +kernel
theorem dX6_writeTwig_85 : decode cX6_writeTwig 85 = .ok (.getfield 54, 3) := by decide +kernel
theorem dX6_writeTwig_88 : decode cX6_writeTwig 88 = .ok (.iload_n 2, 1) := by decide +kernel
theorem dX6_writeTwig_89 : decode cX6_writeTwig 89 = .ok (.iaload, 1) := by decide +kernel
theorem dX6_writeTwig_90 : decode cX6_writeTwig 90 = .ok (.ifCond .eq 26, 3) := by decide +kernel
theorem dX6_writeTwig_93 : decode cX6_writeTwig 93 = .ok (.aload_n 0, 1) := by decide +kernel
theorem dX6_writeTwig_94 : decode cX6_writeTwig 94 = .ok (.aload_n 1, 1) := by decide +kernel
theorem dX6_writeTwig_95 : decode cX6_writeTwig 95 = .ok (.getfield 54, 3) := by decide +kernel
theorem dX6_writeTwig_98 : decode cX6_writeTwig 98 = .ok (.iload_n 2, 1) := by decide +kernel
theorem dX6_writeTwig_99 : decode cX6_writeTwig 99 = .ok (.iaload, 1) := by decide +kernel
theorem dX6_writeTwig_100 : decode cX6_writeTwig 100 = .ok (.invokevirtual 21, 3) := by decide +kernel
theorem dX6_writeTwig_103 : decode cX6_writeTwig 103 = .ok (.aload_n 0, 1) := by decide +kernel
theorem dX6_writeTwig_104 : decode cX6_writeTwig 104 = .ok (.bipush 48, 2) := by decide +kernel
theorem dX6_writeTwig_106 : decode cX6_writeTwig 106 = .ok (.aload_n 1, 1) := by decide +kernel
theorem dX6_writeTwig_107 : decode cX6_writeTwig 107 = .ok (.getfield 57, 3) := by decide +kernel
theorem dX6_writeTwig_110 : decode cX6_writeTwig 110 = .ok (.iload_n 2, 1) := by decide +kernel
theorem dX6_writeTwig_111 : decode cX6_writeTwig 111 = .ok (.iaload, 1) := by decide +kernel
theorem dX6_writeTwig_112 : decode cX6_writeTwig 112 = .ok (.iadd, 1) := by decide +kernel
theorem dX6_writeTwig_113 : decode cX6_writeTwig 113 = .ok (.invokevirtual 21, 3) := by decide +kernel
theorem dX6_writeTwig_116 : decode cX6_writeTwig 116 = .ok (.aload_n 0, 1) := by decide +kernel
theorem dX6_writeTwig_117 : decode cX6_writeTwig 117 = .ok (.aload_n 1, 1) := by decide +kernel
theorem dX6_writeTwig_118 : decode cX6_writeTwig 118 = .ok (.iload_n 2, 1) := by decide +kernel
theorem dX6_writeTwig_119 : decode cX6_writeTwig 119 = .ok (.invokevirtual 60, 3) := by decide +kernel
theorem dX6_writeTwig_122 : decode cX6_writeTwig 122 = .ok (.iload_n 2, 1) := by decide +kernel
theorem dX6_writeTwig_123 : decode cX6_writeTwig 123 = .ok (.iconst 1, 1) := by decide +kernel
theorem dX6_writeTwig_124 : decode cX6_writeTwig 124 = .ok (.iadd, 1) := by decide +kernel
theorem dX6_writeTwig_125 : decode cX6_writeTwig 125 = .ok (.aload_n 1, 1) := by decide +kernel
theorem dX6_writeTwig_126 : decode cX6_writeTwig 126 = .ok (.getfield 44, 3) := by decide +kernel
theorem dX6_writeTwig_129 : decode cX6_writeTwig 129 = .ok (.if_icmp .ge 13, 3) := by decide +kernel
theorem dX6_writeTwig_132 : decode cX6_writeTwig 132 = .ok (.aload_n 1, 1) := by decide +kernel
theorem dX6_writeTwig_133 : decode cX6_writeTwig 133 = .ok (.iload_n 2, 1) := by decide +kernel
theorem dX6_writeTwig_134 : decode cX6_writeTwig 134 = .ok (.iconst 1, 1) := by decide +kernel
theorem dX6_writeTwig_135 : decode cX6_writeTwig 135 = .ok (.iadd, 1) := by decide +kernel
theorem dX6_writeTwig_136 : decode cX6_writeTwig 136 = .ok (.invokevirtual 60, 3) := by decide +kernel
theorem dX6_writeTwig_139 : decode cX6_writeTwig 139 = .ok (.goto 4, 3) := by decide +kernel
theorem dX6_writeTwig_142 : decode cX6_writeTwig 142 = .ok (.iconst 0, 1) := by decide +kernel
theorem dX6_writeTwig_143 : decode cX6_writeTwig 143 = .ok (.invokevirtual 40, 3) := by decide +kernel
theorem dX6_writeTwig_146 : decode cX6_writeTwig 146 = .ok (.iinc 2 1, 3) := by decide +kernel
theorem dX6_writeTwig_149 : decode cX6_writeTwig 149 = .ok (.goto (-147), 3) := by decide +kernel
theorem dX6_writeTwig_152 : decode cX6_writeTwig 152 = .ok (.return_, 1) := by decide +kernel
set_option maxHeartbeats 4000000 in
set_option maxRecDepth 100000 in
theorem c_X6_writeTwig (l : Launch) (B : Nat) (D : va_G) (cA : Nat → ClassId) (m : Mm) (x0 : Nat) (x1 : Nat) (mZ : Mm) (hf : f_X6_writeTwig m x0 x1 = some mZ) : Mt l B D cA yX6_writeTwig cX6_writeTwig 3 none 2 46 0 0 [.ref (B + x0), .ref (B + x1)] m none mZ := by
  refine r_start (by decide) (Nat.le_of_ble_eq_true rfl) ?_
  intro p e s mt args below meth c ls H locs X hr hlocks hnm hR hl hS
  have hx := X.1
  have hb := X.2.1
  have hl : lv_has ls 3 [(0, .ref (B + x0)), (1, .ref (B + x1))] := hl
  unfold f_X6_writeTwig at hf
  refine lv_iconst (v := 0) hx hb dX6_writeTwig_0 (by decide) ?_
  refine lv_istore_n (lv' := [(2, .int (0 : Int32)), (0, .ref (B + x0)), (1, .ref (B + x1))]) hx hb dX6_writeTwig_1 rfl hl (by decide) rfl (fun ls hl => ?_)
  obtain ⟨e2, hwe2, hf⟩ := ob hf
  refine whl_rule (P := (fun t1 => ∀ (H : Heap) (locs : List Loc) (ls : Array Slot), Rl B D cA t1.2 H → va_S (fun q => B ≤ q) s.heap H locs → lv_has ls 3 [(0, .ref (B + x0)), (1, .ref (B + x1)), (2, .int t1.1)] → W p l e (rmm 2 0 0 46) s mt args below meth c H locs 0 0 (MQ below (mQ B D cA none mZ) args s 0 0 (fun q => B ≤ q)) (F0 mt 2 ls []))) (Qx := (fun e2 => ∀ (H : Heap) (locs : List Loc) (ls : Array Slot), Rl B D cA e2 H → va_S (fun q => B ≤ q) s.heap H locs → lv_has ls 3 [] → W p l e (rmm 2 0 0 46) s mt args below meth c H locs 0 0 (MQ below (mQ B D cA none mZ) args s 0 0 (fun q => B ≤ q)) (F0 mt 152 ls []))) ?_ FU _ e2 hwe2 ?_ H locs ls hR hS (lv_sub hl [1, 2, 0] rfl)
  · clear hwe2 hf
    intro t1 q3 hf hxlq3 hxrq3 H locs ls hR hS hl
    obtain ⟨z4, m5⟩ := t1
    have hf : f_X6_writeTwig_L2 m5 x0 x1 z4 = some q3 := hf
    have hR : Rl B D cA m5 H := hR
    have hl : lv_has ls 3 [(0, .ref (B + x0)), (1, .ref (B + x1)), (2, .int z4)] := hl
    unfold f_X6_writeTwig_L2 at hf
    refine lv_iload_n hx hb dX6_writeTwig_2 rfl (lv_at hl 2 rfl) ?_
    refine lv_aload_n hx hb dX6_writeTwig_3 rfl (lv_at hl 1 rfl) ?_
    obtain ⟨v6, g7, hf⟩ := ob hf
    refine gI_X6_44 X hR g7 dX6_writeTwig_4 ?_
    refine lv_icmp_ge (tgt := 152) hx hb dX6_writeTwig_7 (by decide) (fun c8 => ?_) (fun c8 => ?_)
    · rw [if_pos c8] at hf
      obtain rfl := Option.some.inj hf
      exact hxrq3 _ rfl H locs ls hR hS (lv_sub hl [] rfl)
    · rw [if_neg c8] at hf
      refine lv_aload_n hx hb dX6_writeTwig_10 rfl (lv_at hl 1 rfl) ?_
      obtain ⟨v9, g10, hf⟩ := ob hf
      refine gR_X6_47 X hR g10 dX6_writeTwig_11 ?_
      refine lv_iload_n hx hb dX6_writeTwig_14 rfl (lv_at hl 2 rfl) ?_
      obtain ⟨v11, g12, hf⟩ := ob hf
      refine r_lI X hR g12 dX6_writeTwig_15 ?_
      obtain ⟨t13, hjt13, hf⟩ := ob hf
      have hJt13 : ∀ (H : Heap) (locs : List Loc) (ls : Array Slot), Rl B D cA t13 H → va_S (fun q => B ≤ q) s.heap H locs → lv_has ls 3 [(0, .ref (B + x0)), (1, .ref (B + x1)), (2, .int z4)] → W p l e (rmm 2 0 0 46) s mt args below meth c H locs 0 0 (MQ below (mQ B D cA none mZ) args s 0 0 (fun q => B ≤ q)) (F0 mt 25 ls []) := by
        intro H locs ls hR hS hl
        refine lv_aload_n hx hb dX6_writeTwig_25 rfl (lv_at hl 1 rfl) ?_
        obtain ⟨v19, g20, hf⟩ := ob hf
        refine gR_X6_50 X hR g20 dX6_writeTwig_26 ?_
        refine lv_iload_n hx hb dX6_writeTwig_29 rfl (lv_at hl 2 rfl) ?_
        obtain ⟨v21, g22, hf⟩ := ob hf
        refine r_lI X hR g22 dX6_writeTwig_30 ?_
        obtain ⟨t23, hjt23, hf⟩ := ob hf
        have hJt23 : ∀ (H : Heap) (locs : List Loc) (ls : Array Slot), Rl B D cA t23 H → va_S (fun q => B ≤ q) s.heap H locs → lv_has ls 3 [(0, .ref (B + x0)), (1, .ref (B + x1)), (2, .int z4)] → W p l e (rmm 2 0 0 46) s mt args below meth c H locs 0 0 (MQ below (mQ B D cA none mZ) args s 0 0 (fun q => B ≤ q)) (F0 mt 55 ls []) := by
          intro H locs ls hR hS hl
          refine lv_aload_n hx hb dX6_writeTwig_55 rfl (lv_at hl 0 rfl) ?_
          refine lv_aload_n hx hb dX6_writeTwig_56 rfl (lv_at hl 1 rfl) ?_
          obtain ⟨v38, g39, hf⟩ := ob hf
          refine gR_X6_53 X hR g39 dX6_writeTwig_57 ?_
          refine lv_iload_n hx hb dX6_writeTwig_60 rfl (lv_at hl 2 rfl) ?_
          obtain ⟨v40, g41, hf⟩ := ob hf
          refine r_lI X hR g41 dX6_writeTwig_61 ?_
          refine lv_bipush (v := 6) hx hb dX6_writeTwig_62 (by decide) ?_
          obtain ⟨t42, hjt42, hf⟩ := ob hf
          have hJt42 : ∀ (H : Heap) (locs : List Loc) (ls : Array Slot), Rl B D cA t23 H → va_S (fun q => B ≤ q) s.heap H locs → lv_has ls 3 [(0, .ref (B + x0)), (1, .ref (B + x1)), (2, .int z4)] → W p l e (rmm 2 0 0 46) s mt args below meth c H locs 0 0 (MQ below (mQ B D cA none mZ) args s 0 0 (fun q => B ≤ q)) (F0 mt 81 ls [.int t42, .ref (B + x0)]) := by
            intro H locs ls hR hS hl
            obtain ⟨o48, h49, hf⟩ := obO hf
            obtain ⟨m51, g50, hf⟩ := ob hf
            refine r_callV X kw_X6_21 (ci := 6) rfl (c_X6_put l B D cA t23 x0 t42 m51 g50) ⟨Nat.le_of_ble_eq_true rfl, Nat.le_of_ble_eq_true rfl⟩ h49 hR hS hl.1 rfl rfl (Nat.le_of_ble_eq_true rfl) ⟨Nat.le_of_ble_eq_true rfl, Nat.le_of_ble_eq_true rfl⟩ dX6_writeTwig_81 (fun H locs hR hS => ?_)
            refine W.eq (g2 := F0 mt 84 ls []) rfl ?_
            refine lv_aload_n hx hb dX6_writeTwig_84 rfl (lv_at hl 1 rfl) ?_
            obtain ⟨v52, g53, hf⟩ := ob hf
            refine gR_X6_54 X hR g53 dX6_writeTwig_85 ?_
            refine lv_iload_n hx hb dX6_writeTwig_88 rfl (lv_at hl 2 rfl) ?_
            obtain ⟨v54, g55, hf⟩ := ob hf
            refine r_lI X hR g55 dX6_writeTwig_89 ?_
            obtain ⟨t56, hjt56, hf⟩ := ob hf
            have hJt56 : ∀ (H : Heap) (locs : List Loc) (ls : Array Slot), Rl B D cA t56 H → va_S (fun q => B ≤ q) s.heap H locs → lv_has ls 3 [(0, .ref (B + x0)), (1, .ref (B + x1)), (2, .int z4)] → W p l e (rmm 2 0 0 46) s mt args below meth c H locs 0 0 (MQ below (mQ B D cA none mZ) args s 0 0 (fun q => B ≤ q)) (F0 mt 116 ls []) := by
              intro H locs ls hR hS hl
              refine lv_aload_n hx hb dX6_writeTwig_116 rfl (lv_at hl 0 rfl) ?_
              refine lv_aload_n hx hb dX6_writeTwig_117 rfl (lv_at hl 1 rfl) ?_
              refine lv_iload_n hx hb dX6_writeTwig_118 rfl (lv_at hl 2 rfl) ?_
              obtain ⟨o74, h75, hf⟩ := obO hf
              obtain ⟨v77, g76, hf⟩ := ob hf
              refine r_callV X kw_X6_60 (ci := 5) rfl (c_X5_depth l B D cA t56 x1 z4 v77 g76) ⟨Nat.le_of_ble_eq_true rfl, Nat.le_of_ble_eq_true rfl⟩ h75 hR hS hl.1 rfl rfl (Nat.le_of_ble_eq_true rfl) ⟨Nat.le_of_ble_eq_true rfl, Nat.le_of_ble_eq_true rfl⟩ dX6_writeTwig_119 (fun H locs hR hS => ?_)
              refine W.eq (g2 := F0 mt 122 ls [.int v77, .ref (B + x0)]) rfl ?_
              refine lv_iload_n hx hb dX6_writeTwig_122 rfl (lv_at hl 2 rfl) ?_
              refine lv_iconst (v := 1) hx hb dX6_writeTwig_123 (by decide) ?_
              refine lv_iadd hx hb dX6_writeTwig_124 ?_
              refine lv_aload_n hx hb dX6_writeTwig_125 rfl (lv_at hl 1 rfl) ?_
              obtain ⟨v78, g79, hf⟩ := ob hf
              refine gI_X6_44 X hR g79 dX6_writeTwig_126 ?_
              refine lv_icmp_ge (tgt := 142) hx hb dX6_writeTwig_129 (by decide) (fun c80 => ?_) (fun c80 => ?_)
              · rw [if_pos c80] at hf
                refine lv_iconst (v := 0) hx hb dX6_writeTwig_142 (by decide) ?_
                obtain ⟨o81, h82, hf⟩ := obO hf
                obtain ⟨m84, g83, hf⟩ := ob hf
                refine r_callV X kw_X6_40 (ci := 6) rfl (c_X6_putParentheses l B D cA t56 x0 v77 (0 : Int32) m84 g83) ⟨Nat.le_of_ble_eq_true rfl, Nat.le_of_ble_eq_true rfl⟩ h82 hR hS hl.1 rfl rfl (Nat.le_of_ble_eq_true rfl) ⟨Nat.le_of_ble_eq_true rfl, Nat.le_of_ble_eq_true rfl⟩ dX6_writeTwig_143 (fun H locs hR hS => ?_)
                refine W.eq (g2 := F0 mt 146 ls []) rfl ?_
                refine lv_iinc (v := (z4 + 1)) (lv' := [(2, .int (z4 + 1)), (0, .ref (B + x0)), (1, .ref (B + x1))]) hx hb dX6_writeTwig_146 hl (k := 2) rfl (congrArg (fun z => z4 + z) (by decide)) (by decide) rfl (fun ls hl => ?_)
                refine lv_goto (tgt := 2) hx hb dX6_writeTwig_149 (by decide) ?_
                obtain rfl := Option.some.inj hf
                exact hxlq3 _ rfl H locs ls hR hS (lv_sub hl [1, 2, 0] rfl)
              · rw [if_neg c80] at hf
                refine lv_aload_n hx hb dX6_writeTwig_132 rfl (lv_at hl 1 rfl) ?_
                refine lv_iload_n hx hb dX6_writeTwig_133 rfl (lv_at hl 2 rfl) ?_
                refine lv_iconst (v := 1) hx hb dX6_writeTwig_134 (by decide) ?_
                refine lv_iadd hx hb dX6_writeTwig_135 ?_
                obtain ⟨o85, h86, hf⟩ := obO hf
                obtain ⟨v88, g87, hf⟩ := ob hf
                refine r_callV X kw_X6_60 (ci := 5) rfl (c_X5_depth l B D cA t56 x1 (z4 + (1 : Int32)) v88 g87) ⟨Nat.le_of_ble_eq_true rfl, Nat.le_of_ble_eq_true rfl⟩ h86 hR hS hl.1 rfl rfl (Nat.le_of_ble_eq_true rfl) ⟨Nat.le_of_ble_eq_true rfl, Nat.le_of_ble_eq_true rfl⟩ dX6_writeTwig_136 (fun H locs hR hS => ?_)
                refine W.eq (g2 := F0 mt 139 ls [.int v88, .int v77, .ref (B + x0)]) rfl ?_
                refine lv_goto (tgt := 143) hx hb dX6_writeTwig_139 (by decide) ?_
                obtain ⟨o89, h90, hf⟩ := obO hf
                obtain ⟨m92, g91, hf⟩ := ob hf
                refine r_callV X kw_X6_40 (ci := 6) rfl (c_X6_putParentheses l B D cA t56 x0 v77 v88 m92 g91) ⟨Nat.le_of_ble_eq_true rfl, Nat.le_of_ble_eq_true rfl⟩ h90 hR hS hl.1 rfl rfl (Nat.le_of_ble_eq_true rfl) ⟨Nat.le_of_ble_eq_true rfl, Nat.le_of_ble_eq_true rfl⟩ dX6_writeTwig_143 (fun H locs hR hS => ?_)
                refine W.eq (g2 := F0 mt 146 ls []) rfl ?_
                refine lv_iinc (v := (z4 + 1)) (lv' := [(2, .int (z4 + 1)), (0, .ref (B + x0)), (1, .ref (B + x1))]) hx hb dX6_writeTwig_146 hl (k := 2) rfl (congrArg (fun z => z4 + z) (by decide)) (by decide) rfl (fun ls hl => ?_)
                refine lv_goto (tgt := 2) hx hb dX6_writeTwig_149 (by decide) ?_
                obtain rfl := Option.some.inj hf
                exact hxlq3 _ rfl H locs ls hR hS (lv_sub hl [1, 2, 0] rfl)
            have hf := hjt56
            clear hjt56
            refine lv_if_eq (tgt := 116) hx hb dX6_writeTwig_90 (by decide) (fun c57 => ?_) (fun c57 => ?_)
            · rw [if_pos c57] at hf
              obtain rfl := Option.some.inj hf
              exact hJt56 H locs ls hR hS (lv_sub hl [0, 1, 2] rfl)
            · rw [if_neg c57] at hf
              refine lv_aload_n hx hb dX6_writeTwig_93 rfl (lv_at hl 0 rfl) ?_
              refine lv_aload_n hx hb dX6_writeTwig_94 rfl (lv_at hl 1 rfl) ?_
              obtain ⟨v58, g59, hf⟩ := ob hf
              refine gR_X6_54 X hR g59 dX6_writeTwig_95 ?_
              refine lv_iload_n hx hb dX6_writeTwig_98 rfl (lv_at hl 2 rfl) ?_
              obtain ⟨v60, g61, hf⟩ := ob hf
              refine r_lI X hR g61 dX6_writeTwig_99 ?_
              obtain ⟨o62, h63, hf⟩ := obO hf
              obtain ⟨m65, g64, hf⟩ := ob hf
              refine r_callV X kw_X6_21 (ci := 6) rfl (c_X6_put l B D cA m51 x0 v60 m65 g64) ⟨Nat.le_of_ble_eq_true rfl, Nat.le_of_ble_eq_true rfl⟩ h63 hR hS hl.1 rfl rfl (Nat.le_of_ble_eq_true rfl) ⟨Nat.le_of_ble_eq_true rfl, Nat.le_of_ble_eq_true rfl⟩ dX6_writeTwig_100 (fun H locs hR hS => ?_)
              refine W.eq (g2 := F0 mt 103 ls []) rfl ?_
              refine lv_aload_n hx hb dX6_writeTwig_103 rfl (lv_at hl 0 rfl) ?_
              refine lv_bipush (v := 48) hx hb dX6_writeTwig_104 (by decide) ?_
              refine lv_aload_n hx hb dX6_writeTwig_106 rfl (lv_at hl 1 rfl) ?_
              obtain ⟨v66, g67, hf⟩ := ob hf
              refine gR_X6_57 X hR g67 dX6_writeTwig_107 ?_
              refine lv_iload_n hx hb dX6_writeTwig_110 rfl (lv_at hl 2 rfl) ?_
              obtain ⟨v68, g69, hf⟩ := ob hf
              refine r_lI X hR g69 dX6_writeTwig_111 ?_
              refine lv_iadd hx hb dX6_writeTwig_112 ?_
              obtain ⟨o70, h71, hf⟩ := obO hf
              obtain ⟨m73, g72, hf⟩ := ob hf
              refine r_callV X kw_X6_21 (ci := 6) rfl (c_X6_put l B D cA m65 x0 ((48 : Int32) + v68) m73 g72) ⟨Nat.le_of_ble_eq_true rfl, Nat.le_of_ble_eq_true rfl⟩ h71 hR hS hl.1 rfl rfl (Nat.le_of_ble_eq_true rfl) ⟨Nat.le_of_ble_eq_true rfl, Nat.le_of_ble_eq_true rfl⟩ dX6_writeTwig_113 (fun H locs hR hS => ?_)
              refine W.eq (g2 := F0 mt 116 ls []) rfl ?_
              obtain rfl := Option.some.inj hf
              exact hJt56 H locs ls hR hS (lv_sub hl [0, 1, 2] rfl)
          have hf := hjt42
          clear hjt42
          refine lv_icmp_ne (tgt := 72) hx hb dX6_writeTwig_64 (by decide) (fun c43 => ?_) (fun c43 => ?_)
          · rw [if_neg c43] at hf
            refine lv_bipush (v := 97) hx hb dX6_writeTwig_72 (by decide) ?_
            refine lv_aload_n hx hb dX6_writeTwig_74 rfl (lv_at hl 1 rfl) ?_
            obtain ⟨v44, g45, hf⟩ := ob hf
            refine gR_X6_53 X hR g45 dX6_writeTwig_75 ?_
            refine lv_iload_n hx hb dX6_writeTwig_78 rfl (lv_at hl 2 rfl) ?_
            obtain ⟨v46, g47, hf⟩ := ob hf
            refine r_lI X hR g47 dX6_writeTwig_79 ?_
            refine lv_iadd hx hb dX6_writeTwig_80 ?_
            obtain rfl := Option.some.inj hf
            exact hJt42 H locs ls hR hS (lv_sub hl [0, 1, 2] rfl)
          · rw [if_pos c43] at hf
            refine lv_bipush (v := 42) hx hb dX6_writeTwig_67 (by decide) ?_
            refine lv_goto (tgt := 81) hx hb dX6_writeTwig_69 (by decide) ?_
            obtain rfl := Option.some.inj hf
            exact hJt42 H locs ls hR hS (lv_sub hl [0, 1, 2] rfl)
        have hf := hjt23
        clear hjt23
        refine lv_if_eq (tgt := 55) hx hb dX6_writeTwig_31 (by decide) (fun c24 => ?_) (fun c24 => ?_)
        · rw [if_pos c24] at hf
          obtain rfl := Option.some.inj hf
          exact hJt23 H locs ls hR hS (lv_sub hl [0, 1, 2] rfl)
        · rw [if_neg c24] at hf
          refine lv_aload_n hx hb dX6_writeTwig_34 rfl (lv_at hl 0 rfl) ?_
          refine lv_aload_n hx hb dX6_writeTwig_35 rfl (lv_at hl 1 rfl) ?_
          obtain ⟨v25, g26, hf⟩ := ob hf
          refine gR_X6_50 X hR g26 dX6_writeTwig_36 ?_
          refine lv_iload_n hx hb dX6_writeTwig_39 rfl (lv_at hl 2 rfl) ?_
          obtain ⟨v27, g28, hf⟩ := ob hf
          refine r_lI X hR g28 dX6_writeTwig_40 ?_
          refine lv_iconst (v := 1) hx hb dX6_writeTwig_41 (by decide) ?_
          refine lv_icmp_ne (tgt := 50) hx hb dX6_writeTwig_42 (by decide) (fun c29 => ?_) (fun c29 => ?_)
          · rw [if_neg c29] at hf
            refine lv_bipush (v := 126) hx hb dX6_writeTwig_50 (by decide) ?_
            obtain ⟨o30, h31, hf⟩ := obO hf
            obtain ⟨m33, g32, hf⟩ := ob hf
            refine r_callV X kw_X6_21 (ci := 6) rfl (c_X6_put l B D cA t13 x0 (126 : Int32) m33 g32) ⟨Nat.le_of_ble_eq_true rfl, Nat.le_of_ble_eq_true rfl⟩ h31 hR hS hl.1 rfl rfl (Nat.le_of_ble_eq_true rfl) ⟨Nat.le_of_ble_eq_true rfl, Nat.le_of_ble_eq_true rfl⟩ dX6_writeTwig_52 (fun H locs hR hS => ?_)
            refine W.eq (g2 := F0 mt 55 ls []) rfl ?_
            obtain rfl := Option.some.inj hf
            exact hJt23 H locs ls hR hS (lv_sub hl [0, 1, 2] rfl)
          · rw [if_pos c29] at hf
            refine lv_bipush (v := 47) hx hb dX6_writeTwig_45 (by decide) ?_
            refine lv_goto (tgt := 52) hx hb dX6_writeTwig_47 (by decide) ?_
            obtain ⟨o34, h35, hf⟩ := obO hf
            obtain ⟨m37, g36, hf⟩ := ob hf
            refine r_callV X kw_X6_21 (ci := 6) rfl (c_X6_put l B D cA t13 x0 (47 : Int32) m37 g36) ⟨Nat.le_of_ble_eq_true rfl, Nat.le_of_ble_eq_true rfl⟩ h35 hR hS hl.1 rfl rfl (Nat.le_of_ble_eq_true rfl) ⟨Nat.le_of_ble_eq_true rfl, Nat.le_of_ble_eq_true rfl⟩ dX6_writeTwig_52 (fun H locs hR hS => ?_)
            refine W.eq (g2 := F0 mt 55 ls []) rfl ?_
            obtain rfl := Option.some.inj hf
            exact hJt23 H locs ls hR hS (lv_sub hl [0, 1, 2] rfl)
      have hf := hjt13
      clear hjt13
      refine lv_if_eq (tgt := 25) hx hb dX6_writeTwig_16 (by decide) (fun c14 => ?_) (fun c14 => ?_)
      · rw [if_pos c14] at hf
        obtain rfl := Option.some.inj hf
        exact hJt13 H locs ls hR hS (lv_sub hl [0, 1, 2] rfl)
      · rw [if_neg c14] at hf
        refine lv_aload_n hx hb dX6_writeTwig_19 rfl (lv_at hl 0 rfl) ?_
        refine lv_bipush (v := 59) hx hb dX6_writeTwig_20 (by decide) ?_
        obtain ⟨o15, h16, hf⟩ := obO hf
        obtain ⟨m18, g17, hf⟩ := ob hf
        refine r_callV X kw_X6_21 (ci := 6) rfl (c_X6_put l B D cA m5 x0 (59 : Int32) m18 g17) ⟨Nat.le_of_ble_eq_true rfl, Nat.le_of_ble_eq_true rfl⟩ h16 hR hS hl.1 rfl rfl (Nat.le_of_ble_eq_true rfl) ⟨Nat.le_of_ble_eq_true rfl, Nat.le_of_ble_eq_true rfl⟩ dX6_writeTwig_22 (fun H locs hR hS => ?_)
        refine W.eq (g2 := F0 mt 25 ls []) rfl ?_
        obtain rfl := Option.some.inj hf
        exact hJt13 H locs ls hR hS (lv_sub hl [0, 1, 2] rfl)
  · intro H locs ls hR hS hl
    obtain rfl := Option.some.inj hf
    exact r_vret X hr hlocks hR hS dX6_writeTwig_152
/-! ===== TwigMatches.isLabel(II)Z ===== -/
theorem dX7_isLabel_0 : decode cX7_isLabel 0 = .ok (.iload_n 0, 1) := by decide +kernel
theorem dX7_isLabel_1 : decode cX7_isLabel 1 = .ok (.ifCond .lt 23, 3) := by decide +kernel
theorem dX7_isLabel_4 : decode cX7_isLabel 4 = .ok (.iload_n 0, 1) := by decide +kernel
theorem dX7_isLabel_5 : decode cX7_isLabel 5 = .ok (.bipush 6, 2) := by decide +kernel
theorem dX7_isLabel_7 : decode cX7_isLabel 7 = .ok (.if_icmp .ge 17, 3) := by decide +kernel
theorem dX7_isLabel_10 : decode cX7_isLabel 10 = .ok (.iload_n 1, 1) := by decide +kernel
theorem dX7_isLabel_11 : decode cX7_isLabel 11 = .ok (.ifCond .lt 13, 3) := by decide +kernel
theorem dX7_isLabel_14 : decode cX7_isLabel 14 = .ok (.iload_n 1, 1) := by decide +kernel
theorem dX7_isLabel_15 : decode cX7_isLabel 15 = .ok (.bipush 10, 2) := by decide +kernel
theorem dX7_isLabel_17 : decode cX7_isLabel 17 = .ok (.if_icmp .ge 7, 3) := by decide +kernel
theorem dX7_isLabel_20 : decode cX7_isLabel 20 = .ok (.iconst 1, 1) := by decide +kernel
theorem dX7_isLabel_21 : decode cX7_isLabel 21 = .ok (.goto 4, 3) := by decide +kernel
theorem dX7_isLabel_24 : decode cX7_isLabel 24 = .ok (.iconst 0, 1) := by decide +kernel
theorem dX7_isLabel_25 : decode cX7_isLabel 25 = .ok (.ireturn, 1) := by decide +kernel
set_option maxHeartbeats 4000000 in
set_option maxRecDepth 100000 in
theorem c_X7_isLabel (l : Launch) (B : Nat) (D : va_G) (cA : Nat → ClassId) (m : Mm) (x0 : Int32) (x1 : Int32) (rZ : Int32) (hf : f_X7_isLabel m x0 x1 = some rZ) : Mt l B D cA yX7_isLabel cX7_isLabel 2 (some .boolean) 0 0 0 0 [.int x0, .int x1] m (some (.int rZ)) m := by
  refine r_start (by decide) (Nat.le_of_ble_eq_true rfl) ?_
  intro p e s mt args below meth c ls H locs X hr hlocks hnm hR hl hS
  have hx := X.1
  have hb := X.2.1
  have hl : lv_has ls 2 [(0, .int x0), (1, .int x1)] := hl
  unfold f_X7_isLabel at hf
  refine lv_iload_n hx hb dX7_isLabel_0 rfl (lv_at hl 0 rfl) ?_
  refine lv_if_lt (tgt := 24) hx hb dX7_isLabel_1 (by decide) (fun c1 => ?_) (fun c1 => ?_)
  · rw [if_pos c1] at hf
    refine lv_iconst (v := 0) hx hb dX7_isLabel_24 (by decide) ?_
    obtain rfl := Option.some.inj hf
    exact r_iret X hr hlocks hR hS rfl dX7_isLabel_25
  · rw [if_neg c1] at hf
    refine lv_iload_n hx hb dX7_isLabel_4 rfl (lv_at hl 0 rfl) ?_
    refine lv_bipush (v := 6) hx hb dX7_isLabel_5 (by decide) ?_
    refine lv_icmp_ge (tgt := 24) hx hb dX7_isLabel_7 (by decide) (fun c2 => ?_) (fun c2 => ?_)
    · rw [if_pos c2] at hf
      refine lv_iconst (v := 0) hx hb dX7_isLabel_24 (by decide) ?_
      obtain rfl := Option.some.inj hf
      exact r_iret X hr hlocks hR hS rfl dX7_isLabel_25
    · rw [if_neg c2] at hf
      refine lv_iload_n hx hb dX7_isLabel_10 rfl (lv_at hl 1 rfl) ?_
      refine lv_if_lt (tgt := 24) hx hb dX7_isLabel_11 (by decide) (fun c3 => ?_) (fun c3 => ?_)
      · rw [if_pos c3] at hf
        refine lv_iconst (v := 0) hx hb dX7_isLabel_24 (by decide) ?_
        obtain rfl := Option.some.inj hf
        exact r_iret X hr hlocks hR hS rfl dX7_isLabel_25
      · rw [if_neg c3] at hf
        refine lv_iload_n hx hb dX7_isLabel_14 rfl (lv_at hl 1 rfl) ?_
        refine lv_bipush (v := 10) hx hb dX7_isLabel_15 (by decide) ?_
        refine lv_icmp_ge (tgt := 24) hx hb dX7_isLabel_17 (by decide) (fun c4 => ?_) (fun c4 => ?_)
        · rw [if_pos c4] at hf
          refine lv_iconst (v := 0) hx hb dX7_isLabel_24 (by decide) ?_
          obtain rfl := Option.some.inj hf
          exact r_iret X hr hlocks hR hS rfl dX7_isLabel_25
        · rw [if_neg c4] at hf
          refine lv_iconst (v := 1) hx hb dX7_isLabel_20 (by decide) ?_
          refine lv_goto (tgt := 25) hx hb dX7_isLabel_21 (by decide) ?_
          obtain rfl := Option.some.inj hf
          exact r_iret X hr hlocks hR hS rfl dX7_isLabel_25
/-! ===== TwigMatches.failed(I)I ===== -/
theorem dX7_failed_0 : decode cX7_failed 0 = .ok (.iload_n 1, 1) := by decide +kernel
theorem dX7_failed_1 : decode cX7_failed 1 = .ok (.bipush (-2), 2) := by decide +kernel
theorem dX7_failed_3 : decode cX7_failed 3 = .ok (.if_icmp .ne 16, 3) := by decide +kernel
theorem dX7_failed_6 : decode cX7_failed 6 = .ok (.aload_n 0, 1) := by decide +kernel
theorem dX7_failed_7 : decode cX7_failed 7 = .ok (.dup, 1) := by decide +kernel
theorem dX7_failed_8 : decode cX7_failed 8 = .ok (.getfield 74, 3) := by decide +kernel
theorem dX7_failed_11 : decode cX7_failed 11 = .ok (.iconst 1, 1) := by decide +kernel
theorem dX7_failed_12 : decode cX7_failed 12 = .ok (.iadd, 1) := by decide +kernel
theorem dX7_failed_13 : decode cX7_failed 13 = .ok (.putfield 74, 3) := by decide +kernel
theorem dX7_failed_16 : decode cX7_failed 16 = .ok (.goto 32, 3) := by decide +kernel
theorem dX7_failed_19 : decode cX7_failed 19 = .ok (.iload_n 1, 1) := by decide +kernel
theorem dX7_failed_20 : decode cX7_failed 20 = .ok (.bipush (-3), 2) := by decide +kernel
theorem dX7_failed_22 : decode cX7_failed 22 = .ok (.if_icmp .ne 16, 3) := by decide +kernel
theorem dX7_failed_25 : decode cX7_failed 25 = .ok (.aload_n 0, 1) := by decide +kernel
theorem dX7_failed_26 : decode cX7_failed 26 = .ok (.dup, 1) := by decide +kernel
theorem dX7_failed_27 : decode cX7_failed 27 = .ok (.getfield 77, 3) := by decide +kernel
theorem dX7_failed_30 : decode cX7_failed 30 = .ok (.iconst 1, 1) := by decide +kernel
theorem dX7_failed_31 : decode cX7_failed 31 = .ok (.iadd, 1) := by decide +kernel
theorem dX7_failed_32 : decode cX7_failed 32 = .ok (.putfield 77, 3) := by decide +kernel
theorem dX7_failed_35 : decode cX7_failed 35 = .ok (.goto 13, 3) := by decide +kernel
theorem dX7_failed_38 : decode cX7_failed 38 = .ok (.aload_n 0, 1) := by decide +kernel
theorem dX7_failed_39 : decode cX7_failed 39 = .ok (.dup, 1) := by decide +kernel
theorem dX7_failed_40 : decode cX7_failed 40 = .ok (.getfield 80, 3) := by decide +kernel
theorem dX7_failed_43 : decode cX7_failed 43 = .ok (.iconst 1, 1) := by decide +kernel
theorem dX7_failed_44 : decode cX7_failed 44 = .ok (.iadd, 1) := by decide +kernel
theorem dX7_failed_45 : decode cX7_failed 45 = .ok (.putfield 80, 3) := by decide +kernel
theorem dX7_failed_48 : decode cX7_failed 48 = .ok (.iload_n 1, 1) := by decide +kernel
theorem dX7_failed_49 : decode cX7_failed 49 = .ok (.ireturn, 1) := by decide +kernel
set_option maxHeartbeats 4000000 in
set_option maxRecDepth 100000 in
theorem c_X7_failed (l : Launch) (B : Nat) (D : va_G) (cA : Nat → ClassId) (m : Mm) (x0 : Nat) (x1 : Int32) (rZ : Int32) (mZ : Mm) (hf : f_X7_failed m x0 x1 = some (rZ, mZ)) : Mt l B D cA yX7_failed cX7_failed 2 (some .int) 0 0 0 0 [.ref (B + x0), .int x1] m (some (.int rZ)) mZ := by
  refine r_start (by decide) (Nat.le_of_ble_eq_true rfl) ?_
  intro p e s mt args below meth c ls H locs X hr hlocks hnm hR hl hS
  have hx := X.1
  have hb := X.2.1
  have hl : lv_has ls 2 [(0, .ref (B + x0)), (1, .int x1)] := hl
  unfold f_X7_failed at hf
  refine lv_iload_n hx hb dX7_failed_0 rfl (lv_at hl 1 rfl) ?_
  refine lv_bipush (v := -2) hx hb dX7_failed_1 (by decide) ?_
  refine lv_icmp_ne (tgt := 19) hx hb dX7_failed_3 (by decide) (fun c1 => ?_) (fun c1 => ?_)
  · rw [if_neg c1] at hf
    refine lv_iload_n hx hb dX7_failed_19 rfl (lv_at hl 1 rfl) ?_
    refine lv_bipush (v := -3) hx hb dX7_failed_20 (by decide) ?_
    refine lv_icmp_ne (tgt := 38) hx hb dX7_failed_22 (by decide) (fun c2 => ?_) (fun c2 => ?_)
    · rw [if_neg c2] at hf
      refine lv_aload_n hx hb dX7_failed_38 rfl (lv_at hl 0 rfl) ?_
      refine lv_dup hx hb dX7_failed_39 rfl ?_
      obtain ⟨v3, g4, hf⟩ := ob hf
      refine gI_X7_80 X hR g4 dX7_failed_40 ?_
      refine lv_iconst (v := 1) hx hb dX7_failed_43 (by decide) ?_
      refine lv_iadd hx hb dX7_failed_44 ?_
      obtain ⟨m5, g6, hf⟩ := ob hf
      refine pI_X7_80 X hR hS g6 dX7_failed_45 (fun H locs hR hS => ?_)
      refine lv_iload_n hx hb dX7_failed_48 rfl (lv_at hl 1 rfl) ?_
      obtain ⟨rfl, rfl⟩ := Prod.mk.inj (Option.some.inj hf)
      exact r_iret X hr hlocks hR hS rfl dX7_failed_49
    · rw [if_pos c2] at hf
      refine lv_aload_n hx hb dX7_failed_25 rfl (lv_at hl 0 rfl) ?_
      refine lv_dup hx hb dX7_failed_26 rfl ?_
      obtain ⟨v7, g8, hf⟩ := ob hf
      refine gI_X7_77 X hR g8 dX7_failed_27 ?_
      refine lv_iconst (v := 1) hx hb dX7_failed_30 (by decide) ?_
      refine lv_iadd hx hb dX7_failed_31 ?_
      obtain ⟨m9, g10, hf⟩ := ob hf
      refine pI_X7_77 X hR hS g10 dX7_failed_32 (fun H locs hR hS => ?_)
      refine lv_goto (tgt := 48) hx hb dX7_failed_35 (by decide) ?_
      refine lv_iload_n hx hb dX7_failed_48 rfl (lv_at hl 1 rfl) ?_
      obtain ⟨rfl, rfl⟩ := Prod.mk.inj (Option.some.inj hf)
      exact r_iret X hr hlocks hR hS rfl dX7_failed_49
  · rw [if_pos c1] at hf
    refine lv_aload_n hx hb dX7_failed_6 rfl (lv_at hl 0 rfl) ?_
    refine lv_dup hx hb dX7_failed_7 rfl ?_
    obtain ⟨v11, g12, hf⟩ := ob hf
    refine gI_X7_74 X hR g12 dX7_failed_8 ?_
    refine lv_iconst (v := 1) hx hb dX7_failed_11 (by decide) ?_
    refine lv_iadd hx hb dX7_failed_12 ?_
    obtain ⟨m13, g14, hf⟩ := ob hf
    refine pI_X7_74 X hR hS g14 dX7_failed_13 (fun H locs hR hS => ?_)
    refine lv_goto (tgt := 48) hx hb dX7_failed_16 (by decide) ?_
    refine lv_iload_n hx hb dX7_failed_48 rfl (lv_at hl 1 rfl) ?_
    obtain ⟨rfl, rfl⟩ := Prod.mk.inj (Option.some.inj hf)
    exact r_iret X hr hlocks hR hS rfl dX7_failed_49
/-! ===== TwigMatches.keep()V ===== -/
theorem dX7_keep_0 : decode cX7_keep 0 = .ok (.aload_n 0, 1) := by decide +kernel
theorem dX7_keep_1 : decode cX7_keep 1 = .ok (.getfield 16, 3) := by decide +kernel
theorem dX7_keep_4 : decode cX7_keep 4 = .ok (.aload_n 0, 1) := by decide +kernel
theorem dX7_keep_5 : decode cX7_keep 5 = .ok (.getfield 20, 3) := by decide +kernel
theorem dX7_keep_8 : decode cX7_keep 8 = .ok (.aload_n 0, 1) := by decide +kernel
theorem dX7_keep_9 : decode cX7_keep 9 = .ok (.getfield 24, 3) := by decide +kernel
theorem dX7_keep_12 : decode cX7_keep 12 = .ok (.iadd, 1) := by decide +kernel
theorem dX7_keep_13 : decode cX7_keep 13 = .ok (.bipush 8, 2) := by decide +kernel
theorem dX7_keep_15 : decode cX7_keep 15 = .ok (.irem, 1) := by decide +kernel
theorem dX7_keep_16 : decode cX7_keep 16 = .ok (.aaload, 1) := by decide +kernel
theorem dX7_keep_17 : decode cX7_keep 17 = .ok (.aload_n 0, 1) := by decide +kernel
theorem dX7_keep_18 : decode cX7_keep 18 = .ok (.getfield 12, 3) := by decide +kernel
theorem dX7_keep_21 : decode cX7_keep 21 = .ok (.invokevirtual 259, 3) := by decide +kernel
theorem dX7_keep_24 : decode cX7_keep 24 = .ok (.aload_n 0, 1) := by decide +kernel
theorem dX7_keep_25 : decode cX7_keep 25 = .ok (.getfield 24, 3) := by decide +kernel
theorem dX7_keep_28 : decode cX7_keep 28 = .ok (.bipush 8, 2) := by decide +kernel
theorem dX7_keep_30 : decode cX7_keep 30 = .ok (.if_icmp .ge 16, 3) := by decide +kernel
theorem dX7_keep_33 : decode cX7_keep 33 = .ok (.aload_n 0, 1) := by decide +kernel
theorem dX7_keep_34 : decode cX7_keep 34 = .ok (.dup, 1) := by decide +kernel
theorem dX7_keep_35 : decode cX7_keep 35 = .ok (.getfield 24, 3) := by decide +kernel
theorem dX7_keep_38 : decode cX7_keep 38 = .ok (.iconst 1, 1) := by decide +kernel
theorem dX7_keep_39 : decode cX7_keep 39 = .ok (.iadd, 1) := by decide +kernel
theorem dX7_keep_40 : decode cX7_keep 40 = .ok (.putfield 24, 3) := by decide +kernel
theorem dX7_keep_43 : decode cX7_keep 43 = .ok (.goto 16, 3) := by decide +kernel
theorem dX7_keep_46 : decode cX7_keep 46 = .ok (.aload_n 0, 1) := by decide +kernel
theorem dX7_keep_47 : decode cX7_keep 47 = .ok (.aload_n 0, 1) := by decide +kernel
theorem dX7_keep_48 : decode cX7_keep 48 = .ok (.getfield 20, 3) := by decide +kernel
theorem dX7_keep_51 : decode cX7_keep 51 = .ok (.iconst 1, 1) := by decide +kernel
theorem dX7_keep_52 : decode cX7_keep 52 = .ok (.iadd, 1) := by decide +kernel
theorem dX7_keep_53 : decode cX7_keep 53 = .ok (.bipush 8, 2) := by decide +kernel
theorem dX7_keep_55 : decode cX7_keep 55 = .ok (.irem, 1) := by decide +kernel
theorem dX7_keep_56 : decode cX7_keep 56 = .ok (.putfield 20, 3) := by decide +kernel
theorem dX7_keep_59 : decode cX7_keep 59 = .ok (.return_, 1) := by decide +kernel
set_option maxHeartbeats 4000000 in
set_option maxRecDepth 100000 in
theorem c_X7_keep (l : Launch) (B : Nat) (D : va_G) (cA : Nat → ClassId) (m : Mm) (x0 : Nat) (mZ : Mm) (hf : f_X7_keep m x0 = some mZ) : Mt l B D cA yX7_keep cX7_keep 1 none 3 83 0 0 [.ref (B + x0)] m none mZ := by
  refine r_start (by decide) (Nat.le_of_ble_eq_true rfl) ?_
  intro p e s mt args below meth c ls H locs X hr hlocks hnm hR hl hS
  have hx := X.1
  have hb := X.2.1
  have hl : lv_has ls 1 [(0, .ref (B + x0))] := hl
  unfold f_X7_keep at hf
  refine lv_aload_n hx hb dX7_keep_0 rfl (lv_at hl 0 rfl) ?_
  obtain ⟨v1, g2, hf⟩ := ob hf
  refine gR_X7_16 X hR g2 dX7_keep_1 ?_
  refine lv_aload_n hx hb dX7_keep_4 rfl (lv_at hl 0 rfl) ?_
  obtain ⟨v3, g4, hf⟩ := ob hf
  refine gI_X7_20 X hR g4 dX7_keep_5 ?_
  refine lv_aload_n hx hb dX7_keep_8 rfl (lv_at hl 0 rfl) ?_
  obtain ⟨v5, g6, hf⟩ := ob hf
  refine gI_X7_24 X hR g6 dX7_keep_9 ?_
  refine lv_iadd hx hb dX7_keep_12 ?_
  refine lv_bipush (v := 8) hx hb dX7_keep_13 (by decide) ?_
  refine lv_irem hx hb dX7_keep_15 (by decide) ?_
  obtain ⟨v7, g8, hf⟩ := ob hf
  refine r_lR (k := 2) (ty := .object RX2) X hR rfl rfl g8 dX7_keep_16 ?_
  refine lv_aload_n hx hb dX7_keep_17 rfl (lv_at hl 0 rfl) ?_
  obtain ⟨v9, g10, hf⟩ := ob hf
  refine gR_X7_12 X hR g10 dX7_keep_18 ?_
  obtain ⟨o11, h12, hf⟩ := obO hf
  obtain ⟨m14, g13, hf⟩ := ob hf
  refine r_callV X kw_X7_259 (ci := 2) rfl (c_X2_copyFrom l B D cA m v7 v9 m14 g13) ⟨Nat.le_of_ble_eq_true rfl, Nat.le_of_ble_eq_true rfl⟩ h12 hR hS hl.1 rfl rfl (Nat.le_of_ble_eq_true rfl) ⟨Nat.le_of_ble_eq_true rfl, Nat.le_of_ble_eq_true rfl⟩ dX7_keep_21 (fun H locs hR hS => ?_)
  refine W.eq (g2 := F0 mt 24 ls []) rfl ?_
  refine lv_aload_n hx hb dX7_keep_24 rfl (lv_at hl 0 rfl) ?_
  obtain ⟨v15, g16, hf⟩ := ob hf
  refine gI_X7_24 X hR g16 dX7_keep_25 ?_
  refine lv_bipush (v := 8) hx hb dX7_keep_28 (by decide) ?_
  refine lv_icmp_ge (tgt := 46) hx hb dX7_keep_30 (by decide) (fun c17 => ?_) (fun c17 => ?_)
  · rw [if_pos c17] at hf
    refine lv_aload_n hx hb dX7_keep_46 rfl (lv_at hl 0 rfl) ?_
    refine lv_aload_n hx hb dX7_keep_47 rfl (lv_at hl 0 rfl) ?_
    obtain ⟨v18, g19, hf⟩ := ob hf
    refine gI_X7_20 X hR g19 dX7_keep_48 ?_
    refine lv_iconst (v := 1) hx hb dX7_keep_51 (by decide) ?_
    refine lv_iadd hx hb dX7_keep_52 ?_
    refine lv_bipush (v := 8) hx hb dX7_keep_53 (by decide) ?_
    refine lv_irem hx hb dX7_keep_55 (by decide) ?_
    obtain ⟨m20, g21, hf⟩ := ob hf
    refine pI_X7_20 X hR hS g21 dX7_keep_56 (fun H locs hR hS => ?_)
    obtain rfl := Option.some.inj hf
    exact r_vret X hr hlocks hR hS dX7_keep_59
  · rw [if_neg c17] at hf
    refine lv_aload_n hx hb dX7_keep_33 rfl (lv_at hl 0 rfl) ?_
    refine lv_dup hx hb dX7_keep_34 rfl ?_
    obtain ⟨v22, g23, hf⟩ := ob hf
    refine gI_X7_24 X hR g23 dX7_keep_35 ?_
    refine lv_iconst (v := 1) hx hb dX7_keep_38 (by decide) ?_
    refine lv_iadd hx hb dX7_keep_39 ?_
    obtain ⟨m24, g25, hf⟩ := ob hf
    refine pI_X7_24 X hR hS g25 dX7_keep_40 (fun H locs hR hS => ?_)
    refine lv_goto (tgt := 59) hx hb dX7_keep_43 (by decide) ?_
    obtain rfl := Option.some.inj hf
    exact r_vret X hr hlocks hR hS dX7_keep_59
