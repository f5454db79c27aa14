/-! ===== TwigMatchesModel.match(IJI)I ===== -/
theorem dX8_match_0 : decode cX8_match 0 = .ok (.iload_n 1, 1) := by decide +kernel
theorem dX8_match_1 : decode cX8_match 1 = .ok (.invokestatic 161, 3) := by decide +kernel
theorem dX8_match_4 : decode cX8_match 4 = .ok (.ifCond .eq 14, 3) := by decide +kernel
theorem dX8_match_7 : decode cX8_match 7 = .ok (.lload_n 2, 1) := by decide +kernel
theorem dX8_match_8 : decode cX8_match 8 = .ok (.lconst 0, 1) := by decide +kernel
theorem dX8_match_9 : decode cX8_match 9 = .ok (.lcmp, 1) := by decide +kernel
theorem dX8_match_10 : decode cX8_match 10 = .ok (.ifCond .lt 8, 3) := by decide +kernel
theorem dX8_match_13 : decode cX8_match 13 = .ok (.iload 4, 2) := by decide +kernel
theorem dX8_match_15 : decode cX8_match 15 = .ok (.ifCond .ge 8, 3) := by decide +kernel
theorem dX8_match_18 : decode cX8_match 18 = .ok (.aload_n 0, 1) := by decide +kernel
theorem dX8_match_19 : decode cX8_match 19 = .ok (.invokevirtual 134, 3) := by decide +kernel
theorem dX8_match_22 : decode cX8_match 22 = .ok (.ireturn, 1) := by decide +kernel
theorem dX8_match_23 : decode cX8_match 23 = .ok (.iload 4, 2) := by decide +kernel
theorem dX8_match_25 : decode cX8_match 25 = .ok (.aload_n 0, 1) := by decide +kernel
theorem dX8_match_26 : decode cX8_match 26 = .ok (.getfield 32, 3) := by decide +kernel
theorem dX8_match_29 : decode cX8_match 29 = .ok (.iload_n 1, 1) := by decide +kernel
theorem dX8_match_30 : decode cX8_match 30 = .ok (.iaload, 1) := by decide +kernel
theorem dX8_match_31 : decode cX8_match 31 = .ok (.if_icmp .lt 8, 3) := by decide +kernel
theorem dX8_match_34 : decode cX8_match 34 = .ok (.aload_n 0, 1) := by decide +kernel
theorem dX8_match_35 : decode cX8_match 35 = .ok (.invokevirtual 119, 3) := by decide +kernel
theorem dX8_match_38 : decode cX8_match 38 = .ok (.ireturn, 1) := by decide +kernel
theorem dX8_match_39 : decode cX8_match 39 = .ok (.lload_n 2, 1) := by decide +kernel
theorem dX8_match_40 : decode cX8_match 40 = .ok (.aload_n 0, 1) := by decide +kernel
theorem dX8_match_41 : decode cX8_match 41 = .ok (.iload_n 1, 1) := by decide +kernel
theorem dX8_match_42 : decode cX8_match 42 = .ok (.invokevirtual 205, 3) := by decide +kernel
theorem dX8_match_45 : decode cX8_match 45 = .ok (.lcmp, 1) := by decide +kernel
theorem dX8_match_46 : decode cX8_match 46 = .ok (.ifCond .lt 5, 3) := by decide +kernel
theorem dX8_match_49 : decode cX8_match 49 = .ok (.iconst (-1), 1) := by decide +kernel
theorem dX8_match_50 : decode cX8_match 50 = .ok (.ireturn, 1) := by decide +kernel
theorem dX8_match_51 : decode cX8_match 51 = .ok (.lload_n 2, 1) := by decide +kernel
theorem dX8_match_52 : decode cX8_match 52 = .ok (.lstore 5, 2) := by decide +kernel
theorem dX8_match_54 : decode cX8_match 54 = .ok (.iconst (-1), 1) := by decide +kernel
theorem dX8_match_55 : decode cX8_match 55 = .ok (.istore 7, 2) := by decide +kernel
theorem dX8_match_57 : decode cX8_match 57 = .ok (.iconst 0, 1) := by decide +kernel
theorem dX8_match_58 : decode cX8_match 58 = .ok (.istore 8, 2) := by decide +kernel
theorem dX8_match_60 : decode cX8_match 60 = .ok (.iload 8, 2) := by decide +kernel
theorem dX8_match_62 : decode cX8_match 62 = .ok (.iload 4, 2) := by decide +kernel
theorem dX8_match_64 : decode cX8_match 64 = .ok (.if_icmp .gt 66, 3) := by decide +kernel
theorem dX8_match_67 : decode cX8_match 67 = .ok (.iconst 0, 1) := by decide +kernel
theorem dX8_match_68 : decode cX8_match 68 = .ok (.istore 7, 2) := by decide +kernel
theorem dX8_match_70 : decode cX8_match 70 = .ok (.aload_n 0, 1) := by decide +kernel
theorem dX8_match_71 : decode cX8_match 71 = .ok (.getfield 47, 3) := by decide +kernel
theorem dX8_match_74 : decode cX8_match 74 = .ok (.iload 8, 2) := by decide +kernel
theorem dX8_match_76 : decode cX8_match 76 = .ok (.iconst 1, 1) := by decide +kernel
theorem dX8_match_77 : decode cX8_match 77 = .ok (.iastore, 1) := by decide +kernel
theorem dX8_match_78 : decode cX8_match 78 = .ok (.aload_n 0, 1) := by decide +kernel
theorem dX8_match_79 : decode cX8_match 79 = .ok (.iload_n 1, 1) := by decide +kernel
theorem dX8_match_80 : decode cX8_match 80 = .ok (.invokevirtual 201, 3) := by decide +kernel
theorem dX8_match_83 : decode cX8_match 83 = .ok (.lstore 9, 2) := by decide +kernel
theorem dX8_match_85 : decode cX8_match 85 = .ok (.lload 5, 2) := by decide +kernel
theorem dX8_match_87 : decode cX8_match 87 = .ok (.lload 9, 2) := by decide +kernel
theorem dX8_match_89 : decode cX8_match 89 = .ok (.lcmp, 1) := by decide +kernel
theorem dX8_match_90 : decode cX8_match 90 = .ok (.ifCond .lt 34, 3) := by decide +kernel
theorem dX8_match_93 : decode cX8_match 93 = .ok (.lload 5, 2) := by decide +kernel
theorem dX8_match_95 : decode cX8_match 95 = .ok (.lload 9, 2) := by decide +kernel
theorem dX8_match_97 : decode cX8_match 97 = .ok (.lsub, 1) := by decide +kernel
theorem dX8_match_98 : decode cX8_match 98 = .ok (.lstore 5, 2) := by decide +kernel
theorem dX8_match_100 : decode cX8_match 100 = .ok (.iinc 7 1, 3) := by decide +kernel
theorem dX8_match_103 : decode cX8_match 103 = .ok (.aload_n 0, 1) := by decide +kernel
theorem dX8_match_104 : decode cX8_match 104 = .ok (.getfield 47, 3) := by decide +kernel
theorem dX8_match_107 : decode cX8_match 107 = .ok (.iload 8, 2) := by decide +kernel
theorem dX8_match_109 : decode cX8_match 109 = .ok (.iconst 1, 1) := by decide +kernel
theorem dX8_match_110 : decode cX8_match 110 = .ok (.iload 7, 2) := by decide +kernel
theorem dX8_match_112 : decode cX8_match 112 = .ok (.ishl, 1) := by decide +kernel
theorem dX8_match_113 : decode cX8_match 113 = .ok (.iastore, 1) := by decide +kernel
theorem dX8_match_114 : decode cX8_match 114 = .ok (.aload_n 0, 1) := by decide +kernel
theorem dX8_match_115 : decode cX8_match 115 = .ok (.iload_n 1, 1) := by decide +kernel
theorem dX8_match_116 : decode cX8_match 116 = .ok (.invokevirtual 201, 3) := by decide +kernel
theorem dX8_match_119 : decode cX8_match 119 = .ok (.lstore 9, 2) := by decide +kernel
theorem dX8_match_121 : decode cX8_match 121 = .ok (.goto (-36), 3) := by decide +kernel
theorem dX8_match_124 : decode cX8_match 124 = .ok (.iinc 8 1, 3) := by decide +kernel
theorem dX8_match_127 : decode cX8_match 127 = .ok (.goto (-67), 3) := by decide +kernel
theorem dX8_match_130 : decode cX8_match 130 = .ok (.iload 7, 2) := by decide +kernel
theorem dX8_match_132 : decode cX8_match 132 = .ok (.ireturn, 1) := by decide +kernel
set_option maxHeartbeats 4000000 in
set_option maxRecDepth 100000 in
theorem c_X8_match (l : Launch) (B : Nat) (D : va_G) (cA : Nat → ClassId) (m : Mm) (x0 : Nat) (x1 : Int32) (x2 : Int64) (x4 : Int32) (rZ : Int32) (mZ : Mm) (hf : f_X8_match m x0 x1 x2 x4 = some (rZ, mZ)) : Mt l B D cA yX8_match cX8_match 11 (some .int) 6 143 0 0 [.ref (B + x0), .int x1, .long x2, .int x4] m (some (.int rZ)) mZ := by
  refine r_start (by decide) (Nat.le_of_ble_eq_true rfl) ?_
  intro p e s mt args below meth c ls H locs X hr hlocks hnm hR hl hS
  have hx := X.1
  have hb := X.2.1
  have hl : lv_has ls 11 [(0, .ref (B + x0)), (1, .int x1), (2, .long x2), (4, .int x4)] := hl
  unfold f_X8_match at hf
  refine lv_iload_n hx hb dX8_match_0 rfl (lv_at hl 1 rfl) ?_
  obtain ⟨v2, g1, hf⟩ := ob hf
  refine r_callS X kw_X8_161 (c_X8_isTwig l B D cA m x1 v2 g1) ⟨Nat.le_of_ble_eq_true rfl, Nat.le_of_ble_eq_true rfl⟩ hR hS hl.1 rfl rfl (Nat.le_of_ble_eq_true rfl) ⟨Nat.le_of_ble_eq_true rfl, Nat.le_of_ble_eq_true rfl⟩ dX8_match_1 (fun H locs hR hS => ?_)
  refine W.eq (g2 := F0 mt 4 ls [.int v2]) rfl ?_
  refine lv_if_eq (tgt := 18) hx hb dX8_match_4 (by decide) (fun c3 => ?_) (fun c3 => ?_)
  · rw [if_pos c3] at hf
    refine lv_aload_n hx hb dX8_match_18 rfl (lv_at hl 0 rfl) ?_
    obtain ⟨o4, h5, hf⟩ := obO hf
    obtain ⟨t7, g6, hf⟩ := ob hf
    refine r_callV X kw_X8_134 (ci := 8) rfl (c_X8_bad l B D cA m x0 t7.1 t7.2 g6) ⟨Nat.le_of_ble_eq_true rfl, Nat.le_of_ble_eq_true rfl⟩ h5 hR hS hl.1 rfl rfl (Nat.le_of_ble_eq_true rfl) ⟨Nat.le_of_ble_eq_true rfl, Nat.le_of_ble_eq_true rfl⟩ dX8_match_19 (fun H locs hR hS => ?_)
    refine W.eq (g2 := F0 mt 22 ls [.int t7.1]) rfl ?_
    obtain ⟨rfl, rfl⟩ := Prod.mk.inj (Option.some.inj hf)
    exact r_iret X hr hlocks hR hS rfl dX8_match_22
  · rw [if_neg c3] at hf
    refine lv_lload_n hx hb dX8_match_7 rfl (lv_at hl 2 rfl) ?_
    refine lv_lconst (v := 0) hx hb dX8_match_8 (by decide) ?_
    refine r_lc_lt (tgt := 18) X dX8_match_9 dX8_match_10 (by decide) (fun c8 => ?_) (fun c8 => ?_)
    · rw [if_pos c8] at hf
      refine lv_aload_n hx hb dX8_match_18 rfl (lv_at hl 0 rfl) ?_
      obtain ⟨o9, h10, hf⟩ := obO hf
      obtain ⟨t12, g11, hf⟩ := ob hf
      refine r_callV X kw_X8_134 (ci := 8) rfl (c_X8_bad l B D cA m x0 t12.1 t12.2 g11) ⟨Nat.le_of_ble_eq_true rfl, Nat.le_of_ble_eq_true rfl⟩ h10 hR hS hl.1 rfl rfl (Nat.le_of_ble_eq_true rfl) ⟨Nat.le_of_ble_eq_true rfl, Nat.le_of_ble_eq_true rfl⟩ dX8_match_19 (fun H locs hR hS => ?_)
      refine W.eq (g2 := F0 mt 22 ls [.int t12.1]) rfl ?_
      obtain ⟨rfl, rfl⟩ := Prod.mk.inj (Option.some.inj hf)
      exact r_iret X hr hlocks hR hS rfl dX8_match_22
    · rw [if_neg c8] at hf
      refine lv_iload hx hb dX8_match_13 (lv_at hl 3 rfl) ?_
      refine lv_if_ge (tgt := 23) hx hb dX8_match_15 (by decide) (fun c13 => ?_) (fun c13 => ?_)
      · rw [if_pos c13] at hf
        refine lv_iload hx hb dX8_match_23 (lv_at hl 3 rfl) ?_
        refine lv_aload_n hx hb dX8_match_25 rfl (lv_at hl 0 rfl) ?_
        obtain ⟨v14, g15, hf⟩ := ob hf
        refine gR_X8_32 X hR g15 dX8_match_26 ?_
        refine lv_iload_n hx hb dX8_match_29 rfl (lv_at hl 1 rfl) ?_
        obtain ⟨v16, g17, hf⟩ := ob hf
        refine r_lI X hR g17 dX8_match_30 ?_
        refine lv_icmp_lt (tgt := 39) hx hb dX8_match_31 (by decide) (fun c18 => ?_) (fun c18 => ?_)
        · rw [if_pos c18] at hf
          refine lv_lload_n hx hb dX8_match_39 rfl (lv_at hl 2 rfl) ?_
          refine lv_aload_n hx hb dX8_match_40 rfl (lv_at hl 0 rfl) ?_
          refine lv_iload_n hx hb dX8_match_41 rfl (lv_at hl 1 rfl) ?_
          obtain ⟨o19, h20, hf⟩ := obO hf
          obtain ⟨t22, g21, hf⟩ := ob hf
          refine r_callV X kw_X8_205 (ci := 8) rfl (c_X8_matchesOf l B D cA m x0 x1 t22.1 t22.2 g21) ⟨Nat.le_of_ble_eq_true rfl, Nat.le_of_ble_eq_true rfl⟩ h20 hR hS hl.1 rfl rfl (Nat.le_of_ble_eq_true rfl) ⟨Nat.le_of_ble_eq_true rfl, Nat.le_of_ble_eq_true rfl⟩ dX8_match_42 (fun H locs hR hS => ?_)
          refine W.eq (g2 := F0 mt 45 ls [.long t22.1, .long x2]) rfl ?_
          refine r_lc_lt (tgt := 51) X dX8_match_45 dX8_match_46 (by decide) (fun c23 => ?_) (fun c23 => ?_)
          · rw [if_pos c23] at hf
            refine lv_lload_n hx hb dX8_match_51 rfl (lv_at hl 2 rfl) ?_
            refine lv_lstore (lv' := [(5, .long x2), (0, .ref (B + x0)), (1, .int x1), (2, .long x2), (4, .int x4)]) hx hb dX8_match_52 hl (by decide) rfl (fun ls hl => ?_)
            refine lv_iconst (v := -1) hx hb dX8_match_54 (by decide) ?_
            refine lv_istore (lv' := [(7, .int (-1 : Int32)), (5, .long x2), (0, .ref (B + x0)), (1, .int x1), (2, .long x2), (4, .int x4)]) hx hb dX8_match_55 hl (by decide) rfl (fun ls hl => ?_)
            refine lv_iconst (v := 0) hx hb dX8_match_57 (by decide) ?_
            refine lv_istore (lv' := [(8, .int (0 : Int32)), (7, .int (-1 : Int32)), (5, .long x2), (0, .ref (B + x0)), (1, .int x1), (2, .long x2), (4, .int x4)]) hx hb dX8_match_58 hl (by decide) rfl (fun ls hl => ?_)
            obtain ⟨e25, hwe25, hf⟩ := ob hf
            refine whl_rule (P := (fun t24 => ∀ (H : Heap) (locs : List Loc) (ls : Array Slot), Rl B D cA t24.2.2.2 H → va_S (fun q => B ≤ q) s.heap H locs → lv_has ls 11 [(0, .ref (B + x0)), (1, .int x1), (4, .int x4), (5, .long t24.1), (7, .int t24.2.1), (8, .int t24.2.2.1)] → W p l e (rmm 6 0 0 143) s mt args below meth c H locs 0 0 (MQ below (mQ B D cA (some (.int rZ)) mZ) args s 0 0 (fun q => B ≤ q)) (F0 mt 60 ls []))) (Qx := (fun e25 => ∀ (H : Heap) (locs : List Loc) (ls : Array Slot), Rl B D cA e25.2 H → va_S (fun q => B ≤ q) s.heap H locs → lv_has ls 11 [(7, .int e25.1)] → W p l e (rmm 6 0 0 143) s mt args below meth c H locs 0 0 (MQ below (mQ B D cA (some (.int rZ)) mZ) args s 0 0 (fun q => B ≤ q)) (F0 mt 130 ls []))) ?_ FU _ e25 hwe25 ?_ H locs ls hR hS (lv_sub hl [3, 4, 6, 2, 1, 0] rfl)
            · clear hwe25 hf
              intro t24 q26 hf hxlq26 hxrq26 H locs ls hR hS hl
              obtain ⟨z27, z28, z29, m30⟩ := t24
              have hf : f_X8_match_L60 m30 x0 x1 x4 z27 z28 z29 = some q26 := hf
              have hR : Rl B D cA m30 H := hR
              have hl : lv_has ls 11 [(0, .ref (B + x0)), (1, .int x1), (4, .int x4), (5, .long z27), (7, .int z28), (8, .int z29)] := hl
              unfold f_X8_match_L60 at hf
              refine lv_iload hx hb dX8_match_60 (lv_at hl 5 rfl) ?_
              refine lv_iload hx hb dX8_match_62 (lv_at hl 2 rfl) ?_
              refine lv_icmp_gt (tgt := 130) hx hb dX8_match_64 (by decide) (fun c31 => ?_) (fun c31 => ?_)
              · rw [if_pos c31] at hf
                obtain rfl := Option.some.inj hf
                exact hxrq26 _ rfl H locs ls hR hS (lv_sub hl [4] rfl)
              · rw [if_neg c31] at hf
                refine lv_iconst (v := 0) hx hb dX8_match_67 (by decide) ?_
                refine lv_istore (lv' := [(7, .int (0 : Int32)), (0, .ref (B + x0)), (1, .int x1), (4, .int x4), (5, .long z27), (8, .int z29)]) hx hb dX8_match_68 hl (by decide) rfl (fun ls hl => ?_)
                refine lv_aload_n hx hb dX8_match_70 rfl (lv_at hl 1 rfl) ?_
                obtain ⟨v32, g33, hf⟩ := ob hf
                refine gR_X8_47 X hR g33 dX8_match_71 ?_
                refine lv_iload hx hb dX8_match_74 (lv_at hl 5 rfl) ?_
                refine lv_iconst (v := 1) hx hb dX8_match_76 (by decide) ?_
                obtain ⟨m34, g35, hf⟩ := ob hf
                refine r_sI X hR hS g35 dX8_match_77 (fun H locs hR hS => ?_)
                refine lv_aload_n hx hb dX8_match_78 rfl (lv_at hl 1 rfl) ?_
                refine lv_iload_n hx hb dX8_match_79 rfl (lv_at hl 2 rfl) ?_
                obtain ⟨o36, h37, hf⟩ := obO hf
                obtain ⟨t39, g38, hf⟩ := ob hf
                refine r_callV X kw_X8_201 (ci := 8) rfl (c_X8_counts l B D cA m34 x0 x1 t39.1 t39.2 g38) ⟨Nat.le_of_ble_eq_true rfl, Nat.le_of_ble_eq_true rfl⟩ h37 hR hS hl.1 rfl rfl (Nat.le_of_ble_eq_true rfl) ⟨Nat.le_of_ble_eq_true rfl, Nat.le_of_ble_eq_true rfl⟩ dX8_match_80 (fun H locs hR hS => ?_)
                refine W.eq (g2 := F0 mt 83 ls [.long t39.1]) rfl ?_
                refine lv_lstore (lv' := [(9, .long t39.1), (7, .int (0 : Int32)), (0, .ref (B + x0)), (1, .int x1), (4, .int x4), (5, .long z27), (8, .int z29)]) hx hb dX8_match_83 hl (by decide) rfl (fun ls hl => ?_)
                obtain ⟨e41, hwe41, hf⟩ := ob hf
                refine whl_rule (P := (fun t40 => ∀ (H : Heap) (locs : List Loc) (ls : Array Slot), Rl B D cA t40.2.2.2 H → va_S (fun q => B ≤ q) s.heap H locs → lv_has ls 11 [(0, .ref (B + x0)), (1, .int x1), (4, .int x4), (5, .long t40.1), (7, .int t40.2.1), (8, .int z29), (9, .long t40.2.2.1)] → W p l e (rmm 6 0 0 143) s mt args below meth c H locs 0 0 (MQ below (mQ B D cA (some (.int rZ)) mZ) args s 0 0 (fun q => B ≤ q)) (F0 mt 85 ls []))) (Qx := (fun e41 => ∀ (H : Heap) (locs : List Loc) (ls : Array Slot), Rl B D cA e41.2.2 H → va_S (fun q => B ≤ q) s.heap H locs → lv_has ls 11 [(0, .ref (B + x0)), (1, .int x1), (4, .int x4), (5, .long e41.1), (7, .int e41.2.1), (8, .int z29)] → W p l e (rmm 6 0 0 143) s mt args below meth c H locs 0 0 (MQ below (mQ B D cA (some (.int rZ)) mZ) args s 0 0 (fun q => B ≤ q)) (F0 mt 124 ls []))) ?_ FU _ e41 hwe41 ?_ H locs ls hR hS (lv_sub hl [2, 3, 4, 5, 1, 6, 0] rfl)
                · clear hwe41 hf
                  intro t40 q42 hf hxlq42 hxrq42 H locs ls hR hS hl
                  obtain ⟨z43, z44, z45, m46⟩ := t40
                  have hf : f_X8_match_L85 m46 x0 x1 x4 z29 z43 z44 z45 = some q42 := hf
                  have hR : Rl B D cA m46 H := hR
                  have hl : lv_has ls 11 [(0, .ref (B + x0)), (1, .int x1), (4, .int x4), (5, .long z43), (7, .int z44), (8, .int z29), (9, .long z45)] := hl
                  unfold f_X8_match_L85 at hf
                  refine lv_lload hx hb dX8_match_85 (lv_at hl 3 rfl) ?_
                  refine lv_lload hx hb dX8_match_87 (lv_at hl 6 rfl) ?_
                  refine r_lc_lt (tgt := 124) X dX8_match_89 dX8_match_90 (by decide) (fun c47 => ?_) (fun c47 => ?_)
                  · rw [if_pos c47] at hf
                    obtain rfl := Option.some.inj hf
                    exact hxrq42 _ rfl H locs ls hR hS (lv_sub hl [0, 1, 2, 3, 4, 5] rfl)
                  · rw [if_neg c47] at hf
                    refine lv_lload hx hb dX8_match_93 (lv_at hl 3 rfl) ?_
                    refine lv_lload hx hb dX8_match_95 (lv_at hl 6 rfl) ?_
                    refine lv_lsub hx hb dX8_match_97 ?_
                    refine lv_lstore (lv' := [(5, .long (z43 - z45)), (0, .ref (B + x0)), (1, .int x1), (4, .int x4), (7, .int z44), (8, .int z29), (9, .long z45)]) hx hb dX8_match_98 hl (by decide) rfl (fun ls hl => ?_)
                    refine lv_iinc (v := (z44 + 1)) (lv' := [(7, .int (z44 + 1)), (5, .long (z43 - z45)), (0, .ref (B + x0)), (1, .int x1), (4, .int x4), (8, .int z29), (9, .long z45)]) hx hb dX8_match_100 hl (k := 4) rfl (congrArg (fun z => z44 + z) (by decide)) (by decide) rfl (fun ls hl => ?_)
                    refine lv_aload_n hx hb dX8_match_103 rfl (lv_at hl 2 rfl) ?_
                    obtain ⟨v48, g49, hf⟩ := ob hf
                    refine gR_X8_47 X hR g49 dX8_match_104 ?_
                    refine lv_iload hx hb dX8_match_107 (lv_at hl 5 rfl) ?_
                    refine lv_iconst (v := 1) hx hb dX8_match_109 (by decide) ?_
                    refine lv_iload hx hb dX8_match_110 (lv_at hl 0 rfl) ?_
                    refine lv_ishl hx hb dX8_match_112 ?_
                    obtain ⟨m50, g51, hf⟩ := ob hf
                    refine r_sI X hR hS g51 dX8_match_113 (fun H locs hR hS => ?_)
                    refine lv_aload_n hx hb dX8_match_114 rfl (lv_at hl 2 rfl) ?_
                    refine lv_iload_n hx hb dX8_match_115 rfl (lv_at hl 3 rfl) ?_
                    obtain ⟨o52, h53, hf⟩ := obO hf
                    obtain ⟨t55, g54, hf⟩ := ob hf
                    refine r_callV X kw_X8_201 (ci := 8) rfl (c_X8_counts l B D cA m50 x0 x1 t55.1 t55.2 g54) ⟨Nat.le_of_ble_eq_true rfl, Nat.le_of_ble_eq_true rfl⟩ h53 hR hS hl.1 rfl rfl (Nat.le_of_ble_eq_true rfl) ⟨Nat.le_of_ble_eq_true rfl, Nat.le_of_ble_eq_true rfl⟩ dX8_match_116 (fun H locs hR hS => ?_)
                    refine W.eq (g2 := F0 mt 119 ls [.long t55.1]) rfl ?_
                    refine lv_lstore (lv' := [(9, .long t55.1), (7, .int (z44 + 1)), (5, .long (z43 - z45)), (0, .ref (B + x0)), (1, .int x1), (4, .int x4), (8, .int z29)]) hx hb dX8_match_119 hl (by decide) rfl (fun ls hl => ?_)
                    refine lv_goto (tgt := 85) hx hb dX8_match_121 (by decide) ?_
                    obtain rfl := Option.some.inj hf
                    exact hxlq42 _ rfl H locs ls hR hS (lv_sub hl [3, 4, 5, 2, 1, 6, 0] rfl)
                · intro H locs ls hR hS hl
                  refine lv_iinc (v := (z29 + 1)) (lv' := [(8, .int (z29 + 1)), (0, .ref (B + x0)), (1, .int x1), (4, .int x4), (5, .long e41.1), (7, .int e41.2.1)]) hx hb dX8_match_124 hl (k := 5) rfl (congrArg (fun z => z29 + z) (by decide)) (by decide) rfl (fun ls hl => ?_)
                  refine lv_goto (tgt := 60) hx hb dX8_match_127 (by decide) ?_
                  obtain rfl := Option.some.inj hf
                  exact hxlq26 _ rfl H locs ls hR hS (lv_sub hl [1, 2, 3, 4, 5, 0] rfl)
            · intro H locs ls hR hS hl
              refine lv_iload hx hb dX8_match_130 (lv_at hl 0 rfl) ?_
              obtain ⟨rfl, rfl⟩ := Prod.mk.inj (Option.some.inj hf)
              exact r_iret X hr hlocks hR hS rfl dX8_match_132
          · rw [if_neg c23] at hf
            refine lv_iconst (v := -1) hx hb dX8_match_49 (by decide) ?_
            obtain ⟨rfl, rfl⟩ := Prod.mk.inj (Option.some.inj hf)
            exact r_iret X hr hlocks hR hS rfl dX8_match_50
        · rw [if_neg c18] at hf
          refine lv_aload_n hx hb dX8_match_34 rfl (lv_at hl 0 rfl) ?_
          obtain ⟨o56, h57, hf⟩ := obO hf
          obtain ⟨t59, g58, hf⟩ := ob hf
          refine r_callV X kw_X8_119 (ci := 8) rfl (c_X8_no l B D cA m x0 t59.1 t59.2 g58) ⟨Nat.le_of_ble_eq_true rfl, Nat.le_of_ble_eq_true rfl⟩ h57 hR hS hl.1 rfl rfl (Nat.le_of_ble_eq_true rfl) ⟨Nat.le_of_ble_eq_true rfl, Nat.le_of_ble_eq_true rfl⟩ dX8_match_35 (fun H locs hR hS => ?_)
          refine W.eq (g2 := F0 mt 38 ls [.int t59.1]) rfl ?_
          obtain ⟨rfl, rfl⟩ := Prod.mk.inj (Option.some.inj hf)
          exact r_iret X hr hlocks hR hS rfl dX8_match_38
      · rw [if_neg c13] at hf
        refine lv_aload_n hx hb dX8_match_18 rfl (lv_at hl 0 rfl) ?_
        obtain ⟨o60, h61, hf⟩ := obO hf
        obtain ⟨t63, g62, hf⟩ := ob hf
        refine r_callV X kw_X8_134 (ci := 8) rfl (c_X8_bad l B D cA m x0 t63.1 t63.2 g62) ⟨Nat.le_of_ble_eq_true rfl, Nat.le_of_ble_eq_true rfl⟩ h61 hR hS hl.1 rfl rfl (Nat.le_of_ble_eq_true rfl) ⟨Nat.le_of_ble_eq_true rfl, Nat.le_of_ble_eq_true rfl⟩ dX8_match_19 (fun H locs hR hS => ?_)
        refine W.eq (g2 := F0 mt 22 ls [.int t63.1]) rfl ?_
        obtain ⟨rfl, rfl⟩ := Prod.mk.inj (Option.some.inj hf)
        exact r_iret X hr hlocks hR hS rfl dX8_match_22
/-! ===== TwigMatchesModel.place(IJ)J ===== -/
theorem dX8_place_0 : decode cX8_place 0 = .ok (.iload_n 1, 1) := by decide +kernel
theorem dX8_place_1 : decode cX8_place 1 = .ok (.invokestatic 161, 3) := by decide +kernel
theorem dX8_place_4 : decode cX8_place 4 = .ok (.ifCond .eq 9, 3) := by decide +kernel
theorem dX8_place_7 : decode cX8_place 7 = .ok (.lload_n 2, 1) := by decide +kernel
theorem dX8_place_8 : decode cX8_place 8 = .ok (.lconst 0, 1) := by decide +kernel
theorem dX8_place_9 : decode cX8_place 9 = .ok (.lcmp, 1) := by decide +kernel
theorem dX8_place_10 : decode cX8_place 10 = .ok (.ifCond .ge 9, 3) := by decide +kernel
theorem dX8_place_13 : decode cX8_place 13 = .ok (.aload_n 0, 1) := by decide +kernel
theorem dX8_place_14 : decode cX8_place 14 = .ok (.invokevirtual 134, 3) := by decide +kernel
theorem dX8_place_17 : decode cX8_place 17 = .ok (.i2l, 1) := by decide +kernel
theorem dX8_place_18 : decode cX8_place 18 = .ok (.lreturn, 1) := by decide +kernel
theorem dX8_place_19 : decode cX8_place 19 = .ok (.aload_n 0, 1) := by decide +kernel
theorem dX8_place_20 : decode cX8_place 20 = .ok (.getfield 32, 3) := by decide +kernel
theorem dX8_place_23 : decode cX8_place 23 = .ok (.iload_n 1, 1) := by decide +kernel
theorem dX8_place_24 : decode cX8_place 24 = .ok (.iaload, 1) := by decide +kernel
theorem dX8_place_25 : decode cX8_place 25 = .ok (.ifCond .ne 9, 3) := by decide +kernel
theorem dX8_place_28 : decode cX8_place 28 = .ok (.aload_n 0, 1) := by decide +kernel
theorem dX8_place_29 : decode cX8_place 29 = .ok (.invokevirtual 119, 3) := by decide +kernel
theorem dX8_place_32 : decode cX8_place 32 = .ok (.i2l, 1) := by decide +kernel
theorem dX8_place_33 : decode cX8_place 33 = .ok (.lreturn, 1) := by decide +kernel
theorem dX8_place_34 : decode cX8_place 34 = .ok (.lload_n 2, 1) := by decide +kernel
theorem dX8_place_35 : decode cX8_place 35 = .ok (.lstore 4, 2) := by decide +kernel
theorem dX8_place_37 : decode cX8_place 37 = .ok (.aload_n 0, 1) := by decide +kernel
theorem dX8_place_38 : decode cX8_place 38 = .ok (.getfield 32, 3) := by decide +kernel
theorem dX8_place_41 : decode cX8_place 41 = .ok (.iload_n 1, 1) := by decide +kernel
theorem dX8_place_42 : decode cX8_place 42 = .ok (.iaload, 1) := by decide +kernel
theorem dX8_place_43 : decode cX8_place 43 = .ok (.iconst 1, 1) := by decide +kernel
theorem dX8_place_44 : decode cX8_place 44 = .ok (.isub, 1) := by decide +kernel
theorem dX8_place_45 : decode cX8_place 45 = .ok (.istore 6, 2) := by decide +kernel
theorem dX8_place_47 : decode cX8_place 47 = .ok (.iload 6, 2) := by decide +kernel
theorem dX8_place_49 : decode cX8_place 49 = .ok (.ifCond .lt 31, 3) := by decide +kernel
theorem dX8_place_52 : decode cX8_place 52 = .ok (.aload_n 0, 1) := by decide +kernel
theorem dX8_place_53 : decode cX8_place 53 = .ok (.getfield 63, 3) := by decide +kernel
theorem dX8_place_56 : decode cX8_place 56 = .ok (.iload 6, 2) := by decide +kernel
theorem dX8_place_58 : decode cX8_place 58 = .ok (.lload 4, 2) := by decide +kernel
theorem dX8_place_60 : decode cX8_place 60 = .ok (.ldc2_w 208, 3) := by decide +kernel
theorem dX8_place_63 : decode cX8_place 63 = .ok (.lrem, 1) := by decide +kernel
theorem dX8_place_64 : decode cX8_place 64 = .ok (.l2i, 1) := by decide +kernel
theorem dX8_place_65 : decode cX8_place 65 = .ok (.iastore, 1) := by decide +kernel
theorem dX8_place_66 : decode cX8_place 66 = .ok (.lload 4, 2) := by decide +kernel
theorem dX8_place_68 : decode cX8_place 68 = .ok (.ldc2_w 208, 3) := by decide +kernel
theorem dX8_place_71 : decode cX8_place 71 = .ok (.ldiv, 1) := by decide +kernel
theorem dX8_place_72 : decode cX8_place 72 = .ok (.lstore 4, 2) := by decide +kernel
theorem dX8_place_74 : decode cX8_place 74 = .ok (.iinc 6 (-1), 3) := by decide +kernel
theorem dX8_place_77 : decode cX8_place 77 = .ok (.goto (-30), 3) := by decide +kernel
theorem dX8_place_80 : decode cX8_place 80 = .ok (.aload_n 0, 1) := by decide +kernel
theorem dX8_place_81 : decode cX8_place 81 = .ok (.invokevirtual 198, 3) := by decide +kernel
theorem dX8_place_84 : decode cX8_place 84 = .ok (.iconst 0, 1) := by decide +kernel
theorem dX8_place_85 : decode cX8_place 85 = .ok (.istore 6, 2) := by decide +kernel
theorem dX8_place_87 : decode cX8_place 87 = .ok (.iload 6, 2) := by decide +kernel
theorem dX8_place_89 : decode cX8_place 89 = .ok (.aload_n 0, 1) := by decide +kernel
theorem dX8_place_90 : decode cX8_place 90 = .ok (.getfield 32, 3) := by decide +kernel
theorem dX8_place_93 : decode cX8_place 93 = .ok (.iload_n 1, 1) := by decide +kernel
theorem dX8_place_94 : decode cX8_place 94 = .ok (.iaload, 1) := by decide +kernel
theorem dX8_place_95 : decode cX8_place 95 = .ok (.if_icmp .ge 25, 3) := by decide +kernel
theorem dX8_place_98 : decode cX8_place 98 = .ok (.aload_n 0, 1) := by decide +kernel
theorem dX8_place_99 : decode cX8_place 99 = .ok (.getfield 47, 3) := by decide +kernel
theorem dX8_place_102 : decode cX8_place 102 = .ok (.iload 6, 2) := by decide +kernel
theorem dX8_place_104 : decode cX8_place 104 = .ok (.iconst 1, 1) := by decide +kernel
theorem dX8_place_105 : decode cX8_place 105 = .ok (.aload_n 0, 1) := by decide +kernel
theorem dX8_place_106 : decode cX8_place 106 = .ok (.getfield 63, 3) := by decide +kernel
theorem dX8_place_109 : decode cX8_place 109 = .ok (.iload 6, 2) := by decide +kernel
theorem dX8_place_111 : decode cX8_place 111 = .ok (.iaload, 1) := by decide +kernel
theorem dX8_place_112 : decode cX8_place 112 = .ok (.ishl, 1) := by decide +kernel
theorem dX8_place_113 : decode cX8_place 113 = .ok (.iastore, 1) := by decide +kernel
theorem dX8_place_114 : decode cX8_place 114 = .ok (.iinc 6 1, 3) := by decide +kernel
theorem dX8_place_117 : decode cX8_place 117 = .ok (.goto (-30), 3) := by decide +kernel
theorem dX8_place_120 : decode cX8_place 120 = .ok (.lload 4, 2) := by decide +kernel
theorem dX8_place_122 : decode cX8_place 122 = .ok (.lconst 0, 1) := by decide +kernel
theorem dX8_place_123 : decode cX8_place 123 = .ok (.lcmp, 1) := by decide +kernel
theorem dX8_place_124 : decode cX8_place 124 = .ok (.ifCond .gt 13, 3) := by decide +kernel
theorem dX8_place_127 : decode cX8_place 127 = .ok (.aload_n 0, 1) := by decide +kernel
theorem dX8_place_128 : decode cX8_place 128 = .ok (.iload_n 1, 1) := by decide +kernel
theorem dX8_place_129 : decode cX8_place 129 = .ok (.invokevirtual 201, 3) := by decide +kernel
theorem dX8_place_132 : decode cX8_place 132 = .ok (.lconst 0, 1) := by decide +kernel
theorem dX8_place_133 : decode cX8_place 133 = .ok (.lcmp, 1) := by decide +kernel
theorem dX8_place_134 : decode cX8_place 134 = .ok (.ifCond .ne 7, 3) := by decide +kernel
theorem dX8_place_137 : decode cX8_place 137 = .ok (.ldc2_w 210, 3) := by decide +kernel
theorem dX8_place_140 : decode cX8_place 140 = .ok (.lreturn, 1) := by decide +kernel
theorem dX8_place_141 : decode cX8_place 141 = .ok (.aload_n 0, 1) := by decide +kernel
theorem dX8_place_142 : decode cX8_place 142 = .ok (.invokevirtual 198, 3) := by decide +kernel
theorem dX8_place_145 : decode cX8_place 145 = .ok (.lconst 0, 1) := by decide +kernel
theorem dX8_place_146 : decode cX8_place 146 = .ok (.lstore 6, 2) := by decide +kernel
theorem dX8_place_148 : decode cX8_place 148 = .ok (.iconst 0, 1) := by decide +kernel
theorem dX8_place_149 : decode cX8_place 149 = .ok (.istore 8, 2) := by decide +kernel
theorem dX8_place_151 : decode cX8_place 151 = .ok (.iload 8, 2) := by decide +kernel
theorem dX8_place_153 : decode cX8_place 153 = .ok (.aload_n 0, 1) := by decide +kernel
theorem dX8_place_154 : decode cX8_place 154 = .ok (.getfield 32, 3) := by decide +kernel
theorem dX8_place_157 : decode cX8_place 157 = .ok (.iload_n 1, 1) := by decide +kernel
theorem dX8_place_158 : decode cX8_place 158 = .ok (.iaload, 1) := by decide +kernel
theorem dX8_place_159 : decode cX8_place 159 = .ok (.if_icmp .ge 53, 3) := by decide +kernel
theorem dX8_place_162 : decode cX8_place 162 = .ok (.aload_n 0, 1) := by decide +kernel
theorem dX8_place_163 : decode cX8_place 163 = .ok (.getfield 47, 3) := by decide +kernel
theorem dX8_place_166 : decode cX8_place 166 = .ok (.iload 8, 2) := by decide +kernel
theorem dX8_place_168 : decode cX8_place 168 = .ok (.iconst 1, 1) := by decide +kernel
theorem dX8_place_169 : decode cX8_place 169 = .ok (.aload_n 0, 1) := by decide +kernel
theorem dX8_place_170 : decode cX8_place 170 = .ok (.getfield 63, 3) := by decide +kernel
theorem dX8_place_173 : decode cX8_place 173 = .ok (.iload 8, 2) := by decide +kernel
theorem dX8_place_175 : decode cX8_place 175 = .ok (.iaload, 1) := by decide +kernel
theorem dX8_place_176 : decode cX8_place 176 = .ok (.ishl, 1) := by decide +kernel
theorem dX8_place_177 : decode cX8_place 177 = .ok (.iconst 1, 1) := by decide +kernel
theorem dX8_place_178 : decode cX8_place 178 = .ok (.isub, 1) := by decide +kernel
theorem dX8_place_179 : decode cX8_place 179 = .ok (.iastore, 1) := by decide +kernel
theorem dX8_place_180 : decode cX8_place 180 = .ok (.lload 6, 2) := by decide +kernel
theorem dX8_place_182 : decode cX8_place 182 = .ok (.aload_n 0, 1) := by decide +kernel
theorem dX8_place_183 : decode cX8_place 183 = .ok (.iload_n 1, 1) := by decide +kernel
theorem dX8_place_184 : decode cX8_place 184 = .ok (.invokevirtual 201, 3) := by decide +kernel
theorem dX8_place_187 : decode cX8_place 187 = .ok (.ladd, 1) := by decide +kernel
theorem dX8_place_188 : decode cX8_place 188 = .ok (.lstore 6, 2) := by decide +kernel
theorem dX8_place_190 : decode cX8_place 190 = .ok (.aload_n 0, 1) := by decide +kernel
theorem dX8_place_191 : decode cX8_place 191 = .ok (.getfield 47, 3) := by decide +kernel
theorem dX8_place_194 : decode cX8_place 194 = .ok (.iload 8, 2) := by decide +kernel
theorem dX8_place_196 : decode cX8_place 196 = .ok (.iconst 1, 1) := by decide +kernel
theorem dX8_place_197 : decode cX8_place 197 = .ok (.aload_n 0, 1) := by decide +kernel
theorem dX8_place_198 : decode cX8_place 198 = .ok (.getfield 63, 3) := by decide +kernel
theorem dX8_place_201 : decode cX8_place 201 = .ok (.iload 8, 2) := by decide +kernel
theorem dX8_place_203 : decode cX8_place 203 = .ok (.iaload, 1) := by decide +kernel
theorem dX8_place_204 : decode cX8_place 204 = .ok (.ishl, 1) := by decide +kernel
theorem dX8_place_205 : decode cX8_place 205 = .ok (.iastore, 1) := by decide +kernel
theorem dX8_place_206 : decode cX8_place 206 = .ok (.iinc 8 1, 3) := by decide +kernel
theorem dX8_place_209 : decode cX8_place 209 = .ok (.goto (-58), 3) := by decide +kernel
theorem dX8_place_212 : decode cX8_place 212 = .ok (.lload 6, 2) := by decide +kernel
theorem dX8_place_214 : decode cX8_place 214 = .ok (.lreturn, 1) := by decide +kernel
set_option maxHeartbeats 4000000 in
set_option maxRecDepth 100000 in
theorem c_X8_place (l : Launch) (B : Nat) (D : va_G) (cA : Nat → ClassId) (m : Mm) (x0 : Nat) (x1 : Int32) (x2 : Int64) (rZ : Int64) (mZ : Mm) (hf : f_X8_place m x0 x1 x2 = some (rZ, mZ)) : Mt l B D cA yX8_place cX8_place 9 (some .long) 5 122 0 0 [.ref (B + x0), .int x1, .long x2] m (some (.long rZ)) mZ := by
  refine r_start (by decide) (Nat.le_of_ble_eq_true rfl) ?_
  intro p e s mt args below meth c ls H locs X hr hlocks hnm hR hl hS
  have hx := X.1
  have hb := X.2.1
  have hl : lv_has ls 9 [(0, .ref (B + x0)), (1, .int x1), (2, .long x2)] := hl
  unfold f_X8_place at hf
  refine lv_iload_n hx hb dX8_place_0 rfl (lv_at hl 1 rfl) ?_
  obtain ⟨v2, g1, hf⟩ := ob hf
  refine r_callS X kw_X8_161 (c_X8_isTwig l B D cA m x1 v2 g1) ⟨Nat.le_of_ble_eq_true rfl, Nat.le_of_ble_eq_true rfl⟩ hR hS hl.1 rfl rfl (Nat.le_of_ble_eq_true rfl) ⟨Nat.le_of_ble_eq_true rfl, Nat.le_of_ble_eq_true rfl⟩ dX8_place_1 (fun H locs hR hS => ?_)
  refine W.eq (g2 := F0 mt 4 ls [.int v2]) rfl ?_
  refine lv_if_eq (tgt := 13) hx hb dX8_place_4 (by decide) (fun c3 => ?_) (fun c3 => ?_)
  · rw [if_pos c3] at hf
    refine lv_aload_n hx hb dX8_place_13 rfl (lv_at hl 0 rfl) ?_
    obtain ⟨o4, h5, hf⟩ := obO hf
    obtain ⟨t7, g6, hf⟩ := ob hf
    refine r_callV X kw_X8_134 (ci := 8) rfl (c_X8_bad l B D cA m x0 t7.1 t7.2 g6) ⟨Nat.le_of_ble_eq_true rfl, Nat.le_of_ble_eq_true rfl⟩ h5 hR hS hl.1 rfl rfl (Nat.le_of_ble_eq_true rfl) ⟨Nat.le_of_ble_eq_true rfl, Nat.le_of_ble_eq_true rfl⟩ dX8_place_14 (fun H locs hR hS => ?_)
    refine W.eq (g2 := F0 mt 17 ls [.int t7.1]) rfl ?_
    refine lv_i2l (v := t7.1.toInt64) hx hb dX8_place_17 rfl ?_
    obtain ⟨rfl, rfl⟩ := Prod.mk.inj (Option.some.inj hf)
    exact r_lret X hr hlocks hR hS dX8_place_18
  · rw [if_neg c3] at hf
    refine lv_lload_n hx hb dX8_place_7 rfl (lv_at hl 2 rfl) ?_
    refine lv_lconst (v := 0) hx hb dX8_place_8 (by decide) ?_
    refine r_lc_ge (tgt := 19) X dX8_place_9 dX8_place_10 (by decide) (fun c8 => ?_) (fun c8 => ?_)
    · rw [if_pos c8] at hf
      refine lv_aload_n hx hb dX8_place_19 rfl (lv_at hl 0 rfl) ?_
      obtain ⟨v9, g10, hf⟩ := ob hf
      refine gR_X8_32 X hR g10 dX8_place_20 ?_
      refine lv_iload_n hx hb dX8_place_23 rfl (lv_at hl 1 rfl) ?_
      obtain ⟨v11, g12, hf⟩ := ob hf
      refine r_lI X hR g12 dX8_place_24 ?_
      refine lv_if_ne (tgt := 34) hx hb dX8_place_25 (by decide) (fun c13 => ?_) (fun c13 => ?_)
      · rw [if_neg c13] at hf
        refine lv_lload_n hx hb dX8_place_34 rfl (lv_at hl 2 rfl) ?_
        refine lv_lstore (lv' := [(4, .long x2), (0, .ref (B + x0)), (1, .int x1), (2, .long x2)]) hx hb dX8_place_35 hl (by decide) rfl (fun ls hl => ?_)
        refine lv_aload_n hx hb dX8_place_37 rfl (lv_at hl 1 rfl) ?_
        obtain ⟨v14, g15, hf⟩ := ob hf
        refine gR_X8_32 X hR g15 dX8_place_38 ?_
        refine lv_iload_n hx hb dX8_place_41 rfl (lv_at hl 2 rfl) ?_
        obtain ⟨v16, g17, hf⟩ := ob hf
        refine r_lI X hR g17 dX8_place_42 ?_
        refine lv_iconst (v := 1) hx hb dX8_place_43 (by decide) ?_
        refine lv_isub hx hb dX8_place_44 ?_
        refine lv_istore (lv' := [(6, .int (v16 - (1 : Int32))), (4, .long x2), (0, .ref (B + x0)), (1, .int x1), (2, .long x2)]) hx hb dX8_place_45 hl (by decide) rfl (fun ls hl => ?_)
        obtain ⟨e19, hwe19, hf⟩ := ob hf
        refine whl_rule (P := (fun t18 => ∀ (H : Heap) (locs : List Loc) (ls : Array Slot), Rl B D cA t18.2.2 H → va_S (fun q => B ≤ q) s.heap H locs → lv_has ls 9 [(0, .ref (B + x0)), (1, .int x1), (4, .long t18.1), (6, .int t18.2.1)] → W p l e (rmm 5 0 0 122) s mt args below meth c H locs 0 0 (MQ below (mQ B D cA (some (.long rZ)) mZ) args s 0 0 (fun q => B ≤ q)) (F0 mt 47 ls []))) (Qx := (fun e19 => ∀ (H : Heap) (locs : List Loc) (ls : Array Slot), Rl B D cA e19.2 H → va_S (fun q => B ≤ q) s.heap H locs → lv_has ls 9 [(0, .ref (B + x0)), (1, .int x1), (4, .long e19.1)] → W p l e (rmm 5 0 0 122) s mt args below meth c H locs 0 0 (MQ below (mQ B D cA (some (.long rZ)) mZ) args s 0 0 (fun q => B ≤ q)) (F0 mt 80 ls []))) ?_ FU _ e19 hwe19 ?_ H locs ls hR hS (lv_sub hl [2, 3, 1, 0] rfl)
        · clear hwe19 hf
          intro t18 q20 hf hxlq20 hxrq20 H locs ls hR hS hl
          obtain ⟨z21, z22, m23⟩ := t18
          have hf : f_X8_place_L47 m23 x0 x1 z21 z22 = some q20 := hf
          have hR : Rl B D cA m23 H := hR
          have hl : lv_has ls 9 [(0, .ref (B + x0)), (1, .int x1), (4, .long z21), (6, .int z22)] := hl
          unfold f_X8_place_L47 at hf
          refine lv_iload hx hb dX8_place_47 (lv_at hl 3 rfl) ?_
          refine lv_if_lt (tgt := 80) hx hb dX8_place_49 (by decide) (fun c24 => ?_) (fun c24 => ?_)
          · rw [if_pos c24] at hf
            obtain rfl := Option.some.inj hf
            exact hxrq20 _ rfl H locs ls hR hS (lv_sub hl [0, 1, 2] rfl)
          · rw [if_neg c24] at hf
            refine lv_aload_n hx hb dX8_place_52 rfl (lv_at hl 0 rfl) ?_
            obtain ⟨v25, g26, hf⟩ := ob hf
            refine gR_X8_63 X hR g26 dX8_place_53 ?_
            refine lv_iload hx hb dX8_place_56 (lv_at hl 3 rfl) ?_
            refine lv_lload hx hb dX8_place_58 (lv_at hl 2 rfl) ?_
            refine lv_ldc2 (v := 32) hx hb X.2.2.2.1 (X.2.2.2.2.1 _ (tb5 35 rfl rfl)) dX8_place_60 ?_
            refine lv_lrem hx hb dX8_place_63 (by decide) ?_
            refine lv_l2i (v := (z21 - z21 / (32 : Int64) * (32 : Int64)).toInt32) hx hb dX8_place_64 rfl ?_
            obtain ⟨m27, g28, hf⟩ := ob hf
            refine r_sI X hR hS g28 dX8_place_65 (fun H locs hR hS => ?_)
            refine lv_lload hx hb dX8_place_66 (lv_at hl 2 rfl) ?_
            refine lv_ldc2 (v := 32) hx hb X.2.2.2.1 (X.2.2.2.2.1 _ (tb5 35 rfl rfl)) dX8_place_68 ?_
            refine lv_ldiv hx hb dX8_place_71 (by decide) ?_
            refine lv_lstore (lv' := [(4, .long (z21 / (32 : Int64))), (0, .ref (B + x0)), (1, .int x1), (6, .int z22)]) hx hb dX8_place_72 hl (by decide) rfl (fun ls hl => ?_)
            refine lv_iinc (v := (z22 + (-1))) (lv' := [(6, .int (z22 + (-1))), (4, .long (z21 / (32 : Int64))), (0, .ref (B + x0)), (1, .int x1)]) hx hb dX8_place_74 hl (k := 3) rfl (congrArg (fun z => z22 + z) (by decide)) (by decide) rfl (fun ls hl => ?_)
            refine lv_goto (tgt := 47) hx hb dX8_place_77 (by decide) ?_
            obtain rfl := Option.some.inj hf
            exact hxlq20 _ rfl H locs ls hR hS (lv_sub hl [2, 3, 1, 0] rfl)
        · intro H locs ls hR hS hl
          refine lv_aload_n hx hb dX8_place_80 rfl (lv_at hl 0 rfl) ?_
          obtain ⟨o29, h30, hf⟩ := obO hf
          obtain ⟨m32, g31, hf⟩ := ob hf
          refine r_callV X kw_X8_198 (ci := 8) rfl (c_X8_mayAll l B D cA e19.2 x0 m32 g31) ⟨Nat.le_of_ble_eq_true rfl, Nat.le_of_ble_eq_true rfl⟩ h30 hR hS hl.1 rfl rfl (Nat.le_of_ble_eq_true rfl) ⟨Nat.le_of_ble_eq_true rfl, Nat.le_of_ble_eq_true rfl⟩ dX8_place_81 (fun H locs hR hS => ?_)
          refine W.eq (g2 := F0 mt 84 ls []) rfl ?_
          refine lv_iconst (v := 0) hx hb dX8_place_84 (by decide) ?_
          refine lv_istore (lv' := [(6, .int (0 : Int32)), (0, .ref (B + x0)), (1, .int x1), (4, .long e19.1)]) hx hb dX8_place_85 hl (by decide) rfl (fun ls hl => ?_)
          obtain ⟨e34, hwe34, hf⟩ := ob hf
          refine whl_rule (P := (fun t33 => ∀ (H : Heap) (locs : List Loc) (ls : Array Slot), Rl B D cA t33.2 H → va_S (fun q => B ≤ q) s.heap H locs → lv_has ls 9 [(0, .ref (B + x0)), (1, .int x1), (4, .long e19.1), (6, .int t33.1)] → W p l e (rmm 5 0 0 122) s mt args below meth c H locs 0 0 (MQ below (mQ B D cA (some (.long rZ)) mZ) args s 0 0 (fun q => B ≤ q)) (F0 mt 87 ls []))) (Qx := (fun e34 => ∀ (H : Heap) (locs : List Loc) (ls : Array Slot), Rl B D cA e34 H → va_S (fun q => B ≤ q) s.heap H locs → lv_has ls 9 [(0, .ref (B + x0)), (1, .int x1), (4, .long e19.1)] → W p l e (rmm 5 0 0 122) s mt args below meth c H locs 0 0 (MQ below (mQ B D cA (some (.long rZ)) mZ) args s 0 0 (fun q => B ≤ q)) (F0 mt 120 ls []))) ?_ FU _ e34 hwe34 ?_ H locs ls hR hS (lv_sub hl [1, 2, 3, 0] rfl)
          · clear hwe34 hf
            intro t33 q35 hf hxlq35 hxrq35 H locs ls hR hS hl
            obtain ⟨z36, m37⟩ := t33
            have hf : f_X8_place_L87 m37 x0 x1 e19.1 z36 = some q35 := hf
            have hR : Rl B D cA m37 H := hR
            have hl : lv_has ls 9 [(0, .ref (B + x0)), (1, .int x1), (4, .long e19.1), (6, .int z36)] := hl
            unfold f_X8_place_L87 at hf
            refine lv_iload hx hb dX8_place_87 (lv_at hl 3 rfl) ?_
            refine lv_aload_n hx hb dX8_place_89 rfl (lv_at hl 0 rfl) ?_
            obtain ⟨v38, g39, hf⟩ := ob hf
            refine gR_X8_32 X hR g39 dX8_place_90 ?_
            refine lv_iload_n hx hb dX8_place_93 rfl (lv_at hl 1 rfl) ?_
            obtain ⟨v40, g41, hf⟩ := ob hf
            refine r_lI X hR g41 dX8_place_94 ?_
            refine lv_icmp_ge (tgt := 120) hx hb dX8_place_95 (by decide) (fun c42 => ?_) (fun c42 => ?_)
            · rw [if_pos c42] at hf
              obtain rfl := Option.some.inj hf
              exact hxrq35 _ rfl H locs ls hR hS (lv_sub hl [0, 1, 2] rfl)
            · rw [if_neg c42] at hf
              refine lv_aload_n hx hb dX8_place_98 rfl (lv_at hl 0 rfl) ?_
              obtain ⟨v43, g44, hf⟩ := ob hf
              refine gR_X8_47 X hR g44 dX8_place_99 ?_
              refine lv_iload hx hb dX8_place_102 (lv_at hl 3 rfl) ?_
              refine lv_iconst (v := 1) hx hb dX8_place_104 (by decide) ?_
              refine lv_aload_n hx hb dX8_place_105 rfl (lv_at hl 0 rfl) ?_
              obtain ⟨v45, g46, hf⟩ := ob hf
              refine gR_X8_63 X hR g46 dX8_place_106 ?_
              refine lv_iload hx hb dX8_place_109 (lv_at hl 3 rfl) ?_
              obtain ⟨v47, g48, hf⟩ := ob hf
              refine r_lI X hR g48 dX8_place_111 ?_
              refine lv_ishl hx hb dX8_place_112 ?_
              obtain ⟨m49, g50, hf⟩ := ob hf
              refine r_sI X hR hS g50 dX8_place_113 (fun H locs hR hS => ?_)
              refine lv_iinc (v := (z36 + 1)) (lv' := [(6, .int (z36 + 1)), (0, .ref (B + x0)), (1, .int x1), (4, .long e19.1)]) hx hb dX8_place_114 hl (k := 3) rfl (congrArg (fun z => z36 + z) (by decide)) (by decide) rfl (fun ls hl => ?_)
              refine lv_goto (tgt := 87) hx hb dX8_place_117 (by decide) ?_
              obtain rfl := Option.some.inj hf
              exact hxlq35 _ rfl H locs ls hR hS (lv_sub hl [1, 2, 3, 0] rfl)
          · intro H locs ls hR hS hl
            refine lv_lload hx hb dX8_place_120 (lv_at hl 2 rfl) ?_
            refine lv_lconst (v := 0) hx hb dX8_place_122 (by decide) ?_
            refine r_lc_gt (tgt := 137) X dX8_place_123 dX8_place_124 (by decide) (fun c51 => ?_) (fun c51 => ?_)
            · rw [if_pos c51] at hf
              refine lv_ldc2 (v := -1) hx hb X.2.2.2.1 (X.2.2.2.2.1 _ (tb5 36 rfl rfl)) dX8_place_137 ?_
              obtain ⟨rfl, rfl⟩ := Prod.mk.inj (Option.some.inj hf)
              exact r_lret X hr hlocks hR hS dX8_place_140
            · rw [if_neg c51] at hf
              refine lv_aload_n hx hb dX8_place_127 rfl (lv_at hl 0 rfl) ?_
              refine lv_iload_n hx hb dX8_place_128 rfl (lv_at hl 1 rfl) ?_
              obtain ⟨o52, h53, hf⟩ := obO hf
              obtain ⟨t55, g54, hf⟩ := ob hf
              refine r_callV X kw_X8_201 (ci := 8) rfl (c_X8_counts l B D cA e34 x0 x1 t55.1 t55.2 g54) ⟨Nat.le_of_ble_eq_true rfl, Nat.le_of_ble_eq_true rfl⟩ h53 hR hS hl.1 rfl rfl (Nat.le_of_ble_eq_true rfl) ⟨Nat.le_of_ble_eq_true rfl, Nat.le_of_ble_eq_true rfl⟩ dX8_place_129 (fun H locs hR hS => ?_)
              refine W.eq (g2 := F0 mt 132 ls [.long t55.1]) rfl ?_
              refine lv_lconst (v := 0) hx hb dX8_place_132 (by decide) ?_
              refine r_lc_ne (tgt := 141) X dX8_place_133 dX8_place_134 (by decide) (fun c56 => ?_) (fun c56 => ?_)
              · rw [if_neg c56] at hf
                refine lv_aload_n hx hb dX8_place_141 rfl (lv_at hl 0 rfl) ?_
                obtain ⟨o57, h58, hf⟩ := obO hf
                obtain ⟨m60, g59, hf⟩ := ob hf
                refine r_callV X kw_X8_198 (ci := 8) rfl (c_X8_mayAll l B D cA t55.2 x0 m60 g59) ⟨Nat.le_of_ble_eq_true rfl, Nat.le_of_ble_eq_true rfl⟩ h58 hR hS hl.1 rfl rfl (Nat.le_of_ble_eq_true rfl) ⟨Nat.le_of_ble_eq_true rfl, Nat.le_of_ble_eq_true rfl⟩ dX8_place_142 (fun H locs hR hS => ?_)
                refine W.eq (g2 := F0 mt 145 ls []) rfl ?_
                refine lv_lconst (v := 0) hx hb dX8_place_145 (by decide) ?_
                refine lv_lstore (lv' := [(6, .long (0 : Int64)), (0, .ref (B + x0)), (1, .int x1), (4, .long e19.1)]) hx hb dX8_place_146 hl (by decide) rfl (fun ls hl => ?_)
                refine lv_iconst (v := 0) hx hb dX8_place_148 (by decide) ?_
                refine lv_istore (lv' := [(8, .int (0 : Int32)), (6, .long (0 : Int64)), (0, .ref (B + x0)), (1, .int x1), (4, .long e19.1)]) hx hb dX8_place_149 hl (by decide) rfl (fun ls hl => ?_)
                obtain ⟨e62, hwe62, hf⟩ := ob hf
                refine whl_rule (P := (fun t61 => ∀ (H : Heap) (locs : List Loc) (ls : Array Slot), Rl B D cA t61.2.2 H → va_S (fun q => B ≤ q) s.heap H locs → lv_has ls 9 [(0, .ref (B + x0)), (1, .int x1), (6, .long t61.1), (8, .int t61.2.1)] → W p l e (rmm 5 0 0 122) s mt args below meth c H locs 0 0 (MQ below (mQ B D cA (some (.long rZ)) mZ) args s 0 0 (fun q => B ≤ q)) (F0 mt 151 ls []))) (Qx := (fun e62 => ∀ (H : Heap) (locs : List Loc) (ls : Array Slot), Rl B D cA e62.2 H → va_S (fun q => B ≤ q) s.heap H locs → lv_has ls 9 [(6, .long e62.1)] → W p l e (rmm 5 0 0 122) s mt args below meth c H locs 0 0 (MQ below (mQ B D cA (some (.long rZ)) mZ) args s 0 0 (fun q => B ≤ q)) (F0 mt 212 ls []))) ?_ FU _ e62 hwe62 ?_ H locs ls hR hS (lv_sub hl [2, 3, 1, 0] rfl)
                · clear hwe62 hf
                  intro t61 q63 hf hxlq63 hxrq63 H locs ls hR hS hl
                  obtain ⟨z64, z65, m66⟩ := t61
                  have hf : f_X8_place_L151 m66 x0 x1 z64 z65 = some q63 := hf
                  have hR : Rl B D cA m66 H := hR
                  have hl : lv_has ls 9 [(0, .ref (B + x0)), (1, .int x1), (6, .long z64), (8, .int z65)] := hl
                  unfold f_X8_place_L151 at hf
                  refine lv_iload hx hb dX8_place_151 (lv_at hl 3 rfl) ?_
                  refine lv_aload_n hx hb dX8_place_153 rfl (lv_at hl 0 rfl) ?_
                  obtain ⟨v67, g68, hf⟩ := ob hf
                  refine gR_X8_32 X hR g68 dX8_place_154 ?_
                  refine lv_iload_n hx hb dX8_place_157 rfl (lv_at hl 1 rfl) ?_
                  obtain ⟨v69, g70, hf⟩ := ob hf
                  refine r_lI X hR g70 dX8_place_158 ?_
                  refine lv_icmp_ge (tgt := 212) hx hb dX8_place_159 (by decide) (fun c71 => ?_) (fun c71 => ?_)
                  · rw [if_pos c71] at hf
                    obtain rfl := Option.some.inj hf
                    exact hxrq63 _ rfl H locs ls hR hS (lv_sub hl [2] rfl)
                  · rw [if_neg c71] at hf
                    refine lv_aload_n hx hb dX8_place_162 rfl (lv_at hl 0 rfl) ?_
                    obtain ⟨v72, g73, hf⟩ := ob hf
                    refine gR_X8_47 X hR g73 dX8_place_163 ?_
                    refine lv_iload hx hb dX8_place_166 (lv_at hl 3 rfl) ?_
                    refine lv_iconst (v := 1) hx hb dX8_place_168 (by decide) ?_
                    refine lv_aload_n hx hb dX8_place_169 rfl (lv_at hl 0 rfl) ?_
                    obtain ⟨v74, g75, hf⟩ := ob hf
                    refine gR_X8_63 X hR g75 dX8_place_170 ?_
                    refine lv_iload hx hb dX8_place_173 (lv_at hl 3 rfl) ?_
                    obtain ⟨v76, g77, hf⟩ := ob hf
                    refine r_lI X hR g77 dX8_place_175 ?_
                    refine lv_ishl hx hb dX8_place_176 ?_
                    refine lv_iconst (v := 1) hx hb dX8_place_177 (by decide) ?_
                    refine lv_isub hx hb dX8_place_178 ?_
                    obtain ⟨m78, g79, hf⟩ := ob hf
                    refine r_sI X hR hS g79 dX8_place_179 (fun H locs hR hS => ?_)
                    refine lv_lload hx hb dX8_place_180 (lv_at hl 2 rfl) ?_
                    refine lv_aload_n hx hb dX8_place_182 rfl (lv_at hl 0 rfl) ?_
                    refine lv_iload_n hx hb dX8_place_183 rfl (lv_at hl 1 rfl) ?_
                    obtain ⟨o80, h81, hf⟩ := obO hf
                    obtain ⟨t83, g82, hf⟩ := ob hf
                    refine r_callV X kw_X8_201 (ci := 8) rfl (c_X8_counts l B D cA m78 x0 x1 t83.1 t83.2 g82) ⟨Nat.le_of_ble_eq_true rfl, Nat.le_of_ble_eq_true rfl⟩ h81 hR hS hl.1 rfl rfl (Nat.le_of_ble_eq_true rfl) ⟨Nat.le_of_ble_eq_true rfl, Nat.le_of_ble_eq_true rfl⟩ dX8_place_184 (fun H locs hR hS => ?_)
                    refine W.eq (g2 := F0 mt 187 ls [.long t83.1, .long z64]) rfl ?_
                    refine lv_ladd hx hb dX8_place_187 ?_
                    refine lv_lstore (lv' := [(6, .long (z64 + t83.1)), (0, .ref (B + x0)), (1, .int x1), (8, .int z65)]) hx hb dX8_place_188 hl (by decide) rfl (fun ls hl => ?_)
                    refine lv_aload_n hx hb dX8_place_190 rfl (lv_at hl 1 rfl) ?_
                    obtain ⟨v84, g85, hf⟩ := ob hf
                    refine gR_X8_47 X hR g85 dX8_place_191 ?_
                    refine lv_iload hx hb dX8_place_194 (lv_at hl 3 rfl) ?_
                    refine lv_iconst (v := 1) hx hb dX8_place_196 (by decide) ?_
                    refine lv_aload_n hx hb dX8_place_197 rfl (lv_at hl 1 rfl) ?_
                    obtain ⟨v86, g87, hf⟩ := ob hf
                    refine gR_X8_63 X hR g87 dX8_place_198 ?_
                    refine lv_iload hx hb dX8_place_201 (lv_at hl 3 rfl) ?_
                    obtain ⟨v88, g89, hf⟩ := ob hf
                    refine r_lI X hR g89 dX8_place_203 ?_
                    refine lv_ishl hx hb dX8_place_204 ?_
                    obtain ⟨m90, g91, hf⟩ := ob hf
                    refine r_sI X hR hS g91 dX8_place_205 (fun H locs hR hS => ?_)
                    refine lv_iinc (v := (z65 + 1)) (lv' := [(8, .int (z65 + 1)), (6, .long (z64 + t83.1)), (0, .ref (B + x0)), (1, .int x1)]) hx hb dX8_place_206 hl (k := 3) rfl (congrArg (fun z => z65 + z) (by decide)) (by decide) rfl (fun ls hl => ?_)
                    refine lv_goto (tgt := 151) hx hb dX8_place_209 (by decide) ?_
                    obtain rfl := Option.some.inj hf
                    exact hxlq63 _ rfl H locs ls hR hS (lv_sub hl [2, 3, 1, 0] rfl)
                · intro H locs ls hR hS hl
                  refine lv_lload hx hb dX8_place_212 (lv_at hl 0 rfl) ?_
                  obtain ⟨rfl, rfl⟩ := Prod.mk.inj (Option.some.inj hf)
                  exact r_lret X hr hlocks hR hS dX8_place_214
              · rw [if_pos c56] at hf
                refine lv_ldc2 (v := -1) hx hb X.2.2.2.1 (X.2.2.2.2.1 _ (tb5 36 rfl rfl)) dX8_place_137 ?_
                obtain ⟨rfl, rfl⟩ := Prod.mk.inj (Option.some.inj hf)
                exact r_lret X hr hlocks hR hS dX8_place_140
      · rw [if_pos c13] at hf
        refine lv_aload_n hx hb dX8_place_28 rfl (lv_at hl 0 rfl) ?_
        obtain ⟨o92, h93, hf⟩ := obO hf
        obtain ⟨t95, g94, hf⟩ := ob hf
        refine r_callV X kw_X8_119 (ci := 8) rfl (c_X8_no l B D cA m x0 t95.1 t95.2 g94) ⟨Nat.le_of_ble_eq_true rfl, Nat.le_of_ble_eq_true rfl⟩ h93 hR hS hl.1 rfl rfl (Nat.le_of_ble_eq_true rfl) ⟨Nat.le_of_ble_eq_true rfl, Nat.le_of_ble_eq_true rfl⟩ dX8_place_29 (fun H locs hR hS => ?_)
        refine W.eq (g2 := F0 mt 32 ls [.int t95.1]) rfl ?_
        refine lv_i2l (v := t95.1.toInt64) hx hb dX8_place_32 rfl ?_
        obtain ⟨rfl, rfl⟩ := Prod.mk.inj (Option.some.inj hf)
        exact r_lret X hr hlocks hR hS dX8_place_33
    · rw [if_neg c8] at hf
      refine lv_aload_n hx hb dX8_place_13 rfl (lv_at hl 0 rfl) ?_
      obtain ⟨o96, h97, hf⟩ := obO hf
      obtain ⟨t99, g98, hf⟩ := ob hf
      refine r_callV X kw_X8_134 (ci := 8) rfl (c_X8_bad l B D cA m x0 t99.1 t99.2 g98) ⟨Nat.le_of_ble_eq_true rfl, Nat.le_of_ble_eq_true rfl⟩ h97 hR hS hl.1 rfl rfl (Nat.le_of_ble_eq_true rfl) ⟨Nat.le_of_ble_eq_true rfl, Nat.le_of_ble_eq_true rfl⟩ dX8_place_14 (fun H locs hR hS => ?_)
      refine W.eq (g2 := F0 mt 17 ls [.int t99.1]) rfl ?_
      refine lv_i2l (v := t99.1.toInt64) hx hb dX8_place_17 rfl ?_
      obtain ⟨rfl, rfl⟩ := Prod.mk.inj (Option.some.inj hf)
      exact r_lret X hr hlocks hR hS dX8_place_18
/-! ===== TwigMatchesModel.fits(II)I ===== -/
theorem dX8_fits_0 : decode cX8_fits 0 = .ok (.iload_n 1, 1) := by decide +kernel
theorem dX8_fits_1 : decode cX8_fits 1 = .ok (.invokestatic 161, 3) := by decide +kernel
theorem dX8_fits_4 : decode cX8_fits 4 = .ok (.ifCond .eq 7, 3) := by decide +kernel
theorem dX8_fits_7 : decode cX8_fits 7 = .ok (.iload_n 2, 1) := by decide +kernel
theorem dX8_fits_8 : decode cX8_fits 8 = .ok (.ifCond .ge 10, 3) := by decide +kernel
theorem dX8_fits_11 : decode cX8_fits 11 = .ok (.iconst 0, 1) := by decide +kernel
theorem dX8_fits_12 : decode cX8_fits 12 = .ok (.aload_n 0, 1) := by decide +kernel
theorem dX8_fits_13 : decode cX8_fits 13 = .ok (.invokevirtual 134, 3) := by decide +kernel
theorem dX8_fits_16 : decode cX8_fits 16 = .ok (.imul, 1) := by decide +kernel
theorem dX8_fits_17 : decode cX8_fits 17 = .ok (.ireturn, 1) := by decide +kernel
theorem dX8_fits_18 : decode cX8_fits 18 = .ok (.iload_n 2, 1) := by decide +kernel
theorem dX8_fits_19 : decode cX8_fits 19 = .ok (.aload_n 0, 1) := by decide +kernel
theorem dX8_fits_20 : decode cX8_fits 20 = .ok (.getfield 32, 3) := by decide +kernel
theorem dX8_fits_23 : decode cX8_fits 23 = .ok (.iload_n 1, 1) := by decide +kernel
theorem dX8_fits_24 : decode cX8_fits 24 = .ok (.iaload, 1) := by decide +kernel
theorem dX8_fits_25 : decode cX8_fits 25 = .ok (.if_icmp .lt 10, 3) := by decide +kernel
theorem dX8_fits_28 : decode cX8_fits 28 = .ok (.iconst 0, 1) := by decide +kernel
theorem dX8_fits_29 : decode cX8_fits 29 = .ok (.aload_n 0, 1) := by decide +kernel
theorem dX8_fits_30 : decode cX8_fits 30 = .ok (.invokevirtual 119, 3) := by decide +kernel
theorem dX8_fits_33 : decode cX8_fits 33 = .ok (.imul, 1) := by decide +kernel
theorem dX8_fits_34 : decode cX8_fits 34 = .ok (.ireturn, 1) := by decide +kernel
theorem dX8_fits_35 : decode cX8_fits 35 = .ok (.iconst 0, 1) := by decide +kernel
theorem dX8_fits_36 : decode cX8_fits 36 = .ok (.istore_n 3, 1) := by decide +kernel
theorem dX8_fits_37 : decode cX8_fits 37 = .ok (.iconst 0, 1) := by decide +kernel
theorem dX8_fits_38 : decode cX8_fits 38 = .ok (.istore 4, 2) := by decide +kernel
theorem dX8_fits_40 : decode cX8_fits 40 = .ok (.iload 4, 2) := by decide +kernel
theorem dX8_fits_42 : decode cX8_fits 42 = .ok (.aload_n 0, 1) := by decide +kernel
theorem dX8_fits_43 : decode cX8_fits 43 = .ok (.getfield 13, 3) := by decide +kernel
theorem dX8_fits_46 : decode cX8_fits 46 = .ok (.if_icmp .ge 31, 3) := by decide +kernel
theorem dX8_fits_49 : decode cX8_fits 49 = .ok (.iload_n 3, 1) := by decide +kernel
theorem dX8_fits_50 : decode cX8_fits 50 = .ok (.aload_n 0, 1) := by decide +kernel
theorem dX8_fits_51 : decode cX8_fits 51 = .ok (.iload_n 1, 1) := by decide +kernel
theorem dX8_fits_52 : decode cX8_fits 52 = .ok (.iload_n 2, 1) := by decide +kernel
theorem dX8_fits_53 : decode cX8_fits 53 = .ok (.iload 4, 2) := by decide +kernel
theorem dX8_fits_55 : decode cX8_fits 55 = .ok (.invokevirtual 191, 3) := by decide +kernel
theorem dX8_fits_58 : decode cX8_fits 58 = .ok (.ifCond .eq 10, 3) := by decide +kernel
theorem dX8_fits_61 : decode cX8_fits 61 = .ok (.iconst 1, 1) := by decide +kernel
theorem dX8_fits_62 : decode cX8_fits 62 = .ok (.iload 4, 2) := by decide +kernel
theorem dX8_fits_64 : decode cX8_fits 64 = .ok (.ishl, 1) := by decide +kernel
theorem dX8_fits_65 : decode cX8_fits 65 = .ok (.goto 4, 3) := by decide +kernel
theorem dX8_fits_68 : decode cX8_fits 68 = .ok (.iconst 0, 1) := by decide +kernel
theorem dX8_fits_69 : decode cX8_fits 69 = .ok (.ior, 1) := by decide +kernel
theorem dX8_fits_70 : decode cX8_fits 70 = .ok (.istore_n 3, 1) := by decide +kernel
theorem dX8_fits_71 : decode cX8_fits 71 = .ok (.iinc 4 1, 3) := by decide +kernel
theorem dX8_fits_74 : decode cX8_fits 74 = .ok (.goto (-34), 3) := by decide +kernel
theorem dX8_fits_77 : decode cX8_fits 77 = .ok (.iload_n 3, 1) := by decide +kernel
theorem dX8_fits_78 : decode cX8_fits 78 = .ok (.ireturn, 1) := by decide +kernel
set_option maxHeartbeats 4000000 in
set_option maxRecDepth 100000 in
theorem c_X8_fits (l : Launch) (B : Nat) (D : va_G) (cA : Nat → ClassId) (m : Mm) (x0 : Nat) (x1 : Int32) (x2 : Int32) (rZ : Int32) (mZ : Mm) (hf : f_X8_fits m x0 x1 x2 = some (rZ, mZ)) : Mt l B D cA yX8_fits cX8_fits 5 (some .int) 3 70 0 0 [.ref (B + x0), .int x1, .int x2] m (some (.int rZ)) mZ := by
  refine r_start (by decide) (Nat.le_of_ble_eq_true rfl) ?_
  intro p e s mt args below meth c ls H locs X hr hlocks hnm hR hl hS
  have hx := X.1
  have hb := X.2.1
  have hl : lv_has ls 5 [(0, .ref (B + x0)), (1, .int x1), (2, .int x2)] := hl
  unfold f_X8_fits at hf
  refine lv_iload_n hx hb dX8_fits_0 rfl (lv_at hl 1 rfl) ?_
  obtain ⟨v2, g1, hf⟩ := ob hf
  refine r_callS X kw_X8_161 (c_X8_isTwig l B D cA m x1 v2 g1) ⟨Nat.le_of_ble_eq_true rfl, Nat.le_of_ble_eq_true rfl⟩ hR hS hl.1 rfl rfl (Nat.le_of_ble_eq_true rfl) ⟨Nat.le_of_ble_eq_true rfl, Nat.le_of_ble_eq_true rfl⟩ dX8_fits_1 (fun H locs hR hS => ?_)
  refine W.eq (g2 := F0 mt 4 ls [.int v2]) rfl ?_
  refine lv_if_eq (tgt := 11) hx hb dX8_fits_4 (by decide) (fun c3 => ?_) (fun c3 => ?_)
  · rw [if_pos c3] at hf
    refine lv_iconst (v := 0) hx hb dX8_fits_11 (by decide) ?_
    refine lv_aload_n hx hb dX8_fits_12 rfl (lv_at hl 0 rfl) ?_
    obtain ⟨o4, h5, hf⟩ := obO hf
    obtain ⟨t7, g6, hf⟩ := ob hf
    refine r_callV X kw_X8_134 (ci := 8) rfl (c_X8_bad l B D cA m x0 t7.1 t7.2 g6) ⟨Nat.le_of_ble_eq_true rfl, Nat.le_of_ble_eq_true rfl⟩ h5 hR hS hl.1 rfl rfl (Nat.le_of_ble_eq_true rfl) ⟨Nat.le_of_ble_eq_true rfl, Nat.le_of_ble_eq_true rfl⟩ dX8_fits_13 (fun H locs hR hS => ?_)
    refine W.eq (g2 := F0 mt 16 ls [.int t7.1, .int (0 : Int32)]) rfl ?_
    refine lv_imul hx hb dX8_fits_16 ?_
    obtain ⟨rfl, rfl⟩ := Prod.mk.inj (Option.some.inj hf)
    exact r_iret X hr hlocks hR hS rfl dX8_fits_17
  · rw [if_neg c3] at hf
    refine lv_iload_n hx hb dX8_fits_7 rfl (lv_at hl 2 rfl) ?_
    refine lv_if_ge (tgt := 18) hx hb dX8_fits_8 (by decide) (fun c8 => ?_) (fun c8 => ?_)
    · rw [if_pos c8] at hf
      refine lv_iload_n hx hb dX8_fits_18 rfl (lv_at hl 2 rfl) ?_
      refine lv_aload_n hx hb dX8_fits_19 rfl (lv_at hl 0 rfl) ?_
      obtain ⟨v9, g10, hf⟩ := ob hf
      refine gR_X8_32 X hR g10 dX8_fits_20 ?_
      refine lv_iload_n hx hb dX8_fits_23 rfl (lv_at hl 1 rfl) ?_
      obtain ⟨v11, g12, hf⟩ := ob hf
      refine r_lI X hR g12 dX8_fits_24 ?_
      refine lv_icmp_lt (tgt := 35) hx hb dX8_fits_25 (by decide) (fun c13 => ?_) (fun c13 => ?_)
      · rw [if_pos c13] at hf
        refine lv_iconst (v := 0) hx hb dX8_fits_35 (by decide) ?_
        refine lv_istore_n (lv' := [(3, .int (0 : Int32)), (0, .ref (B + x0)), (1, .int x1), (2, .int x2)]) hx hb dX8_fits_36 rfl hl (by decide) rfl (fun ls hl => ?_)
        refine lv_iconst (v := 0) hx hb dX8_fits_37 (by decide) ?_
        refine lv_istore (lv' := [(4, .int (0 : Int32)), (3, .int (0 : Int32)), (0, .ref (B + x0)), (1, .int x1), (2, .int x2)]) hx hb dX8_fits_38 hl (by decide) rfl (fun ls hl => ?_)
        obtain ⟨e15, hwe15, hf⟩ := ob hf
        refine whl_rule (P := (fun t14 => ∀ (H : Heap) (locs : List Loc) (ls : Array Slot), Rl B D cA m H → va_S (fun q => B ≤ q) s.heap H locs → lv_has ls 5 [(0, .ref (B + x0)), (1, .int x1), (2, .int x2), (3, .int t14.1), (4, .int t14.2)] → W p l e (rmm 3 0 0 70) s mt args below meth c H locs 0 0 (MQ below (mQ B D cA (some (.int rZ)) mZ) args s 0 0 (fun q => B ≤ q)) (F0 mt 40 ls []))) (Qx := (fun e15 => ∀ (H : Heap) (locs : List Loc) (ls : Array Slot), Rl B D cA m H → va_S (fun q => B ≤ q) s.heap H locs → lv_has ls 5 [(3, .int e15)] → W p l e (rmm 3 0 0 70) s mt args below meth c H locs 0 0 (MQ below (mQ B D cA (some (.int rZ)) mZ) args s 0 0 (fun q => B ≤ q)) (F0 mt 77 ls []))) ?_ FU _ e15 hwe15 ?_ H locs ls hR hS (lv_sub hl [2, 3, 4, 1, 0] rfl)
        · clear hwe15 hf
          intro t14 q16 hf hxlq16 hxrq16 H locs ls hR hS hl
          obtain ⟨z17, z18⟩ := t14
          have hf : f_X8_fits_L40 m x0 x1 x2 z17 z18 = some q16 := hf
          have hR : Rl B D cA m H := hR
          have hl : lv_has ls 5 [(0, .ref (B + x0)), (1, .int x1), (2, .int x2), (3, .int z17), (4, .int z18)] := hl
          unfold f_X8_fits_L40 at hf
          refine lv_iload hx hb dX8_fits_40 (lv_at hl 4 rfl) ?_
          refine lv_aload_n hx hb dX8_fits_42 rfl (lv_at hl 0 rfl) ?_
          obtain ⟨v19, g20, hf⟩ := ob hf
          refine gI_X8_13 X hR g20 dX8_fits_43 ?_
          refine lv_icmp_ge (tgt := 77) hx hb dX8_fits_46 (by decide) (fun c21 => ?_) (fun c21 => ?_)
          · rw [if_pos c21] at hf
            obtain rfl := Option.some.inj hf
            exact hxrq16 _ rfl H locs ls hR hS (lv_sub hl [3] rfl)
          · rw [if_neg c21] at hf
            refine lv_iload_n hx hb dX8_fits_49 rfl (lv_at hl 3 rfl) ?_
            refine lv_aload_n hx hb dX8_fits_50 rfl (lv_at hl 0 rfl) ?_
            refine lv_iload_n hx hb dX8_fits_51 rfl (lv_at hl 1 rfl) ?_
            refine lv_iload_n hx hb dX8_fits_52 rfl (lv_at hl 2 rfl) ?_
            refine lv_iload hx hb dX8_fits_53 (lv_at hl 4 rfl) ?_
            obtain ⟨o22, h23, hf⟩ := obO hf
            obtain ⟨v25, g24, hf⟩ := ob hf
            refine r_callV X kw_X8_191 (ci := 8) rfl (c_X8_fitsIn l B D cA m x0 x1 x2 z18 v25 g24) ⟨Nat.le_of_ble_eq_true rfl, Nat.le_of_ble_eq_true rfl⟩ h23 hR hS hl.1 rfl rfl (Nat.le_of_ble_eq_true rfl) ⟨Nat.le_of_ble_eq_true rfl, Nat.le_of_ble_eq_true rfl⟩ dX8_fits_55 (fun H locs hR hS => ?_)
            refine W.eq (g2 := F0 mt 58 ls [.int v25, .int z17]) rfl ?_
            refine lv_if_eq (tgt := 68) hx hb dX8_fits_58 (by decide) (fun c26 => ?_) (fun c26 => ?_)
            · rw [if_pos c26] at hf
              refine lv_iconst (v := 0) hx hb dX8_fits_68 (by decide) ?_
              refine lv_ior hx hb dX8_fits_69 ?_
              refine lv_istore_n (lv' := [(3, .int (z17 ||| (0 : Int32))), (0, .ref (B + x0)), (1, .int x1), (2, .int x2), (4, .int z18)]) hx hb dX8_fits_70 rfl hl (by decide) rfl (fun ls hl => ?_)
              refine lv_iinc (v := (z18 + 1)) (lv' := [(4, .int (z18 + 1)), (3, .int (z17 ||| (0 : Int32))), (0, .ref (B + x0)), (1, .int x1), (2, .int x2)]) hx hb dX8_fits_71 hl (k := 4) rfl (congrArg (fun z => z18 + z) (by decide)) (by decide) rfl (fun ls hl => ?_)
              refine lv_goto (tgt := 40) hx hb dX8_fits_74 (by decide) ?_
              obtain rfl := Option.some.inj hf
              exact hxlq16 _ rfl H locs ls hR hS (lv_sub hl [2, 3, 4, 1, 0] rfl)
            · rw [if_neg c26] at hf
              refine lv_iconst (v := 1) hx hb dX8_fits_61 (by decide) ?_
              refine lv_iload hx hb dX8_fits_62 (lv_at hl 4 rfl) ?_
              refine lv_ishl hx hb dX8_fits_64 ?_
              refine lv_goto (tgt := 69) hx hb dX8_fits_65 (by decide) ?_
              refine lv_ior hx hb dX8_fits_69 ?_
              refine lv_istore_n (lv' := [(3, .int (z17 ||| ((1 : Int32) <<< (z18 &&& 31)))), (0, .ref (B + x0)), (1, .int x1), (2, .int x2), (4, .int z18)]) hx hb dX8_fits_70 rfl hl (by decide) rfl (fun ls hl => ?_)
              refine lv_iinc (v := (z18 + 1)) (lv' := [(4, .int (z18 + 1)), (3, .int (z17 ||| ((1 : Int32) <<< (z18 &&& 31)))), (0, .ref (B + x0)), (1, .int x1), (2, .int x2)]) hx hb dX8_fits_71 hl (k := 4) rfl (congrArg (fun z => z18 + z) (by decide)) (by decide) rfl (fun ls hl => ?_)
              refine lv_goto (tgt := 40) hx hb dX8_fits_74 (by decide) ?_
              obtain rfl := Option.some.inj hf
              exact hxlq16 _ rfl H locs ls hR hS (lv_sub hl [2, 3, 4, 1, 0] rfl)
        · intro H locs ls hR hS hl
          refine lv_iload_n hx hb dX8_fits_77 rfl (lv_at hl 0 rfl) ?_
          obtain ⟨rfl, rfl⟩ := Prod.mk.inj (Option.some.inj hf)
          exact r_iret X hr hlocks hR hS rfl dX8_fits_78
      · rw [if_neg c13] at hf
        refine lv_iconst (v := 0) hx hb dX8_fits_28 (by decide) ?_
        refine lv_aload_n hx hb dX8_fits_29 rfl (lv_at hl 0 rfl) ?_
        obtain ⟨o27, h28, hf⟩ := obO hf
        obtain ⟨t30, g29, hf⟩ := ob hf
        refine r_callV X kw_X8_119 (ci := 8) rfl (c_X8_no l B D cA m x0 t30.1 t30.2 g29) ⟨Nat.le_of_ble_eq_true rfl, Nat.le_of_ble_eq_true rfl⟩ h28 hR hS hl.1 rfl rfl (Nat.le_of_ble_eq_true rfl) ⟨Nat.le_of_ble_eq_true rfl, Nat.le_of_ble_eq_true rfl⟩ dX8_fits_30 (fun H locs hR hS => ?_)
        refine W.eq (g2 := F0 mt 33 ls [.int t30.1, .int (0 : Int32)]) rfl ?_
        refine lv_imul hx hb dX8_fits_33 ?_
        obtain ⟨rfl, rfl⟩ := Prod.mk.inj (Option.some.inj hf)
        exact r_iret X hr hlocks hR hS rfl dX8_fits_34
    · rw [if_neg c8] at hf
      refine lv_iconst (v := 0) hx hb dX8_fits_11 (by decide) ?_
      refine lv_aload_n hx hb dX8_fits_12 rfl (lv_at hl 0 rfl) ?_
      obtain ⟨o31, h32, hf⟩ := obO hf
      obtain ⟨t34, g33, hf⟩ := ob hf
      refine r_callV X kw_X8_134 (ci := 8) rfl (c_X8_bad l B D cA m x0 t34.1 t34.2 g33) ⟨Nat.le_of_ble_eq_true rfl, Nat.le_of_ble_eq_true rfl⟩ h32 hR hS hl.1 rfl rfl (Nat.le_of_ble_eq_true rfl) ⟨Nat.le_of_ble_eq_true rfl, Nat.le_of_ble_eq_true rfl⟩ dX8_fits_13 (fun H locs hR hS => ?_)
      refine W.eq (g2 := F0 mt 16 ls [.int t34.1, .int (0 : Int32)]) rfl ?_
      refine lv_imul hx hb dX8_fits_16 ?_
      obtain ⟨rfl, rfl⟩ := Prod.mk.inj (Option.some.inj hf)
      exact r_iret X hr hlocks hR hS rfl dX8_fits_17
/-! ===== TwigMatchesModel.partOf(III)J ===== -/
theorem dX8_partOf_0 : decode cX8_partOf 0 = .ok (.aload_n 0, 1) := by decide +kernel
theorem dX8_partOf_1 : decode cX8_partOf 1 = .ok (.invokevirtual 198, 3) := by decide +kernel
theorem dX8_partOf_4 : decode cX8_partOf 4 = .ok (.aload_n 0, 1) := by decide +kernel
theorem dX8_partOf_5 : decode cX8_partOf 5 = .ok (.getfield 47, 3) := by decide +kernel
theorem dX8_partOf_8 : decode cX8_partOf 8 = .ok (.iload_n 2, 1) := by decide +kernel
theorem dX8_partOf_9 : decode cX8_partOf 9 = .ok (.iconst 1, 1) := by decide +kernel
theorem dX8_partOf_10 : decode cX8_partOf 10 = .ok (.iload_n 3, 1) := by decide +kernel
theorem dX8_partOf_11 : decode cX8_partOf 11 = .ok (.ishl, 1) := by decide +kernel
theorem dX8_partOf_12 : decode cX8_partOf 12 = .ok (.iastore, 1) := by decide +kernel
theorem dX8_partOf_13 : decode cX8_partOf 13 = .ok (.aload_n 0, 1) := by decide +kernel
theorem dX8_partOf_14 : decode cX8_partOf 14 = .ok (.iload_n 1, 1) := by decide +kernel
theorem dX8_partOf_15 : decode cX8_partOf 15 = .ok (.invokevirtual 201, 3) := by decide +kernel
theorem dX8_partOf_18 : decode cX8_partOf 18 = .ok (.lreturn, 1) := by decide +kernel
set_option maxHeartbeats 4000000 in
set_option maxRecDepth 100000 in
theorem c_X8_partOf (l : Launch) (B : Nat) (D : va_G) (cA : Nat → ClassId) (m : Mm) (x0 : Nat) (x1 : Int32) (x2 : Int32) (x3 : Int32) (rZ : Int64) (mZ : Mm) (hf : f_X8_partOf m x0 x1 x2 x3 = some (rZ, mZ)) : Mt l B D cA yX8_partOf cX8_partOf 4 (some .long) 5 122 0 0 [.ref (B + x0), .int x1, .int x2, .int x3] m (some (.long rZ)) mZ := by
  refine r_start (by decide) (Nat.le_of_ble_eq_true rfl) ?_
  intro p e s mt args below meth c ls H locs X hr hlocks hnm hR hl hS
  have hx := X.1
  have hb := X.2.1
  have hl : lv_has ls 4 [(0, .ref (B + x0)), (1, .int x1), (2, .int x2), (3, .int x3)] := hl
  unfold f_X8_partOf at hf
  refine lv_aload_n hx hb dX8_partOf_0 rfl (lv_at hl 0 rfl) ?_
  obtain ⟨o1, h2, hf⟩ := obO hf
  obtain ⟨m4, g3, hf⟩ := ob hf
  refine r_callV X kw_X8_198 (ci := 8) rfl (c_X8_mayAll l B D cA m x0 m4 g3) ⟨Nat.le_of_ble_eq_true rfl, Nat.le_of_ble_eq_true rfl⟩ h2 hR hS hl.1 rfl rfl (Nat.le_of_ble_eq_true rfl) ⟨Nat.le_of_ble_eq_true rfl, Nat.le_of_ble_eq_true rfl⟩ dX8_partOf_1 (fun H locs hR hS => ?_)
  refine W.eq (g2 := F0 mt 4 ls []) rfl ?_
  refine lv_aload_n hx hb dX8_partOf_4 rfl (lv_at hl 0 rfl) ?_
  obtain ⟨v5, g6, hf⟩ := ob hf
  refine gR_X8_47 X hR g6 dX8_partOf_5 ?_
  refine lv_iload_n hx hb dX8_partOf_8 rfl (lv_at hl 2 rfl) ?_
  refine lv_iconst (v := 1) hx hb dX8_partOf_9 (by decide) ?_
  refine lv_iload_n hx hb dX8_partOf_10 rfl (lv_at hl 3 rfl) ?_
  refine lv_ishl hx hb dX8_partOf_11 ?_
  obtain ⟨m7, g8, hf⟩ := ob hf
  refine r_sI X hR hS g8 dX8_partOf_12 (fun H locs hR hS => ?_)
  refine lv_aload_n hx hb dX8_partOf_13 rfl (lv_at hl 0 rfl) ?_
  refine lv_iload_n hx hb dX8_partOf_14 rfl (lv_at hl 1 rfl) ?_
  obtain ⟨o9, h10, hf⟩ := obO hf
  obtain ⟨t12, g11, hf⟩ := ob hf
  refine r_callV X kw_X8_201 (ci := 8) rfl (c_X8_counts l B D cA m7 x0 x1 t12.1 t12.2 g11) ⟨Nat.le_of_ble_eq_true rfl, Nat.le_of_ble_eq_true rfl⟩ h10 hR hS hl.1 rfl rfl (Nat.le_of_ble_eq_true rfl) ⟨Nat.le_of_ble_eq_true rfl, Nat.le_of_ble_eq_true rfl⟩ dX8_partOf_15 (fun H locs hR hS => ?_)
  refine W.eq (g2 := F0 mt 18 ls [.long t12.1]) rfl ?_
  obtain ⟨rfl, rfl⟩ := Prod.mk.inj (Option.some.inj hf)
  exact r_lret X hr hlocks hR hS dX8_partOf_18
/-! ===== TwigMatchesModel.found(II)I ===== -/
theorem dX8_found_0 : decode cX8_found 0 = .ok (.iload_n 1, 1) := by decide +kernel
theorem dX8_found_1 : decode cX8_found 1 = .ok (.invokestatic 161, 3) := by decide +kernel
theorem dX8_found_4 : decode cX8_found 4 = .ok (.ifCond .eq 7, 3) := by decide +kernel
theorem dX8_found_7 : decode cX8_found 7 = .ok (.iload_n 2, 1) := by decide +kernel
theorem dX8_found_8 : decode cX8_found 8 = .ok (.ifCond .ge 10, 3) := by decide +kernel
theorem dX8_found_11 : decode cX8_found 11 = .ok (.iconst 0, 1) := by decide +kernel
theorem dX8_found_12 : decode cX8_found 12 = .ok (.aload_n 0, 1) := by decide +kernel
theorem dX8_found_13 : decode cX8_found 13 = .ok (.invokevirtual 134, 3) := by decide +kernel
theorem dX8_found_16 : decode cX8_found 16 = .ok (.imul, 1) := by decide +kernel
theorem dX8_found_17 : decode cX8_found 17 = .ok (.ireturn, 1) := by decide +kernel
theorem dX8_found_18 : decode cX8_found 18 = .ok (.iload_n 2, 1) := by decide +kernel
theorem dX8_found_19 : decode cX8_found 19 = .ok (.aload_n 0, 1) := by decide +kernel
theorem dX8_found_20 : decode cX8_found 20 = .ok (.getfield 32, 3) := by decide +kernel
theorem dX8_found_23 : decode cX8_found 23 = .ok (.iload_n 1, 1) := by decide +kernel
theorem dX8_found_24 : decode cX8_found 24 = .ok (.iaload, 1) := by decide +kernel
theorem dX8_found_25 : decode cX8_found 25 = .ok (.if_icmp .lt 10, 3) := by decide +kernel
theorem dX8_found_28 : decode cX8_found 28 = .ok (.iconst 0, 1) := by decide +kernel
theorem dX8_found_29 : decode cX8_found 29 = .ok (.aload_n 0, 1) := by decide +kernel
theorem dX8_found_30 : decode cX8_found 30 = .ok (.invokevirtual 119, 3) := by decide +kernel
theorem dX8_found_33 : decode cX8_found 33 = .ok (.imul, 1) := by decide +kernel
theorem dX8_found_34 : decode cX8_found 34 = .ok (.ireturn, 1) := by decide +kernel
theorem dX8_found_35 : decode cX8_found 35 = .ok (.iconst 0, 1) := by decide +kernel
theorem dX8_found_36 : decode cX8_found 36 = .ok (.istore_n 3, 1) := by decide +kernel
theorem dX8_found_37 : decode cX8_found 37 = .ok (.iconst 0, 1) := by decide +kernel
theorem dX8_found_38 : decode cX8_found 38 = .ok (.istore 4, 2) := by decide +kernel
theorem dX8_found_40 : decode cX8_found 40 = .ok (.iload 4, 2) := by decide +kernel
theorem dX8_found_42 : decode cX8_found 42 = .ok (.aload_n 0, 1) := by decide +kernel
theorem dX8_found_43 : decode cX8_found 43 = .ok (.getfield 13, 3) := by decide +kernel
theorem dX8_found_46 : decode cX8_found 46 = .ok (.if_icmp .ge 33, 3) := by decide +kernel
theorem dX8_found_49 : decode cX8_found 49 = .ok (.iload_n 3, 1) := by decide +kernel
theorem dX8_found_50 : decode cX8_found 50 = .ok (.aload_n 0, 1) := by decide +kernel
theorem dX8_found_51 : decode cX8_found 51 = .ok (.iload_n 1, 1) := by decide +kernel
theorem dX8_found_52 : decode cX8_found 52 = .ok (.iload_n 2, 1) := by decide +kernel
theorem dX8_found_53 : decode cX8_found 53 = .ok (.iload 4, 2) := by decide +kernel
theorem dX8_found_55 : decode cX8_found 55 = .ok (.invokevirtual 212, 3) := by decide +kernel
theorem dX8_found_58 : decode cX8_found 58 = .ok (.lconst 0, 1) := by decide +kernel
theorem dX8_found_59 : decode cX8_found 59 = .ok (.lcmp, 1) := by decide +kernel
theorem dX8_found_60 : decode cX8_found 60 = .ok (.ifCond .le 10, 3) := by decide +kernel
theorem dX8_found_63 : decode cX8_found 63 = .ok (.iconst 1, 1) := by decide +kernel
theorem dX8_found_64 : decode cX8_found 64 = .ok (.iload 4, 2) := by decide +kernel
theorem dX8_found_66 : decode cX8_found 66 = .ok (.ishl, 1) := by decide +kernel
theorem dX8_found_67 : decode cX8_found 67 = .ok (.goto 4, 3) := by decide +kernel
theorem dX8_found_70 : decode cX8_found 70 = .ok (.iconst 0, 1) := by decide +kernel
theorem dX8_found_71 : decode cX8_found 71 = .ok (.ior, 1) := by decide +kernel
theorem dX8_found_72 : decode cX8_found 72 = .ok (.istore_n 3, 1) := by decide +kernel
theorem dX8_found_73 : decode cX8_found 73 = .ok (.iinc 4 1, 3) := by decide +kernel
theorem dX8_found_76 : decode cX8_found 76 = .ok (.goto (-36), 3) := by decide +kernel
theorem dX8_found_79 : decode cX8_found 79 = .ok (.iload_n 3, 1) := by decide +kernel
theorem dX8_found_80 : decode cX8_found 80 = .ok (.ireturn, 1) := by decide +kernel
set_option maxHeartbeats 4000000 in
set_option maxRecDepth 100000 in
theorem c_X8_found (l : Launch) (B : Nat) (D : va_G) (cA : Nat → ClassId) (m : Mm) (x0 : Nat) (x1 : Int32) (x2 : Int32) (rZ : Int32) (mZ : Mm) (hf : f_X8_found m x0 x1 x2 = some (rZ, mZ)) : Mt l B D cA yX8_found cX8_found 5 (some .int) 6 145 0 0 [.ref (B + x0), .int x1, .int x2] m (some (.int rZ)) mZ := by
  refine r_start (by decide) (Nat.le_of_ble_eq_true rfl) ?_
  intro p e s mt args below meth c ls H locs X hr hlocks hnm hR hl hS
  have hx := X.1
  have hb := X.2.1
  have hl : lv_has ls 5 [(0, .ref (B + x0)), (1, .int x1), (2, .int x2)] := hl
  unfold f_X8_found at hf
  refine lv_iload_n hx hb dX8_found_0 rfl (lv_at hl 1 rfl) ?_
  obtain ⟨v2, g1, hf⟩ := ob hf
  refine r_callS X kw_X8_161 (c_X8_isTwig l B D cA m x1 v2 g1) ⟨Nat.le_of_ble_eq_true rfl, Nat.le_of_ble_eq_true rfl⟩ hR hS hl.1 rfl rfl (Nat.le_of_ble_eq_true rfl) ⟨Nat.le_of_ble_eq_true rfl, Nat.le_of_ble_eq_true rfl⟩ dX8_found_1 (fun H locs hR hS => ?_)
  refine W.eq (g2 := F0 mt 4 ls [.int v2]) rfl ?_
  refine lv_if_eq (tgt := 11) hx hb dX8_found_4 (by decide) (fun c3 => ?_) (fun c3 => ?_)
  · rw [if_pos c3] at hf
    refine lv_iconst (v := 0) hx hb dX8_found_11 (by decide) ?_
    refine lv_aload_n hx hb dX8_found_12 rfl (lv_at hl 0 rfl) ?_
    obtain ⟨o4, h5, hf⟩ := obO hf
    obtain ⟨t7, g6, hf⟩ := ob hf
    refine r_callV X kw_X8_134 (ci := 8) rfl (c_X8_bad l B D cA m x0 t7.1 t7.2 g6) ⟨Nat.le_of_ble_eq_true rfl, Nat.le_of_ble_eq_true rfl⟩ h5 hR hS hl.1 rfl rfl (Nat.le_of_ble_eq_true rfl) ⟨Nat.le_of_ble_eq_true rfl, Nat.le_of_ble_eq_true rfl⟩ dX8_found_13 (fun H locs hR hS => ?_)
    refine W.eq (g2 := F0 mt 16 ls [.int t7.1, .int (0 : Int32)]) rfl ?_
    refine lv_imul hx hb dX8_found_16 ?_
    obtain ⟨rfl, rfl⟩ := Prod.mk.inj (Option.some.inj hf)
    exact r_iret X hr hlocks hR hS rfl dX8_found_17
  · rw [if_neg c3] at hf
    refine lv_iload_n hx hb dX8_found_7 rfl (lv_at hl 2 rfl) ?_
    refine lv_if_ge (tgt := 18) hx hb dX8_found_8 (by decide) (fun c8 => ?_) (fun c8 => ?_)
    · rw [if_pos c8] at hf
      refine lv_iload_n hx hb dX8_found_18 rfl (lv_at hl 2 rfl) ?_
      refine lv_aload_n hx hb dX8_found_19 rfl (lv_at hl 0 rfl) ?_
      obtain ⟨v9, g10, hf⟩ := ob hf
      refine gR_X8_32 X hR g10 dX8_found_20 ?_
      refine lv_iload_n hx hb dX8_found_23 rfl (lv_at hl 1 rfl) ?_
      obtain ⟨v11, g12, hf⟩ := ob hf
      refine r_lI X hR g12 dX8_found_24 ?_
      refine lv_icmp_lt (tgt := 35) hx hb dX8_found_25 (by decide) (fun c13 => ?_) (fun c13 => ?_)
      · rw [if_pos c13] at hf
        refine lv_iconst (v := 0) hx hb dX8_found_35 (by decide) ?_
        refine lv_istore_n (lv' := [(3, .int (0 : Int32)), (0, .ref (B + x0)), (1, .int x1), (2, .int x2)]) hx hb dX8_found_36 rfl hl (by decide) rfl (fun ls hl => ?_)
        refine lv_iconst (v := 0) hx hb dX8_found_37 (by decide) ?_
        refine lv_istore (lv' := [(4, .int (0 : Int32)), (3, .int (0 : Int32)), (0, .ref (B + x0)), (1, .int x1), (2, .int x2)]) hx hb dX8_found_38 hl (by decide) rfl (fun ls hl => ?_)
        obtain ⟨e15, hwe15, hf⟩ := ob hf
        refine whl_rule (P := (fun t14 => ∀ (H : Heap) (locs : List Loc) (ls : Array Slot), Rl B D cA t14.2.2 H → va_S (fun q => B ≤ q) s.heap H locs → lv_has ls 5 [(0, .ref (B + x0)), (1, .int x1), (2, .int x2), (3, .int t14.1), (4, .int t14.2.1)] → W p l e (rmm 6 0 0 145) s mt args below meth c H locs 0 0 (MQ below (mQ B D cA (some (.int rZ)) mZ) args s 0 0 (fun q => B ≤ q)) (F0 mt 40 ls []))) (Qx := (fun e15 => ∀ (H : Heap) (locs : List Loc) (ls : Array Slot), Rl B D cA e15.2 H → va_S (fun q => B ≤ q) s.heap H locs → lv_has ls 5 [(3, .int e15.1)] → W p l e (rmm 6 0 0 145) s mt args below meth c H locs 0 0 (MQ below (mQ B D cA (some (.int rZ)) mZ) args s 0 0 (fun q => B ≤ q)) (F0 mt 79 ls []))) ?_ FU _ e15 hwe15 ?_ H locs ls hR hS (lv_sub hl [2, 3, 4, 1, 0] rfl)
        · clear hwe15 hf
          intro t14 q16 hf hxlq16 hxrq16 H locs ls hR hS hl
          obtain ⟨z17, z18, m19⟩ := t14
          have hf : f_X8_found_L40 m19 x0 x1 x2 z17 z18 = some q16 := hf
          have hR : Rl B D cA m19 H := hR
          have hl : lv_has ls 5 [(0, .ref (B + x0)), (1, .int x1), (2, .int x2), (3, .int z17), (4, .int z18)] := hl
          unfold f_X8_found_L40 at hf
          refine lv_iload hx hb dX8_found_40 (lv_at hl 4 rfl) ?_
          refine lv_aload_n hx hb dX8_found_42 rfl (lv_at hl 0 rfl) ?_
          obtain ⟨v20, g21, hf⟩ := ob hf
          refine gI_X8_13 X hR g21 dX8_found_43 ?_
          refine lv_icmp_ge (tgt := 79) hx hb dX8_found_46 (by decide) (fun c22 => ?_) (fun c22 => ?_)
          · rw [if_pos c22] at hf
            obtain rfl := Option.some.inj hf
            exact hxrq16 _ rfl H locs ls hR hS (lv_sub hl [3] rfl)
          · rw [if_neg c22] at hf
            refine lv_iload_n hx hb dX8_found_49 rfl (lv_at hl 3 rfl) ?_
            refine lv_aload_n hx hb dX8_found_50 rfl (lv_at hl 0 rfl) ?_
            refine lv_iload_n hx hb dX8_found_51 rfl (lv_at hl 1 rfl) ?_
            refine lv_iload_n hx hb dX8_found_52 rfl (lv_at hl 2 rfl) ?_
            refine lv_iload hx hb dX8_found_53 (lv_at hl 4 rfl) ?_
            obtain ⟨o23, h24, hf⟩ := obO hf
            obtain ⟨t26, g25, hf⟩ := ob hf
            refine r_callV X kw_X8_212 (ci := 8) rfl (c_X8_partOf l B D cA m19 x0 x1 x2 z18 t26.1 t26.2 g25) ⟨Nat.le_of_ble_eq_true rfl, Nat.le_of_ble_eq_true rfl⟩ h24 hR hS hl.1 rfl rfl (Nat.le_of_ble_eq_true rfl) ⟨Nat.le_of_ble_eq_true rfl, Nat.le_of_ble_eq_true rfl⟩ dX8_found_55 (fun H locs hR hS => ?_)
            refine W.eq (g2 := F0 mt 58 ls [.long t26.1, .int z17]) rfl ?_
            refine lv_lconst (v := 0) hx hb dX8_found_58 (by decide) ?_
            refine r_lc_le (tgt := 70) X dX8_found_59 dX8_found_60 (by decide) (fun c27 => ?_) (fun c27 => ?_)
            · rw [if_pos c27] at hf
              refine lv_iconst (v := 0) hx hb dX8_found_70 (by decide) ?_
              refine lv_ior hx hb dX8_found_71 ?_
              refine lv_istore_n (lv' := [(3, .int (z17 ||| (0 : Int32))), (0, .ref (B + x0)), (1, .int x1), (2, .int x2), (4, .int z18)]) hx hb dX8_found_72 rfl hl (by decide) rfl (fun ls hl => ?_)
              refine lv_iinc (v := (z18 + 1)) (lv' := [(4, .int (z18 + 1)), (3, .int (z17 ||| (0 : Int32))), (0, .ref (B + x0)), (1, .int x1), (2, .int x2)]) hx hb dX8_found_73 hl (k := 4) rfl (congrArg (fun z => z18 + z) (by decide)) (by decide) rfl (fun ls hl => ?_)
              refine lv_goto (tgt := 40) hx hb dX8_found_76 (by decide) ?_
              obtain rfl := Option.some.inj hf
              exact hxlq16 _ rfl H locs ls hR hS (lv_sub hl [2, 3, 4, 1, 0] rfl)
            · rw [if_neg c27] at hf
              refine lv_iconst (v := 1) hx hb dX8_found_63 (by decide) ?_
              refine lv_iload hx hb dX8_found_64 (lv_at hl 4 rfl) ?_
              refine lv_ishl hx hb dX8_found_66 ?_
              refine lv_goto (tgt := 71) hx hb dX8_found_67 (by decide) ?_
              refine lv_ior hx hb dX8_found_71 ?_
              refine lv_istore_n (lv' := [(3, .int (z17 ||| ((1 : Int32) <<< (z18 &&& 31)))), (0, .ref (B + x0)), (1, .int x1), (2, .int x2), (4, .int z18)]) hx hb dX8_found_72 rfl hl (by decide) rfl (fun ls hl => ?_)
              refine lv_iinc (v := (z18 + 1)) (lv' := [(4, .int (z18 + 1)), (3, .int (z17 ||| ((1 : Int32) <<< (z18 &&& 31)))), (0, .ref (B + x0)), (1, .int x1), (2, .int x2)]) hx hb dX8_found_73 hl (k := 4) rfl (congrArg (fun z => z18 + z) (by decide)) (by decide) rfl (fun ls hl => ?_)
              refine lv_goto (tgt := 40) hx hb dX8_found_76 (by decide) ?_
              obtain rfl := Option.some.inj hf
              exact hxlq16 _ rfl H locs ls hR hS (lv_sub hl [2, 3, 4, 1, 0] rfl)
        · intro H locs ls hR hS hl
          refine lv_iload_n hx hb dX8_found_79 rfl (lv_at hl 0 rfl) ?_
          obtain ⟨rfl, rfl⟩ := Prod.mk.inj (Option.some.inj hf)
          exact r_iret X hr hlocks hR hS rfl dX8_found_80
      · rw [if_neg c13] at hf
        refine lv_iconst (v := 0) hx hb dX8_found_28 (by decide) ?_
        refine lv_aload_n hx hb dX8_found_29 rfl (lv_at hl 0 rfl) ?_
        obtain ⟨o28, h29, hf⟩ := obO hf
        obtain ⟨t31, g30, hf⟩ := ob hf
        refine r_callV X kw_X8_119 (ci := 8) rfl (c_X8_no l B D cA m x0 t31.1 t31.2 g30) ⟨Nat.le_of_ble_eq_true rfl, Nat.le_of_ble_eq_true rfl⟩ h29 hR hS hl.1 rfl rfl (Nat.le_of_ble_eq_true rfl) ⟨Nat.le_of_ble_eq_true rfl, Nat.le_of_ble_eq_true rfl⟩ dX8_found_30 (fun H locs hR hS => ?_)
        refine W.eq (g2 := F0 mt 33 ls [.int t31.1, .int (0 : Int32)]) rfl ?_
        refine lv_imul hx hb dX8_found_33 ?_
        obtain ⟨rfl, rfl⟩ := Prod.mk.inj (Option.some.inj hf)
        exact r_iret X hr hlocks hR hS rfl dX8_found_34
    · rw [if_neg c8] at hf
      refine lv_iconst (v := 0) hx hb dX8_found_11 (by decide) ?_
      refine lv_aload_n hx hb dX8_found_12 rfl (lv_at hl 0 rfl) ?_
      obtain ⟨o32, h33, hf⟩ := obO hf
      obtain ⟨t35, g34, hf⟩ := ob hf
      refine r_callV X kw_X8_134 (ci := 8) rfl (c_X8_bad l B D cA m x0 t35.1 t35.2 g34) ⟨Nat.le_of_ble_eq_true rfl, Nat.le_of_ble_eq_true rfl⟩ h33 hR hS hl.1 rfl rfl (Nat.le_of_ble_eq_true rfl) ⟨Nat.le_of_ble_eq_true rfl, Nat.le_of_ble_eq_true rfl⟩ dX8_found_13 (fun H locs hR hS => ?_)
      refine W.eq (g2 := F0 mt 16 ls [.int t35.1, .int (0 : Int32)]) rfl ?_
      refine lv_imul hx hb dX8_found_16 ?_
      obtain ⟨rfl, rfl⟩ := Prod.mk.inj (Option.some.inj hf)
      exact r_iret X hr hlocks hR hS rfl dX8_found_17
/-! ===== TwigMatchesModel.part(III)J ===== -/
theorem dX8_part_0 : decode cX8_part 0 = .ok (.iload_n 1, 1) := by decide +kernel
theorem dX8_part_1 : decode cX8_part 1 = .ok (.invokestatic 161, 3) := by decide +kernel
theorem dX8_part_4 : decode cX8_part 4 = .ok (.ifCond .eq 15, 3) := by decide +kernel
theorem dX8_part_7 : decode cX8_part 7 = .ok (.iload_n 2, 1) := by decide +kernel
theorem dX8_part_8 : decode cX8_part 8 = .ok (.ifCond .lt 11, 3) := by decide +kernel
theorem dX8_part_11 : decode cX8_part 11 = .ok (.aload_n 0, 1) := by decide +kernel
theorem dX8_part_12 : decode cX8_part 12 = .ok (.iload_n 3, 1) := by decide +kernel
theorem dX8_part_13 : decode cX8_part 13 = .ok (.invokevirtual 126, 3) := by decide +kernel
theorem dX8_part_16 : decode cX8_part 16 = .ok (.ifCond .ne 9, 3) := by decide +kernel
theorem dX8_part_19 : decode cX8_part 19 = .ok (.aload_n 0, 1) := by decide +kernel
theorem dX8_part_20 : decode cX8_part 20 = .ok (.invokevirtual 134, 3) := by decide +kernel
theorem dX8_part_23 : decode cX8_part 23 = .ok (.i2l, 1) := by decide +kernel
theorem dX8_part_24 : decode cX8_part 24 = .ok (.lreturn, 1) := by decide +kernel
theorem dX8_part_25 : decode cX8_part 25 = .ok (.iload_n 2, 1) := by decide +kernel
theorem dX8_part_26 : decode cX8_part 26 = .ok (.aload_n 0, 1) := by decide +kernel
theorem dX8_part_27 : decode cX8_part 27 = .ok (.getfield 32, 3) := by decide +kernel
theorem dX8_part_30 : decode cX8_part 30 = .ok (.iload_n 1, 1) := by decide +kernel
theorem dX8_part_31 : decode cX8_part 31 = .ok (.iaload, 1) := by decide +kernel
theorem dX8_part_32 : decode cX8_part 32 = .ok (.if_icmp .ge 13, 3) := by decide +kernel
theorem dX8_part_35 : decode cX8_part 35 = .ok (.aload_n 0, 1) := by decide +kernel
theorem dX8_part_36 : decode cX8_part 36 = .ok (.iload_n 1, 1) := by decide +kernel
theorem dX8_part_37 : decode cX8_part 37 = .ok (.iload_n 2, 1) := by decide +kernel
theorem dX8_part_38 : decode cX8_part 38 = .ok (.iload_n 3, 1) := by decide +kernel
theorem dX8_part_39 : decode cX8_part 39 = .ok (.invokevirtual 212, 3) := by decide +kernel
theorem dX8_part_42 : decode cX8_part 42 = .ok (.goto 8, 3) := by decide +kernel
theorem dX8_part_45 : decode cX8_part 45 = .ok (.aload_n 0, 1) := by decide +kernel
theorem dX8_part_46 : decode cX8_part 46 = .ok (.invokevirtual 119, 3) := by decide +kernel
theorem dX8_part_49 : decode cX8_part 49 = .ok (.i2l, 1) := by decide +kernel
theorem dX8_part_50 : decode cX8_part 50 = .ok (.lreturn, 1) := by decide +kernel
set_option maxHeartbeats 4000000 in
set_option maxRecDepth 100000 in
theorem c_X8_part (l : Launch) (B : Nat) (D : va_G) (cA : Nat → ClassId) (m : Mm) (x0 : Nat) (x1 : Int32) (x2 : Int32) (x3 : Int32) (rZ : Int64) (mZ : Mm) (hf : f_X8_part m x0 x1 x2 x3 = some (rZ, mZ)) : Mt l B D cA yX8_part cX8_part 4 (some .long) 6 145 0 0 [.ref (B + x0), .int x1, .int x2, .int x3] m (some (.long rZ)) mZ := by
  refine r_start (by decide) (Nat.le_of_ble_eq_true rfl) ?_
  intro p e s mt args below meth c ls H locs X hr hlocks hnm hR hl hS
  have hx := X.1
  have hb := X.2.1
  have hl : lv_has ls 4 [(0, .ref (B + x0)), (1, .int x1), (2, .int x2), (3, .int x3)] := hl
  unfold f_X8_part at hf
  refine lv_iload_n hx hb dX8_part_0 rfl (lv_at hl 1 rfl) ?_
  obtain ⟨v2, g1, hf⟩ := ob hf
  refine r_callS X kw_X8_161 (c_X8_isTwig l B D cA m x1 v2 g1) ⟨Nat.le_of_ble_eq_true rfl, Nat.le_of_ble_eq_true rfl⟩ hR hS hl.1 rfl rfl (Nat.le_of_ble_eq_true rfl) ⟨Nat.le_of_ble_eq_true rfl, Nat.le_of_ble_eq_true rfl⟩ dX8_part_1 (fun H locs hR hS => ?_)
  refine W.eq (g2 := F0 mt 4 ls [.int v2]) rfl ?_
  refine lv_if_eq (tgt := 19) hx hb dX8_part_4 (by decide) (fun c3 => ?_) (fun c3 => ?_)
  · rw [if_pos c3] at hf
    refine lv_aload_n hx hb dX8_part_19 rfl (lv_at hl 0 rfl) ?_
    obtain ⟨o4, h5, hf⟩ := obO hf
    obtain ⟨t7, g6, hf⟩ := ob hf
    refine r_callV X kw_X8_134 (ci := 8) rfl (c_X8_bad l B D cA m x0 t7.1 t7.2 g6) ⟨Nat.le_of_ble_eq_true rfl, Nat.le_of_ble_eq_true rfl⟩ h5 hR hS hl.1 rfl rfl (Nat.le_of_ble_eq_true rfl) ⟨Nat.le_of_ble_eq_true rfl, Nat.le_of_ble_eq_true rfl⟩ dX8_part_20 (fun H locs hR hS => ?_)
    refine W.eq (g2 := F0 mt 23 ls [.int t7.1]) rfl ?_
    refine lv_i2l (v := t7.1.toInt64) hx hb dX8_part_23 rfl ?_
    obtain ⟨rfl, rfl⟩ := Prod.mk.inj (Option.some.inj hf)
    exact r_lret X hr hlocks hR hS dX8_part_24
  · rw [if_neg c3] at hf
    refine lv_iload_n hx hb dX8_part_7 rfl (lv_at hl 2 rfl) ?_
    refine lv_if_lt (tgt := 19) hx hb dX8_part_8 (by decide) (fun c8 => ?_) (fun c8 => ?_)
    · rw [if_pos c8] at hf
      refine lv_aload_n hx hb dX8_part_19 rfl (lv_at hl 0 rfl) ?_
      obtain ⟨o9, h10, hf⟩ := obO hf
      obtain ⟨t12, g11, hf⟩ := ob hf
      refine r_callV X kw_X8_134 (ci := 8) rfl (c_X8_bad l B D cA m x0 t12.1 t12.2 g11) ⟨Nat.le_of_ble_eq_true rfl, Nat.le_of_ble_eq_true rfl⟩ h10 hR hS hl.1 rfl rfl (Nat.le_of_ble_eq_true rfl) ⟨Nat.le_of_ble_eq_true rfl, Nat.le_of_ble_eq_true rfl⟩ dX8_part_20 (fun H locs hR hS => ?_)
      refine W.eq (g2 := F0 mt 23 ls [.int t12.1]) rfl ?_
      refine lv_i2l (v := t12.1.toInt64) hx hb dX8_part_23 rfl ?_
      obtain ⟨rfl, rfl⟩ := Prod.mk.inj (Option.some.inj hf)
      exact r_lret X hr hlocks hR hS dX8_part_24
    · rw [if_neg c8] at hf
      refine lv_aload_n hx hb dX8_part_11 rfl (lv_at hl 0 rfl) ?_
      refine lv_iload_n hx hb dX8_part_12 rfl (lv_at hl 3 rfl) ?_
      obtain ⟨o13, h14, hf⟩ := obO hf
      obtain ⟨v16, g15, hf⟩ := ob hf
      refine r_callV X kw_X8_126 (ci := 8) rfl (c_X8_isElement l B D cA m x0 x3 v16 g15) ⟨Nat.le_of_ble_eq_true rfl, Nat.le_of_ble_eq_true rfl⟩ h14 hR hS hl.1 rfl rfl (Nat.le_of_ble_eq_true rfl) ⟨Nat.le_of_ble_eq_true rfl, Nat.le_of_ble_eq_true rfl⟩ dX8_part_13 (fun H locs hR hS => ?_)
      refine W.eq (g2 := F0 mt 16 ls [.int v16]) rfl ?_
      refine lv_if_ne (tgt := 25) hx hb dX8_part_16 (by decide) (fun c17 => ?_) (fun c17 => ?_)
      · rw [if_neg c17] at hf
        refine lv_iload_n hx hb dX8_part_25 rfl (lv_at hl 2 rfl) ?_
        refine lv_aload_n hx hb dX8_part_26 rfl (lv_at hl 0 rfl) ?_
        obtain ⟨v18, g19, hf⟩ := ob hf
        refine gR_X8_32 X hR g19 dX8_part_27 ?_
        refine lv_iload_n hx hb dX8_part_30 rfl (lv_at hl 1 rfl) ?_
        obtain ⟨v20, g21, hf⟩ := ob hf
        refine r_lI X hR g21 dX8_part_31 ?_
        refine lv_icmp_ge (tgt := 45) hx hb dX8_part_32 (by decide) (fun c22 => ?_) (fun c22 => ?_)
        · rw [if_pos c22] at hf
          refine lv_aload_n hx hb dX8_part_45 rfl (lv_at hl 0 rfl) ?_
          obtain ⟨o23, h24, hf⟩ := obO hf
          obtain ⟨t26, g25, hf⟩ := ob hf
          refine r_callV X kw_X8_119 (ci := 8) rfl (c_X8_no l B D cA m x0 t26.1 t26.2 g25) ⟨Nat.le_of_ble_eq_true rfl, Nat.le_of_ble_eq_true rfl⟩ h24 hR hS hl.1 rfl rfl (Nat.le_of_ble_eq_true rfl) ⟨Nat.le_of_ble_eq_true rfl, Nat.le_of_ble_eq_true rfl⟩ dX8_part_46 (fun H locs hR hS => ?_)
          refine W.eq (g2 := F0 mt 49 ls [.int t26.1]) rfl ?_
          refine lv_i2l (v := t26.1.toInt64) hx hb dX8_part_49 rfl ?_
          obtain ⟨rfl, rfl⟩ := Prod.mk.inj (Option.some.inj hf)
          exact r_lret X hr hlocks hR hS dX8_part_50
        · rw [if_neg c22] at hf
          refine lv_aload_n hx hb dX8_part_35 rfl (lv_at hl 0 rfl) ?_
          refine lv_iload_n hx hb dX8_part_36 rfl (lv_at hl 1 rfl) ?_
          refine lv_iload_n hx hb dX8_part_37 rfl (lv_at hl 2 rfl) ?_
          refine lv_iload_n hx hb dX8_part_38 rfl (lv_at hl 3 rfl) ?_
          obtain ⟨o27, h28, hf⟩ := obO hf
          obtain ⟨t30, g29, hf⟩ := ob hf
          refine r_callV X kw_X8_212 (ci := 8) rfl (c_X8_partOf l B D cA m x0 x1 x2 x3 t30.1 t30.2 g29) ⟨Nat.le_of_ble_eq_true rfl, Nat.le_of_ble_eq_true rfl⟩ h28 hR hS hl.1 rfl rfl (Nat.le_of_ble_eq_true rfl) ⟨Nat.le_of_ble_eq_true rfl, Nat.le_of_ble_eq_true rfl⟩ dX8_part_39 (fun H locs hR hS => ?_)
          refine W.eq (g2 := F0 mt 42 ls [.long t30.1]) rfl ?_
          refine lv_goto (tgt := 50) hx hb dX8_part_42 (by decide) ?_
          obtain ⟨rfl, rfl⟩ := Prod.mk.inj (Option.some.inj hf)
          exact r_lret X hr hlocks hR hS dX8_part_50
      · rw [if_pos c17] at hf
        refine lv_aload_n hx hb dX8_part_19 rfl (lv_at hl 0 rfl) ?_
        obtain ⟨o31, h32, hf⟩ := obO hf
        obtain ⟨t34, g33, hf⟩ := ob hf
        refine r_callV X kw_X8_134 (ci := 8) rfl (c_X8_bad l B D cA m x0 t34.1 t34.2 g33) ⟨Nat.le_of_ble_eq_true rfl, Nat.le_of_ble_eq_true rfl⟩ h32 hR hS hl.1 rfl rfl (Nat.le_of_ble_eq_true rfl) ⟨Nat.le_of_ble_eq_true rfl, Nat.le_of_ble_eq_true rfl⟩ dX8_part_20 (fun H locs hR hS => ?_)
        refine W.eq (g2 := F0 mt 23 ls [.int t34.1]) rfl ?_
        refine lv_i2l (v := t34.1.toInt64) hx hb dX8_part_23 rfl ?_
        obtain ⟨rfl, rfl⟩ := Prod.mk.inj (Option.some.inj hf)
        exact r_lret X hr hlocks hR hS dX8_part_24
/-! ===== TwigMatchesModel.climbs(IIZ)V ===== -/
theorem dX8_climbs_0 : decode cX8_climbs 0 = .ok (.aload_n 0, 1) := by decide +kernel
theorem dX8_climbs_1 : decode cX8_climbs 1 = .ok (.iload_n 1, 1) := by decide +kernel
theorem dX8_climbs_2 : decode cX8_climbs 2 = .ok (.iload_n 2, 1) := by decide +kernel
theorem dX8_climbs_3 : decode cX8_climbs 3 = .ok (.invokevirtual 113, 3) := by decide +kernel
theorem dX8_climbs_6 : decode cX8_climbs 6 = .ok (.istore 4, 2) := by decide +kernel
theorem dX8_climbs_8 : decode cX8_climbs 8 = .ok (.iconst 0, 1) := by decide +kernel
theorem dX8_climbs_9 : decode cX8_climbs 9 = .ok (.istore 5, 2) := by decide +kernel
theorem dX8_climbs_11 : decode cX8_climbs 11 = .ok (.iload 5, 2) := by decide +kernel
theorem dX8_climbs_13 : decode cX8_climbs 13 = .ok (.aload_n 0, 1) := by decide +kernel
theorem dX8_climbs_14 : decode cX8_climbs 14 = .ok (.getfield 13, 3) := by decide +kernel
theorem dX8_climbs_17 : decode cX8_climbs 17 = .ok (.if_icmp .ge 144, 3) := by decide +kernel
theorem dX8_climbs_20 : decode cX8_climbs 20 = .ok (.aload_n 0, 1) := by decide +kernel
theorem dX8_climbs_21 : decode cX8_climbs 21 = .ok (.getfield 69, 3) := by decide +kernel
theorem dX8_climbs_24 : decode cX8_climbs 24 = .ok (.iload 5, 2) := by decide +kernel
theorem dX8_climbs_26 : decode cX8_climbs 26 = .ok (.lconst 0, 1) := by decide +kernel
theorem dX8_climbs_27 : decode cX8_climbs 27 = .ok (.lastore, 1) := by decide +kernel
theorem dX8_climbs_28 : decode cX8_climbs 28 = .ok (.iload 5, 2) := by decide +kernel
theorem dX8_climbs_30 : decode cX8_climbs 30 = .ok (.iconst 1, 1) := by decide +kernel
theorem dX8_climbs_31 : decode cX8_climbs 31 = .ok (.iadd, 1) := by decide +kernel
theorem dX8_climbs_32 : decode cX8_climbs 32 = .ok (.istore 6, 2) := by decide +kernel
theorem dX8_climbs_34 : decode cX8_climbs 34 = .ok (.iload 6, 2) := by decide +kernel
theorem dX8_climbs_36 : decode cX8_climbs 36 = .ok (.aload_n 0, 1) := by decide +kernel
theorem dX8_climbs_37 : decode cX8_climbs 37 = .ok (.getfield 26, 3) := by decide +kernel
theorem dX8_climbs_40 : decode cX8_climbs 40 = .ok (.iload 5, 2) := by decide +kernel
theorem dX8_climbs_42 : decode cX8_climbs 42 = .ok (.iaload, 1) := by decide +kernel
theorem dX8_climbs_43 : decode cX8_climbs 43 = .ok (.if_icmp .ge 112, 3) := by decide +kernel
theorem dX8_climbs_46 : decode cX8_climbs 46 = .ok (.aload_n 0, 1) := by decide +kernel
theorem dX8_climbs_47 : decode cX8_climbs 47 = .ok (.getfield 66, 3) := by decide +kernel
theorem dX8_climbs_50 : decode cX8_climbs 50 = .ok (.iload 6, 2) := by decide +kernel
theorem dX8_climbs_52 : decode cX8_climbs 52 = .ok (.laload, 1) := by decide +kernel
theorem dX8_climbs_53 : decode cX8_climbs 53 = .ok (.lconst 0, 1) := by decide +kernel
theorem dX8_climbs_54 : decode cX8_climbs 54 = .ok (.lcmp, 1) := by decide +kernel
theorem dX8_climbs_55 : decode cX8_climbs 55 = .ok (.ifCond .le 32, 3) := by decide +kernel
theorem dX8_climbs_58 : decode cX8_climbs 58 = .ok (.aload_n 0, 1) := by decide +kernel
theorem dX8_climbs_59 : decode cX8_climbs 59 = .ok (.iload_n 1, 1) := by decide +kernel
theorem dX8_climbs_60 : decode cX8_climbs 60 = .ok (.iload_n 2, 1) := by decide +kernel
theorem dX8_climbs_61 : decode cX8_climbs 61 = .ok (.iload 5, 2) := by decide +kernel
theorem dX8_climbs_63 : decode cX8_climbs 63 = .ok (.iload 6, 2) := by decide +kernel
theorem dX8_climbs_65 : decode cX8_climbs 65 = .ok (.invokevirtual 184, 3) := by decide +kernel
theorem dX8_climbs_68 : decode cX8_climbs 68 = .ok (.ifCond .eq 19, 3) := by decide +kernel
theorem dX8_climbs_71 : decode cX8_climbs 71 = .ok (.aload_n 0, 1) := by decide +kernel
theorem dX8_climbs_72 : decode cX8_climbs 72 = .ok (.iload_n 1, 1) := by decide +kernel
theorem dX8_climbs_73 : decode cX8_climbs 73 = .ok (.iload 4, 2) := by decide +kernel
theorem dX8_climbs_75 : decode cX8_climbs 75 = .ok (.iload 5, 2) := by decide +kernel
theorem dX8_climbs_77 : decode cX8_climbs 77 = .ok (.invokevirtual 191, 3) := by decide +kernel
theorem dX8_climbs_80 : decode cX8_climbs 80 = .ok (.ifCond .eq 7, 3) := by decide +kernel
theorem dX8_climbs_83 : decode cX8_climbs 83 = .ok (.iconst 1, 1) := by decide +kernel
theorem dX8_climbs_84 : decode cX8_climbs 84 = .ok (.goto 4, 3) := by decide +kernel
theorem dX8_climbs_87 : decode cX8_climbs 87 = .ok (.iconst 0, 1) := by decide +kernel
theorem dX8_climbs_88 : decode cX8_climbs 88 = .ok (.istore 7, 2) := by decide +kernel
theorem dX8_climbs_90 : decode cX8_climbs 90 = .ok (.iload 7, 2) := by decide +kernel
theorem dX8_climbs_92 : decode cX8_climbs 92 = .ok (.ifCond .eq 28, 3) := by decide +kernel
theorem dX8_climbs_95 : decode cX8_climbs 95 = .ok (.iload_n 3, 1) := by decide +kernel
theorem dX8_climbs_96 : decode cX8_climbs 96 = .ok (.ifCond .eq 20, 3) := by decide +kernel
theorem dX8_climbs_99 : decode cX8_climbs 99 = .ok (.aload_n 0, 1) := by decide +kernel
theorem dX8_climbs_100 : decode cX8_climbs 100 = .ok (.iload_n 1, 1) := by decide +kernel
theorem dX8_climbs_101 : decode cX8_climbs 101 = .ok (.iload 4, 2) := by decide +kernel
theorem dX8_climbs_103 : decode cX8_climbs 103 = .ok (.iload 5, 2) := by decide +kernel
theorem dX8_climbs_105 : decode cX8_climbs 105 = .ok (.iload_n 2, 1) := by decide +kernel
theorem dX8_climbs_106 : decode cX8_climbs 106 = .ok (.iload 6, 2) := by decide +kernel
theorem dX8_climbs_108 : decode cX8_climbs 108 = .ok (.invokevirtual 194, 3) := by decide +kernel
theorem dX8_climbs_111 : decode cX8_climbs 111 = .ok (.lconst 0, 1) := by decide +kernel
theorem dX8_climbs_112 : decode cX8_climbs 112 = .ok (.lcmp, 1) := by decide +kernel
theorem dX8_climbs_113 : decode cX8_climbs 113 = .ok (.ifCond .le 7, 3) := by decide +kernel
theorem dX8_climbs_116 : decode cX8_climbs 116 = .ok (.iconst 1, 1) := by decide +kernel
theorem dX8_climbs_117 : decode cX8_climbs 117 = .ok (.goto 4, 3) := by decide +kernel
theorem dX8_climbs_120 : decode cX8_climbs 120 = .ok (.iconst 0, 1) := by decide +kernel
theorem dX8_climbs_121 : decode cX8_climbs 121 = .ok (.istore 7, 2) := by decide +kernel
theorem dX8_climbs_123 : decode cX8_climbs 123 = .ok (.aload_n 0, 1) := by decide +kernel
theorem dX8_climbs_124 : decode cX8_climbs 124 = .ok (.getfield 69, 3) := by decide +kernel
theorem dX8_climbs_127 : decode cX8_climbs 127 = .ok (.iload 5, 2) := by decide +kernel
theorem dX8_climbs_129 : decode cX8_climbs 129 = .ok (.dup2, 1) := by decide +kernel
theorem dX8_climbs_130 : decode cX8_climbs 130 = .ok (.laload, 1) := by decide +kernel
theorem dX8_climbs_131 : decode cX8_climbs 131 = .ok (.iload 7, 2) := by decide +kernel
theorem dX8_climbs_133 : decode cX8_climbs 133 = .ok (.ifCond .eq 13, 3) := by decide +kernel
theorem dX8_climbs_136 : decode cX8_climbs 136 = .ok (.aload_n 0, 1) := by decide +kernel
theorem dX8_climbs_137 : decode cX8_climbs 137 = .ok (.getfield 66, 3) := by decide +kernel
theorem dX8_climbs_140 : decode cX8_climbs 140 = .ok (.iload 6, 2) := by decide +kernel
theorem dX8_climbs_142 : decode cX8_climbs 142 = .ok (.laload, 1) := by decide +kernel
theorem dX8_climbs_143 : decode cX8_climbs 143 = .ok (.goto 4, 3) := by decide +kernel
theorem dX8_climbs_146 : decode cX8_climbs 146 = .ok (.lconst 0, 1) := by decide +kernel
theorem dX8_climbs_147 : decode cX8_climbs 147 = .ok (.ladd, 1) := by decide +kernel
theorem dX8_climbs_148 : decode cX8_climbs 148 = .ok (.lastore, 1) := by decide +kernel
theorem dX8_climbs_149 : decode cX8_climbs 149 = .ok (.iinc 6 1, 3) := by decide +kernel
theorem dX8_climbs_152 : decode cX8_climbs 152 = .ok (.goto (-118), 3) := by decide +kernel
theorem dX8_climbs_155 : decode cX8_climbs 155 = .ok (.iinc 5 1, 3) := by decide +kernel
theorem dX8_climbs_158 : decode cX8_climbs 158 = .ok (.goto (-147), 3) := by decide +kernel
theorem dX8_climbs_161 : decode cX8_climbs 161 = .ok (.iconst 0, 1) := by decide +kernel
theorem dX8_climbs_162 : decode cX8_climbs 162 = .ok (.istore 5, 2) := by decide +kernel
theorem dX8_climbs_164 : decode cX8_climbs 164 = .ok (.iload 5, 2) := by decide +kernel
theorem dX8_climbs_166 : decode cX8_climbs 166 = .ok (.aload_n 0, 1) := by decide +kernel
theorem dX8_climbs_167 : decode cX8_climbs 167 = .ok (.getfield 13, 3) := by decide +kernel
theorem dX8_climbs_170 : decode cX8_climbs 170 = .ok (.if_icmp .ge 23, 3) := by decide +kernel
theorem dX8_climbs_173 : decode cX8_climbs 173 = .ok (.aload_n 0, 1) := by decide +kernel
theorem dX8_climbs_174 : decode cX8_climbs 174 = .ok (.getfield 66, 3) := by decide +kernel
theorem dX8_climbs_177 : decode cX8_climbs 177 = .ok (.iload 5, 2) := by decide +kernel
theorem dX8_climbs_179 : decode cX8_climbs 179 = .ok (.aload_n 0, 1) := by decide +kernel
theorem dX8_climbs_180 : decode cX8_climbs 180 = .ok (.getfield 69, 3) := by decide +kernel
theorem dX8_climbs_183 : decode cX8_climbs 183 = .ok (.iload 5, 2) := by decide +kernel
theorem dX8_climbs_185 : decode cX8_climbs 185 = .ok (.laload, 1) := by decide +kernel
theorem dX8_climbs_186 : decode cX8_climbs 186 = .ok (.lastore, 1) := by decide +kernel
theorem dX8_climbs_187 : decode cX8_climbs 187 = .ok (.iinc 5 1, 3) := by decide +kernel
theorem dX8_climbs_190 : decode cX8_climbs 190 = .ok (.goto (-26), 3) := by decide +kernel
theorem dX8_climbs_193 : decode cX8_climbs 193 = .ok (.return_, 1) := by decide +kernel
set_option maxHeartbeats 4000000 in
set_option maxRecDepth 100000 in
theorem c_X8_climbs (l : Launch) (B : Nat) (D : va_G) (cA : Nat → ClassId) (m : Mm) (x0 : Nat) (x1 : Int32) (x2 : Int32) (x3 : Int32) (mZ : Mm) (hf : f_X8_climbs m x0 x1 x2 x3 = some mZ) : Mt l B D cA yX8_climbs cX8_climbs 8 none 4 98 0 0 [.ref (B + x0), .int x1, .int x2, .int x3] m none mZ := by
  refine r_start (by decide) (Nat.le_of_ble_eq_true rfl) ?_
  intro p e s mt args below meth c ls H locs X hr hlocks hnm hR hl hS
  have hx := X.1
  have hb := X.2.1
  have hl : lv_has ls 8 [(0, .ref (B + x0)), (1, .int x1), (2, .int x2), (3, .int x3)] := hl
  unfold f_X8_climbs at hf
  refine lv_aload_n hx hb dX8_climbs_0 rfl (lv_at hl 0 rfl) ?_
  refine lv_iload_n hx hb dX8_climbs_1 rfl (lv_at hl 1 rfl) ?_
  refine lv_iload_n hx hb dX8_climbs_2 rfl (lv_at hl 2 rfl) ?_
  obtain ⟨o1, h2, hf⟩ := obO hf
  obtain ⟨v4, g3, hf⟩ := ob hf
  refine r_callV X kw_X8_113 (ci := 8) rfl (c_X8_ofNode l B D cA m x0 x1 x2 v4 g3) ⟨Nat.le_of_ble_eq_true rfl, Nat.le_of_ble_eq_true rfl⟩ h2 hR hS hl.1 rfl rfl (Nat.le_of_ble_eq_true rfl) ⟨Nat.le_of_ble_eq_true rfl, Nat.le_of_ble_eq_true rfl⟩ dX8_climbs_3 (fun H locs hR hS => ?_)
  refine W.eq (g2 := F0 mt 6 ls [.int v4]) rfl ?_
  refine lv_istore (lv' := [(4, .int v4), (0, .ref (B + x0)), (1, .int x1), (2, .int x2), (3, .int x3)]) hx hb dX8_climbs_6 hl (by decide) rfl (fun ls hl => ?_)
  refine lv_iconst (v := 0) hx hb dX8_climbs_8 (by decide) ?_
  refine lv_istore (lv' := [(5, .int (0 : Int32)), (4, .int v4), (0, .ref (B + x0)), (1, .int x1), (2, .int x2), (3, .int x3)]) hx hb dX8_climbs_9 hl (by decide) rfl (fun ls hl => ?_)
  obtain ⟨e6, hwe6, hf⟩ := ob hf
  refine whl_rule (P := (fun t5 => ∀ (H : Heap) (locs : List Loc) (ls : Array Slot), Rl B D cA t5.2 H → va_S (fun q => B ≤ q) s.heap H locs → lv_has ls 8 [(0, .ref (B + x0)), (1, .int x1), (2, .int x2), (3, .int x3), (4, .int v4), (5, .int t5.1)] → W p l e (rmm 4 0 0 98) s mt args below meth c H locs 0 0 (MQ below (mQ B D cA none mZ) args s 0 0 (fun q => B ≤ q)) (F0 mt 11 ls []))) (Qx := (fun e6 => ∀ (H : Heap) (locs : List Loc) (ls : Array Slot), Rl B D cA e6 H → va_S (fun q => B ≤ q) s.heap H locs → lv_has ls 8 [(0, .ref (B + x0))] → W p l e (rmm 4 0 0 98) s mt args below meth c H locs 0 0 (MQ below (mQ B D cA none mZ) args s 0 0 (fun q => B ≤ q)) (F0 mt 161 ls []))) ?_ FU _ e6 hwe6 ?_ H locs ls hR hS (lv_sub hl [2, 3, 4, 5, 1, 0] rfl)
  · clear hwe6 hf
    intro t5 q7 hf hxlq7 hxrq7 H locs ls hR hS hl
    obtain ⟨z8, m9⟩ := t5
    have hf : f_X8_climbs_L11 m9 x0 x1 x2 x3 v4 z8 = some q7 := hf
    have hR : Rl B D cA m9 H := hR
    have hl : lv_has ls 8 [(0, .ref (B + x0)), (1, .int x1), (2, .int x2), (3, .int x3), (4, .int v4), (5, .int z8)] := hl
    unfold f_X8_climbs_L11 at hf
    refine lv_iload hx hb dX8_climbs_11 (lv_at hl 5 rfl) ?_
    refine lv_aload_n hx hb dX8_climbs_13 rfl (lv_at hl 0 rfl) ?_
    obtain ⟨v10, g11, hf⟩ := ob hf
    refine gI_X8_13 X hR g11 dX8_climbs_14 ?_
    refine lv_icmp_ge (tgt := 161) hx hb dX8_climbs_17 (by decide) (fun c12 => ?_) (fun c12 => ?_)
    · rw [if_pos c12] at hf
      obtain rfl := Option.some.inj hf
      exact hxrq7 _ rfl H locs ls hR hS (lv_sub hl [0] rfl)
    · rw [if_neg c12] at hf
      refine lv_aload_n hx hb dX8_climbs_20 rfl (lv_at hl 0 rfl) ?_
      obtain ⟨v13, g14, hf⟩ := ob hf
      refine gR_X8_69 X hR g14 dX8_climbs_21 ?_
      refine lv_iload hx hb dX8_climbs_24 (lv_at hl 5 rfl) ?_
      refine lv_lconst (v := 0) hx hb dX8_climbs_26 (by decide) ?_
      obtain ⟨m15, g16, hf⟩ := ob hf
      refine r_sJ X hR hS g16 dX8_climbs_27 (fun H locs hR hS => ?_)
      refine lv_iload hx hb dX8_climbs_28 (lv_at hl 5 rfl) ?_
      refine lv_iconst (v := 1) hx hb dX8_climbs_30 (by decide) ?_
      refine lv_iadd hx hb dX8_climbs_31 ?_
      refine lv_istore (lv' := [(6, .int (z8 + (1 : Int32))), (0, .ref (B + x0)), (1, .int x1), (2, .int x2), (3, .int x3), (4, .int v4), (5, .int z8)]) hx hb dX8_climbs_32 hl (by decide) rfl (fun ls hl => ?_)
      obtain ⟨e18, hwe18, hf⟩ := ob hf
      refine whl_rule (P := (fun t17 => ∀ (H : Heap) (locs : List Loc) (ls : Array Slot), Rl B D cA t17.2 H → va_S (fun q => B ≤ q) s.heap H locs → lv_has ls 8 [(0, .ref (B + x0)), (1, .int x1), (2, .int x2), (3, .int x3), (4, .int v4), (5, .int z8), (6, .int t17.1)] → W p l e (rmm 4 0 0 98) s mt args below meth c H locs 0 0 (MQ below (mQ B D cA none mZ) args s 0 0 (fun q => B ≤ q)) (F0 mt 34 ls []))) (Qx := (fun e18 => ∀ (H : Heap) (locs : List Loc) (ls : Array Slot), Rl B D cA e18 H → va_S (fun q => B ≤ q) s.heap H locs → lv_has ls 8 [(0, .ref (B + x0)), (1, .int x1), (2, .int x2), (3, .int x3), (4, .int v4), (5, .int z8)] → W p l e (rmm 4 0 0 98) s mt args below meth c H locs 0 0 (MQ below (mQ B D cA none mZ) args s 0 0 (fun q => B ≤ q)) (F0 mt 155 ls []))) ?_ FU _ e18 hwe18 ?_ H locs ls hR hS (lv_sub hl [1, 2, 3, 4, 5, 6, 0] rfl)
      · clear hwe18 hf
        intro t17 q19 hf hxlq19 hxrq19 H locs ls hR hS hl
        obtain ⟨z20, m21⟩ := t17
        have hf : f_X8_climbs_L34 m21 x0 x1 x2 x3 v4 z8 z20 = some q19 := hf
        have hR : Rl B D cA m21 H := hR
        have hl : lv_has ls 8 [(0, .ref (B + x0)), (1, .int x1), (2, .int x2), (3, .int x3), (4, .int v4), (5, .int z8), (6, .int z20)] := hl
        unfold f_X8_climbs_L34 at hf
        refine lv_iload hx hb dX8_climbs_34 (lv_at hl 6 rfl) ?_
        refine lv_aload_n hx hb dX8_climbs_36 rfl (lv_at hl 0 rfl) ?_
        obtain ⟨v22, g23, hf⟩ := ob hf
        refine gR_X8_26 X hR g23 dX8_climbs_37 ?_
        refine lv_iload hx hb dX8_climbs_40 (lv_at hl 5 rfl) ?_
        obtain ⟨v24, g25, hf⟩ := ob hf
        refine r_lI X hR g25 dX8_climbs_42 ?_
        refine lv_icmp_ge (tgt := 155) hx hb dX8_climbs_43 (by decide) (fun c26 => ?_) (fun c26 => ?_)
        · rw [if_pos c26] at hf
          obtain rfl := Option.some.inj hf
          exact hxrq19 _ rfl H locs ls hR hS (lv_sub hl [0, 1, 2, 3, 4, 5] rfl)
        · rw [if_neg c26] at hf
          refine lv_aload_n hx hb dX8_climbs_46 rfl (lv_at hl 0 rfl) ?_
          obtain ⟨v27, g28, hf⟩ := ob hf
          refine gR_X8_66 X hR g28 dX8_climbs_47 ?_
          refine lv_iload hx hb dX8_climbs_50 (lv_at hl 6 rfl) ?_
          obtain ⟨v29, g30, hf⟩ := ob hf
          refine r_lJ X hR g30 dX8_climbs_52 ?_
          refine lv_lconst (v := 0) hx hb dX8_climbs_53 (by decide) ?_
          obtain ⟨t31, hjt31, hf⟩ := ob hf
          have hJt31 : ∀ (H : Heap) (locs : List Loc) (ls : Array Slot), Rl B D cA m21 H → va_S (fun q => B ≤ q) s.heap H locs → lv_has ls 8 [(0, .ref (B + x0)), (1, .int x1), (2, .int x2), (3, .int x3), (4, .int v4), (5, .int z8), (6, .int z20)] → W p l e (rmm 4 0 0 98) s mt args below meth c H locs 0 0 (MQ below (mQ B D cA none mZ) args s 0 0 (fun q => B ≤ q)) (F0 mt 88 ls [.int t31]) := by
            intro H locs ls hR hS hl
            refine lv_istore (lv' := [(7, .int t31), (0, .ref (B + x0)), (1, .int x1), (2, .int x2), (3, .int x3), (4, .int v4), (5, .int z8), (6, .int z20)]) hx hb dX8_climbs_88 hl (by decide) rfl (fun ls hl => ?_)
            refine lv_iload hx hb dX8_climbs_90 (lv_at hl 0 rfl) ?_
            obtain ⟨t43, hjt43, hf⟩ := ob hf
            have hJt43 : ∀ (H : Heap) (locs : List Loc) (ls : Array Slot), Rl B D cA t43.2 H → va_S (fun q => B ≤ q) s.heap H locs → lv_has ls 8 [(0, .ref (B + x0)), (1, .int x1), (2, .int x2), (3, .int x3), (4, .int v4), (5, .int z8), (6, .int z20)] → W p l e (rmm 4 0 0 98) s mt args below meth c H locs 0 0 (MQ below (mQ B D cA none mZ) args s 0 0 (fun q => B ≤ q)) (F0 mt 121 ls [.int t43.1]) := by
              intro H locs ls hR hS hl
              refine lv_istore (lv' := [(7, .int t43.1), (0, .ref (B + x0)), (1, .int x1), (2, .int x2), (3, .int x3), (4, .int v4), (5, .int z8), (6, .int z20)]) hx hb dX8_climbs_121 hl (by decide) rfl (fun ls hl => ?_)
              refine lv_aload_n hx hb dX8_climbs_123 rfl (lv_at hl 1 rfl) ?_
              obtain ⟨v51, g52, hf⟩ := ob hf
              refine gR_X8_69 X hR g52 dX8_climbs_124 ?_
              refine lv_iload hx hb dX8_climbs_127 (lv_at hl 6 rfl) ?_
              refine lv_dup2_11 hx hb dX8_climbs_129 rfl rfl ?_
              obtain ⟨v53, g54, hf⟩ := ob hf
              refine r_lJ X hR g54 dX8_climbs_130 ?_
              refine lv_iload hx hb dX8_climbs_131 (lv_at hl 0 rfl) ?_
              refine lv_if_eq (tgt := 146) hx hb dX8_climbs_133 (by decide) (fun c55 => ?_) (fun c55 => ?_)
              · rw [if_pos c55] at hf
                refine lv_lconst (v := 0) hx hb dX8_climbs_146 (by decide) ?_
                refine lv_ladd hx hb dX8_climbs_147 ?_
                obtain ⟨m56, g57, hf⟩ := ob hf
                refine r_sJ X hR hS g57 dX8_climbs_148 (fun H locs hR hS => ?_)
                refine lv_iinc (v := (z20 + 1)) (lv' := [(6, .int (z20 + 1)), (7, .int t43.1), (0, .ref (B + x0)), (1, .int x1), (2, .int x2), (3, .int x3), (4, .int v4), (5, .int z8)]) hx hb dX8_climbs_149 hl (k := 7) rfl (congrArg (fun z => z20 + z) (by decide)) (by decide) rfl (fun ls hl => ?_)
                refine lv_goto (tgt := 34) hx hb dX8_climbs_152 (by decide) ?_
                obtain rfl := Option.some.inj hf
                exact hxlq19 _ rfl H locs ls hR hS (lv_sub hl [2, 3, 4, 5, 6, 7, 0] rfl)
              · rw [if_neg c55] at hf
                refine lv_aload_n hx hb dX8_climbs_136 rfl (lv_at hl 1 rfl) ?_
                obtain ⟨v58, g59, hf⟩ := ob hf
                refine gR_X8_66 X hR g59 dX8_climbs_137 ?_
                refine lv_iload hx hb dX8_climbs_140 (lv_at hl 7 rfl) ?_
                obtain ⟨v60, g61, hf⟩ := ob hf
                refine r_lJ X hR g61 dX8_climbs_142 ?_
                refine lv_goto (tgt := 147) hx hb dX8_climbs_143 (by decide) ?_
                refine lv_ladd hx hb dX8_climbs_147 ?_
                obtain ⟨m62, g63, hf⟩ := ob hf
                refine r_sJ X hR hS g63 dX8_climbs_148 (fun H locs hR hS => ?_)
                refine lv_iinc (v := (z20 + 1)) (lv' := [(6, .int (z20 + 1)), (7, .int t43.1), (0, .ref (B + x0)), (1, .int x1), (2, .int x2), (3, .int x3), (4, .int v4), (5, .int z8)]) hx hb dX8_climbs_149 hl (k := 7) rfl (congrArg (fun z => z20 + z) (by decide)) (by decide) rfl (fun ls hl => ?_)
                refine lv_goto (tgt := 34) hx hb dX8_climbs_152 (by decide) ?_
                obtain rfl := Option.some.inj hf
                exact hxlq19 _ rfl H locs ls hR hS (lv_sub hl [2, 3, 4, 5, 6, 7, 0] rfl)
            have hf := hjt43
            clear hjt43
            refine lv_if_eq (tgt := 120) hx hb dX8_climbs_92 (by decide) (fun c44 => ?_) (fun c44 => ?_)
            · rw [if_pos c44] at hf
              refine lv_iconst (v := 0) hx hb dX8_climbs_120 (by decide) ?_
              obtain rfl := Option.some.inj hf
              exact hJt43 H locs ls hR hS (lv_sub hl [1, 2, 3, 4, 5, 6, 7] rfl)
            · rw [if_neg c44] at hf
              refine lv_iload_n hx hb dX8_climbs_95 rfl (lv_at hl 4 rfl) ?_
              refine lv_if_eq (tgt := 116) hx hb dX8_climbs_96 (by decide) (fun c45 => ?_) (fun c45 => ?_)
              · rw [if_pos c45] at hf
                refine lv_iconst (v := 1) hx hb dX8_climbs_116 (by decide) ?_
                refine lv_goto (tgt := 121) hx hb dX8_climbs_117 (by decide) ?_
                obtain rfl := Option.some.inj hf
                exact hJt43 H locs ls hR hS (lv_sub hl [1, 2, 3, 4, 5, 6, 7] rfl)
              · rw [if_neg c45] at hf
                refine lv_aload_n hx hb dX8_climbs_99 rfl (lv_at hl 1 rfl) ?_
                refine lv_iload_n hx hb dX8_climbs_100 rfl (lv_at hl 2 rfl) ?_
                refine lv_iload hx hb dX8_climbs_101 (lv_at hl 5 rfl) ?_
                refine lv_iload hx hb dX8_climbs_103 (lv_at hl 6 rfl) ?_
                refine lv_iload_n hx hb dX8_climbs_105 rfl (lv_at hl 3 rfl) ?_
                refine lv_iload hx hb dX8_climbs_106 (lv_at hl 7 rfl) ?_
                obtain ⟨o46, h47, hf⟩ := obO hf
                obtain ⟨t49, g48, hf⟩ := ob hf
                refine r_callV X kw_X8_194 (ci := 8) rfl (c_X8_chains l B D cA m21 x0 x1 v4 z8 x2 z20 t49.1 t49.2 g48) ⟨Nat.le_of_ble_eq_true rfl, Nat.le_of_ble_eq_true rfl⟩ h47 hR hS hl.1 rfl rfl (Nat.le_of_ble_eq_true rfl) ⟨Nat.le_of_ble_eq_true rfl, Nat.le_of_ble_eq_true rfl⟩ dX8_climbs_108 (fun H locs hR hS => ?_)
                refine W.eq (g2 := F0 mt 111 ls [.long t49.1]) rfl ?_
                refine lv_lconst (v := 0) hx hb dX8_climbs_111 (by decide) ?_
                refine r_lc_le (tgt := 120) X dX8_climbs_112 dX8_climbs_113 (by decide) (fun c50 => ?_) (fun c50 => ?_)
                · rw [if_pos c50] at hf
                  refine lv_iconst (v := 0) hx hb dX8_climbs_120 (by decide) ?_
                  obtain rfl := Option.some.inj hf
                  exact hJt43 H locs ls hR hS (lv_sub hl [1, 2, 3, 4, 5, 6, 7] rfl)
                · rw [if_neg c50] at hf
                  refine lv_iconst (v := 1) hx hb dX8_climbs_116 (by decide) ?_
                  refine lv_goto (tgt := 121) hx hb dX8_climbs_117 (by decide) ?_
                  obtain rfl := Option.some.inj hf
                  exact hJt43 H locs ls hR hS (lv_sub hl [1, 2, 3, 4, 5, 6, 7] rfl)
          have hf := hjt31
          clear hjt31
          refine r_lc_le (tgt := 87) X dX8_climbs_54 dX8_climbs_55 (by decide) (fun c32 => ?_) (fun c32 => ?_)
          · rw [if_pos c32] at hf
            refine lv_iconst (v := 0) hx hb dX8_climbs_87 (by decide) ?_
            obtain rfl := Option.some.inj hf
            exact hJt31 H locs ls hR hS (lv_sub hl [0, 1, 2, 3, 4, 5, 6] rfl)
          · rw [if_neg c32] at hf
            refine lv_aload_n hx hb dX8_climbs_58 rfl (lv_at hl 0 rfl) ?_
            refine lv_iload_n hx hb dX8_climbs_59 rfl (lv_at hl 1 rfl) ?_
            refine lv_iload_n hx hb dX8_climbs_60 rfl (lv_at hl 2 rfl) ?_
            refine lv_iload hx hb dX8_climbs_61 (lv_at hl 5 rfl) ?_
            refine lv_iload hx hb dX8_climbs_63 (lv_at hl 6 rfl) ?_
            obtain ⟨o33, h34, hf⟩ := obO hf
            obtain ⟨v36, g35, hf⟩ := ob hf
            refine r_callV X kw_X8_184 (ci := 8) rfl (c_X8_isJoined l B D cA m21 x0 x1 x2 z8 z20 v36 g35) ⟨Nat.le_of_ble_eq_true rfl, Nat.le_of_ble_eq_true rfl⟩ h34 hR hS hl.1 rfl rfl (Nat.le_of_ble_eq_true rfl) ⟨Nat.le_of_ble_eq_true rfl, Nat.le_of_ble_eq_true rfl⟩ dX8_climbs_65 (fun H locs hR hS => ?_)
            refine W.eq (g2 := F0 mt 68 ls [.int v36]) rfl ?_
            refine lv_if_eq (tgt := 87) hx hb dX8_climbs_68 (by decide) (fun c37 => ?_) (fun c37 => ?_)
            · rw [if_pos c37] at hf
              refine lv_iconst (v := 0) hx hb dX8_climbs_87 (by decide) ?_
              obtain rfl := Option.some.inj hf
              exact hJt31 H locs ls hR hS (lv_sub hl [0, 1, 2, 3, 4, 5, 6] rfl)
            · rw [if_neg c37] at hf
              refine lv_aload_n hx hb dX8_climbs_71 rfl (lv_at hl 0 rfl) ?_
              refine lv_iload_n hx hb dX8_climbs_72 rfl (lv_at hl 1 rfl) ?_
              refine lv_iload hx hb dX8_climbs_73 (lv_at hl 4 rfl) ?_
              refine lv_iload hx hb dX8_climbs_75 (lv_at hl 5 rfl) ?_
              obtain ⟨o38, h39, hf⟩ := obO hf
              obtain ⟨v41, g40, hf⟩ := ob hf
              refine r_callV X kw_X8_191 (ci := 8) rfl (c_X8_fitsIn l B D cA m21 x0 x1 v4 z8 v41 g40) ⟨Nat.le_of_ble_eq_true rfl, Nat.le_of_ble_eq_true rfl⟩ h39 hR hS hl.1 rfl rfl (Nat.le_of_ble_eq_true rfl) ⟨Nat.le_of_ble_eq_true rfl, Nat.le_of_ble_eq_true rfl⟩ dX8_climbs_77 (fun H locs hR hS => ?_)
              refine W.eq (g2 := F0 mt 80 ls [.int v41]) rfl ?_
              refine lv_if_eq (tgt := 87) hx hb dX8_climbs_80 (by decide) (fun c42 => ?_) (fun c42 => ?_)
              · rw [if_pos c42] at hf
                refine lv_iconst (v := 0) hx hb dX8_climbs_87 (by decide) ?_
                obtain rfl := Option.some.inj hf
                exact hJt31 H locs ls hR hS (lv_sub hl [0, 1, 2, 3, 4, 5, 6] rfl)
              · rw [if_neg c42] at hf
                refine lv_iconst (v := 1) hx hb dX8_climbs_83 (by decide) ?_
                refine lv_goto (tgt := 88) hx hb dX8_climbs_84 (by decide) ?_
                obtain rfl := Option.some.inj hf
                exact hJt31 H locs ls hR hS (lv_sub hl [0, 1, 2, 3, 4, 5, 6] rfl)
      · intro H locs ls hR hS hl
        refine lv_iinc (v := (z8 + 1)) (lv' := [(5, .int (z8 + 1)), (0, .ref (B + x0)), (1, .int x1), (2, .int x2), (3, .int x3), (4, .int v4)]) hx hb dX8_climbs_155 hl (k := 5) rfl (congrArg (fun z => z8 + z) (by decide)) (by decide) rfl (fun ls hl => ?_)
        refine lv_goto (tgt := 11) hx hb dX8_climbs_158 (by decide) ?_
        obtain rfl := Option.some.inj hf
        exact hxlq7 _ rfl H locs ls hR hS (lv_sub hl [1, 2, 3, 4, 5, 0] rfl)
  · intro H locs ls hR hS hl
    refine lv_iconst (v := 0) hx hb dX8_climbs_161 (by decide) ?_
    refine lv_istore (lv' := [(5, .int (0 : Int32)), (0, .ref (B + x0))]) hx hb dX8_climbs_162 hl (by decide) rfl (fun ls hl => ?_)
    obtain ⟨e65, hwe65, hf⟩ := ob hf
    refine whl_rule (P := (fun t64 => ∀ (H : Heap) (locs : List Loc) (ls : Array Slot), Rl B D cA t64.2 H → va_S (fun q => B ≤ q) s.heap H locs → lv_has ls 8 [(0, .ref (B + x0)), (5, .int t64.1)] → W p l e (rmm 4 0 0 98) s mt args below meth c H locs 0 0 (MQ below (mQ B D cA none mZ) args s 0 0 (fun q => B ≤ q)) (F0 mt 164 ls []))) (Qx := (fun e65 => ∀ (H : Heap) (locs : List Loc) (ls : Array Slot), Rl B D cA e65 H → va_S (fun q => B ≤ q) s.heap H locs → lv_has ls 8 [] → W p l e (rmm 4 0 0 98) s mt args below meth c H locs 0 0 (MQ below (mQ B D cA none mZ) args s 0 0 (fun q => B ≤ q)) (F0 mt 193 ls []))) ?_ FU _ e65 hwe65 ?_ H locs ls hR hS (lv_sub hl [1, 0] rfl)
    · clear hwe65 hf
      intro t64 q66 hf hxlq66 hxrq66 H locs ls hR hS hl
      obtain ⟨z67, m68⟩ := t64
      have hf : f_X8_climbs_L164 m68 x0 z67 = some q66 := hf
      have hR : Rl B D cA m68 H := hR
      have hl : lv_has ls 8 [(0, .ref (B + x0)), (5, .int z67)] := hl
      unfold f_X8_climbs_L164 at hf
      refine lv_iload hx hb dX8_climbs_164 (lv_at hl 1 rfl) ?_
      refine lv_aload_n hx hb dX8_climbs_166 rfl (lv_at hl 0 rfl) ?_
      obtain ⟨v69, g70, hf⟩ := ob hf
      refine gI_X8_13 X hR g70 dX8_climbs_167 ?_
      refine lv_icmp_ge (tgt := 193) hx hb dX8_climbs_170 (by decide) (fun c71 => ?_) (fun c71 => ?_)
      · rw [if_pos c71] at hf
        obtain rfl := Option.some.inj hf
        exact hxrq66 _ rfl H locs ls hR hS (lv_sub hl [] rfl)
      · rw [if_neg c71] at hf
        refine lv_aload_n hx hb dX8_climbs_173 rfl (lv_at hl 0 rfl) ?_
        obtain ⟨v72, g73, hf⟩ := ob hf
        refine gR_X8_66 X hR g73 dX8_climbs_174 ?_
        refine lv_iload hx hb dX8_climbs_177 (lv_at hl 1 rfl) ?_
        refine lv_aload_n hx hb dX8_climbs_179 rfl (lv_at hl 0 rfl) ?_
        obtain ⟨v74, g75, hf⟩ := ob hf
        refine gR_X8_69 X hR g75 dX8_climbs_180 ?_
        refine lv_iload hx hb dX8_climbs_183 (lv_at hl 1 rfl) ?_
        obtain ⟨v76, g77, hf⟩ := ob hf
        refine r_lJ X hR g77 dX8_climbs_185 ?_
        obtain ⟨m78, g79, hf⟩ := ob hf
        refine r_sJ X hR hS g79 dX8_climbs_186 (fun H locs hR hS => ?_)
        refine lv_iinc (v := (z67 + 1)) (lv' := [(5, .int (z67 + 1)), (0, .ref (B + x0))]) hx hb dX8_climbs_187 hl (k := 1) rfl (congrArg (fun z => z67 + z) (by decide)) (by decide) rfl (fun ls hl => ?_)
        refine lv_goto (tgt := 164) hx hb dX8_climbs_190 (by decide) ?_
        obtain rfl := Option.some.inj hf
        exact hxlq66 _ rfl H locs ls hR hS (lv_sub hl [1, 0] rfl)
    · intro H locs ls hR hS hl
      obtain rfl := Option.some.inj hf
      exact r_vret X hr hlocks hR hS dX8_climbs_193
