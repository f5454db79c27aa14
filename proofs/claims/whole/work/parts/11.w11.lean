/-! ===== TwigMatches$Matcher.waysBelow(II)J ===== -/
theorem dX1_waysBelow_0 : decode cX1_waysBelow 0 = .ok (.aload_n 0, 1) := by decide +kernel
theorem dX1_waysBelow_1 : decode cX1_waysBelow 1 = .ok (.getfield 40, 3) := by decide +kernel
theorem dX1_waysBelow_4 : decode cX1_waysBelow 4 = .ok (.iload_n 1, 1) := by decide +kernel
theorem dX1_waysBelow_5 : decode cX1_waysBelow 5 = .ok (.invokevirtual 69, 3) := by decide +kernel
theorem dX1_waysBelow_8 : decode cX1_waysBelow 8 = .ok (.istore_n 3, 1) := by decide +kernel
theorem dX1_waysBelow_9 : decode cX1_waysBelow 9 = .ok (.iload_n 3, 1) := by decide +kernel
theorem dX1_waysBelow_10 : decode cX1_waysBelow 10 = .ok (.iconst (-1), 1) := by decide +kernel
theorem dX1_waysBelow_11 : decode cX1_waysBelow 11 = .ok (.if_icmp .ne 5, 3) := by decide +kernel
theorem dX1_waysBelow_14 : decode cX1_waysBelow 14 = .ok (.lconst 1, 1) := by decide +kernel
theorem dX1_waysBelow_15 : decode cX1_waysBelow 15 = .ok (.lreturn, 1) := by decide +kernel
theorem dX1_waysBelow_16 : decode cX1_waysBelow 16 = .ok (.aload_n 0, 1) := by decide +kernel
theorem dX1_waysBelow_17 : decode cX1_waysBelow 17 = .ok (.iload_n 1, 1) := by decide +kernel
theorem dX1_waysBelow_18 : decode cX1_waysBelow 18 = .ok (.iload_n 2, 1) := by decide +kernel
theorem dX1_waysBelow_19 : decode cX1_waysBelow 19 = .ok (.invokevirtual 73, 3) := by decide +kernel
theorem dX1_waysBelow_22 : decode cX1_waysBelow 22 = .ok (.aload_n 0, 1) := by decide +kernel
theorem dX1_waysBelow_23 : decode cX1_waysBelow 23 = .ok (.getfield 20, 3) := by decide +kernel
theorem dX1_waysBelow_26 : decode cX1_waysBelow 26 = .ok (.iload_n 3, 1) := by decide +kernel
theorem dX1_waysBelow_27 : decode cX1_waysBelow 27 = .ok (.aaload, 1) := by decide +kernel
theorem dX1_waysBelow_28 : decode cX1_waysBelow 28 = .ok (.iload_n 2, 1) := by decide +kernel
theorem dX1_waysBelow_29 : decode cX1_waysBelow 29 = .ok (.iconst 1, 1) := by decide +kernel
theorem dX1_waysBelow_30 : decode cX1_waysBelow 30 = .ok (.iadd, 1) := by decide +kernel
theorem dX1_waysBelow_31 : decode cX1_waysBelow 31 = .ok (.laload, 1) := by decide +kernel
theorem dX1_waysBelow_32 : decode cX1_waysBelow 32 = .ok (.lreturn, 1) := by decide +kernel
set_option maxHeartbeats 4000000 in
set_option maxRecDepth 100000 in
theorem c_X1_waysBelow (l : Launch) (B : Nat) (D : va_G) (cA : Nat → ClassId) (m : Mm) (x0 : Nat) (x1 : Int32) (x2 : Int32) (rZ : Int64) (mZ : Mm) (hf : f_X1_waysBelow m x0 x1 x2 = some (rZ, mZ)) : Mt l B D cA yX1_waysBelow cX1_waysBelow 4 (some .long) 3 71 0 0 [.ref (B + x0), .int x1, .int x2] m (some (.long rZ)) mZ := by
  refine r_start (by decide) (Nat.le_of_ble_eq_true rfl) ?_
  intro p e s mt args below meth c ls H locs X hr hlocks hnm hR hl hS
  have hx := X.1
  have hb := X.2.1
  have hl : lv_has ls 4 [(0, .ref (B + x0)), (1, .int x1), (2, .int x2)] := hl
  unfold f_X1_waysBelow at hf
  refine lv_aload_n hx hb dX1_waysBelow_0 rfl (lv_at hl 0 rfl) ?_
  obtain ⟨v1, g2, hf⟩ := ob hf
  refine gR_X1_40 X hR g2 dX1_waysBelow_1 ?_
  refine lv_iload_n hx hb dX1_waysBelow_4 rfl (lv_at hl 1 rfl) ?_
  obtain ⟨o3, h4, hf⟩ := obO hf
  obtain ⟨v6, g5, hf⟩ := ob hf
  refine r_callV X kw_X1_69 (ci := 5) rfl (c_X5_firstBranch l B D cA m v1 x1 v6 g5) ⟨Nat.le_of_ble_eq_true rfl, Nat.le_of_ble_eq_true rfl⟩ h4 hR hS hl.1 rfl rfl (Nat.le_of_ble_eq_true rfl) ⟨Nat.le_of_ble_eq_true rfl, Nat.le_of_ble_eq_true rfl⟩ dX1_waysBelow_5 (fun H locs hR hS => ?_)
  refine W.eq (g2 := F0 mt 8 ls [.int v6]) rfl ?_
  refine lv_istore_n (lv' := [(3, .int v6), (0, .ref (B + x0)), (1, .int x1), (2, .int x2)]) hx hb dX1_waysBelow_8 rfl hl (by decide) rfl (fun ls hl => ?_)
  refine lv_iload_n hx hb dX1_waysBelow_9 rfl (lv_at hl 0 rfl) ?_
  refine lv_iconst (v := -1) hx hb dX1_waysBelow_10 (by decide) ?_
  refine lv_icmp_ne (tgt := 16) hx hb dX1_waysBelow_11 (by decide) (fun c7 => ?_) (fun c7 => ?_)
  · rw [if_neg c7] at hf
    refine lv_aload_n hx hb dX1_waysBelow_16 rfl (lv_at hl 1 rfl) ?_
    refine lv_iload_n hx hb dX1_waysBelow_17 rfl (lv_at hl 2 rfl) ?_
    refine lv_iload_n hx hb dX1_waysBelow_18 rfl (lv_at hl 3 rfl) ?_
    obtain ⟨o8, h9, hf⟩ := obO hf
    obtain ⟨m11, g10, hf⟩ := ob hf
    refine r_callV X kw_X1_73 (ci := 1) rfl (c_X1_spread l B D cA m x0 x1 x2 m11 g10) ⟨Nat.le_of_ble_eq_true rfl, Nat.le_of_ble_eq_true rfl⟩ h9 hR hS hl.1 rfl rfl (Nat.le_of_ble_eq_true rfl) ⟨Nat.le_of_ble_eq_true rfl, Nat.le_of_ble_eq_true rfl⟩ dX1_waysBelow_19 (fun H locs hR hS => ?_)
    refine W.eq (g2 := F0 mt 22 ls []) rfl ?_
    refine lv_aload_n hx hb dX1_waysBelow_22 rfl (lv_at hl 1 rfl) ?_
    obtain ⟨v12, g13, hf⟩ := ob hf
    refine gR_X1_20 X hR g13 dX1_waysBelow_23 ?_
    refine lv_iload_n hx hb dX1_waysBelow_26 rfl (lv_at hl 0 rfl) ?_
    obtain ⟨v14, g15, hf⟩ := ob hf
    refine r_lR (k := 4) (ty := .array .long) X hR rfl rfl g15 dX1_waysBelow_27 ?_
    refine lv_iload_n hx hb dX1_waysBelow_28 rfl (lv_at hl 3 rfl) ?_
    refine lv_iconst (v := 1) hx hb dX1_waysBelow_29 (by decide) ?_
    refine lv_iadd hx hb dX1_waysBelow_30 ?_
    obtain ⟨v16, g17, hf⟩ := ob hf
    refine r_lJ X hR g17 dX1_waysBelow_31 ?_
    obtain ⟨rfl, rfl⟩ := Prod.mk.inj (Option.some.inj hf)
    exact r_lret X hr hlocks hR hS dX1_waysBelow_32
  · rw [if_pos c7] at hf
    refine lv_lconst (v := 1) hx hb dX1_waysBelow_14 (by decide) ?_
    obtain ⟨rfl, rfl⟩ := Prod.mk.inj (Option.some.inj hf)
    exact r_lret X hr hlocks hR hS dX1_waysBelow_15
/-! ===== TwigMatches$Matcher.solve()J ===== -/
theorem dX1_solve_0 : decode cX1_solve 0 = .ok (.aload_n 0, 1) := by decide +kernel
theorem dX1_solve_1 : decode cX1_solve 1 = .ok (.getfield 40, 3) := by decide +kernel
theorem dX1_solve_4 : decode cX1_solve 4 = .ok (.getfield 44, 3) := by decide +kernel
theorem dX1_solve_7 : decode cX1_solve 7 = .ok (.iconst 1, 1) := by decide +kernel
theorem dX1_solve_8 : decode cX1_solve 8 = .ok (.isub, 1) := by decide +kernel
theorem dX1_solve_9 : decode cX1_solve 9 = .ok (.istore_n 1, 1) := by decide +kernel
theorem dX1_solve_10 : decode cX1_solve 10 = .ok (.iload_n 1, 1) := by decide +kernel
theorem dX1_solve_11 : decode cX1_solve 11 = .ok (.ifCond .lt 59, 3) := by decide +kernel
theorem dX1_solve_14 : decode cX1_solve 14 = .ok (.iconst 0, 1) := by decide +kernel
theorem dX1_solve_15 : decode cX1_solve 15 = .ok (.istore_n 2, 1) := by decide +kernel
theorem dX1_solve_16 : decode cX1_solve 16 = .ok (.iload_n 2, 1) := by decide +kernel
theorem dX1_solve_17 : decode cX1_solve 17 = .ok (.aload_n 0, 1) := by decide +kernel
theorem dX1_solve_18 : decode cX1_solve 18 = .ok (.getfield 36, 3) := by decide +kernel
theorem dX1_solve_21 : decode cX1_solve 21 = .ok (.getfield 54, 3) := by decide +kernel
theorem dX1_solve_24 : decode cX1_solve 24 = .ok (.if_icmp .ge 40, 3) := by decide +kernel
theorem dX1_solve_27 : decode cX1_solve 27 = .ok (.aload_n 0, 1) := by decide +kernel
theorem dX1_solve_28 : decode cX1_solve 28 = .ok (.getfield 17, 3) := by decide +kernel
theorem dX1_solve_31 : decode cX1_solve 31 = .ok (.iload_n 1, 1) := by decide +kernel
theorem dX1_solve_32 : decode cX1_solve 32 = .ok (.aaload, 1) := by decide +kernel
theorem dX1_solve_33 : decode cX1_solve 33 = .ok (.iload_n 2, 1) := by decide +kernel
theorem dX1_solve_34 : decode cX1_solve 34 = .ok (.aload_n 0, 1) := by decide +kernel
theorem dX1_solve_35 : decode cX1_solve 35 = .ok (.getfield 9, 3) := by decide +kernel
theorem dX1_solve_38 : decode cX1_solve 38 = .ok (.iload_n 1, 1) := by decide +kernel
theorem dX1_solve_39 : decode cX1_solve 39 = .ok (.iaload, 1) := by decide +kernel
theorem dX1_solve_40 : decode cX1_solve 40 = .ok (.iload_n 2, 1) := by decide +kernel
theorem dX1_solve_41 : decode cX1_solve 41 = .ok (.invokestatic 57, 3) := by decide +kernel
theorem dX1_solve_44 : decode cX1_solve 44 = .ok (.ifCond .eq 12, 3) := by decide +kernel
theorem dX1_solve_47 : decode cX1_solve 47 = .ok (.aload_n 0, 1) := by decide +kernel
theorem dX1_solve_48 : decode cX1_solve 48 = .ok (.iload_n 1, 1) := by decide +kernel
theorem dX1_solve_49 : decode cX1_solve 49 = .ok (.iload_n 2, 1) := by decide +kernel
theorem dX1_solve_50 : decode cX1_solve 50 = .ok (.invokevirtual 61, 3) := by decide +kernel
theorem dX1_solve_53 : decode cX1_solve 53 = .ok (.goto 4, 3) := by decide +kernel
theorem dX1_solve_56 : decode cX1_solve 56 = .ok (.lconst 0, 1) := by decide +kernel
theorem dX1_solve_57 : decode cX1_solve 57 = .ok (.lastore, 1) := by decide +kernel
theorem dX1_solve_58 : decode cX1_solve 58 = .ok (.iinc 2 1, 3) := by decide +kernel
theorem dX1_solve_61 : decode cX1_solve 61 = .ok (.goto (-45), 3) := by decide +kernel
theorem dX1_solve_64 : decode cX1_solve 64 = .ok (.iinc 1 (-1), 3) := by decide +kernel
theorem dX1_solve_67 : decode cX1_solve 67 = .ok (.goto (-57), 3) := by decide +kernel
theorem dX1_solve_70 : decode cX1_solve 70 = .ok (.aload_n 0, 1) := by decide +kernel
theorem dX1_solve_71 : decode cX1_solve 71 = .ok (.iconst 0, 1) := by decide +kernel
theorem dX1_solve_72 : decode cX1_solve 72 = .ok (.iconst (-1), 1) := by decide +kernel
theorem dX1_solve_73 : decode cX1_solve 73 = .ok (.invokevirtual 65, 3) := by decide +kernel
theorem dX1_solve_76 : decode cX1_solve 76 = .ok (.aload_n 0, 1) := by decide +kernel
theorem dX1_solve_77 : decode cX1_solve 77 = .ok (.getfield 20, 3) := by decide +kernel
theorem dX1_solve_80 : decode cX1_solve 80 = .ok (.iconst 0, 1) := by decide +kernel
theorem dX1_solve_81 : decode cX1_solve 81 = .ok (.aaload, 1) := by decide +kernel
theorem dX1_solve_82 : decode cX1_solve 82 = .ok (.iconst 0, 1) := by decide +kernel
theorem dX1_solve_83 : decode cX1_solve 83 = .ok (.laload, 1) := by decide +kernel
theorem dX1_solve_84 : decode cX1_solve 84 = .ok (.lreturn, 1) := by decide +kernel
set_option maxHeartbeats 4000000 in
set_option maxRecDepth 100000 in
theorem c_X1_solve (l : Launch) (B : Nat) (D : va_G) (cA : Nat → ClassId) (m : Mm) (x0 : Nat) (rZ : Int64) (mZ : Mm) (hf : f_X1_solve m x0 = some (rZ, mZ)) : Mt l B D cA yX1_solve cX1_solve 3 (some .long) 4 94 0 0 [.ref (B + x0)] m (some (.long rZ)) mZ := by
  refine r_start (by decide) (Nat.le_of_ble_eq_true rfl) ?_
  intro p e s mt args below meth c ls H locs X hr hlocks hnm hR hl hS
  have hx := X.1
  have hb := X.2.1
  have hl : lv_has ls 3 [(0, .ref (B + x0))] := hl
  unfold f_X1_solve at hf
  refine lv_aload_n hx hb dX1_solve_0 rfl (lv_at hl 0 rfl) ?_
  obtain ⟨v1, g2, hf⟩ := ob hf
  refine gR_X1_40 X hR g2 dX1_solve_1 ?_
  obtain ⟨v3, g4, hf⟩ := ob hf
  refine gI_X1_44 X hR g4 dX1_solve_4 ?_
  refine lv_iconst (v := 1) hx hb dX1_solve_7 (by decide) ?_
  refine lv_isub hx hb dX1_solve_8 ?_
  refine lv_istore_n (lv' := [(1, .int (v3 - (1 : Int32))), (0, .ref (B + x0))]) hx hb dX1_solve_9 rfl hl (by decide) rfl (fun ls hl => ?_)
  obtain ⟨e6, hwe6, hf⟩ := ob hf
  refine whl_rule (P := (fun t5 => ∀ (H : Heap) (locs : List Loc) (ls : Array Slot), Rl B D cA t5.2 H → va_S (fun q => B ≤ q) s.heap H locs → lv_has ls 3 [(0, .ref (B + x0)), (1, .int t5.1)] → W p l e (rmm 4 0 0 94) s mt args below meth c H locs 0 0 (MQ below (mQ B D cA (some (.long rZ)) mZ) args s 0 0 (fun q => B ≤ q)) (F0 mt 10 ls []))) (Qx := (fun e6 => ∀ (H : Heap) (locs : List Loc) (ls : Array Slot), Rl B D cA e6 H → va_S (fun q => B ≤ q) s.heap H locs → lv_has ls 3 [(0, .ref (B + x0))] → W p l e (rmm 4 0 0 94) s mt args below meth c H locs 0 0 (MQ below (mQ B D cA (some (.long rZ)) mZ) args s 0 0 (fun q => B ≤ q)) (F0 mt 70 ls []))) ?_ FU _ e6 hwe6 ?_ H locs ls hR hS (lv_sub hl [1, 0] rfl)
  · clear hwe6 hf
    intro t5 q7 hf hxlq7 hxrq7 H locs ls hR hS hl
    obtain ⟨z8, m9⟩ := t5
    have hf : f_X1_solve_L10 m9 x0 z8 = some q7 := hf
    have hR : Rl B D cA m9 H := hR
    have hl : lv_has ls 3 [(0, .ref (B + x0)), (1, .int z8)] := hl
    unfold f_X1_solve_L10 at hf
    refine lv_iload_n hx hb dX1_solve_10 rfl (lv_at hl 1 rfl) ?_
    refine lv_if_lt (tgt := 70) hx hb dX1_solve_11 (by decide) (fun c10 => ?_) (fun c10 => ?_)
    · rw [if_pos c10] at hf
      obtain rfl := Option.some.inj hf
      exact hxrq7 _ rfl H locs ls hR hS (lv_sub hl [0] rfl)
    · rw [if_neg c10] at hf
      refine lv_iconst (v := 0) hx hb dX1_solve_14 (by decide) ?_
      refine lv_istore_n (lv' := [(2, .int (0 : Int32)), (0, .ref (B + x0)), (1, .int z8)]) hx hb dX1_solve_15 rfl hl (by decide) rfl (fun ls hl => ?_)
      obtain ⟨e12, hwe12, hf⟩ := ob hf
      refine whl_rule (P := (fun t11 => ∀ (H : Heap) (locs : List Loc) (ls : Array Slot), Rl B D cA t11.2 H → va_S (fun q => B ≤ q) s.heap H locs → lv_has ls 3 [(0, .ref (B + x0)), (1, .int z8), (2, .int t11.1)] → W p l e (rmm 4 0 0 94) s mt args below meth c H locs 0 0 (MQ below (mQ B D cA (some (.long rZ)) mZ) args s 0 0 (fun q => B ≤ q)) (F0 mt 16 ls []))) (Qx := (fun e12 => ∀ (H : Heap) (locs : List Loc) (ls : Array Slot), Rl B D cA e12 H → va_S (fun q => B ≤ q) s.heap H locs → lv_has ls 3 [(0, .ref (B + x0)), (1, .int z8)] → W p l e (rmm 4 0 0 94) s mt args below meth c H locs 0 0 (MQ below (mQ B D cA (some (.long rZ)) mZ) args s 0 0 (fun q => B ≤ q)) (F0 mt 64 ls []))) ?_ FU _ e12 hwe12 ?_ H locs ls hR hS (lv_sub hl [1, 2, 0] rfl)
      · clear hwe12 hf
        intro t11 q13 hf hxlq13 hxrq13 H locs ls hR hS hl
        obtain ⟨z14, m15⟩ := t11
        have hf : f_X1_solve_L16 m15 x0 z8 z14 = some q13 := hf
        have hR : Rl B D cA m15 H := hR
        have hl : lv_has ls 3 [(0, .ref (B + x0)), (1, .int z8), (2, .int z14)] := hl
        unfold f_X1_solve_L16 at hf
        refine lv_iload_n hx hb dX1_solve_16 rfl (lv_at hl 2 rfl) ?_
        refine lv_aload_n hx hb dX1_solve_17 rfl (lv_at hl 0 rfl) ?_
        obtain ⟨v16, g17, hf⟩ := ob hf
        refine gR_X1_36 X hR g17 dX1_solve_18 ?_
        obtain ⟨v18, g19, hf⟩ := ob hf
        refine gI_X1_54 X hR g19 dX1_solve_21 ?_
        refine lv_icmp_ge (tgt := 64) hx hb dX1_solve_24 (by decide) (fun c20 => ?_) (fun c20 => ?_)
        · rw [if_pos c20] at hf
          obtain rfl := Option.some.inj hf
          exact hxrq13 _ rfl H locs ls hR hS (lv_sub hl [0, 1] rfl)
        · rw [if_neg c20] at hf
          refine lv_aload_n hx hb dX1_solve_27 rfl (lv_at hl 0 rfl) ?_
          obtain ⟨v21, g22, hf⟩ := ob hf
          refine gR_X1_17 X hR g22 dX1_solve_28 ?_
          refine lv_iload_n hx hb dX1_solve_31 rfl (lv_at hl 1 rfl) ?_
          obtain ⟨v23, g24, hf⟩ := ob hf
          refine r_lR (k := 4) (ty := .array .long) X hR rfl rfl g24 dX1_solve_32 ?_
          refine lv_iload_n hx hb dX1_solve_33 rfl (lv_at hl 2 rfl) ?_
          refine lv_aload_n hx hb dX1_solve_34 rfl (lv_at hl 0 rfl) ?_
          obtain ⟨v25, g26, hf⟩ := ob hf
          refine gR_X1_9 X hR g26 dX1_solve_35 ?_
          refine lv_iload_n hx hb dX1_solve_38 rfl (lv_at hl 1 rfl) ?_
          obtain ⟨v27, g28, hf⟩ := ob hf
          refine r_lI X hR g28 dX1_solve_39 ?_
          refine lv_iload_n hx hb dX1_solve_40 rfl (lv_at hl 2 rfl) ?_
          obtain ⟨v30, g29, hf⟩ := ob hf
          refine r_callSN X kw_X1_57 (c_X7_holds l B D cA m15 v27 z14 v30 g29) ⟨Nat.le_of_ble_eq_true rfl, Nat.le_of_ble_eq_true rfl⟩ hR hS hl.1 rfl rfl (Nat.le_of_ble_eq_true rfl) ⟨Nat.le_of_ble_eq_true rfl, Nat.le_of_ble_eq_true rfl⟩ dX1_solve_41 (fun H locs hR hS => ?_)
          refine W.eq (g2 := F0 mt 44 ls [.int v30, .int z14, .ref (B + v23)]) rfl ?_
          refine lv_if_eq (tgt := 56) hx hb dX1_solve_44 (by decide) (fun c31 => ?_) (fun c31 => ?_)
          · rw [if_pos c31] at hf
            refine lv_lconst (v := 0) hx hb dX1_solve_56 (by decide) ?_
            obtain ⟨m32, g33, hf⟩ := ob hf
            refine r_sJ X hR hS g33 dX1_solve_57 (fun H locs hR hS => ?_)
            refine lv_iinc (v := (z14 + 1)) (lv' := [(2, .int (z14 + 1)), (0, .ref (B + x0)), (1, .int z8)]) hx hb dX1_solve_58 hl (k := 2) rfl (congrArg (fun z => z14 + z) (by decide)) (by decide) rfl (fun ls hl => ?_)
            refine lv_goto (tgt := 16) hx hb dX1_solve_61 (by decide) ?_
            obtain rfl := Option.some.inj hf
            exact hxlq13 _ rfl H locs ls hR hS (lv_sub hl [1, 2, 0] rfl)
          · rw [if_neg c31] at hf
            refine lv_aload_n hx hb dX1_solve_47 rfl (lv_at hl 0 rfl) ?_
            refine lv_iload_n hx hb dX1_solve_48 rfl (lv_at hl 1 rfl) ?_
            refine lv_iload_n hx hb dX1_solve_49 rfl (lv_at hl 2 rfl) ?_
            obtain ⟨o34, h35, hf⟩ := obO hf
            obtain ⟨t37, g36, hf⟩ := ob hf
            refine r_callV X kw_X1_61 (ci := 1) rfl (c_X1_waysBelow l B D cA m15 x0 z8 z14 t37.1 t37.2 g36) ⟨Nat.le_of_ble_eq_true rfl, Nat.le_of_ble_eq_true rfl⟩ h35 hR hS hl.1 rfl rfl (Nat.le_of_ble_eq_true rfl) ⟨Nat.le_of_ble_eq_true rfl, Nat.le_of_ble_eq_true rfl⟩ dX1_solve_50 (fun H locs hR hS => ?_)
            refine W.eq (g2 := F0 mt 53 ls [.long t37.1, .int z14, .ref (B + v23)]) rfl ?_
            refine lv_goto (tgt := 57) hx hb dX1_solve_53 (by decide) ?_
            obtain ⟨m38, g39, hf⟩ := ob hf
            refine r_sJ X hR hS g39 dX1_solve_57 (fun H locs hR hS => ?_)
            refine lv_iinc (v := (z14 + 1)) (lv' := [(2, .int (z14 + 1)), (0, .ref (B + x0)), (1, .int z8)]) hx hb dX1_solve_58 hl (k := 2) rfl (congrArg (fun z => z14 + z) (by decide)) (by decide) rfl (fun ls hl => ?_)
            refine lv_goto (tgt := 16) hx hb dX1_solve_61 (by decide) ?_
            obtain rfl := Option.some.inj hf
            exact hxlq13 _ rfl H locs ls hR hS (lv_sub hl [1, 2, 0] rfl)
      · intro H locs ls hR hS hl
        refine lv_iinc (v := (z8 + (-1))) (lv' := [(1, .int (z8 + (-1))), (0, .ref (B + x0))]) hx hb dX1_solve_64 hl (k := 1) rfl (congrArg (fun z => z8 + z) (by decide)) (by decide) rfl (fun ls hl => ?_)
        refine lv_goto (tgt := 10) hx hb dX1_solve_67 (by decide) ?_
        obtain rfl := Option.some.inj hf
        exact hxlq7 _ rfl H locs ls hR hS (lv_sub hl [1, 0] rfl)
  · intro H locs ls hR hS hl
    refine lv_aload_n hx hb dX1_solve_70 rfl (lv_at hl 0 rfl) ?_
    refine lv_iconst (v := 0) hx hb dX1_solve_71 (by decide) ?_
    refine lv_iconst (v := -1) hx hb dX1_solve_72 (by decide) ?_
    obtain ⟨o40, h41, hf⟩ := obO hf
    obtain ⟨m43, g42, hf⟩ := ob hf
    refine r_callV X kw_X1_65 (ci := 1) rfl (c_X1_fillTail l B D cA e6 x0 (0 : Int32) (-1 : Int32) m43 g42) ⟨Nat.le_of_ble_eq_true rfl, Nat.le_of_ble_eq_true rfl⟩ h41 hR hS hl.1 rfl rfl (Nat.le_of_ble_eq_true rfl) ⟨Nat.le_of_ble_eq_true rfl, Nat.le_of_ble_eq_true rfl⟩ dX1_solve_73 (fun H locs hR hS => ?_)
    refine W.eq (g2 := F0 mt 76 ls []) rfl ?_
    refine lv_aload_n hx hb dX1_solve_76 rfl (lv_at hl 0 rfl) ?_
    obtain ⟨v44, g45, hf⟩ := ob hf
    refine gR_X1_20 X hR g45 dX1_solve_77 ?_
    refine lv_iconst (v := 0) hx hb dX1_solve_80 (by decide) ?_
    obtain ⟨v46, g47, hf⟩ := ob hf
    refine r_lR (k := 4) (ty := .array .long) X hR rfl rfl g47 dX1_solve_81 ?_
    refine lv_iconst (v := 0) hx hb dX1_solve_82 (by decide) ?_
    obtain ⟨v48, g49, hf⟩ := ob hf
    refine r_lJ X hR g49 dX1_solve_83 ?_
    obtain ⟨rfl, rfl⟩ := Prod.mk.inj (Option.some.inj hf)
    exact r_lret X hr hlocks hR hS dX1_solve_84
/-! ===== TwigMatches$Twig.previousBranch(I)I ===== -/
theorem dX5_previousBranch_0 : decode cX5_previousBranch 0 = .ok (.iload_n 1, 1) := by decide +kernel
theorem dX5_previousBranch_1 : decode cX5_previousBranch 1 = .ok (.iconst 1, 1) := by decide +kernel
theorem dX5_previousBranch_2 : decode cX5_previousBranch 2 = .ok (.isub, 1) := by decide +kernel
theorem dX5_previousBranch_3 : decode cX5_previousBranch 3 = .ok (.istore_n 2, 1) := by decide +kernel
theorem dX5_previousBranch_4 : decode cX5_previousBranch 4 = .ok (.iload_n 2, 1) := by decide +kernel
theorem dX5_previousBranch_5 : decode cX5_previousBranch 5 = .ok (.ifCond .lt 26, 3) := by decide +kernel
theorem dX5_previousBranch_8 : decode cX5_previousBranch 8 = .ok (.aload_n 0, 1) := by decide +kernel
theorem dX5_previousBranch_9 : decode cX5_previousBranch 9 = .ok (.getfield 31, 3) := by decide +kernel
theorem dX5_previousBranch_12 : decode cX5_previousBranch 12 = .ok (.iload_n 2, 1) := by decide +kernel
theorem dX5_previousBranch_13 : decode cX5_previousBranch 13 = .ok (.iaload, 1) := by decide +kernel
theorem dX5_previousBranch_14 : decode cX5_previousBranch 14 = .ok (.aload_n 0, 1) := by decide +kernel
theorem dX5_previousBranch_15 : decode cX5_previousBranch 15 = .ok (.getfield 31, 3) := by decide +kernel
theorem dX5_previousBranch_18 : decode cX5_previousBranch 18 = .ok (.iload_n 1, 1) := by decide +kernel
theorem dX5_previousBranch_19 : decode cX5_previousBranch 19 = .ok (.iaload, 1) := by decide +kernel
theorem dX5_previousBranch_20 : decode cX5_previousBranch 20 = .ok (.if_icmp .ne 5, 3) := by decide +kernel
theorem dX5_previousBranch_23 : decode cX5_previousBranch 23 = .ok (.iload_n 2, 1) := by decide +kernel
theorem dX5_previousBranch_24 : decode cX5_previousBranch 24 = .ok (.ireturn, 1) := by decide +kernel
theorem dX5_previousBranch_25 : decode cX5_previousBranch 25 = .ok (.iinc 2 (-1), 3) := by decide +kernel
theorem dX5_previousBranch_28 : decode cX5_previousBranch 28 = .ok (.goto (-24), 3) := by decide +kernel
theorem dX5_previousBranch_31 : decode cX5_previousBranch 31 = .ok (.iconst (-1), 1) := by decide +kernel
theorem dX5_previousBranch_32 : decode cX5_previousBranch 32 = .ok (.ireturn, 1) := by decide +kernel
set_option maxHeartbeats 4000000 in
set_option maxRecDepth 100000 in
theorem c_X5_previousBranch (l : Launch) (B : Nat) (D : va_G) (cA : Nat → ClassId) (m : Mm) (x0 : Nat) (x1 : Int32) (rZ : Int32) (hf : f_X5_previousBranch m x0 x1 = some rZ) : Mt l B D cA yX5_previousBranch cX5_previousBranch 3 (some .int) 0 0 0 0 [.ref (B + x0), .int x1] m (some (.int rZ)) m := by
  refine r_start (by decide) (Nat.le_of_ble_eq_true rfl) ?_
  intro p e s mt args below meth c ls H locs X hr hlocks hnm hR hl hS
  have hx := X.1
  have hb := X.2.1
  have hl : lv_has ls 3 [(0, .ref (B + x0)), (1, .int x1)] := hl
  unfold f_X5_previousBranch at hf
  refine lv_iload_n hx hb dX5_previousBranch_0 rfl (lv_at hl 1 rfl) ?_
  refine lv_iconst (v := 1) hx hb dX5_previousBranch_1 (by decide) ?_
  refine lv_isub hx hb dX5_previousBranch_2 ?_
  refine lv_istore_n (lv' := [(2, .int (x1 - (1 : Int32))), (0, .ref (B + x0)), (1, .int x1)]) hx hb dX5_previousBranch_3 rfl hl (by decide) rfl (fun ls hl => ?_)
  obtain ⟨e2, hwe2, hf⟩ := ob hf
  refine whl_rule (P := (fun t1 => ∀ (H : Heap) (locs : List Loc) (ls : Array Slot), Rl B D cA m H → va_S (fun q => B ≤ q) s.heap H locs → lv_has ls 3 [(0, .ref (B + x0)), (1, .int x1), (2, .int t1)] → W p l e (rmm 0 0 0 0) s mt args below meth c H locs 0 0 (MQ below (mQ B D cA (some (.int rZ)) m) args s 0 0 (fun q => B ≤ q)) (F0 mt 4 ls []))) (Qx := (fun e2 => (match e2 with | .inl a0 => (∀ (H : Heap) (locs : List Loc) (ls : Array Slot), Rl B D cA m H → va_S (fun q => B ≤ q) s.heap H locs → lv_has ls 3 [] → W p l e (rmm 0 0 0 0) s mt args below meth c H locs 0 0 (MQ below (mQ B D cA (some (.int rZ)) m) args s 0 0 (fun q => B ≤ q)) (F0 mt 31 ls [])) | .inr b0 => ∀ (H : Heap) (locs : List Loc) (ls : Array Slot), Rl B D cA m H → va_S (fun q => B ≤ q) s.heap H locs → lv_has ls 3 [(2, .int b0)] → W p l e (rmm 0 0 0 0) s mt args below meth c H locs 0 0 (MQ below (mQ B D cA (some (.int rZ)) m) args s 0 0 (fun q => B ≤ q)) (F0 mt 23 ls [])))) ?_ FU _ e2 hwe2 ?_ H locs ls hR hS (lv_sub hl [1, 2, 0] rfl)
  · clear hwe2 hf
    intro t1 q3 hf hxlq3 hxrq3 H locs ls hR hS hl
    have hf : f_X5_previousBranch_L4 m x0 x1 t1 = some q3 := hf
    have hR : Rl B D cA m H := hR
    have hl : lv_has ls 3 [(0, .ref (B + x0)), (1, .int x1), (2, .int t1)] := hl
    unfold f_X5_previousBranch_L4 at hf
    refine lv_iload_n hx hb dX5_previousBranch_4 rfl (lv_at hl 2 rfl) ?_
    refine lv_if_lt (tgt := 31) hx hb dX5_previousBranch_5 (by decide) (fun c5 => ?_) (fun c5 => ?_)
    · rw [if_pos c5] at hf
      obtain rfl := Option.some.inj hf
      exact hxrq3 _ rfl H locs ls hR hS (lv_sub hl [] rfl)
    · rw [if_neg c5] at hf
      refine lv_aload_n hx hb dX5_previousBranch_8 rfl (lv_at hl 0 rfl) ?_
      obtain ⟨v6, g7, hf⟩ := ob hf
      refine gR_X5_31 X hR g7 dX5_previousBranch_9 ?_
      refine lv_iload_n hx hb dX5_previousBranch_12 rfl (lv_at hl 2 rfl) ?_
      obtain ⟨v8, g9, hf⟩ := ob hf
      refine r_lI X hR g9 dX5_previousBranch_13 ?_
      refine lv_aload_n hx hb dX5_previousBranch_14 rfl (lv_at hl 0 rfl) ?_
      obtain ⟨v10, g11, hf⟩ := ob hf
      refine gR_X5_31 X hR g11 dX5_previousBranch_15 ?_
      refine lv_iload_n hx hb dX5_previousBranch_18 rfl (lv_at hl 1 rfl) ?_
      obtain ⟨v12, g13, hf⟩ := ob hf
      refine r_lI X hR g13 dX5_previousBranch_19 ?_
      refine lv_icmp_ne (tgt := 25) hx hb dX5_previousBranch_20 (by decide) (fun c14 => ?_) (fun c14 => ?_)
      · rw [if_neg c14] at hf
        refine lv_iinc (v := (t1 + (-1))) (lv' := [(2, .int (t1 + (-1))), (0, .ref (B + x0)), (1, .int x1)]) hx hb dX5_previousBranch_25 hl (k := 2) rfl (congrArg (fun z => t1 + z) (by decide)) (by decide) rfl (fun ls hl => ?_)
        refine lv_goto (tgt := 4) hx hb dX5_previousBranch_28 (by decide) ?_
        obtain rfl := Option.some.inj hf
        exact hxlq3 _ rfl H locs ls hR hS (lv_sub hl [1, 2, 0] rfl)
      · rw [if_pos c14] at hf
        obtain rfl := Option.some.inj hf
        exact hxrq3 _ rfl H locs ls hR hS (lv_sub hl [2] rfl)
  · clear hwe2
    revert hf
    cases e2 with
    | inl a0e2 =>
      intro hf H locs ls hR hS hl
      refine lv_iconst (v := -1) hx hb dX5_previousBranch_31 (by decide) ?_
      obtain rfl := Option.some.inj hf
      exact r_iret X hr hlocks hR hS rfl dX5_previousBranch_32
    | inr b0e2 =>
      intro hf H locs ls hR hS hl
      refine lv_iload_n hx hb dX5_previousBranch_23 rfl (lv_at hl 0 rfl) ?_
      obtain rfl := Option.some.inj hf
      exact r_iret X hr hlocks hR hS rfl dX5_previousBranch_24
/-! ===== TwigMatches$Matcher.waysBefore(III)J ===== -/
theorem dX1_waysBefore_0 : decode cX1_waysBefore 0 = .ok (.aload_n 0, 1) := by decide +kernel
theorem dX1_waysBefore_1 : decode cX1_waysBefore 1 = .ok (.getfield 40, 3) := by decide +kernel
theorem dX1_waysBefore_4 : decode cX1_waysBefore 4 = .ok (.iload_n 1, 1) := by decide +kernel
theorem dX1_waysBefore_5 : decode cX1_waysBefore 5 = .ok (.invokevirtual 110, 3) := by decide +kernel
theorem dX1_waysBefore_8 : decode cX1_waysBefore 8 = .ok (.istore 4, 2) := by decide +kernel
theorem dX1_waysBefore_10 : decode cX1_waysBefore 10 = .ok (.iload 4, 2) := by decide +kernel
theorem dX1_waysBefore_12 : decode cX1_waysBefore 12 = .ok (.iconst (-1), 1) := by decide +kernel
theorem dX1_waysBefore_13 : decode cX1_waysBefore 13 = .ok (.if_icmp .ne 5, 3) := by decide +kernel
theorem dX1_waysBefore_16 : decode cX1_waysBefore 16 = .ok (.lconst 1, 1) := by decide +kernel
theorem dX1_waysBefore_17 : decode cX1_waysBefore 17 = .ok (.lreturn, 1) := by decide +kernel
theorem dX1_waysBefore_18 : decode cX1_waysBefore 18 = .ok (.aload_n 0, 1) := by decide +kernel
theorem dX1_waysBefore_19 : decode cX1_waysBefore 19 = .ok (.getfield 23, 3) := by decide +kernel
theorem dX1_waysBefore_22 : decode cX1_waysBefore 22 = .ok (.iload 4, 2) := by decide +kernel
theorem dX1_waysBefore_24 : decode cX1_waysBefore 24 = .ok (.aaload, 1) := by decide +kernel
theorem dX1_waysBefore_25 : decode cX1_waysBefore 25 = .ok (.aload_n 0, 1) := by decide +kernel
theorem dX1_waysBefore_26 : decode cX1_waysBefore 26 = .ok (.getfield 40, 3) := by decide +kernel
theorem dX1_waysBefore_29 : decode cX1_waysBefore 29 = .ok (.getfield 102, 3) := by decide +kernel
theorem dX1_waysBefore_32 : decode cX1_waysBefore 32 = .ok (.iload_n 1, 1) := by decide +kernel
theorem dX1_waysBefore_33 : decode cX1_waysBefore 33 = .ok (.iaload, 1) := by decide +kernel
theorem dX1_waysBefore_34 : decode cX1_waysBefore 34 = .ok (.ifCond .eq 7, 3) := by decide +kernel
theorem dX1_waysBefore_37 : decode cX1_waysBefore 37 = .ok (.iload_n 3, 1) := by decide +kernel
theorem dX1_waysBefore_38 : decode cX1_waysBefore 38 = .ok (.goto 13, 3) := by decide +kernel
theorem dX1_waysBefore_41 : decode cX1_waysBefore 41 = .ok (.aload_n 0, 1) := by decide +kernel
theorem dX1_waysBefore_42 : decode cX1_waysBefore 42 = .ok (.getfield 36, 3) := by decide +kernel
theorem dX1_waysBefore_45 : decode cX1_waysBefore 45 = .ok (.iload_n 2, 1) := by decide +kernel
theorem dX1_waysBefore_46 : decode cX1_waysBefore 46 = .ok (.invokevirtual 82, 3) := by decide +kernel
theorem dX1_waysBefore_49 : decode cX1_waysBefore 49 = .ok (.iconst 1, 1) := by decide +kernel
theorem dX1_waysBefore_50 : decode cX1_waysBefore 50 = .ok (.iadd, 1) := by decide +kernel
theorem dX1_waysBefore_51 : decode cX1_waysBefore 51 = .ok (.laload, 1) := by decide +kernel
theorem dX1_waysBefore_52 : decode cX1_waysBefore 52 = .ok (.lreturn, 1) := by decide +kernel
set_option maxHeartbeats 4000000 in
set_option maxRecDepth 100000 in
theorem c_X1_waysBefore (l : Launch) (B : Nat) (D : va_G) (cA : Nat → ClassId) (m : Mm) (x0 : Nat) (x1 : Int32) (x2 : Int32) (x3 : Int32) (rZ : Int64) (hf : f_X1_waysBefore m x0 x1 x2 x3 = some rZ) : Mt l B D cA yX1_waysBefore cX1_waysBefore 5 (some .long) 1 22 0 0 [.ref (B + x0), .int x1, .int x2, .int x3] m (some (.long rZ)) m := by
  refine r_start (by decide) (Nat.le_of_ble_eq_true rfl) ?_
  intro p e s mt args below meth c ls H locs X hr hlocks hnm hR hl hS
  have hx := X.1
  have hb := X.2.1
  have hl : lv_has ls 5 [(0, .ref (B + x0)), (1, .int x1), (2, .int x2), (3, .int x3)] := hl
  unfold f_X1_waysBefore at hf
  refine lv_aload_n hx hb dX1_waysBefore_0 rfl (lv_at hl 0 rfl) ?_
  obtain ⟨v1, g2, hf⟩ := ob hf
  refine gR_X1_40 X hR g2 dX1_waysBefore_1 ?_
  refine lv_iload_n hx hb dX1_waysBefore_4 rfl (lv_at hl 1 rfl) ?_
  obtain ⟨o3, h4, hf⟩ := obO hf
  obtain ⟨v6, g5, hf⟩ := ob hf
  refine r_callV X kw_X1_110 (ci := 5) rfl (c_X5_previousBranch l B D cA m v1 x1 v6 g5) ⟨Nat.le_of_ble_eq_true rfl, Nat.le_of_ble_eq_true rfl⟩ h4 hR hS hl.1 rfl rfl (Nat.le_of_ble_eq_true rfl) ⟨Nat.le_of_ble_eq_true rfl, Nat.le_of_ble_eq_true rfl⟩ dX1_waysBefore_5 (fun H locs hR hS => ?_)
  refine W.eq (g2 := F0 mt 8 ls [.int v6]) rfl ?_
  refine lv_istore (lv' := [(4, .int v6), (0, .ref (B + x0)), (1, .int x1), (2, .int x2), (3, .int x3)]) hx hb dX1_waysBefore_8 hl (by decide) rfl (fun ls hl => ?_)
  refine lv_iload hx hb dX1_waysBefore_10 (lv_at hl 0 rfl) ?_
  refine lv_iconst (v := -1) hx hb dX1_waysBefore_12 (by decide) ?_
  refine lv_icmp_ne (tgt := 18) hx hb dX1_waysBefore_13 (by decide) (fun c7 => ?_) (fun c7 => ?_)
  · rw [if_neg c7] at hf
    refine lv_aload_n hx hb dX1_waysBefore_18 rfl (lv_at hl 1 rfl) ?_
    obtain ⟨v8, g9, hf⟩ := ob hf
    refine gR_X1_23 X hR g9 dX1_waysBefore_19 ?_
    refine lv_iload hx hb dX1_waysBefore_22 (lv_at hl 0 rfl) ?_
    obtain ⟨v10, g11, hf⟩ := ob hf
    refine r_lR (k := 4) (ty := .array .long) X hR rfl rfl g11 dX1_waysBefore_24 ?_
    refine lv_aload_n hx hb dX1_waysBefore_25 rfl (lv_at hl 1 rfl) ?_
    obtain ⟨v12, g13, hf⟩ := ob hf
    refine gR_X1_40 X hR g13 dX1_waysBefore_26 ?_
    obtain ⟨v14, g15, hf⟩ := ob hf
    refine gR_X1_102 X hR g15 dX1_waysBefore_29 ?_
    refine lv_iload_n hx hb dX1_waysBefore_32 rfl (lv_at hl 2 rfl) ?_
    obtain ⟨v16, g17, hf⟩ := ob hf
    refine r_lI X hR g17 dX1_waysBefore_33 ?_
    refine lv_if_eq (tgt := 41) hx hb dX1_waysBefore_34 (by decide) (fun c18 => ?_) (fun c18 => ?_)
    · rw [if_pos c18] at hf
      refine lv_aload_n hx hb dX1_waysBefore_41 rfl (lv_at hl 1 rfl) ?_
      obtain ⟨v19, g20, hf⟩ := ob hf
      refine gR_X1_36 X hR g20 dX1_waysBefore_42 ?_
      refine lv_iload_n hx hb dX1_waysBefore_45 rfl (lv_at hl 3 rfl) ?_
      obtain ⟨o21, h22, hf⟩ := obO hf
      obtain ⟨v24, g23, hf⟩ := ob hf
      refine r_callV X kw_X1_82 (ci := 4) rfl (c_X4_lastBelow l B D cA m v19 x2 v24 g23) ⟨Nat.le_of_ble_eq_true rfl, Nat.le_of_ble_eq_true rfl⟩ h22 hR hS hl.1 rfl rfl (Nat.le_of_ble_eq_true rfl) ⟨Nat.le_of_ble_eq_true rfl, Nat.le_of_ble_eq_true rfl⟩ dX1_waysBefore_46 (fun H locs hR hS => ?_)
      refine W.eq (g2 := F0 mt 49 ls [.int v24, .ref (B + v10)]) rfl ?_
      refine lv_iconst (v := 1) hx hb dX1_waysBefore_49 (by decide) ?_
      refine lv_iadd hx hb dX1_waysBefore_50 ?_
      obtain ⟨v25, g26, hf⟩ := ob hf
      refine r_lJ X hR g26 dX1_waysBefore_51 ?_
      obtain rfl := Option.some.inj hf
      exact r_lret X hr hlocks hR hS dX1_waysBefore_52
    · rw [if_neg c18] at hf
      refine lv_iload_n hx hb dX1_waysBefore_37 rfl (lv_at hl 4 rfl) ?_
      refine lv_goto (tgt := 51) hx hb dX1_waysBefore_38 (by decide) ?_
      obtain ⟨v27, g28, hf⟩ := ob hf
      refine r_lJ X hR g28 dX1_waysBefore_51 ?_
      obtain rfl := Option.some.inj hf
      exact r_lret X hr hlocks hR hS dX1_waysBefore_52
  · rw [if_pos c7] at hf
    refine lv_lconst (v := 1) hx hb dX1_waysBefore_16 (by decide) ?_
    obtain rfl := Option.some.inj hf
    exact r_lret X hr hlocks hR hS dX1_waysBefore_17
/-! ===== TwigMatches$Matcher.fillHead(II)V ===== -/
theorem dX1_fillHead_0 : decode cX1_fillHead 0 = .ok (.aload_n 0, 1) := by decide +kernel
theorem dX1_fillHead_1 : decode cX1_fillHead 1 = .ok (.getfield 36, 3) := by decide +kernel
theorem dX1_fillHead_4 : decode cX1_fillHead 4 = .ok (.iload_n 2, 1) := by decide +kernel
theorem dX1_fillHead_5 : decode cX1_fillHead 5 = .ok (.invokevirtual 82, 3) := by decide +kernel
theorem dX1_fillHead_8 : decode cX1_fillHead 8 = .ok (.istore_n 3, 1) := by decide +kernel
theorem dX1_fillHead_9 : decode cX1_fillHead 9 = .ok (.iload_n 2, 1) := by decide +kernel
theorem dX1_fillHead_10 : decode cX1_fillHead 10 = .ok (.iconst 1, 1) := by decide +kernel
theorem dX1_fillHead_11 : decode cX1_fillHead 11 = .ok (.iadd, 1) := by decide +kernel
theorem dX1_fillHead_12 : decode cX1_fillHead 12 = .ok (.istore 4, 2) := by decide +kernel
theorem dX1_fillHead_14 : decode cX1_fillHead 14 = .ok (.iload 4, 2) := by decide +kernel
theorem dX1_fillHead_16 : decode cX1_fillHead 16 = .ok (.iload_n 3, 1) := by decide +kernel
theorem dX1_fillHead_17 : decode cX1_fillHead 17 = .ok (.iconst 1, 1) := by decide +kernel
theorem dX1_fillHead_18 : decode cX1_fillHead 18 = .ok (.iadd, 1) := by decide +kernel
theorem dX1_fillHead_19 : decode cX1_fillHead 19 = .ok (.if_icmp .gt 19, 3) := by decide +kernel
theorem dX1_fillHead_22 : decode cX1_fillHead 22 = .ok (.aload_n 0, 1) := by decide +kernel
theorem dX1_fillHead_23 : decode cX1_fillHead 23 = .ok (.getfield 23, 3) := by decide +kernel
theorem dX1_fillHead_26 : decode cX1_fillHead 26 = .ok (.iload_n 1, 1) := by decide +kernel
theorem dX1_fillHead_27 : decode cX1_fillHead 27 = .ok (.aaload, 1) := by decide +kernel
theorem dX1_fillHead_28 : decode cX1_fillHead 28 = .ok (.iload 4, 2) := by decide +kernel
theorem dX1_fillHead_30 : decode cX1_fillHead 30 = .ok (.lconst 0, 1) := by decide +kernel
theorem dX1_fillHead_31 : decode cX1_fillHead 31 = .ok (.lastore, 1) := by decide +kernel
theorem dX1_fillHead_32 : decode cX1_fillHead 32 = .ok (.iinc 4 1, 3) := by decide +kernel
theorem dX1_fillHead_35 : decode cX1_fillHead 35 = .ok (.goto (-21), 3) := by decide +kernel
theorem dX1_fillHead_38 : decode cX1_fillHead 38 = .ok (.iload_n 2, 1) := by decide +kernel
theorem dX1_fillHead_39 : decode cX1_fillHead 39 = .ok (.iconst 1, 1) := by decide +kernel
theorem dX1_fillHead_40 : decode cX1_fillHead 40 = .ok (.iadd, 1) := by decide +kernel
theorem dX1_fillHead_41 : decode cX1_fillHead 41 = .ok (.istore 4, 2) := by decide +kernel
theorem dX1_fillHead_43 : decode cX1_fillHead 43 = .ok (.iload 4, 2) := by decide +kernel
theorem dX1_fillHead_45 : decode cX1_fillHead 45 = .ok (.iload_n 3, 1) := by decide +kernel
theorem dX1_fillHead_46 : decode cX1_fillHead 46 = .ok (.if_icmp .gt 74, 3) := by decide +kernel
theorem dX1_fillHead_49 : decode cX1_fillHead 49 = .ok (.aload_n 0, 1) := by decide +kernel
theorem dX1_fillHead_50 : decode cX1_fillHead 50 = .ok (.getfield 17, 3) := by decide +kernel
theorem dX1_fillHead_53 : decode cX1_fillHead 53 = .ok (.iload_n 1, 1) := by decide +kernel
theorem dX1_fillHead_54 : decode cX1_fillHead 54 = .ok (.aaload, 1) := by decide +kernel
theorem dX1_fillHead_55 : decode cX1_fillHead 55 = .ok (.iload 4, 2) := by decide +kernel
theorem dX1_fillHead_57 : decode cX1_fillHead 57 = .ok (.laload, 1) := by decide +kernel
theorem dX1_fillHead_58 : decode cX1_fillHead 58 = .ok (.lconst 0, 1) := by decide +kernel
theorem dX1_fillHead_59 : decode cX1_fillHead 59 = .ok (.lcmp, 1) := by decide +kernel
theorem dX1_fillHead_60 : decode cX1_fillHead 60 = .ok (.ifCond .eq 54, 3) := by decide +kernel
theorem dX1_fillHead_63 : decode cX1_fillHead 63 = .ok (.aload_n 0, 1) := by decide +kernel
theorem dX1_fillHead_64 : decode cX1_fillHead 64 = .ok (.iload_n 1, 1) := by decide +kernel
theorem dX1_fillHead_65 : decode cX1_fillHead 65 = .ok (.iload_n 2, 1) := by decide +kernel
theorem dX1_fillHead_66 : decode cX1_fillHead 66 = .ok (.iload 4, 2) := by decide +kernel
theorem dX1_fillHead_68 : decode cX1_fillHead 68 = .ok (.invokevirtual 88, 3) := by decide +kernel
theorem dX1_fillHead_71 : decode cX1_fillHead 71 = .ok (.ifCond .eq 43, 3) := by decide +kernel
theorem dX1_fillHead_74 : decode cX1_fillHead 74 = .ok (.aload_n 0, 1) := by decide +kernel
theorem dX1_fillHead_75 : decode cX1_fillHead 75 = .ok (.getfield 23, 3) := by decide +kernel
theorem dX1_fillHead_78 : decode cX1_fillHead 78 = .ok (.iload_n 1, 1) := by decide +kernel
theorem dX1_fillHead_79 : decode cX1_fillHead 79 = .ok (.aaload, 1) := by decide +kernel
theorem dX1_fillHead_80 : decode cX1_fillHead 80 = .ok (.aload_n 0, 1) := by decide +kernel
theorem dX1_fillHead_81 : decode cX1_fillHead 81 = .ok (.getfield 36, 3) := by decide +kernel
theorem dX1_fillHead_84 : decode cX1_fillHead 84 = .ok (.getfield 105, 3) := by decide +kernel
theorem dX1_fillHead_87 : decode cX1_fillHead 87 = .ok (.iload 4, 2) := by decide +kernel
theorem dX1_fillHead_89 : decode cX1_fillHead 89 = .ok (.iaload, 1) := by decide +kernel
theorem dX1_fillHead_90 : decode cX1_fillHead 90 = .ok (.iconst 1, 1) := by decide +kernel
theorem dX1_fillHead_91 : decode cX1_fillHead 91 = .ok (.iadd, 1) := by decide +kernel
theorem dX1_fillHead_92 : decode cX1_fillHead 92 = .ok (.dup2, 1) := by decide +kernel
theorem dX1_fillHead_93 : decode cX1_fillHead 93 = .ok (.laload, 1) := by decide +kernel
theorem dX1_fillHead_94 : decode cX1_fillHead 94 = .ok (.aload_n 0, 1) := by decide +kernel
theorem dX1_fillHead_95 : decode cX1_fillHead 95 = .ok (.getfield 17, 3) := by decide +kernel
theorem dX1_fillHead_98 : decode cX1_fillHead 98 = .ok (.iload_n 1, 1) := by decide +kernel
theorem dX1_fillHead_99 : decode cX1_fillHead 99 = .ok (.aaload, 1) := by decide +kernel
theorem dX1_fillHead_100 : decode cX1_fillHead 100 = .ok (.iload 4, 2) := by decide +kernel
theorem dX1_fillHead_102 : decode cX1_fillHead 102 = .ok (.laload, 1) := by decide +kernel
theorem dX1_fillHead_103 : decode cX1_fillHead 103 = .ok (.aload_n 0, 1) := by decide +kernel
theorem dX1_fillHead_104 : decode cX1_fillHead 104 = .ok (.iload_n 1, 1) := by decide +kernel
theorem dX1_fillHead_105 : decode cX1_fillHead 105 = .ok (.iload_n 2, 1) := by decide +kernel
theorem dX1_fillHead_106 : decode cX1_fillHead 106 = .ok (.iload 4, 2) := by decide +kernel
theorem dX1_fillHead_108 : decode cX1_fillHead 108 = .ok (.invokevirtual 107, 3) := by decide +kernel
theorem dX1_fillHead_111 : decode cX1_fillHead 111 = .ok (.lmul, 1) := by decide +kernel
theorem dX1_fillHead_112 : decode cX1_fillHead 112 = .ok (.ladd, 1) := by decide +kernel
theorem dX1_fillHead_113 : decode cX1_fillHead 113 = .ok (.lastore, 1) := by decide +kernel
theorem dX1_fillHead_114 : decode cX1_fillHead 114 = .ok (.iinc 4 1, 3) := by decide +kernel
theorem dX1_fillHead_117 : decode cX1_fillHead 117 = .ok (.goto (-74), 3) := by decide +kernel
theorem dX1_fillHead_120 : decode cX1_fillHead 120 = .ok (.iload_n 2, 1) := by decide +kernel
theorem dX1_fillHead_121 : decode cX1_fillHead 121 = .ok (.iconst 1, 1) := by decide +kernel
theorem dX1_fillHead_122 : decode cX1_fillHead 122 = .ok (.iadd, 1) := by decide +kernel
theorem dX1_fillHead_123 : decode cX1_fillHead 123 = .ok (.istore 4, 2) := by decide +kernel
theorem dX1_fillHead_125 : decode cX1_fillHead 125 = .ok (.iload 4, 2) := by decide +kernel
theorem dX1_fillHead_127 : decode cX1_fillHead 127 = .ok (.iload_n 3, 1) := by decide +kernel
theorem dX1_fillHead_128 : decode cX1_fillHead 128 = .ok (.if_icmp .gt 32, 3) := by decide +kernel
theorem dX1_fillHead_131 : decode cX1_fillHead 131 = .ok (.aload_n 0, 1) := by decide +kernel
theorem dX1_fillHead_132 : decode cX1_fillHead 132 = .ok (.getfield 23, 3) := by decide +kernel
theorem dX1_fillHead_135 : decode cX1_fillHead 135 = .ok (.iload_n 1, 1) := by decide +kernel
theorem dX1_fillHead_136 : decode cX1_fillHead 136 = .ok (.aaload, 1) := by decide +kernel
theorem dX1_fillHead_137 : decode cX1_fillHead 137 = .ok (.iload 4, 2) := by decide +kernel
theorem dX1_fillHead_139 : decode cX1_fillHead 139 = .ok (.iconst 1, 1) := by decide +kernel
theorem dX1_fillHead_140 : decode cX1_fillHead 140 = .ok (.iadd, 1) := by decide +kernel
theorem dX1_fillHead_141 : decode cX1_fillHead 141 = .ok (.dup2, 1) := by decide +kernel
theorem dX1_fillHead_142 : decode cX1_fillHead 142 = .ok (.laload, 1) := by decide +kernel
theorem dX1_fillHead_143 : decode cX1_fillHead 143 = .ok (.aload_n 0, 1) := by decide +kernel
theorem dX1_fillHead_144 : decode cX1_fillHead 144 = .ok (.getfield 23, 3) := by decide +kernel
theorem dX1_fillHead_147 : decode cX1_fillHead 147 = .ok (.iload_n 1, 1) := by decide +kernel
theorem dX1_fillHead_148 : decode cX1_fillHead 148 = .ok (.aaload, 1) := by decide +kernel
theorem dX1_fillHead_149 : decode cX1_fillHead 149 = .ok (.iload 4, 2) := by decide +kernel
theorem dX1_fillHead_151 : decode cX1_fillHead 151 = .ok (.laload, 1) := by decide +kernel
theorem dX1_fillHead_152 : decode cX1_fillHead 152 = .ok (.ladd, 1) := by decide +kernel
theorem dX1_fillHead_153 : decode cX1_fillHead 153 = .ok (.lastore, 1) := by decide +kernel
theorem dX1_fillHead_154 : decode cX1_fillHead 154 = .ok (.iinc 4 1, 3) := by decide +kernel
theorem dX1_fillHead_157 : decode cX1_fillHead 157 = .ok (.goto (-32), 3) := by decide +kernel
theorem dX1_fillHead_160 : decode cX1_fillHead 160 = .ok (.return_, 1) := by decide +kernel
set_option maxHeartbeats 4000000 in
set_option maxRecDepth 100000 in
theorem c_X1_fillHead (l : Launch) (B : Nat) (D : va_G) (cA : Nat → ClassId) (m : Mm) (x0 : Nat) (x1 : Int32) (x2 : Int32) (mZ : Mm) (hf : f_X1_fillHead m x0 x1 x2 = some mZ) : Mt l B D cA yX1_fillHead cX1_fillHead 5 none 2 46 0 0 [.ref (B + x0), .int x1, .int x2] m none mZ := by
  refine r_start (by decide) (Nat.le_of_ble_eq_true rfl) ?_
  intro p e s mt args below meth c ls H locs X hr hlocks hnm hR hl hS
  have hx := X.1
  have hb := X.2.1
  have hl : lv_has ls 5 [(0, .ref (B + x0)), (1, .int x1), (2, .int x2)] := hl
  unfold f_X1_fillHead at hf
  refine lv_aload_n hx hb dX1_fillHead_0 rfl (lv_at hl 0 rfl) ?_
  obtain ⟨v1, g2, hf⟩ := ob hf
  refine gR_X1_36 X hR g2 dX1_fillHead_1 ?_
  refine lv_iload_n hx hb dX1_fillHead_4 rfl (lv_at hl 2 rfl) ?_
  obtain ⟨o3, h4, hf⟩ := obO hf
  obtain ⟨v6, g5, hf⟩ := ob hf
  refine r_callV X kw_X1_82 (ci := 4) rfl (c_X4_lastBelow l B D cA m v1 x2 v6 g5) ⟨Nat.le_of_ble_eq_true rfl, Nat.le_of_ble_eq_true rfl⟩ h4 hR hS hl.1 rfl rfl (Nat.le_of_ble_eq_true rfl) ⟨Nat.le_of_ble_eq_true rfl, Nat.le_of_ble_eq_true rfl⟩ dX1_fillHead_5 (fun H locs hR hS => ?_)
  refine W.eq (g2 := F0 mt 8 ls [.int v6]) rfl ?_
  refine lv_istore_n (lv' := [(3, .int v6), (0, .ref (B + x0)), (1, .int x1), (2, .int x2)]) hx hb dX1_fillHead_8 rfl hl (by decide) rfl (fun ls hl => ?_)
  refine lv_iload_n hx hb dX1_fillHead_9 rfl (lv_at hl 3 rfl) ?_
  refine lv_iconst (v := 1) hx hb dX1_fillHead_10 (by decide) ?_
  refine lv_iadd hx hb dX1_fillHead_11 ?_
  refine lv_istore (lv' := [(4, .int (x2 + (1 : Int32))), (3, .int v6), (0, .ref (B + x0)), (1, .int x1), (2, .int x2)]) hx hb dX1_fillHead_12 hl (by decide) rfl (fun ls hl => ?_)
  obtain ⟨e8, hwe8, hf⟩ := ob hf
  refine whl_rule (P := (fun t7 => ∀ (H : Heap) (locs : List Loc) (ls : Array Slot), Rl B D cA t7.2 H → va_S (fun q => B ≤ q) s.heap H locs → lv_has ls 5 [(0, .ref (B + x0)), (1, .int x1), (2, .int x2), (3, .int v6), (4, .int t7.1)] → W p l e (rmm 2 0 0 46) s mt args below meth c H locs 0 0 (MQ below (mQ B D cA none mZ) args s 0 0 (fun q => B ≤ q)) (F0 mt 14 ls []))) (Qx := (fun e8 => ∀ (H : Heap) (locs : List Loc) (ls : Array Slot), Rl B D cA e8 H → va_S (fun q => B ≤ q) s.heap H locs → lv_has ls 5 [(0, .ref (B + x0)), (1, .int x1), (2, .int x2), (3, .int v6)] → W p l e (rmm 2 0 0 46) s mt args below meth c H locs 0 0 (MQ below (mQ B D cA none mZ) args s 0 0 (fun q => B ≤ q)) (F0 mt 38 ls []))) ?_ FU _ e8 hwe8 ?_ H locs ls hR hS (lv_sub hl [2, 3, 4, 1, 0] rfl)
  · clear hwe8 hf
    intro t7 q9 hf hxlq9 hxrq9 H locs ls hR hS hl
    obtain ⟨z10, m11⟩ := t7
    have hf : f_X1_fillHead_L14 m11 x0 x1 x2 v6 z10 = some q9 := hf
    have hR : Rl B D cA m11 H := hR
    have hl : lv_has ls 5 [(0, .ref (B + x0)), (1, .int x1), (2, .int x2), (3, .int v6), (4, .int z10)] := hl
    unfold f_X1_fillHead_L14 at hf
    refine lv_iload hx hb dX1_fillHead_14 (lv_at hl 4 rfl) ?_
    refine lv_iload_n hx hb dX1_fillHead_16 rfl (lv_at hl 3 rfl) ?_
    refine lv_iconst (v := 1) hx hb dX1_fillHead_17 (by decide) ?_
    refine lv_iadd hx hb dX1_fillHead_18 ?_
    refine lv_icmp_gt (tgt := 38) hx hb dX1_fillHead_19 (by decide) (fun c12 => ?_) (fun c12 => ?_)
    · rw [if_pos c12] at hf
      obtain rfl := Option.some.inj hf
      exact hxrq9 _ rfl H locs ls hR hS (lv_sub hl [0, 1, 2, 3] rfl)
    · rw [if_neg c12] at hf
      refine lv_aload_n hx hb dX1_fillHead_22 rfl (lv_at hl 0 rfl) ?_
      obtain ⟨v13, g14, hf⟩ := ob hf
      refine gR_X1_23 X hR g14 dX1_fillHead_23 ?_
      refine lv_iload_n hx hb dX1_fillHead_26 rfl (lv_at hl 1 rfl) ?_
      obtain ⟨v15, g16, hf⟩ := ob hf
      refine r_lR (k := 4) (ty := .array .long) X hR rfl rfl g16 dX1_fillHead_27 ?_
      refine lv_iload hx hb dX1_fillHead_28 (lv_at hl 4 rfl) ?_
      refine lv_lconst (v := 0) hx hb dX1_fillHead_30 (by decide) ?_
      obtain ⟨m17, g18, hf⟩ := ob hf
      refine r_sJ X hR hS g18 dX1_fillHead_31 (fun H locs hR hS => ?_)
      refine lv_iinc (v := (z10 + 1)) (lv' := [(4, .int (z10 + 1)), (0, .ref (B + x0)), (1, .int x1), (2, .int x2), (3, .int v6)]) hx hb dX1_fillHead_32 hl (k := 4) rfl (congrArg (fun z => z10 + z) (by decide)) (by decide) rfl (fun ls hl => ?_)
      refine lv_goto (tgt := 14) hx hb dX1_fillHead_35 (by decide) ?_
      obtain rfl := Option.some.inj hf
      exact hxlq9 _ rfl H locs ls hR hS (lv_sub hl [1, 2, 3, 4, 0] rfl)
  · intro H locs ls hR hS hl
    refine lv_iload_n hx hb dX1_fillHead_38 rfl (lv_at hl 2 rfl) ?_
    refine lv_iconst (v := 1) hx hb dX1_fillHead_39 (by decide) ?_
    refine lv_iadd hx hb dX1_fillHead_40 ?_
    refine lv_istore (lv' := [(4, .int (x2 + (1 : Int32))), (0, .ref (B + x0)), (1, .int x1), (2, .int x2), (3, .int v6)]) hx hb dX1_fillHead_41 hl (by decide) rfl (fun ls hl => ?_)
    obtain ⟨e20, hwe20, hf⟩ := ob hf
    refine whl_rule (P := (fun t19 => ∀ (H : Heap) (locs : List Loc) (ls : Array Slot), Rl B D cA t19.2 H → va_S (fun q => B ≤ q) s.heap H locs → lv_has ls 5 [(0, .ref (B + x0)), (1, .int x1), (2, .int x2), (3, .int v6), (4, .int t19.1)] → W p l e (rmm 2 0 0 46) s mt args below meth c H locs 0 0 (MQ below (mQ B D cA none mZ) args s 0 0 (fun q => B ≤ q)) (F0 mt 43 ls []))) (Qx := (fun e20 => ∀ (H : Heap) (locs : List Loc) (ls : Array Slot), Rl B D cA e20 H → va_S (fun q => B ≤ q) s.heap H locs → lv_has ls 5 [(0, .ref (B + x0)), (1, .int x1), (2, .int x2), (3, .int v6)] → W p l e (rmm 2 0 0 46) s mt args below meth c H locs 0 0 (MQ below (mQ B D cA none mZ) args s 0 0 (fun q => B ≤ q)) (F0 mt 120 ls []))) ?_ FU _ e20 hwe20 ?_ H locs ls hR hS (lv_sub hl [1, 2, 3, 4, 0] rfl)
    · clear hwe20 hf
      intro t19 q21 hf hxlq21 hxrq21 H locs ls hR hS hl
      obtain ⟨z22, m23⟩ := t19
      have hf : f_X1_fillHead_L43 m23 x0 x1 x2 v6 z22 = some q21 := hf
      have hR : Rl B D cA m23 H := hR
      have hl : lv_has ls 5 [(0, .ref (B + x0)), (1, .int x1), (2, .int x2), (3, .int v6), (4, .int z22)] := hl
      unfold f_X1_fillHead_L43 at hf
      refine lv_iload hx hb dX1_fillHead_43 (lv_at hl 4 rfl) ?_
      refine lv_iload_n hx hb dX1_fillHead_45 rfl (lv_at hl 3 rfl) ?_
      refine lv_icmp_gt (tgt := 120) hx hb dX1_fillHead_46 (by decide) (fun c24 => ?_) (fun c24 => ?_)
      · rw [if_pos c24] at hf
        obtain rfl := Option.some.inj hf
        exact hxrq21 _ rfl H locs ls hR hS (lv_sub hl [0, 1, 2, 3] rfl)
      · rw [if_neg c24] at hf
        refine lv_aload_n hx hb dX1_fillHead_49 rfl (lv_at hl 0 rfl) ?_
        obtain ⟨v25, g26, hf⟩ := ob hf
        refine gR_X1_17 X hR g26 dX1_fillHead_50 ?_
        refine lv_iload_n hx hb dX1_fillHead_53 rfl (lv_at hl 1 rfl) ?_
        obtain ⟨v27, g28, hf⟩ := ob hf
        refine r_lR (k := 4) (ty := .array .long) X hR rfl rfl g28 dX1_fillHead_54 ?_
        refine lv_iload hx hb dX1_fillHead_55 (lv_at hl 4 rfl) ?_
        obtain ⟨v29, g30, hf⟩ := ob hf
        refine r_lJ X hR g30 dX1_fillHead_57 ?_
        refine lv_lconst (v := 0) hx hb dX1_fillHead_58 (by decide) ?_
        refine r_lc_eq (tgt := 114) X dX1_fillHead_59 dX1_fillHead_60 (by decide) (fun c31 => ?_) (fun c31 => ?_)
        · rw [if_pos c31] at hf
          refine lv_iinc (v := (z22 + 1)) (lv' := [(4, .int (z22 + 1)), (0, .ref (B + x0)), (1, .int x1), (2, .int x2), (3, .int v6)]) hx hb dX1_fillHead_114 hl (k := 4) rfl (congrArg (fun z => z22 + z) (by decide)) (by decide) rfl (fun ls hl => ?_)
          refine lv_goto (tgt := 43) hx hb dX1_fillHead_117 (by decide) ?_
          obtain rfl := Option.some.inj hf
          exact hxlq21 _ rfl H locs ls hR hS (lv_sub hl [1, 2, 3, 4, 0] rfl)
        · rw [if_neg c31] at hf
          refine lv_aload_n hx hb dX1_fillHead_63 rfl (lv_at hl 0 rfl) ?_
          refine lv_iload_n hx hb dX1_fillHead_64 rfl (lv_at hl 1 rfl) ?_
          refine lv_iload_n hx hb dX1_fillHead_65 rfl (lv_at hl 2 rfl) ?_
          refine lv_iload hx hb dX1_fillHead_66 (lv_at hl 4 rfl) ?_
          obtain ⟨o32, h33, hf⟩ := obO hf
          obtain ⟨v35, g34, hf⟩ := ob hf
          refine r_callV X kw_X1_88 (ci := 1) rfl (c_X1_edgeHolds l B D cA m23 x0 x1 x2 z22 v35 g34) ⟨Nat.le_of_ble_eq_true rfl, Nat.le_of_ble_eq_true rfl⟩ h33 hR hS hl.1 rfl rfl (Nat.le_of_ble_eq_true rfl) ⟨Nat.le_of_ble_eq_true rfl, Nat.le_of_ble_eq_true rfl⟩ dX1_fillHead_68 (fun H locs hR hS => ?_)
          refine W.eq (g2 := F0 mt 71 ls [.int v35]) rfl ?_
          refine lv_if_eq (tgt := 114) hx hb dX1_fillHead_71 (by decide) (fun c36 => ?_) (fun c36 => ?_)
          · rw [if_pos c36] at hf
            refine lv_iinc (v := (z22 + 1)) (lv' := [(4, .int (z22 + 1)), (0, .ref (B + x0)), (1, .int x1), (2, .int x2), (3, .int v6)]) hx hb dX1_fillHead_114 hl (k := 4) rfl (congrArg (fun z => z22 + z) (by decide)) (by decide) rfl (fun ls hl => ?_)
            refine lv_goto (tgt := 43) hx hb dX1_fillHead_117 (by decide) ?_
            obtain rfl := Option.some.inj hf
            exact hxlq21 _ rfl H locs ls hR hS (lv_sub hl [1, 2, 3, 4, 0] rfl)
          · rw [if_neg c36] at hf
            refine lv_aload_n hx hb dX1_fillHead_74 rfl (lv_at hl 0 rfl) ?_
            obtain ⟨v37, g38, hf⟩ := ob hf
            refine gR_X1_23 X hR g38 dX1_fillHead_75 ?_
            refine lv_iload_n hx hb dX1_fillHead_78 rfl (lv_at hl 1 rfl) ?_
            obtain ⟨v39, g40, hf⟩ := ob hf
            refine r_lR (k := 4) (ty := .array .long) X hR rfl rfl g40 dX1_fillHead_79 ?_
            refine lv_aload_n hx hb dX1_fillHead_80 rfl (lv_at hl 0 rfl) ?_
            obtain ⟨v41, g42, hf⟩ := ob hf
            refine gR_X1_36 X hR g42 dX1_fillHead_81 ?_
            obtain ⟨v43, g44, hf⟩ := ob hf
            refine gR_X1_105 X hR g44 dX1_fillHead_84 ?_
            refine lv_iload hx hb dX1_fillHead_87 (lv_at hl 4 rfl) ?_
            obtain ⟨v45, g46, hf⟩ := ob hf
            refine r_lI X hR g46 dX1_fillHead_89 ?_
            refine lv_iconst (v := 1) hx hb dX1_fillHead_90 (by decide) ?_
            refine lv_iadd hx hb dX1_fillHead_91 ?_
            refine lv_dup2_11 hx hb dX1_fillHead_92 rfl rfl ?_
            obtain ⟨v47, g48, hf⟩ := ob hf
            refine r_lJ X hR g48 dX1_fillHead_93 ?_
            refine lv_aload_n hx hb dX1_fillHead_94 rfl (lv_at hl 0 rfl) ?_
            obtain ⟨v49, g50, hf⟩ := ob hf
            refine gR_X1_17 X hR g50 dX1_fillHead_95 ?_
            refine lv_iload_n hx hb dX1_fillHead_98 rfl (lv_at hl 1 rfl) ?_
            obtain ⟨v51, g52, hf⟩ := ob hf
            refine r_lR (k := 4) (ty := .array .long) X hR rfl rfl g52 dX1_fillHead_99 ?_
            refine lv_iload hx hb dX1_fillHead_100 (lv_at hl 4 rfl) ?_
            obtain ⟨v53, g54, hf⟩ := ob hf
            refine r_lJ X hR g54 dX1_fillHead_102 ?_
            refine lv_aload_n hx hb dX1_fillHead_103 rfl (lv_at hl 0 rfl) ?_
            refine lv_iload_n hx hb dX1_fillHead_104 rfl (lv_at hl 1 rfl) ?_
            refine lv_iload_n hx hb dX1_fillHead_105 rfl (lv_at hl 2 rfl) ?_
            refine lv_iload hx hb dX1_fillHead_106 (lv_at hl 4 rfl) ?_
            obtain ⟨o55, h56, hf⟩ := obO hf
            obtain ⟨v58, g57, hf⟩ := ob hf
            refine r_callV X kw_X1_107 (ci := 1) rfl (c_X1_waysBefore l B D cA m23 x0 x1 x2 z22 v58 g57) ⟨Nat.le_of_ble_eq_true rfl, Nat.le_of_ble_eq_true rfl⟩ h56 hR hS hl.1 rfl rfl (Nat.le_of_ble_eq_true rfl) ⟨Nat.le_of_ble_eq_true rfl, Nat.le_of_ble_eq_true rfl⟩ dX1_fillHead_108 (fun H locs hR hS => ?_)
            refine W.eq (g2 := F0 mt 111 ls [.long v58, .long v53, .long v47, .int (v45 + (1 : Int32)), .ref (B + v39)]) rfl ?_
            refine lv_lmul hx hb dX1_fillHead_111 ?_
            refine lv_ladd hx hb dX1_fillHead_112 ?_
            obtain ⟨m59, g60, hf⟩ := ob hf
            refine r_sJ X hR hS g60 dX1_fillHead_113 (fun H locs hR hS => ?_)
            refine lv_iinc (v := (z22 + 1)) (lv' := [(4, .int (z22 + 1)), (0, .ref (B + x0)), (1, .int x1), (2, .int x2), (3, .int v6)]) hx hb dX1_fillHead_114 hl (k := 4) rfl (congrArg (fun z => z22 + z) (by decide)) (by decide) rfl (fun ls hl => ?_)
            refine lv_goto (tgt := 43) hx hb dX1_fillHead_117 (by decide) ?_
            obtain rfl := Option.some.inj hf
            exact hxlq21 _ rfl H locs ls hR hS (lv_sub hl [1, 2, 3, 4, 0] rfl)
    · intro H locs ls hR hS hl
      refine lv_iload_n hx hb dX1_fillHead_120 rfl (lv_at hl 2 rfl) ?_
      refine lv_iconst (v := 1) hx hb dX1_fillHead_121 (by decide) ?_
      refine lv_iadd hx hb dX1_fillHead_122 ?_
      refine lv_istore (lv' := [(4, .int (x2 + (1 : Int32))), (0, .ref (B + x0)), (1, .int x1), (2, .int x2), (3, .int v6)]) hx hb dX1_fillHead_123 hl (by decide) rfl (fun ls hl => ?_)
      obtain ⟨e62, hwe62, hf⟩ := ob hf
      refine whl_rule (P := (fun t61 => ∀ (H : Heap) (locs : List Loc) (ls : Array Slot), Rl B D cA t61.2 H → va_S (fun q => B ≤ q) s.heap H locs → lv_has ls 5 [(0, .ref (B + x0)), (1, .int x1), (3, .int v6), (4, .int t61.1)] → W p l e (rmm 2 0 0 46) s mt args below meth c H locs 0 0 (MQ below (mQ B D cA none mZ) args s 0 0 (fun q => B ≤ q)) (F0 mt 125 ls []))) (Qx := (fun e62 => ∀ (H : Heap) (locs : List Loc) (ls : Array Slot), Rl B D cA e62 H → va_S (fun q => B ≤ q) s.heap H locs → lv_has ls 5 [] → W p l e (rmm 2 0 0 46) s mt args below meth c H locs 0 0 (MQ below (mQ B D cA none mZ) args s 0 0 (fun q => B ≤ q)) (F0 mt 160 ls []))) ?_ FU _ e62 hwe62 ?_ H locs ls hR hS (lv_sub hl [1, 2, 4, 0] rfl)
      · clear hwe62 hf
        intro t61 q63 hf hxlq63 hxrq63 H locs ls hR hS hl
        obtain ⟨z64, m65⟩ := t61
        have hf : f_X1_fillHead_L125 m65 x0 x1 v6 z64 = some q63 := hf
        have hR : Rl B D cA m65 H := hR
        have hl : lv_has ls 5 [(0, .ref (B + x0)), (1, .int x1), (3, .int v6), (4, .int z64)] := hl
        unfold f_X1_fillHead_L125 at hf
        refine lv_iload hx hb dX1_fillHead_125 (lv_at hl 3 rfl) ?_
        refine lv_iload_n hx hb dX1_fillHead_127 rfl (lv_at hl 2 rfl) ?_
        refine lv_icmp_gt (tgt := 160) hx hb dX1_fillHead_128 (by decide) (fun c66 => ?_) (fun c66 => ?_)
        · rw [if_pos c66] at hf
          obtain rfl := Option.some.inj hf
          exact hxrq63 _ rfl H locs ls hR hS (lv_sub hl [] rfl)
        · rw [if_neg c66] at hf
          refine lv_aload_n hx hb dX1_fillHead_131 rfl (lv_at hl 0 rfl) ?_
          obtain ⟨v67, g68, hf⟩ := ob hf
          refine gR_X1_23 X hR g68 dX1_fillHead_132 ?_
          refine lv_iload_n hx hb dX1_fillHead_135 rfl (lv_at hl 1 rfl) ?_
          obtain ⟨v69, g70, hf⟩ := ob hf
          refine r_lR (k := 4) (ty := .array .long) X hR rfl rfl g70 dX1_fillHead_136 ?_
          refine lv_iload hx hb dX1_fillHead_137 (lv_at hl 3 rfl) ?_
          refine lv_iconst (v := 1) hx hb dX1_fillHead_139 (by decide) ?_
          refine lv_iadd hx hb dX1_fillHead_140 ?_
          refine lv_dup2_11 hx hb dX1_fillHead_141 rfl rfl ?_
          obtain ⟨v71, g72, hf⟩ := ob hf
          refine r_lJ X hR g72 dX1_fillHead_142 ?_
          refine lv_aload_n hx hb dX1_fillHead_143 rfl (lv_at hl 0 rfl) ?_
          obtain ⟨v73, g74, hf⟩ := ob hf
          refine gR_X1_23 X hR g74 dX1_fillHead_144 ?_
          refine lv_iload_n hx hb dX1_fillHead_147 rfl (lv_at hl 1 rfl) ?_
          obtain ⟨v75, g76, hf⟩ := ob hf
          refine r_lR (k := 4) (ty := .array .long) X hR rfl rfl g76 dX1_fillHead_148 ?_
          refine lv_iload hx hb dX1_fillHead_149 (lv_at hl 3 rfl) ?_
          obtain ⟨v77, g78, hf⟩ := ob hf
          refine r_lJ X hR g78 dX1_fillHead_151 ?_
          refine lv_ladd hx hb dX1_fillHead_152 ?_
          obtain ⟨m79, g80, hf⟩ := ob hf
          refine r_sJ X hR hS g80 dX1_fillHead_153 (fun H locs hR hS => ?_)
          refine lv_iinc (v := (z64 + 1)) (lv' := [(4, .int (z64 + 1)), (0, .ref (B + x0)), (1, .int x1), (3, .int v6)]) hx hb dX1_fillHead_154 hl (k := 3) rfl (congrArg (fun z => z64 + z) (by decide)) (by decide) rfl (fun ls hl => ?_)
          refine lv_goto (tgt := 125) hx hb dX1_fillHead_157 (by decide) ?_
          obtain rfl := Option.some.inj hf
          exact hxlq63 _ rfl H locs ls hR hS (lv_sub hl [1, 2, 3, 0] rfl)
      · intro H locs ls hR hS hl
        obtain rfl := Option.some.inj hf
        exact r_vret X hr hlocks hR hS dX1_fillHead_160
/-! ===== TwigMatches$Matcher.elementAbove(I)I ===== -/
theorem dX1_elementAbove_0 : decode cX1_elementAbove 0 = .ok (.aload_n 0, 1) := by decide +kernel
theorem dX1_elementAbove_1 : decode cX1_elementAbove 1 = .ok (.getfield 40, 3) := by decide +kernel
theorem dX1_elementAbove_4 : decode cX1_elementAbove 4 = .ok (.getfield 79, 3) := by decide +kernel
theorem dX1_elementAbove_7 : decode cX1_elementAbove 7 = .ok (.iload_n 1, 1) := by decide +kernel
theorem dX1_elementAbove_8 : decode cX1_elementAbove 8 = .ok (.iaload, 1) := by decide +kernel
theorem dX1_elementAbove_9 : decode cX1_elementAbove 9 = .ok (.iconst (-1), 1) := by decide +kernel
theorem dX1_elementAbove_10 : decode cX1_elementAbove 10 = .ok (.if_icmp .ne 7, 3) := by decide +kernel
theorem dX1_elementAbove_13 : decode cX1_elementAbove 13 = .ok (.iconst (-1), 1) := by decide +kernel
theorem dX1_elementAbove_14 : decode cX1_elementAbove 14 = .ok (.goto 17, 3) := by decide +kernel
theorem dX1_elementAbove_17 : decode cX1_elementAbove 17 = .ok (.aload_n 0, 1) := by decide +kernel
theorem dX1_elementAbove_18 : decode cX1_elementAbove 18 = .ok (.getfield 29, 3) := by decide +kernel
theorem dX1_elementAbove_21 : decode cX1_elementAbove 21 = .ok (.aload_n 0, 1) := by decide +kernel
theorem dX1_elementAbove_22 : decode cX1_elementAbove 22 = .ok (.getfield 40, 3) := by decide +kernel
theorem dX1_elementAbove_25 : decode cX1_elementAbove 25 = .ok (.getfield 79, 3) := by decide +kernel
theorem dX1_elementAbove_28 : decode cX1_elementAbove 28 = .ok (.iload_n 1, 1) := by decide +kernel
theorem dX1_elementAbove_29 : decode cX1_elementAbove 29 = .ok (.iaload, 1) := by decide +kernel
theorem dX1_elementAbove_30 : decode cX1_elementAbove 30 = .ok (.iaload, 1) := by decide +kernel
theorem dX1_elementAbove_31 : decode cX1_elementAbove 31 = .ok (.ireturn, 1) := by decide +kernel
set_option maxHeartbeats 4000000 in
set_option maxRecDepth 100000 in
theorem c_X1_elementAbove (l : Launch) (B : Nat) (D : va_G) (cA : Nat → ClassId) (m : Mm) (x0 : Nat) (x1 : Int32) (rZ : Int32) (hf : f_X1_elementAbove m x0 x1 = some rZ) : Mt l B D cA yX1_elementAbove cX1_elementAbove 2 (some .int) 0 0 0 0 [.ref (B + x0), .int x1] m (some (.int rZ)) m := by
  refine r_start (by decide) (Nat.le_of_ble_eq_true rfl) ?_
  intro p e s mt args below meth c ls H locs X hr hlocks hnm hR hl hS
  have hx := X.1
  have hb := X.2.1
  have hl : lv_has ls 2 [(0, .ref (B + x0)), (1, .int x1)] := hl
  unfold f_X1_elementAbove at hf
  refine lv_aload_n hx hb dX1_elementAbove_0 rfl (lv_at hl 0 rfl) ?_
  obtain ⟨v1, g2, hf⟩ := ob hf
  refine gR_X1_40 X hR g2 dX1_elementAbove_1 ?_
  obtain ⟨v3, g4, hf⟩ := ob hf
  refine gR_X1_79 X hR g4 dX1_elementAbove_4 ?_
  refine lv_iload_n hx hb dX1_elementAbove_7 rfl (lv_at hl 1 rfl) ?_
  obtain ⟨v5, g6, hf⟩ := ob hf
  refine r_lI X hR g6 dX1_elementAbove_8 ?_
  refine lv_iconst (v := -1) hx hb dX1_elementAbove_9 (by decide) ?_
  refine lv_icmp_ne (tgt := 17) hx hb dX1_elementAbove_10 (by decide) (fun c7 => ?_) (fun c7 => ?_)
  · rw [if_neg c7] at hf
    refine lv_aload_n hx hb dX1_elementAbove_17 rfl (lv_at hl 0 rfl) ?_
    obtain ⟨v8, g9, hf⟩ := ob hf
    refine gR_X1_29 X hR g9 dX1_elementAbove_18 ?_
    refine lv_aload_n hx hb dX1_elementAbove_21 rfl (lv_at hl 0 rfl) ?_
    obtain ⟨v10, g11, hf⟩ := ob hf
    refine gR_X1_40 X hR g11 dX1_elementAbove_22 ?_
    obtain ⟨v12, g13, hf⟩ := ob hf
    refine gR_X1_79 X hR g13 dX1_elementAbove_25 ?_
    refine lv_iload_n hx hb dX1_elementAbove_28 rfl (lv_at hl 1 rfl) ?_
    obtain ⟨v14, g15, hf⟩ := ob hf
    refine r_lI X hR g15 dX1_elementAbove_29 ?_
    obtain ⟨v16, g17, hf⟩ := ob hf
    refine r_lI X hR g17 dX1_elementAbove_30 ?_
    obtain rfl := Option.some.inj hf
    exact r_iret X hr hlocks hR hS rfl dX1_elementAbove_31
  · rw [if_pos c7] at hf
    refine lv_iconst (v := -1) hx hb dX1_elementAbove_13 (by decide) ?_
    refine lv_goto (tgt := 31) hx hb dX1_elementAbove_14 (by decide) ?_
    obtain rfl := Option.some.inj hf
    exact r_iret X hr hlocks hR hS rfl dX1_elementAbove_31
/-! ===== TwigMatches$Matcher.least(I)I ===== -/
theorem dX1_least_0 : decode cX1_least 0 = .ok (.aload_n 0, 1) := by decide +kernel
theorem dX1_least_1 : decode cX1_least 1 = .ok (.getfield 40, 3) := by decide +kernel
theorem dX1_least_4 : decode cX1_least 4 = .ok (.iload_n 1, 1) := by decide +kernel
theorem dX1_least_5 : decode cX1_least 5 = .ok (.invokevirtual 110, 3) := by decide +kernel
theorem dX1_least_8 : decode cX1_least 8 = .ok (.istore_n 2, 1) := by decide +kernel
theorem dX1_least_9 : decode cX1_least 9 = .ok (.iload_n 2, 1) := by decide +kernel
theorem dX1_least_10 : decode cX1_least 10 = .ok (.iconst (-1), 1) := by decide +kernel
theorem dX1_least_11 : decode cX1_least 11 = .ok (.if_icmp .eq 15, 3) := by decide +kernel
theorem dX1_least_14 : decode cX1_least 14 = .ok (.aload_n 0, 1) := by decide +kernel
theorem dX1_least_15 : decode cX1_least 15 = .ok (.getfield 40, 3) := by decide +kernel
theorem dX1_least_18 : decode cX1_least 18 = .ok (.getfield 102, 3) := by decide +kernel
theorem dX1_least_21 : decode cX1_least 21 = .ok (.iload_n 1, 1) := by decide +kernel
theorem dX1_least_22 : decode cX1_least 22 = .ok (.iaload, 1) := by decide +kernel
theorem dX1_least_23 : decode cX1_least 23 = .ok (.ifCond .ne 11, 3) := by decide +kernel
theorem dX1_least_26 : decode cX1_least 26 = .ok (.aload_n 0, 1) := by decide +kernel
theorem dX1_least_27 : decode cX1_least 27 = .ok (.iload_n 1, 1) := by decide +kernel
theorem dX1_least_28 : decode cX1_least 28 = .ok (.invokevirtual 113, 3) := by decide +kernel
theorem dX1_least_31 : decode cX1_least 31 = .ok (.iconst 1, 1) := by decide +kernel
theorem dX1_least_32 : decode cX1_least 32 = .ok (.iadd, 1) := by decide +kernel
theorem dX1_least_33 : decode cX1_least 33 = .ok (.ireturn, 1) := by decide +kernel
theorem dX1_least_34 : decode cX1_least 34 = .ok (.aload_n 0, 1) := by decide +kernel
theorem dX1_least_35 : decode cX1_least 35 = .ok (.getfield 36, 3) := by decide +kernel
theorem dX1_least_38 : decode cX1_least 38 = .ok (.getfield 105, 3) := by decide +kernel
theorem dX1_least_41 : decode cX1_least 41 = .ok (.aload_n 0, 1) := by decide +kernel
theorem dX1_least_42 : decode cX1_least 42 = .ok (.getfield 29, 3) := by decide +kernel
theorem dX1_least_45 : decode cX1_least 45 = .ok (.iload_n 2, 1) := by decide +kernel
theorem dX1_least_46 : decode cX1_least 46 = .ok (.iaload, 1) := by decide +kernel
theorem dX1_least_47 : decode cX1_least 47 = .ok (.iaload, 1) := by decide +kernel
theorem dX1_least_48 : decode cX1_least 48 = .ok (.iconst 1, 1) := by decide +kernel
theorem dX1_least_49 : decode cX1_least 49 = .ok (.iadd, 1) := by decide +kernel
theorem dX1_least_50 : decode cX1_least 50 = .ok (.ireturn, 1) := by decide +kernel
set_option maxHeartbeats 4000000 in
set_option maxRecDepth 100000 in
theorem c_X1_least (l : Launch) (B : Nat) (D : va_G) (cA : Nat → ClassId) (m : Mm) (x0 : Nat) (x1 : Int32) (rZ : Int32) (hf : f_X1_least m x0 x1 = some rZ) : Mt l B D cA yX1_least cX1_least 3 (some .int) 1 22 0 0 [.ref (B + x0), .int x1] m (some (.int rZ)) m := by
  refine r_start (by decide) (Nat.le_of_ble_eq_true rfl) ?_
  intro p e s mt args below meth c ls H locs X hr hlocks hnm hR hl hS
  have hx := X.1
  have hb := X.2.1
  have hl : lv_has ls 3 [(0, .ref (B + x0)), (1, .int x1)] := hl
  unfold f_X1_least at hf
  refine lv_aload_n hx hb dX1_least_0 rfl (lv_at hl 0 rfl) ?_
  obtain ⟨v1, g2, hf⟩ := ob hf
  refine gR_X1_40 X hR g2 dX1_least_1 ?_
  refine lv_iload_n hx hb dX1_least_4 rfl (lv_at hl 1 rfl) ?_
  obtain ⟨o3, h4, hf⟩ := obO hf
  obtain ⟨v6, g5, hf⟩ := ob hf
  refine r_callV X kw_X1_110 (ci := 5) rfl (c_X5_previousBranch l B D cA m v1 x1 v6 g5) ⟨Nat.le_of_ble_eq_true rfl, Nat.le_of_ble_eq_true rfl⟩ h4 hR hS hl.1 rfl rfl (Nat.le_of_ble_eq_true rfl) ⟨Nat.le_of_ble_eq_true rfl, Nat.le_of_ble_eq_true rfl⟩ dX1_least_5 (fun H locs hR hS => ?_)
  refine W.eq (g2 := F0 mt 8 ls [.int v6]) rfl ?_
  refine lv_istore_n (lv' := [(2, .int v6), (0, .ref (B + x0)), (1, .int x1)]) hx hb dX1_least_8 rfl hl (by decide) rfl (fun ls hl => ?_)
  refine lv_iload_n hx hb dX1_least_9 rfl (lv_at hl 0 rfl) ?_
  refine lv_iconst (v := -1) hx hb dX1_least_10 (by decide) ?_
  refine lv_icmp_eq (tgt := 26) hx hb dX1_least_11 (by decide) (fun c7 => ?_) (fun c7 => ?_)
  · rw [if_pos c7] at hf
    refine lv_aload_n hx hb dX1_least_26 rfl (lv_at hl 1 rfl) ?_
    refine lv_iload_n hx hb dX1_least_27 rfl (lv_at hl 2 rfl) ?_
    obtain ⟨o8, h9, hf⟩ := obO hf
    obtain ⟨v11, g10, hf⟩ := ob hf
    refine r_callV X kw_X1_113 (ci := 1) rfl (c_X1_elementAbove l B D cA m x0 x1 v11 g10) ⟨Nat.le_of_ble_eq_true rfl, Nat.le_of_ble_eq_true rfl⟩ h9 hR hS hl.1 rfl rfl (Nat.le_of_ble_eq_true rfl) ⟨Nat.le_of_ble_eq_true rfl, Nat.le_of_ble_eq_true rfl⟩ dX1_least_28 (fun H locs hR hS => ?_)
    refine W.eq (g2 := F0 mt 31 ls [.int v11]) rfl ?_
    refine lv_iconst (v := 1) hx hb dX1_least_31 (by decide) ?_
    refine lv_iadd hx hb dX1_least_32 ?_
    obtain rfl := Option.some.inj hf
    exact r_iret X hr hlocks hR hS rfl dX1_least_33
  · rw [if_neg c7] at hf
    refine lv_aload_n hx hb dX1_least_14 rfl (lv_at hl 1 rfl) ?_
    obtain ⟨v12, g13, hf⟩ := ob hf
    refine gR_X1_40 X hR g13 dX1_least_15 ?_
    obtain ⟨v14, g15, hf⟩ := ob hf
    refine gR_X1_102 X hR g15 dX1_least_18 ?_
    refine lv_iload_n hx hb dX1_least_21 rfl (lv_at hl 2 rfl) ?_
    obtain ⟨v16, g17, hf⟩ := ob hf
    refine r_lI X hR g17 dX1_least_22 ?_
    refine lv_if_ne (tgt := 34) hx hb dX1_least_23 (by decide) (fun c18 => ?_) (fun c18 => ?_)
    · rw [if_neg c18] at hf
      refine lv_aload_n hx hb dX1_least_34 rfl (lv_at hl 1 rfl) ?_
      obtain ⟨v19, g20, hf⟩ := ob hf
      refine gR_X1_36 X hR g20 dX1_least_35 ?_
      obtain ⟨v21, g22, hf⟩ := ob hf
      refine gR_X1_105 X hR g22 dX1_least_38 ?_
      refine lv_aload_n hx hb dX1_least_41 rfl (lv_at hl 1 rfl) ?_
      obtain ⟨v23, g24, hf⟩ := ob hf
      refine gR_X1_29 X hR g24 dX1_least_42 ?_
      refine lv_iload_n hx hb dX1_least_45 rfl (lv_at hl 0 rfl) ?_
      obtain ⟨v25, g26, hf⟩ := ob hf
      refine r_lI X hR g26 dX1_least_46 ?_
      obtain ⟨v27, g28, hf⟩ := ob hf
      refine r_lI X hR g28 dX1_least_47 ?_
      refine lv_iconst (v := 1) hx hb dX1_least_48 (by decide) ?_
      refine lv_iadd hx hb dX1_least_49 ?_
      obtain rfl := Option.some.inj hf
      exact r_iret X hr hlocks hR hS rfl dX1_least_50
    · rw [if_pos c18] at hf
      refine lv_aload_n hx hb dX1_least_26 rfl (lv_at hl 1 rfl) ?_
      refine lv_iload_n hx hb dX1_least_27 rfl (lv_at hl 2 rfl) ?_
      obtain ⟨o29, h30, hf⟩ := obO hf
      obtain ⟨v32, g31, hf⟩ := ob hf
      refine r_callV X kw_X1_113 (ci := 1) rfl (c_X1_elementAbove l B D cA m x0 x1 v32 g31) ⟨Nat.le_of_ble_eq_true rfl, Nat.le_of_ble_eq_true rfl⟩ h30 hR hS hl.1 rfl rfl (Nat.le_of_ble_eq_true rfl) ⟨Nat.le_of_ble_eq_true rfl, Nat.le_of_ble_eq_true rfl⟩ dX1_least_28 (fun H locs hR hS => ?_)
      refine W.eq (g2 := F0 mt 31 ls [.int v32]) rfl ?_
      refine lv_iconst (v := 1) hx hb dX1_least_31 (by decide) ?_
      refine lv_iadd hx hb dX1_least_32 ?_
      obtain rfl := Option.some.inj hf
      exact r_iret X hr hlocks hR hS rfl dX1_least_33
/-! ===== TwigMatches$Matcher.outerAbove(I)J ===== -/
theorem dX1_outerAbove_0 : decode cX1_outerAbove 0 = .ok (.aload_n 0, 1) := by decide +kernel
theorem dX1_outerAbove_1 : decode cX1_outerAbove 1 = .ok (.getfield 40, 3) := by decide +kernel
theorem dX1_outerAbove_4 : decode cX1_outerAbove 4 = .ok (.getfield 79, 3) := by decide +kernel
theorem dX1_outerAbove_7 : decode cX1_outerAbove 7 = .ok (.iload_n 1, 1) := by decide +kernel
theorem dX1_outerAbove_8 : decode cX1_outerAbove 8 = .ok (.iaload, 1) := by decide +kernel
theorem dX1_outerAbove_9 : decode cX1_outerAbove 9 = .ok (.iconst (-1), 1) := by decide +kernel
theorem dX1_outerAbove_10 : decode cX1_outerAbove 10 = .ok (.if_icmp .ne 7, 3) := by decide +kernel
theorem dX1_outerAbove_13 : decode cX1_outerAbove 13 = .ok (.lconst 1, 1) := by decide +kernel
theorem dX1_outerAbove_14 : decode cX1_outerAbove 14 = .ok (.goto 17, 3) := by decide +kernel
theorem dX1_outerAbove_17 : decode cX1_outerAbove 17 = .ok (.aload_n 0, 1) := by decide +kernel
theorem dX1_outerAbove_18 : decode cX1_outerAbove 18 = .ok (.getfield 32, 3) := by decide +kernel
theorem dX1_outerAbove_21 : decode cX1_outerAbove 21 = .ok (.aload_n 0, 1) := by decide +kernel
theorem dX1_outerAbove_22 : decode cX1_outerAbove 22 = .ok (.getfield 40, 3) := by decide +kernel
theorem dX1_outerAbove_25 : decode cX1_outerAbove 25 = .ok (.getfield 79, 3) := by decide +kernel
theorem dX1_outerAbove_28 : decode cX1_outerAbove 28 = .ok (.iload_n 1, 1) := by decide +kernel
theorem dX1_outerAbove_29 : decode cX1_outerAbove 29 = .ok (.iaload, 1) := by decide +kernel
theorem dX1_outerAbove_30 : decode cX1_outerAbove 30 = .ok (.laload, 1) := by decide +kernel
theorem dX1_outerAbove_31 : decode cX1_outerAbove 31 = .ok (.lreturn, 1) := by decide +kernel
set_option maxHeartbeats 4000000 in
set_option maxRecDepth 100000 in
theorem c_X1_outerAbove (l : Launch) (B : Nat) (D : va_G) (cA : Nat → ClassId) (m : Mm) (x0 : Nat) (x1 : Int32) (rZ : Int64) (hf : f_X1_outerAbove m x0 x1 = some rZ) : Mt l B D cA yX1_outerAbove cX1_outerAbove 2 (some .long) 0 0 0 0 [.ref (B + x0), .int x1] m (some (.long rZ)) m := by
  refine r_start (by decide) (Nat.le_of_ble_eq_true rfl) ?_
  intro p e s mt args below meth c ls H locs X hr hlocks hnm hR hl hS
  have hx := X.1
  have hb := X.2.1
  have hl : lv_has ls 2 [(0, .ref (B + x0)), (1, .int x1)] := hl
  unfold f_X1_outerAbove at hf
  refine lv_aload_n hx hb dX1_outerAbove_0 rfl (lv_at hl 0 rfl) ?_
  obtain ⟨v1, g2, hf⟩ := ob hf
  refine gR_X1_40 X hR g2 dX1_outerAbove_1 ?_
  obtain ⟨v3, g4, hf⟩ := ob hf
  refine gR_X1_79 X hR g4 dX1_outerAbove_4 ?_
  refine lv_iload_n hx hb dX1_outerAbove_7 rfl (lv_at hl 1 rfl) ?_
  obtain ⟨v5, g6, hf⟩ := ob hf
  refine r_lI X hR g6 dX1_outerAbove_8 ?_
  refine lv_iconst (v := -1) hx hb dX1_outerAbove_9 (by decide) ?_
  refine lv_icmp_ne (tgt := 17) hx hb dX1_outerAbove_10 (by decide) (fun c7 => ?_) (fun c7 => ?_)
  · rw [if_neg c7] at hf
    refine lv_aload_n hx hb dX1_outerAbove_17 rfl (lv_at hl 0 rfl) ?_
    obtain ⟨v8, g9, hf⟩ := ob hf
    refine gR_X1_32 X hR g9 dX1_outerAbove_18 ?_
    refine lv_aload_n hx hb dX1_outerAbove_21 rfl (lv_at hl 0 rfl) ?_
    obtain ⟨v10, g11, hf⟩ := ob hf
    refine gR_X1_40 X hR g11 dX1_outerAbove_22 ?_
    obtain ⟨v12, g13, hf⟩ := ob hf
    refine gR_X1_79 X hR g13 dX1_outerAbove_25 ?_
    refine lv_iload_n hx hb dX1_outerAbove_28 rfl (lv_at hl 1 rfl) ?_
    obtain ⟨v14, g15, hf⟩ := ob hf
    refine r_lI X hR g15 dX1_outerAbove_29 ?_
    obtain ⟨v16, g17, hf⟩ := ob hf
    refine r_lJ X hR g17 dX1_outerAbove_30 ?_
    obtain rfl := Option.some.inj hf
    exact r_lret X hr hlocks hR hS dX1_outerAbove_31
  · rw [if_pos c7] at hf
    refine lv_lconst (v := 1) hx hb dX1_outerAbove_13 (by decide) ?_
    refine lv_goto (tgt := 31) hx hb dX1_outerAbove_14 (by decide) ?_
    obtain rfl := Option.some.inj hf
    exact r_lret X hr hlocks hR hS dX1_outerAbove_31
/-! ===== TwigMatches$Matcher.choose(II)V ===== -/
theorem dX1_choose_0 : decode cX1_choose 0 = .ok (.aload_n 0, 1) := by decide +kernel
theorem dX1_choose_1 : decode cX1_choose 1 = .ok (.getfield 29, 3) := by decide +kernel
theorem dX1_choose_4 : decode cX1_choose 4 = .ok (.iload_n 1, 1) := by decide +kernel
theorem dX1_choose_5 : decode cX1_choose 5 = .ok (.iload_n 2, 1) := by decide +kernel
theorem dX1_choose_6 : decode cX1_choose 6 = .ok (.iastore, 1) := by decide +kernel
theorem dX1_choose_7 : decode cX1_choose 7 = .ok (.aload_n 0, 1) := by decide +kernel
theorem dX1_choose_8 : decode cX1_choose 8 = .ok (.getfield 32, 3) := by decide +kernel
theorem dX1_choose_11 : decode cX1_choose 11 = .ok (.iload_n 1, 1) := by decide +kernel
theorem dX1_choose_12 : decode cX1_choose 12 = .ok (.aload_n 0, 1) := by decide +kernel
theorem dX1_choose_13 : decode cX1_choose 13 = .ok (.iload_n 1, 1) := by decide +kernel
theorem dX1_choose_14 : decode cX1_choose 14 = .ok (.invokevirtual 116, 3) := by decide +kernel
theorem dX1_choose_17 : decode cX1_choose 17 = .ok (.aload_n 0, 1) := by decide +kernel
theorem dX1_choose_18 : decode cX1_choose 18 = .ok (.aload_n 0, 1) := by decide +kernel
theorem dX1_choose_19 : decode cX1_choose 19 = .ok (.getfield 40, 3) := by decide +kernel
theorem dX1_choose_22 : decode cX1_choose 22 = .ok (.iload_n 1, 1) := by decide +kernel
theorem dX1_choose_23 : decode cX1_choose 23 = .ok (.invokevirtual 85, 3) := by decide +kernel
theorem dX1_choose_26 : decode cX1_choose 26 = .ok (.aload_n 0, 1) := by decide +kernel
theorem dX1_choose_27 : decode cX1_choose 27 = .ok (.iload_n 1, 1) := by decide +kernel
theorem dX1_choose_28 : decode cX1_choose 28 = .ok (.invokevirtual 113, 3) := by decide +kernel
theorem dX1_choose_31 : decode cX1_choose 31 = .ok (.iload_n 2, 1) := by decide +kernel
theorem dX1_choose_32 : decode cX1_choose 32 = .ok (.invokevirtual 92, 3) := by decide +kernel
theorem dX1_choose_35 : decode cX1_choose 35 = .ok (.lmul, 1) := by decide +kernel
theorem dX1_choose_36 : decode cX1_choose 36 = .ok (.lastore, 1) := by decide +kernel
theorem dX1_choose_37 : decode cX1_choose 37 = .ok (.aload_n 0, 1) := by decide +kernel
theorem dX1_choose_38 : decode cX1_choose 38 = .ok (.iload_n 1, 1) := by decide +kernel
theorem dX1_choose_39 : decode cX1_choose 39 = .ok (.iload_n 2, 1) := by decide +kernel
theorem dX1_choose_40 : decode cX1_choose 40 = .ok (.invokevirtual 73, 3) := by decide +kernel
theorem dX1_choose_43 : decode cX1_choose 43 = .ok (.return_, 1) := by decide +kernel
set_option maxHeartbeats 4000000 in
set_option maxRecDepth 100000 in
theorem c_X1_choose (l : Launch) (B : Nat) (D : va_G) (cA : Nat → ClassId) (m : Mm) (x0 : Nat) (x1 : Int32) (x2 : Int32) (mZ : Mm) (hf : f_X1_choose m x0 x1 x2 = some mZ) : Mt l B D cA yX1_choose cX1_choose 3 none 3 71 0 0 [.ref (B + x0), .int x1, .int x2] m none mZ := by
  refine r_start (by decide) (Nat.le_of_ble_eq_true rfl) ?_
  intro p e s mt args below meth c ls H locs X hr hlocks hnm hR hl hS
  have hx := X.1
  have hb := X.2.1
  have hl : lv_has ls 3 [(0, .ref (B + x0)), (1, .int x1), (2, .int x2)] := hl
  unfold f_X1_choose at hf
  refine lv_aload_n hx hb dX1_choose_0 rfl (lv_at hl 0 rfl) ?_
  obtain ⟨v1, g2, hf⟩ := ob hf
  refine gR_X1_29 X hR g2 dX1_choose_1 ?_
  refine lv_iload_n hx hb dX1_choose_4 rfl (lv_at hl 1 rfl) ?_
  refine lv_iload_n hx hb dX1_choose_5 rfl (lv_at hl 2 rfl) ?_
  obtain ⟨m3, g4, hf⟩ := ob hf
  refine r_sI X hR hS g4 dX1_choose_6 (fun H locs hR hS => ?_)
  refine lv_aload_n hx hb dX1_choose_7 rfl (lv_at hl 0 rfl) ?_
  obtain ⟨v5, g6, hf⟩ := ob hf
  refine gR_X1_32 X hR g6 dX1_choose_8 ?_
  refine lv_iload_n hx hb dX1_choose_11 rfl (lv_at hl 1 rfl) ?_
  refine lv_aload_n hx hb dX1_choose_12 rfl (lv_at hl 0 rfl) ?_
  refine lv_iload_n hx hb dX1_choose_13 rfl (lv_at hl 1 rfl) ?_
  obtain ⟨o7, h8, hf⟩ := obO hf
  obtain ⟨v10, g9, hf⟩ := ob hf
  refine r_callV X kw_X1_116 (ci := 1) rfl (c_X1_outerAbove l B D cA m3 x0 x1 v10 g9) ⟨Nat.le_of_ble_eq_true rfl, Nat.le_of_ble_eq_true rfl⟩ h8 hR hS hl.1 rfl rfl (Nat.le_of_ble_eq_true rfl) ⟨Nat.le_of_ble_eq_true rfl, Nat.le_of_ble_eq_true rfl⟩ dX1_choose_14 (fun H locs hR hS => ?_)
  refine W.eq (g2 := F0 mt 17 ls [.long v10, .int x1, .ref (B + v5)]) rfl ?_
  refine lv_aload_n hx hb dX1_choose_17 rfl (lv_at hl 0 rfl) ?_
  refine lv_aload_n hx hb dX1_choose_18 rfl (lv_at hl 0 rfl) ?_
  obtain ⟨v11, g12, hf⟩ := ob hf
  refine gR_X1_40 X hR g12 dX1_choose_19 ?_
  refine lv_iload_n hx hb dX1_choose_22 rfl (lv_at hl 1 rfl) ?_
  obtain ⟨o13, h14, hf⟩ := obO hf
  obtain ⟨v16, g15, hf⟩ := ob hf
  refine r_callV X kw_X1_85 (ci := 5) rfl (c_X5_nextBranch l B D cA m3 v11 x1 v16 g15) ⟨Nat.le_of_ble_eq_true rfl, Nat.le_of_ble_eq_true rfl⟩ h14 hR hS hl.1 rfl rfl (Nat.le_of_ble_eq_true rfl) ⟨Nat.le_of_ble_eq_true rfl, Nat.le_of_ble_eq_true rfl⟩ dX1_choose_23 (fun H locs hR hS => ?_)
  refine W.eq (g2 := F0 mt 26 ls [.int v16, .ref (B + x0), .long v10, .int x1, .ref (B + v5)]) rfl ?_
  refine lv_aload_n hx hb dX1_choose_26 rfl (lv_at hl 0 rfl) ?_
  refine lv_iload_n hx hb dX1_choose_27 rfl (lv_at hl 1 rfl) ?_
  obtain ⟨o17, h18, hf⟩ := obO hf
  obtain ⟨v20, g19, hf⟩ := ob hf
  refine r_callV X kw_X1_113 (ci := 1) rfl (c_X1_elementAbove l B D cA m3 x0 x1 v20 g19) ⟨Nat.le_of_ble_eq_true rfl, Nat.le_of_ble_eq_true rfl⟩ h18 hR hS hl.1 rfl rfl (Nat.le_of_ble_eq_true rfl) ⟨Nat.le_of_ble_eq_true rfl, Nat.le_of_ble_eq_true rfl⟩ dX1_choose_28 (fun H locs hR hS => ?_)
  refine W.eq (g2 := F0 mt 31 ls [.int v20, .int v16, .ref (B + x0), .long v10, .int x1, .ref (B + v5)]) rfl ?_
  refine lv_iload_n hx hb dX1_choose_31 rfl (lv_at hl 2 rfl) ?_
  obtain ⟨o21, h22, hf⟩ := obO hf
  obtain ⟨v24, g23, hf⟩ := ob hf
  refine r_callV X kw_X1_92 (ci := 1) rfl (c_X1_waysAfter l B D cA m3 x0 v16 v20 x2 v24 g23) ⟨Nat.le_of_ble_eq_true rfl, Nat.le_of_ble_eq_true rfl⟩ h22 hR hS hl.1 rfl rfl (Nat.le_of_ble_eq_true rfl) ⟨Nat.le_of_ble_eq_true rfl, Nat.le_of_ble_eq_true rfl⟩ dX1_choose_32 (fun H locs hR hS => ?_)
  refine W.eq (g2 := F0 mt 35 ls [.long v24, .long v10, .int x1, .ref (B + v5)]) rfl ?_
  refine lv_lmul hx hb dX1_choose_35 ?_
  obtain ⟨m25, g26, hf⟩ := ob hf
  refine r_sJ X hR hS g26 dX1_choose_36 (fun H locs hR hS => ?_)
  refine lv_aload_n hx hb dX1_choose_37 rfl (lv_at hl 0 rfl) ?_
  refine lv_iload_n hx hb dX1_choose_38 rfl (lv_at hl 1 rfl) ?_
  refine lv_iload_n hx hb dX1_choose_39 rfl (lv_at hl 2 rfl) ?_
  obtain ⟨o27, h28, hf⟩ := obO hf
  obtain ⟨m30, g29, hf⟩ := ob hf
  refine r_callV X kw_X1_73 (ci := 1) rfl (c_X1_spread l B D cA m25 x0 x1 x2 m30 g29) ⟨Nat.le_of_ble_eq_true rfl, Nat.le_of_ble_eq_true rfl⟩ h28 hR hS hl.1 rfl rfl (Nat.le_of_ble_eq_true rfl) ⟨Nat.le_of_ble_eq_true rfl, Nat.le_of_ble_eq_true rfl⟩ dX1_choose_40 (fun H locs hR hS => ?_)
  refine W.eq (g2 := F0 mt 43 ls []) rfl ?_
  obtain rfl := Option.some.inj hf
  exact r_vret X hr hlocks hR hS dX1_choose_43
/-! ===== TwigMatches$Matcher.waysAt(II)J ===== -/
theorem dX1_waysAt_0 : decode cX1_waysAt 0 = .ok (.aload_n 0, 1) := by decide +kernel
theorem dX1_waysAt_1 : decode cX1_waysAt 1 = .ok (.getfield 20, 3) := by decide +kernel
theorem dX1_waysAt_4 : decode cX1_waysAt 4 = .ok (.iload_n 1, 1) := by decide +kernel
theorem dX1_waysAt_5 : decode cX1_waysAt 5 = .ok (.aaload, 1) := by decide +kernel
theorem dX1_waysAt_6 : decode cX1_waysAt 6 = .ok (.iload_n 2, 1) := by decide +kernel
theorem dX1_waysAt_7 : decode cX1_waysAt 7 = .ok (.laload, 1) := by decide +kernel
theorem dX1_waysAt_8 : decode cX1_waysAt 8 = .ok (.aload_n 0, 1) := by decide +kernel
theorem dX1_waysAt_9 : decode cX1_waysAt 9 = .ok (.getfield 20, 3) := by decide +kernel
theorem dX1_waysAt_12 : decode cX1_waysAt 12 = .ok (.iload_n 1, 1) := by decide +kernel
theorem dX1_waysAt_13 : decode cX1_waysAt 13 = .ok (.aaload, 1) := by decide +kernel
theorem dX1_waysAt_14 : decode cX1_waysAt 14 = .ok (.iload_n 2, 1) := by decide +kernel
theorem dX1_waysAt_15 : decode cX1_waysAt 15 = .ok (.iconst 1, 1) := by decide +kernel
theorem dX1_waysAt_16 : decode cX1_waysAt 16 = .ok (.iadd, 1) := by decide +kernel
theorem dX1_waysAt_17 : decode cX1_waysAt 17 = .ok (.laload, 1) := by decide +kernel
theorem dX1_waysAt_18 : decode cX1_waysAt 18 = .ok (.lsub, 1) := by decide +kernel
theorem dX1_waysAt_19 : decode cX1_waysAt 19 = .ok (.aload_n 0, 1) := by decide +kernel
theorem dX1_waysAt_20 : decode cX1_waysAt 20 = .ok (.iload_n 1, 1) := by decide +kernel
theorem dX1_waysAt_21 : decode cX1_waysAt 21 = .ok (.invokevirtual 116, 3) := by decide +kernel
theorem dX1_waysAt_24 : decode cX1_waysAt 24 = .ok (.lmul, 1) := by decide +kernel
theorem dX1_waysAt_25 : decode cX1_waysAt 25 = .ok (.lreturn, 1) := by decide +kernel
set_option maxHeartbeats 4000000 in
set_option maxRecDepth 100000 in
theorem c_X1_waysAt (l : Launch) (B : Nat) (D : va_G) (cA : Nat → ClassId) (m : Mm) (x0 : Nat) (x1 : Int32) (x2 : Int32) (rZ : Int64) (hf : f_X1_waysAt m x0 x1 x2 = some rZ) : Mt l B D cA yX1_waysAt cX1_waysAt 3 (some .long) 1 21 0 0 [.ref (B + x0), .int x1, .int x2] m (some (.long rZ)) m := by
  refine r_start (by decide) (Nat.le_of_ble_eq_true rfl) ?_
  intro p e s mt args below meth c ls H locs X hr hlocks hnm hR hl hS
  have hx := X.1
  have hb := X.2.1
  have hl : lv_has ls 3 [(0, .ref (B + x0)), (1, .int x1), (2, .int x2)] := hl
  unfold f_X1_waysAt at hf
  refine lv_aload_n hx hb dX1_waysAt_0 rfl (lv_at hl 0 rfl) ?_
  obtain ⟨v1, g2, hf⟩ := ob hf
  refine gR_X1_20 X hR g2 dX1_waysAt_1 ?_
  refine lv_iload_n hx hb dX1_waysAt_4 rfl (lv_at hl 1 rfl) ?_
  obtain ⟨v3, g4, hf⟩ := ob hf
  refine r_lR (k := 4) (ty := .array .long) X hR rfl rfl g4 dX1_waysAt_5 ?_
  refine lv_iload_n hx hb dX1_waysAt_6 rfl (lv_at hl 2 rfl) ?_
  obtain ⟨v5, g6, hf⟩ := ob hf
  refine r_lJ X hR g6 dX1_waysAt_7 ?_
  refine lv_aload_n hx hb dX1_waysAt_8 rfl (lv_at hl 0 rfl) ?_
  obtain ⟨v7, g8, hf⟩ := ob hf
  refine gR_X1_20 X hR g8 dX1_waysAt_9 ?_
  refine lv_iload_n hx hb dX1_waysAt_12 rfl (lv_at hl 1 rfl) ?_
  obtain ⟨v9, g10, hf⟩ := ob hf
  refine r_lR (k := 4) (ty := .array .long) X hR rfl rfl g10 dX1_waysAt_13 ?_
  refine lv_iload_n hx hb dX1_waysAt_14 rfl (lv_at hl 2 rfl) ?_
  refine lv_iconst (v := 1) hx hb dX1_waysAt_15 (by decide) ?_
  refine lv_iadd hx hb dX1_waysAt_16 ?_
  obtain ⟨v11, g12, hf⟩ := ob hf
  refine r_lJ X hR g12 dX1_waysAt_17 ?_
  refine lv_lsub hx hb dX1_waysAt_18 ?_
  refine lv_aload_n hx hb dX1_waysAt_19 rfl (lv_at hl 0 rfl) ?_
  refine lv_iload_n hx hb dX1_waysAt_20 rfl (lv_at hl 1 rfl) ?_
  obtain ⟨o13, h14, hf⟩ := obO hf
  obtain ⟨v16, g15, hf⟩ := ob hf
  refine r_callV X kw_X1_116 (ci := 1) rfl (c_X1_outerAbove l B D cA m x0 x1 v16 g15) ⟨Nat.le_of_ble_eq_true rfl, Nat.le_of_ble_eq_true rfl⟩ h14 hR hS hl.1 rfl rfl (Nat.le_of_ble_eq_true rfl) ⟨Nat.le_of_ble_eq_true rfl, Nat.le_of_ble_eq_true rfl⟩ dX1_waysAt_21 (fun H locs hR hS => ?_)
  refine W.eq (g2 := F0 mt 24 ls [.long v16, .long (v5 - v11)]) rfl ?_
  refine lv_lmul hx hb dX1_waysAt_24 ?_
  obtain rfl := Option.some.inj hf
  exact r_lret X hr hlocks hR hS dX1_waysAt_25
/-! ===== TwigMatches$Matcher.elementOf(JI)I ===== -/
theorem dX1_elementOf_0 : decode cX1_elementOf 0 = .ok (.lload_n 1, 1) := by decide +kernel
theorem dX1_elementOf_1 : decode cX1_elementOf 1 = .ok (.lstore 4, 2) := by decide +kernel
theorem dX1_elementOf_3 : decode cX1_elementOf 3 = .ok (.iconst 0, 1) := by decide +kernel
theorem dX1_elementOf_4 : decode cX1_elementOf 4 = .ok (.istore 6, 2) := by decide +kernel
theorem dX1_elementOf_6 : decode cX1_elementOf 6 = .ok (.iload 6, 2) := by decide +kernel
theorem dX1_elementOf_8 : decode cX1_elementOf 8 = .ok (.iload_n 3, 1) := by decide +kernel
theorem dX1_elementOf_9 : decode cX1_elementOf 9 = .ok (.if_icmp .gt 80, 3) := by decide +kernel
theorem dX1_elementOf_12 : decode cX1_elementOf 12 = .ok (.aload_n 0, 1) := by decide +kernel
theorem dX1_elementOf_13 : decode cX1_elementOf 13 = .ok (.getfield 36, 3) := by decide +kernel
theorem dX1_elementOf_16 : decode cX1_elementOf 16 = .ok (.aload_n 0, 1) := by decide +kernel
theorem dX1_elementOf_17 : decode cX1_elementOf 17 = .ok (.iload 6, 2) := by decide +kernel
theorem dX1_elementOf_19 : decode cX1_elementOf 19 = .ok (.invokevirtual 113, 3) := by decide +kernel
theorem dX1_elementOf_22 : decode cX1_elementOf 22 = .ok (.invokevirtual 82, 3) := by decide +kernel
theorem dX1_elementOf_25 : decode cX1_elementOf 25 = .ok (.istore 7, 2) := by decide +kernel
theorem dX1_elementOf_27 : decode cX1_elementOf 27 = .ok (.aload_n 0, 1) := by decide +kernel
theorem dX1_elementOf_28 : decode cX1_elementOf 28 = .ok (.iload 6, 2) := by decide +kernel
theorem dX1_elementOf_30 : decode cX1_elementOf 30 = .ok (.invokevirtual 120, 3) := by decide +kernel
theorem dX1_elementOf_33 : decode cX1_elementOf 33 = .ok (.istore 8, 2) := by decide +kernel
theorem dX1_elementOf_35 : decode cX1_elementOf 35 = .ok (.iload 8, 2) := by decide +kernel
theorem dX1_elementOf_37 : decode cX1_elementOf 37 = .ok (.iload 7, 2) := by decide +kernel
theorem dX1_elementOf_39 : decode cX1_elementOf 39 = .ok (.if_icmp .ge 36, 3) := by decide +kernel
theorem dX1_elementOf_42 : decode cX1_elementOf 42 = .ok (.lload 4, 2) := by decide +kernel
theorem dX1_elementOf_44 : decode cX1_elementOf 44 = .ok (.aload_n 0, 1) := by decide +kernel
theorem dX1_elementOf_45 : decode cX1_elementOf 45 = .ok (.iload 6, 2) := by decide +kernel
theorem dX1_elementOf_47 : decode cX1_elementOf 47 = .ok (.iload 8, 2) := by decide +kernel
theorem dX1_elementOf_49 : decode cX1_elementOf 49 = .ok (.invokevirtual 123, 3) := by decide +kernel
theorem dX1_elementOf_52 : decode cX1_elementOf 52 = .ok (.lcmp, 1) := by decide +kernel
theorem dX1_elementOf_53 : decode cX1_elementOf 53 = .ok (.ifCond .lt 22, 3) := by decide +kernel
theorem dX1_elementOf_56 : decode cX1_elementOf 56 = .ok (.lload 4, 2) := by decide +kernel
theorem dX1_elementOf_58 : decode cX1_elementOf 58 = .ok (.aload_n 0, 1) := by decide +kernel
theorem dX1_elementOf_59 : decode cX1_elementOf 59 = .ok (.iload 6, 2) := by decide +kernel
theorem dX1_elementOf_61 : decode cX1_elementOf 61 = .ok (.iload 8, 2) := by decide +kernel
theorem dX1_elementOf_63 : decode cX1_elementOf 63 = .ok (.invokevirtual 123, 3) := by decide +kernel
theorem dX1_elementOf_66 : decode cX1_elementOf 66 = .ok (.lsub, 1) := by decide +kernel
theorem dX1_elementOf_67 : decode cX1_elementOf 67 = .ok (.lstore 4, 2) := by decide +kernel
theorem dX1_elementOf_69 : decode cX1_elementOf 69 = .ok (.iinc 8 1, 3) := by decide +kernel
theorem dX1_elementOf_72 : decode cX1_elementOf 72 = .ok (.goto (-37), 3) := by decide +kernel
theorem dX1_elementOf_75 : decode cX1_elementOf 75 = .ok (.aload_n 0, 1) := by decide +kernel
theorem dX1_elementOf_76 : decode cX1_elementOf 76 = .ok (.iload 6, 2) := by decide +kernel
theorem dX1_elementOf_78 : decode cX1_elementOf 78 = .ok (.iload 8, 2) := by decide +kernel
theorem dX1_elementOf_80 : decode cX1_elementOf 80 = .ok (.invokevirtual 126, 3) := by decide +kernel
theorem dX1_elementOf_83 : decode cX1_elementOf 83 = .ok (.iinc 6 1, 3) := by decide +kernel
theorem dX1_elementOf_86 : decode cX1_elementOf 86 = .ok (.goto (-80), 3) := by decide +kernel
theorem dX1_elementOf_89 : decode cX1_elementOf 89 = .ok (.aload_n 0, 1) := by decide +kernel
theorem dX1_elementOf_90 : decode cX1_elementOf 90 = .ok (.getfield 29, 3) := by decide +kernel
theorem dX1_elementOf_93 : decode cX1_elementOf 93 = .ok (.iload_n 3, 1) := by decide +kernel
theorem dX1_elementOf_94 : decode cX1_elementOf 94 = .ok (.iaload, 1) := by decide +kernel
theorem dX1_elementOf_95 : decode cX1_elementOf 95 = .ok (.ireturn, 1) := by decide +kernel
set_option maxHeartbeats 4000000 in
set_option maxRecDepth 100000 in
theorem c_X1_elementOf (l : Launch) (B : Nat) (D : va_G) (cA : Nat → ClassId) (m : Mm) (x0 : Nat) (x1 : Int64) (x3 : Int32) (rZ : Int32) (mZ : Mm) (hf : f_X1_elementOf m x0 x1 x3 = some (rZ, mZ)) : Mt l B D cA yX1_elementOf cX1_elementOf 9 (some .int) 4 93 0 0 [.ref (B + x0), .long x1, .int x3] m (some (.int rZ)) mZ := by
  refine r_start (by decide) (Nat.le_of_ble_eq_true rfl) ?_
  intro p e s mt args below meth c ls H locs X hr hlocks hnm hR hl hS
  have hx := X.1
  have hb := X.2.1
  have hl : lv_has ls 9 [(0, .ref (B + x0)), (1, .long x1), (3, .int x3)] := hl
  unfold f_X1_elementOf at hf
  refine lv_lload_n hx hb dX1_elementOf_0 rfl (lv_at hl 1 rfl) ?_
  refine lv_lstore (lv' := [(4, .long x1), (0, .ref (B + x0)), (1, .long x1), (3, .int x3)]) hx hb dX1_elementOf_1 hl (by decide) rfl (fun ls hl => ?_)
  refine lv_iconst (v := 0) hx hb dX1_elementOf_3 (by decide) ?_
  refine lv_istore (lv' := [(6, .int (0 : Int32)), (4, .long x1), (0, .ref (B + x0)), (1, .long x1), (3, .int x3)]) hx hb dX1_elementOf_4 hl (by decide) rfl (fun ls hl => ?_)
  obtain ⟨e2, hwe2, hf⟩ := ob hf
  refine whl_rule (P := (fun t1 => ∀ (H : Heap) (locs : List Loc) (ls : Array Slot), Rl B D cA t1.2.2 H → va_S (fun q => B ≤ q) s.heap H locs → lv_has ls 9 [(0, .ref (B + x0)), (3, .int x3), (4, .long t1.1), (6, .int t1.2.1)] → W p l e (rmm 4 0 0 93) s mt args below meth c H locs 0 0 (MQ below (mQ B D cA (some (.int rZ)) mZ) args s 0 0 (fun q => B ≤ q)) (F0 mt 6 ls []))) (Qx := (fun e2 => ∀ (H : Heap) (locs : List Loc) (ls : Array Slot), Rl B D cA e2 H → va_S (fun q => B ≤ q) s.heap H locs → lv_has ls 9 [(0, .ref (B + x0)), (3, .int x3)] → W p l e (rmm 4 0 0 93) s mt args below meth c H locs 0 0 (MQ below (mQ B D cA (some (.int rZ)) mZ) args s 0 0 (fun q => B ≤ q)) (F0 mt 89 ls []))) ?_ FU _ e2 hwe2 ?_ H locs ls hR hS (lv_sub hl [2, 4, 1, 0] rfl)
  · clear hwe2 hf
    intro t1 q3 hf hxlq3 hxrq3 H locs ls hR hS hl
    obtain ⟨z4, z5, m6⟩ := t1
    have hf : f_X1_elementOf_L6 m6 x0 x3 z4 z5 = some q3 := hf
    have hR : Rl B D cA m6 H := hR
    have hl : lv_has ls 9 [(0, .ref (B + x0)), (3, .int x3), (4, .long z4), (6, .int z5)] := hl
    unfold f_X1_elementOf_L6 at hf
    refine lv_iload hx hb dX1_elementOf_6 (lv_at hl 3 rfl) ?_
    refine lv_iload_n hx hb dX1_elementOf_8 rfl (lv_at hl 1 rfl) ?_
    refine lv_icmp_gt (tgt := 89) hx hb dX1_elementOf_9 (by decide) (fun c7 => ?_) (fun c7 => ?_)
    · rw [if_pos c7] at hf
      obtain rfl := Option.some.inj hf
      exact hxrq3 _ rfl H locs ls hR hS (lv_sub hl [0, 1] rfl)
    · rw [if_neg c7] at hf
      refine lv_aload_n hx hb dX1_elementOf_12 rfl (lv_at hl 0 rfl) ?_
      obtain ⟨v8, g9, hf⟩ := ob hf
      refine gR_X1_36 X hR g9 dX1_elementOf_13 ?_
      refine lv_aload_n hx hb dX1_elementOf_16 rfl (lv_at hl 0 rfl) ?_
      refine lv_iload hx hb dX1_elementOf_17 (lv_at hl 3 rfl) ?_
      obtain ⟨o10, h11, hf⟩ := obO hf
      obtain ⟨v13, g12, hf⟩ := ob hf
      refine r_callV X kw_X1_113 (ci := 1) rfl (c_X1_elementAbove l B D cA m6 x0 z5 v13 g12) ⟨Nat.le_of_ble_eq_true rfl, Nat.le_of_ble_eq_true rfl⟩ h11 hR hS hl.1 rfl rfl (Nat.le_of_ble_eq_true rfl) ⟨Nat.le_of_ble_eq_true rfl, Nat.le_of_ble_eq_true rfl⟩ dX1_elementOf_19 (fun H locs hR hS => ?_)
      refine W.eq (g2 := F0 mt 22 ls [.int v13, .ref (B + v8)]) rfl ?_
      obtain ⟨o14, h15, hf⟩ := obO hf
      obtain ⟨v17, g16, hf⟩ := ob hf
      refine r_callV X kw_X1_82 (ci := 4) rfl (c_X4_lastBelow l B D cA m6 v8 v13 v17 g16) ⟨Nat.le_of_ble_eq_true rfl, Nat.le_of_ble_eq_true rfl⟩ h15 hR hS hl.1 rfl rfl (Nat.le_of_ble_eq_true rfl) ⟨Nat.le_of_ble_eq_true rfl, Nat.le_of_ble_eq_true rfl⟩ dX1_elementOf_22 (fun H locs hR hS => ?_)
      refine W.eq (g2 := F0 mt 25 ls [.int v17]) rfl ?_
      refine lv_istore (lv' := [(7, .int v17), (0, .ref (B + x0)), (3, .int x3), (4, .long z4), (6, .int z5)]) hx hb dX1_elementOf_25 hl (by decide) rfl (fun ls hl => ?_)
      refine lv_aload_n hx hb dX1_elementOf_27 rfl (lv_at hl 1 rfl) ?_
      refine lv_iload hx hb dX1_elementOf_28 (lv_at hl 4 rfl) ?_
      obtain ⟨o18, h19, hf⟩ := obO hf
      obtain ⟨v21, g20, hf⟩ := ob hf
      refine r_callV X kw_X1_120 (ci := 1) rfl (c_X1_least l B D cA m6 x0 z5 v21 g20) ⟨Nat.le_of_ble_eq_true rfl, Nat.le_of_ble_eq_true rfl⟩ h19 hR hS hl.1 rfl rfl (Nat.le_of_ble_eq_true rfl) ⟨Nat.le_of_ble_eq_true rfl, Nat.le_of_ble_eq_true rfl⟩ dX1_elementOf_30 (fun H locs hR hS => ?_)
      refine W.eq (g2 := F0 mt 33 ls [.int v21]) rfl ?_
      refine lv_istore (lv' := [(8, .int v21), (7, .int v17), (0, .ref (B + x0)), (3, .int x3), (4, .long z4), (6, .int z5)]) hx hb dX1_elementOf_33 hl (by decide) rfl (fun ls hl => ?_)
      obtain ⟨e23, hwe23, hf⟩ := ob hf
      refine whl_rule (P := (fun t22 => ∀ (H : Heap) (locs : List Loc) (ls : Array Slot), Rl B D cA m6 H → va_S (fun q => B ≤ q) s.heap H locs → lv_has ls 9 [(0, .ref (B + x0)), (3, .int x3), (4, .long t22.1), (6, .int z5), (7, .int v17), (8, .int t22.2)] → W p l e (rmm 4 0 0 93) s mt args below meth c H locs 0 0 (MQ below (mQ B D cA (some (.int rZ)) mZ) args s 0 0 (fun q => B ≤ q)) (F0 mt 35 ls []))) (Qx := (fun e23 => ∀ (H : Heap) (locs : List Loc) (ls : Array Slot), Rl B D cA m6 H → va_S (fun q => B ≤ q) s.heap H locs → lv_has ls 9 [(0, .ref (B + x0)), (3, .int x3), (4, .long e23.1), (6, .int z5), (8, .int e23.2)] → W p l e (rmm 4 0 0 93) s mt args below meth c H locs 0 0 (MQ below (mQ B D cA (some (.int rZ)) mZ) args s 0 0 (fun q => B ≤ q)) (F0 mt 75 ls []))) ?_ FU _ e23 hwe23 ?_ H locs ls hR hS (lv_sub hl [2, 3, 4, 5, 1, 0] rfl)
      · clear hwe23 hf
        intro t22 q24 hf hxlq24 hxrq24 H locs ls hR hS hl
        obtain ⟨z25, z26⟩ := t22
        have hf : f_X1_elementOf_L35 m6 x0 x3 z5 v17 z25 z26 = some q24 := hf
        have hR : Rl B D cA m6 H := hR
        have hl : lv_has ls 9 [(0, .ref (B + x0)), (3, .int x3), (4, .long z25), (6, .int z5), (7, .int v17), (8, .int z26)] := hl
        unfold f_X1_elementOf_L35 at hf
        refine lv_iload hx hb dX1_elementOf_35 (lv_at hl 5 rfl) ?_
        refine lv_iload hx hb dX1_elementOf_37 (lv_at hl 4 rfl) ?_
        refine lv_icmp_ge (tgt := 75) hx hb dX1_elementOf_39 (by decide) (fun c27 => ?_) (fun c27 => ?_)
        · rw [if_pos c27] at hf
          obtain rfl := Option.some.inj hf
          exact hxrq24 _ rfl H locs ls hR hS (lv_sub hl [0, 1, 2, 3, 5] rfl)
        · rw [if_neg c27] at hf
          refine lv_lload hx hb dX1_elementOf_42 (lv_at hl 2 rfl) ?_
          refine lv_aload_n hx hb dX1_elementOf_44 rfl (lv_at hl 0 rfl) ?_
          refine lv_iload hx hb dX1_elementOf_45 (lv_at hl 3 rfl) ?_
          refine lv_iload hx hb dX1_elementOf_47 (lv_at hl 5 rfl) ?_
          obtain ⟨o28, h29, hf⟩ := obO hf
          obtain ⟨v31, g30, hf⟩ := ob hf
          refine r_callV X kw_X1_123 (ci := 1) rfl (c_X1_waysAt l B D cA m6 x0 z5 z26 v31 g30) ⟨Nat.le_of_ble_eq_true rfl, Nat.le_of_ble_eq_true rfl⟩ h29 hR hS hl.1 rfl rfl (Nat.le_of_ble_eq_true rfl) ⟨Nat.le_of_ble_eq_true rfl, Nat.le_of_ble_eq_true rfl⟩ dX1_elementOf_49 (fun H locs hR hS => ?_)
          refine W.eq (g2 := F0 mt 52 ls [.long v31, .long z25]) rfl ?_
          refine r_lc_lt (tgt := 75) X dX1_elementOf_52 dX1_elementOf_53 (by decide) (fun c32 => ?_) (fun c32 => ?_)
          · rw [if_pos c32] at hf
            obtain rfl := Option.some.inj hf
            exact hxrq24 _ rfl H locs ls hR hS (lv_sub hl [0, 1, 2, 3, 5] rfl)
          · rw [if_neg c32] at hf
            refine lv_lload hx hb dX1_elementOf_56 (lv_at hl 2 rfl) ?_
            refine lv_aload_n hx hb dX1_elementOf_58 rfl (lv_at hl 0 rfl) ?_
            refine lv_iload hx hb dX1_elementOf_59 (lv_at hl 3 rfl) ?_
            refine lv_iload hx hb dX1_elementOf_61 (lv_at hl 5 rfl) ?_
            obtain ⟨o33, h34, hf⟩ := obO hf
            obtain ⟨v36, g35, hf⟩ := ob hf
            refine r_callV X kw_X1_123 (ci := 1) rfl (c_X1_waysAt l B D cA m6 x0 z5 z26 v36 g35) ⟨Nat.le_of_ble_eq_true rfl, Nat.le_of_ble_eq_true rfl⟩ h34 hR hS hl.1 rfl rfl (Nat.le_of_ble_eq_true rfl) ⟨Nat.le_of_ble_eq_true rfl, Nat.le_of_ble_eq_true rfl⟩ dX1_elementOf_63 (fun H locs hR hS => ?_)
            refine W.eq (g2 := F0 mt 66 ls [.long v36, .long z25]) rfl ?_
            refine lv_lsub hx hb dX1_elementOf_66 ?_
            refine lv_lstore (lv' := [(4, .long (z25 - v36)), (0, .ref (B + x0)), (3, .int x3), (6, .int z5), (7, .int v17), (8, .int z26)]) hx hb dX1_elementOf_67 hl (by decide) rfl (fun ls hl => ?_)
            refine lv_iinc (v := (z26 + 1)) (lv' := [(8, .int (z26 + 1)), (4, .long (z25 - v36)), (0, .ref (B + x0)), (3, .int x3), (6, .int z5), (7, .int v17)]) hx hb dX1_elementOf_69 hl (k := 5) rfl (congrArg (fun z => z26 + z) (by decide)) (by decide) rfl (fun ls hl => ?_)
            refine lv_goto (tgt := 35) hx hb dX1_elementOf_72 (by decide) ?_
            obtain rfl := Option.some.inj hf
            exact hxlq24 _ rfl H locs ls hR hS (lv_sub hl [2, 3, 1, 4, 5, 0] rfl)
      · intro H locs ls hR hS hl
        refine lv_aload_n hx hb dX1_elementOf_75 rfl (lv_at hl 0 rfl) ?_
        refine lv_iload hx hb dX1_elementOf_76 (lv_at hl 3 rfl) ?_
        refine lv_iload hx hb dX1_elementOf_78 (lv_at hl 4 rfl) ?_
        obtain ⟨o37, h38, hf⟩ := obO hf
        obtain ⟨m40, g39, hf⟩ := ob hf
        refine r_callV X kw_X1_126 (ci := 1) rfl (c_X1_choose l B D cA m6 x0 z5 e23.2 m40 g39) ⟨Nat.le_of_ble_eq_true rfl, Nat.le_of_ble_eq_true rfl⟩ h38 hR hS hl.1 rfl rfl (Nat.le_of_ble_eq_true rfl) ⟨Nat.le_of_ble_eq_true rfl, Nat.le_of_ble_eq_true rfl⟩ dX1_elementOf_80 (fun H locs hR hS => ?_)
        refine W.eq (g2 := F0 mt 83 ls []) rfl ?_
        refine lv_iinc (v := (z5 + 1)) (lv' := [(6, .int (z5 + 1)), (0, .ref (B + x0)), (3, .int x3), (4, .long e23.1), (8, .int e23.2)]) hx hb dX1_elementOf_83 hl (k := 3) rfl (congrArg (fun z => z5 + z) (by decide)) (by decide) rfl (fun ls hl => ?_)
        refine lv_goto (tgt := 6) hx hb dX1_elementOf_86 (by decide) ?_
        obtain rfl := Option.some.inj hf
        exact hxlq3 _ rfl H locs ls hR hS (lv_sub hl [1, 2, 3, 0] rfl)
  · intro H locs ls hR hS hl
    refine lv_aload_n hx hb dX1_elementOf_89 rfl (lv_at hl 0 rfl) ?_
    obtain ⟨v41, g42, hf⟩ := ob hf
    refine gR_X1_29 X hR g42 dX1_elementOf_90 ?_
    refine lv_iload_n hx hb dX1_elementOf_93 rfl (lv_at hl 1 rfl) ?_
    obtain ⟨v43, g44, hf⟩ := ob hf
    refine r_lI X hR g44 dX1_elementOf_94 ?_
    obtain ⟨rfl, rfl⟩ := Prod.mk.inj (Option.some.inj hf)
    exact r_iret X hr hlocks hR hS rfl dX1_elementOf_95
/-! ===== TwigMatches$Matcher.rankOf(J)J ===== -/
theorem dX1_rankOf_0 : decode cX1_rankOf 0 = .ok (.lload_n 1, 1) := by decide +kernel
theorem dX1_rankOf_1 : decode cX1_rankOf 1 = .ok (.iconst 5, 1) := by decide +kernel
theorem dX1_rankOf_2 : decode cX1_rankOf 2 = .ok (.aload_n 0, 1) := by decide +kernel
theorem dX1_rankOf_3 : decode cX1_rankOf 3 = .ok (.getfield 40, 3) := by decide +kernel
theorem dX1_rankOf_6 : decode cX1_rankOf 6 = .ok (.getfield 44, 3) := by decide +kernel
theorem dX1_rankOf_9 : decode cX1_rankOf 9 = .ok (.imul, 1) := by decide +kernel
theorem dX1_rankOf_10 : decode cX1_rankOf 10 = .ok (.lushr, 1) := by decide +kernel
theorem dX1_rankOf_11 : decode cX1_rankOf 11 = .ok (.lconst 0, 1) := by decide +kernel
theorem dX1_rankOf_12 : decode cX1_rankOf 12 = .ok (.lcmp, 1) := by decide +kernel
theorem dX1_rankOf_13 : decode cX1_rankOf 13 = .ok (.ifCond .eq 7, 3) := by decide +kernel
theorem dX1_rankOf_16 : decode cX1_rankOf 16 = .ok (.ldc2_w 129, 3) := by decide +kernel
theorem dX1_rankOf_19 : decode cX1_rankOf 19 = .ok (.lreturn, 1) := by decide +kernel
theorem dX1_rankOf_20 : decode cX1_rankOf 20 = .ok (.lconst 0, 1) := by decide +kernel
theorem dX1_rankOf_21 : decode cX1_rankOf 21 = .ok (.lstore_n 3, 1) := by decide +kernel
theorem dX1_rankOf_22 : decode cX1_rankOf 22 = .ok (.iconst 0, 1) := by decide +kernel
theorem dX1_rankOf_23 : decode cX1_rankOf 23 = .ok (.istore 5, 2) := by decide +kernel
theorem dX1_rankOf_25 : decode cX1_rankOf 25 = .ok (.iload 5, 2) := by decide +kernel
theorem dX1_rankOf_27 : decode cX1_rankOf 27 = .ok (.aload_n 0, 1) := by decide +kernel
theorem dX1_rankOf_28 : decode cX1_rankOf 28 = .ok (.getfield 40, 3) := by decide +kernel
theorem dX1_rankOf_31 : decode cX1_rankOf 31 = .ok (.getfield 44, 3) := by decide +kernel
theorem dX1_rankOf_34 : decode cX1_rankOf 34 = .ok (.if_icmp .ge 125, 3) := by decide +kernel
theorem dX1_rankOf_37 : decode cX1_rankOf 37 = .ok (.iconst 5, 1) := by decide +kernel
theorem dX1_rankOf_38 : decode cX1_rankOf 38 = .ok (.aload_n 0, 1) := by decide +kernel
theorem dX1_rankOf_39 : decode cX1_rankOf 39 = .ok (.getfield 40, 3) := by decide +kernel
theorem dX1_rankOf_42 : decode cX1_rankOf 42 = .ok (.getfield 44, 3) := by decide +kernel
theorem dX1_rankOf_45 : decode cX1_rankOf 45 = .ok (.iconst 1, 1) := by decide +kernel
theorem dX1_rankOf_46 : decode cX1_rankOf 46 = .ok (.isub, 1) := by decide +kernel
theorem dX1_rankOf_47 : decode cX1_rankOf 47 = .ok (.iload 5, 2) := by decide +kernel
theorem dX1_rankOf_49 : decode cX1_rankOf 49 = .ok (.isub, 1) := by decide +kernel
theorem dX1_rankOf_50 : decode cX1_rankOf 50 = .ok (.imul, 1) := by decide +kernel
theorem dX1_rankOf_51 : decode cX1_rankOf 51 = .ok (.istore 6, 2) := by decide +kernel
theorem dX1_rankOf_53 : decode cX1_rankOf 53 = .ok (.lload_n 1, 1) := by decide +kernel
theorem dX1_rankOf_54 : decode cX1_rankOf 54 = .ok (.iload 6, 2) := by decide +kernel
theorem dX1_rankOf_56 : decode cX1_rankOf 56 = .ok (.lushr, 1) := by decide +kernel
theorem dX1_rankOf_57 : decode cX1_rankOf 57 = .ok (.ldc2_w 131, 3) := by decide +kernel
theorem dX1_rankOf_60 : decode cX1_rankOf 60 = .ok (.land, 1) := by decide +kernel
theorem dX1_rankOf_61 : decode cX1_rankOf 61 = .ok (.l2i, 1) := by decide +kernel
theorem dX1_rankOf_62 : decode cX1_rankOf 62 = .ok (.istore 7, 2) := by decide +kernel
theorem dX1_rankOf_64 : decode cX1_rankOf 64 = .ok (.aload_n 0, 1) := by decide +kernel
theorem dX1_rankOf_65 : decode cX1_rankOf 65 = .ok (.iload 5, 2) := by decide +kernel
theorem dX1_rankOf_67 : decode cX1_rankOf 67 = .ok (.invokevirtual 120, 3) := by decide +kernel
theorem dX1_rankOf_70 : decode cX1_rankOf 70 = .ok (.istore 8, 2) := by decide +kernel
theorem dX1_rankOf_72 : decode cX1_rankOf 72 = .ok (.iload 7, 2) := by decide +kernel
theorem dX1_rankOf_74 : decode cX1_rankOf 74 = .ok (.iload 8, 2) := by decide +kernel
theorem dX1_rankOf_76 : decode cX1_rankOf 76 = .ok (.if_icmp .lt 34, 3) := by decide +kernel
theorem dX1_rankOf_79 : decode cX1_rankOf 79 = .ok (.iload 7, 2) := by decide +kernel
theorem dX1_rankOf_81 : decode cX1_rankOf 81 = .ok (.aload_n 0, 1) := by decide +kernel
theorem dX1_rankOf_82 : decode cX1_rankOf 82 = .ok (.getfield 36, 3) := by decide +kernel
theorem dX1_rankOf_85 : decode cX1_rankOf 85 = .ok (.aload_n 0, 1) := by decide +kernel
theorem dX1_rankOf_86 : decode cX1_rankOf 86 = .ok (.iload 5, 2) := by decide +kernel
theorem dX1_rankOf_88 : decode cX1_rankOf 88 = .ok (.invokevirtual 113, 3) := by decide +kernel
theorem dX1_rankOf_91 : decode cX1_rankOf 91 = .ok (.invokevirtual 82, 3) := by decide +kernel
theorem dX1_rankOf_94 : decode cX1_rankOf 94 = .ok (.if_icmp .gt 16, 3) := by decide +kernel
theorem dX1_rankOf_97 : decode cX1_rankOf 97 = .ok (.aload_n 0, 1) := by decide +kernel
theorem dX1_rankOf_98 : decode cX1_rankOf 98 = .ok (.iload 5, 2) := by decide +kernel
theorem dX1_rankOf_100 : decode cX1_rankOf 100 = .ok (.iload 7, 2) := by decide +kernel
theorem dX1_rankOf_102 : decode cX1_rankOf 102 = .ok (.invokevirtual 123, 3) := by decide +kernel
theorem dX1_rankOf_105 : decode cX1_rankOf 105 = .ok (.lconst 0, 1) := by decide +kernel
theorem dX1_rankOf_106 : decode cX1_rankOf 106 = .ok (.lcmp, 1) := by decide +kernel
theorem dX1_rankOf_107 : decode cX1_rankOf 107 = .ok (.ifCond .ne 7, 3) := by decide +kernel
theorem dX1_rankOf_110 : decode cX1_rankOf 110 = .ok (.ldc2_w 129, 3) := by decide +kernel
theorem dX1_rankOf_113 : decode cX1_rankOf 113 = .ok (.lreturn, 1) := by decide +kernel
theorem dX1_rankOf_114 : decode cX1_rankOf 114 = .ok (.lload_n 3, 1) := by decide +kernel
theorem dX1_rankOf_115 : decode cX1_rankOf 115 = .ok (.aload_n 0, 1) := by decide +kernel
theorem dX1_rankOf_116 : decode cX1_rankOf 116 = .ok (.getfield 20, 3) := by decide +kernel
theorem dX1_rankOf_119 : decode cX1_rankOf 119 = .ok (.iload 5, 2) := by decide +kernel
theorem dX1_rankOf_121 : decode cX1_rankOf 121 = .ok (.aaload, 1) := by decide +kernel
theorem dX1_rankOf_122 : decode cX1_rankOf 122 = .ok (.iload 8, 2) := by decide +kernel
theorem dX1_rankOf_124 : decode cX1_rankOf 124 = .ok (.laload, 1) := by decide +kernel
theorem dX1_rankOf_125 : decode cX1_rankOf 125 = .ok (.aload_n 0, 1) := by decide +kernel
theorem dX1_rankOf_126 : decode cX1_rankOf 126 = .ok (.getfield 20, 3) := by decide +kernel
theorem dX1_rankOf_129 : decode cX1_rankOf 129 = .ok (.iload 5, 2) := by decide +kernel
theorem dX1_rankOf_131 : decode cX1_rankOf 131 = .ok (.aaload, 1) := by decide +kernel
theorem dX1_rankOf_132 : decode cX1_rankOf 132 = .ok (.iload 7, 2) := by decide +kernel
theorem dX1_rankOf_134 : decode cX1_rankOf 134 = .ok (.laload, 1) := by decide +kernel
theorem dX1_rankOf_135 : decode cX1_rankOf 135 = .ok (.lsub, 1) := by decide +kernel
theorem dX1_rankOf_136 : decode cX1_rankOf 136 = .ok (.aload_n 0, 1) := by decide +kernel
theorem dX1_rankOf_137 : decode cX1_rankOf 137 = .ok (.iload 5, 2) := by decide +kernel
theorem dX1_rankOf_139 : decode cX1_rankOf 139 = .ok (.invokevirtual 116, 3) := by decide +kernel
theorem dX1_rankOf_142 : decode cX1_rankOf 142 = .ok (.lmul, 1) := by decide +kernel
theorem dX1_rankOf_143 : decode cX1_rankOf 143 = .ok (.ladd, 1) := by decide +kernel
theorem dX1_rankOf_144 : decode cX1_rankOf 144 = .ok (.lstore_n 3, 1) := by decide +kernel
theorem dX1_rankOf_145 : decode cX1_rankOf 145 = .ok (.aload_n 0, 1) := by decide +kernel
theorem dX1_rankOf_146 : decode cX1_rankOf 146 = .ok (.iload 5, 2) := by decide +kernel
theorem dX1_rankOf_148 : decode cX1_rankOf 148 = .ok (.iload 7, 2) := by decide +kernel
theorem dX1_rankOf_150 : decode cX1_rankOf 150 = .ok (.invokevirtual 126, 3) := by decide +kernel
theorem dX1_rankOf_153 : decode cX1_rankOf 153 = .ok (.iinc 5 1, 3) := by decide +kernel
theorem dX1_rankOf_156 : decode cX1_rankOf 156 = .ok (.goto (-131), 3) := by decide +kernel
theorem dX1_rankOf_159 : decode cX1_rankOf 159 = .ok (.lload_n 3, 1) := by decide +kernel
theorem dX1_rankOf_160 : decode cX1_rankOf 160 = .ok (.lreturn, 1) := by decide +kernel
set_option maxHeartbeats 4000000 in
set_option maxRecDepth 100000 in
theorem c_X1_rankOf (l : Launch) (B : Nat) (D : va_G) (cA : Nat → ClassId) (m : Mm) (x0 : Nat) (x1 : Int64) (rZ : Int64) (mZ : Mm) (hf : f_X1_rankOf m x0 x1 = some (rZ, mZ)) : Mt l B D cA yX1_rankOf cX1_rankOf 9 (some .long) 4 93 0 0 [.ref (B + x0), .long x1] m (some (.long rZ)) mZ := by
  refine r_start (by decide) (Nat.le_of_ble_eq_true rfl) ?_
  intro p e s mt args below meth c ls H locs X hr hlocks hnm hR hl hS
  have hx := X.1
  have hb := X.2.1
  have hl : lv_has ls 9 [(0, .ref (B + x0)), (1, .long x1)] := hl
  unfold f_X1_rankOf at hf
  refine lv_lload_n hx hb dX1_rankOf_0 rfl (lv_at hl 1 rfl) ?_
  refine lv_iconst (v := 5) hx hb dX1_rankOf_1 (by decide) ?_
  refine lv_aload_n hx hb dX1_rankOf_2 rfl (lv_at hl 0 rfl) ?_
  obtain ⟨v1, g2, hf⟩ := ob hf
  refine gR_X1_40 X hR g2 dX1_rankOf_3 ?_
  obtain ⟨v3, g4, hf⟩ := ob hf
  refine gI_X1_44 X hR g4 dX1_rankOf_6 ?_
  refine lv_imul hx hb dX1_rankOf_9 ?_
  refine lv_lushr (v := (lushrJ x1 ((5 : Int32) * v3))) hx hb dX1_rankOf_10 rfl ?_
  refine lv_lconst (v := 0) hx hb dX1_rankOf_11 (by decide) ?_
  refine r_lc_eq (tgt := 20) X dX1_rankOf_12 dX1_rankOf_13 (by decide) (fun c5 => ?_) (fun c5 => ?_)
  · rw [if_pos c5] at hf
    refine lv_lconst (v := 0) hx hb dX1_rankOf_20 (by decide) ?_
    refine lv_lstore_n (lv' := [(3, .long (0 : Int64)), (0, .ref (B + x0)), (1, .long x1)]) hx hb dX1_rankOf_21 rfl hl (by decide) rfl (fun ls hl => ?_)
    refine lv_iconst (v := 0) hx hb dX1_rankOf_22 (by decide) ?_
    refine lv_istore (lv' := [(5, .int (0 : Int32)), (3, .long (0 : Int64)), (0, .ref (B + x0)), (1, .long x1)]) hx hb dX1_rankOf_23 hl (by decide) rfl (fun ls hl => ?_)
    obtain ⟨e7, hwe7, hf⟩ := ob hf
    refine whl_rule (P := (fun t6 => ∀ (H : Heap) (locs : List Loc) (ls : Array Slot), Rl B D cA t6.2.2 H → va_S (fun q => B ≤ q) s.heap H locs → lv_has ls 9 [(0, .ref (B + x0)), (1, .long x1), (3, .long t6.1), (5, .int t6.2.1)] → W p l e (rmm 4 0 0 93) s mt args below meth c H locs 0 0 (MQ below (mQ B D cA (some (.long rZ)) mZ) args s 0 0 (fun q => B ≤ q)) (F0 mt 25 ls []))) (Qx := (fun e7 => (match e7 with | .inl a0 => (∀ (H : Heap) (locs : List Loc) (ls : Array Slot), Rl B D cA a0.2 H → va_S (fun q => B ≤ q) s.heap H locs → lv_has ls 9 [(3, .long a0.1)] → W p l e (rmm 4 0 0 93) s mt args below meth c H locs 0 0 (MQ below (mQ B D cA (some (.long rZ)) mZ) args s 0 0 (fun q => B ≤ q)) (F0 mt 159 ls [])) | .inr b0 => ∀ (H : Heap) (locs : List Loc) (ls : Array Slot), Rl B D cA b0 H → va_S (fun q => B ≤ q) s.heap H locs → lv_has ls 9 [] → W p l e (rmm 4 0 0 93) s mt args below meth c H locs 0 0 (MQ below (mQ B D cA (some (.long rZ)) mZ) args s 0 0 (fun q => B ≤ q)) (F0 mt 110 ls [])))) ?_ FU _ e7 hwe7 ?_ H locs ls hR hS (lv_sub hl [2, 3, 1, 0] rfl)
    · clear hwe7 hf
      intro t6 q8 hf hxlq8 hxrq8 H locs ls hR hS hl
      obtain ⟨z9, z10, m11⟩ := t6
      have hf : f_X1_rankOf_L25 m11 x0 x1 z9 z10 = some q8 := hf
      have hR : Rl B D cA m11 H := hR
      have hl : lv_has ls 9 [(0, .ref (B + x0)), (1, .long x1), (3, .long z9), (5, .int z10)] := hl
      unfold f_X1_rankOf_L25 at hf
      refine lv_iload hx hb dX1_rankOf_25 (lv_at hl 3 rfl) ?_
      refine lv_aload_n hx hb dX1_rankOf_27 rfl (lv_at hl 0 rfl) ?_
      obtain ⟨v12, g13, hf⟩ := ob hf
      refine gR_X1_40 X hR g13 dX1_rankOf_28 ?_
      obtain ⟨v14, g15, hf⟩ := ob hf
      refine gI_X1_44 X hR g15 dX1_rankOf_31 ?_
      refine lv_icmp_ge (tgt := 159) hx hb dX1_rankOf_34 (by decide) (fun c16 => ?_) (fun c16 => ?_)
      · rw [if_pos c16] at hf
        obtain rfl := Option.some.inj hf
        exact hxrq8 _ rfl H locs ls hR hS (lv_sub hl [2] rfl)
      · rw [if_neg c16] at hf
        refine lv_iconst (v := 5) hx hb dX1_rankOf_37 (by decide) ?_
        refine lv_aload_n hx hb dX1_rankOf_38 rfl (lv_at hl 0 rfl) ?_
        obtain ⟨v17, g18, hf⟩ := ob hf
        refine gR_X1_40 X hR g18 dX1_rankOf_39 ?_
        obtain ⟨v19, g20, hf⟩ := ob hf
        refine gI_X1_44 X hR g20 dX1_rankOf_42 ?_
        refine lv_iconst (v := 1) hx hb dX1_rankOf_45 (by decide) ?_
        refine lv_isub hx hb dX1_rankOf_46 ?_
        refine lv_iload hx hb dX1_rankOf_47 (lv_at hl 3 rfl) ?_
        refine lv_isub hx hb dX1_rankOf_49 ?_
        refine lv_imul hx hb dX1_rankOf_50 ?_
        refine lv_istore (lv' := [(6, .int ((5 : Int32) * ((v19 - (1 : Int32)) - z10))), (0, .ref (B + x0)), (1, .long x1), (3, .long z9), (5, .int z10)]) hx hb dX1_rankOf_51 hl (by decide) rfl (fun ls hl => ?_)
        refine lv_lload_n hx hb dX1_rankOf_53 rfl (lv_at hl 2 rfl) ?_
        refine lv_iload hx hb dX1_rankOf_54 (lv_at hl 0 rfl) ?_
        refine lv_lushr (v := (lushrJ x1 ((5 : Int32) * ((v19 - (1 : Int32)) - z10)))) hx hb dX1_rankOf_56 rfl ?_
        refine lv_ldc2 (v := 31) hx hb X.2.2.2.1 (X.2.2.2.2.1 _ (tb3 46 rfl rfl)) dX1_rankOf_57 ?_
        refine lv_land hx hb dX1_rankOf_60 ?_
        refine lv_l2i (v := ((lushrJ x1 ((5 : Int32) * ((v19 - (1 : Int32)) - z10))) &&& (31 : Int64)).toInt32) hx hb dX1_rankOf_61 rfl ?_
        refine lv_istore (lv' := [(7, .int (((lushrJ x1 ((5 : Int32) * ((v19 - (1 : Int32)) - z10))) &&& (31 : Int64)).toInt32)), (6, .int ((5 : Int32) * ((v19 - (1 : Int32)) - z10))), (0, .ref (B + x0)), (1, .long x1), (3, .long z9), (5, .int z10)]) hx hb dX1_rankOf_62 hl (by decide) rfl (fun ls hl => ?_)
        refine lv_aload_n hx hb dX1_rankOf_64 rfl (lv_at hl 2 rfl) ?_
        refine lv_iload hx hb dX1_rankOf_65 (lv_at hl 5 rfl) ?_
        obtain ⟨o21, h22, hf⟩ := obO hf
        obtain ⟨v24, g23, hf⟩ := ob hf
        refine r_callV X kw_X1_120 (ci := 1) rfl (c_X1_least l B D cA m11 x0 z10 v24 g23) ⟨Nat.le_of_ble_eq_true rfl, Nat.le_of_ble_eq_true rfl⟩ h22 hR hS hl.1 rfl rfl (Nat.le_of_ble_eq_true rfl) ⟨Nat.le_of_ble_eq_true rfl, Nat.le_of_ble_eq_true rfl⟩ dX1_rankOf_67 (fun H locs hR hS => ?_)
        refine W.eq (g2 := F0 mt 70 ls [.int v24]) rfl ?_
        refine lv_istore (lv' := [(8, .int v24), (7, .int (((lushrJ x1 ((5 : Int32) * ((v19 - (1 : Int32)) - z10))) &&& (31 : Int64)).toInt32)), (6, .int ((5 : Int32) * ((v19 - (1 : Int32)) - z10))), (0, .ref (B + x0)), (1, .long x1), (3, .long z9), (5, .int z10)]) hx hb dX1_rankOf_70 hl (by decide) rfl (fun ls hl => ?_)
        refine lv_iload hx hb dX1_rankOf_72 (lv_at hl 1 rfl) ?_
        refine lv_iload hx hb dX1_rankOf_74 (lv_at hl 0 rfl) ?_
        refine lv_icmp_lt (tgt := 110) hx hb dX1_rankOf_76 (by decide) (fun c25 => ?_) (fun c25 => ?_)
        · rw [if_pos c25] at hf
          obtain rfl := Option.some.inj hf
          exact hxrq8 _ rfl H locs ls hR hS (lv_sub hl [] rfl)
        · rw [if_neg c25] at hf
          refine lv_iload hx hb dX1_rankOf_79 (lv_at hl 1 rfl) ?_
          refine lv_aload_n hx hb dX1_rankOf_81 rfl (lv_at hl 3 rfl) ?_
          obtain ⟨v26, g27, hf⟩ := ob hf
          refine gR_X1_36 X hR g27 dX1_rankOf_82 ?_
          refine lv_aload_n hx hb dX1_rankOf_85 rfl (lv_at hl 3 rfl) ?_
          refine lv_iload hx hb dX1_rankOf_86 (lv_at hl 6 rfl) ?_
          obtain ⟨o28, h29, hf⟩ := obO hf
          obtain ⟨v31, g30, hf⟩ := ob hf
          refine r_callV X kw_X1_113 (ci := 1) rfl (c_X1_elementAbove l B D cA m11 x0 z10 v31 g30) ⟨Nat.le_of_ble_eq_true rfl, Nat.le_of_ble_eq_true rfl⟩ h29 hR hS hl.1 rfl rfl (Nat.le_of_ble_eq_true rfl) ⟨Nat.le_of_ble_eq_true rfl, Nat.le_of_ble_eq_true rfl⟩ dX1_rankOf_88 (fun H locs hR hS => ?_)
          refine W.eq (g2 := F0 mt 91 ls [.int v31, .ref (B + v26), .int (((lushrJ x1 ((5 : Int32) * ((v19 - (1 : Int32)) - z10))) &&& (31 : Int64)).toInt32)]) rfl ?_
          obtain ⟨o32, h33, hf⟩ := obO hf
          obtain ⟨v35, g34, hf⟩ := ob hf
          refine r_callV X kw_X1_82 (ci := 4) rfl (c_X4_lastBelow l B D cA m11 v26 v31 v35 g34) ⟨Nat.le_of_ble_eq_true rfl, Nat.le_of_ble_eq_true rfl⟩ h33 hR hS hl.1 rfl rfl (Nat.le_of_ble_eq_true rfl) ⟨Nat.le_of_ble_eq_true rfl, Nat.le_of_ble_eq_true rfl⟩ dX1_rankOf_91 (fun H locs hR hS => ?_)
          refine W.eq (g2 := F0 mt 94 ls [.int v35, .int (((lushrJ x1 ((5 : Int32) * ((v19 - (1 : Int32)) - z10))) &&& (31 : Int64)).toInt32)]) rfl ?_
          refine lv_icmp_gt (tgt := 110) hx hb dX1_rankOf_94 (by decide) (fun c36 => ?_) (fun c36 => ?_)
          · rw [if_pos c36] at hf
            obtain rfl := Option.some.inj hf
            exact hxrq8 _ rfl H locs ls hR hS (lv_sub hl [] rfl)
          · rw [if_neg c36] at hf
            refine lv_aload_n hx hb dX1_rankOf_97 rfl (lv_at hl 3 rfl) ?_
            refine lv_iload hx hb dX1_rankOf_98 (lv_at hl 6 rfl) ?_
            refine lv_iload hx hb dX1_rankOf_100 (lv_at hl 1 rfl) ?_
            obtain ⟨o37, h38, hf⟩ := obO hf
            obtain ⟨v40, g39, hf⟩ := ob hf
            refine r_callV X kw_X1_123 (ci := 1) rfl (c_X1_waysAt l B D cA m11 x0 z10 (((lushrJ x1 ((5 : Int32) * ((v19 - (1 : Int32)) - z10))) &&& (31 : Int64)).toInt32) v40 g39) ⟨Nat.le_of_ble_eq_true rfl, Nat.le_of_ble_eq_true rfl⟩ h38 hR hS hl.1 rfl rfl (Nat.le_of_ble_eq_true rfl) ⟨Nat.le_of_ble_eq_true rfl, Nat.le_of_ble_eq_true rfl⟩ dX1_rankOf_102 (fun H locs hR hS => ?_)
            refine W.eq (g2 := F0 mt 105 ls [.long v40]) rfl ?_
            refine lv_lconst (v := 0) hx hb dX1_rankOf_105 (by decide) ?_
            refine r_lc_ne (tgt := 114) X dX1_rankOf_106 dX1_rankOf_107 (by decide) (fun c41 => ?_) (fun c41 => ?_)
            · rw [if_neg c41] at hf
              refine lv_lload_n hx hb dX1_rankOf_114 rfl (lv_at hl 5 rfl) ?_
              refine lv_aload_n hx hb dX1_rankOf_115 rfl (lv_at hl 3 rfl) ?_
              obtain ⟨v42, g43, hf⟩ := ob hf
              refine gR_X1_20 X hR g43 dX1_rankOf_116 ?_
              refine lv_iload hx hb dX1_rankOf_119 (lv_at hl 6 rfl) ?_
              obtain ⟨v44, g45, hf⟩ := ob hf
              refine r_lR (k := 4) (ty := .array .long) X hR rfl rfl g45 dX1_rankOf_121 ?_
              refine lv_iload hx hb dX1_rankOf_122 (lv_at hl 0 rfl) ?_
              obtain ⟨v46, g47, hf⟩ := ob hf
              refine r_lJ X hR g47 dX1_rankOf_124 ?_
              refine lv_aload_n hx hb dX1_rankOf_125 rfl (lv_at hl 3 rfl) ?_
              obtain ⟨v48, g49, hf⟩ := ob hf
              refine gR_X1_20 X hR g49 dX1_rankOf_126 ?_
              refine lv_iload hx hb dX1_rankOf_129 (lv_at hl 6 rfl) ?_
              obtain ⟨v50, g51, hf⟩ := ob hf
              refine r_lR (k := 4) (ty := .array .long) X hR rfl rfl g51 dX1_rankOf_131 ?_
              refine lv_iload hx hb dX1_rankOf_132 (lv_at hl 1 rfl) ?_
              obtain ⟨v52, g53, hf⟩ := ob hf
              refine r_lJ X hR g53 dX1_rankOf_134 ?_
              refine lv_lsub hx hb dX1_rankOf_135 ?_
              refine lv_aload_n hx hb dX1_rankOf_136 rfl (lv_at hl 3 rfl) ?_
              refine lv_iload hx hb dX1_rankOf_137 (lv_at hl 6 rfl) ?_
              obtain ⟨o54, h55, hf⟩ := obO hf
              obtain ⟨v57, g56, hf⟩ := ob hf
              refine r_callV X kw_X1_116 (ci := 1) rfl (c_X1_outerAbove l B D cA m11 x0 z10 v57 g56) ⟨Nat.le_of_ble_eq_true rfl, Nat.le_of_ble_eq_true rfl⟩ h55 hR hS hl.1 rfl rfl (Nat.le_of_ble_eq_true rfl) ⟨Nat.le_of_ble_eq_true rfl, Nat.le_of_ble_eq_true rfl⟩ dX1_rankOf_139 (fun H locs hR hS => ?_)
              refine W.eq (g2 := F0 mt 142 ls [.long v57, .long (v46 - v52), .long z9]) rfl ?_
              refine lv_lmul hx hb dX1_rankOf_142 ?_
              refine lv_ladd hx hb dX1_rankOf_143 ?_
              refine lv_lstore_n (lv' := [(3, .long (z9 + ((v46 - v52) * v57))), (8, .int v24), (7, .int (((lushrJ x1 ((5 : Int32) * ((v19 - (1 : Int32)) - z10))) &&& (31 : Int64)).toInt32)), (6, .int ((5 : Int32) * ((v19 - (1 : Int32)) - z10))), (0, .ref (B + x0)), (1, .long x1), (5, .int z10)]) hx hb dX1_rankOf_144 rfl hl (by decide) rfl (fun ls hl => ?_)
              refine lv_aload_n hx hb dX1_rankOf_145 rfl (lv_at hl 4 rfl) ?_
              refine lv_iload hx hb dX1_rankOf_146 (lv_at hl 6 rfl) ?_
              refine lv_iload hx hb dX1_rankOf_148 (lv_at hl 2 rfl) ?_
              obtain ⟨o58, h59, hf⟩ := obO hf
              obtain ⟨m61, g60, hf⟩ := ob hf
              refine r_callV X kw_X1_126 (ci := 1) rfl (c_X1_choose l B D cA m11 x0 z10 (((lushrJ x1 ((5 : Int32) * ((v19 - (1 : Int32)) - z10))) &&& (31 : Int64)).toInt32) m61 g60) ⟨Nat.le_of_ble_eq_true rfl, Nat.le_of_ble_eq_true rfl⟩ h59 hR hS hl.1 rfl rfl (Nat.le_of_ble_eq_true rfl) ⟨Nat.le_of_ble_eq_true rfl, Nat.le_of_ble_eq_true rfl⟩ dX1_rankOf_150 (fun H locs hR hS => ?_)
              refine W.eq (g2 := F0 mt 153 ls []) rfl ?_
              refine lv_iinc (v := (z10 + 1)) (lv' := [(5, .int (z10 + 1)), (3, .long (z9 + ((v46 - v52) * v57))), (8, .int v24), (7, .int (((lushrJ x1 ((5 : Int32) * ((v19 - (1 : Int32)) - z10))) &&& (31 : Int64)).toInt32)), (6, .int ((5 : Int32) * ((v19 - (1 : Int32)) - z10))), (0, .ref (B + x0)), (1, .long x1)]) hx hb dX1_rankOf_153 hl (k := 6) rfl (congrArg (fun z => z10 + z) (by decide)) (by decide) rfl (fun ls hl => ?_)
              refine lv_goto (tgt := 25) hx hb dX1_rankOf_156 (by decide) ?_
              obtain rfl := Option.some.inj hf
              exact hxlq8 _ rfl H locs ls hR hS (lv_sub hl [5, 6, 1, 0] rfl)
            · rw [if_pos c41] at hf
              obtain rfl := Option.some.inj hf
              exact hxrq8 _ rfl H locs ls hR hS (lv_sub hl [] rfl)
    · clear hwe7
      revert hf
      cases e7 with
      | inl a0e7 =>
        intro hf H locs ls hR hS hl
        refine lv_lload_n hx hb dX1_rankOf_159 rfl (lv_at hl 0 rfl) ?_
        obtain ⟨rfl, rfl⟩ := Prod.mk.inj (Option.some.inj hf)
        exact r_lret X hr hlocks hR hS dX1_rankOf_160
      | inr b0e7 =>
        intro hf H locs ls hR hS hl
        refine lv_ldc2 (v := -1) hx hb X.2.2.2.1 (X.2.2.2.2.1 _ (tb3 45 rfl rfl)) dX1_rankOf_110 ?_
        obtain ⟨rfl, rfl⟩ := Prod.mk.inj (Option.some.inj hf)
        exact r_lret X hr hlocks hR hS dX1_rankOf_113
  · rw [if_neg c5] at hf
    refine lv_ldc2 (v := -1) hx hb X.2.2.2.1 (X.2.2.2.2.1 _ (tb3 45 rfl rfl)) dX1_rankOf_16 ?_
    obtain ⟨rfl, rfl⟩ := Prod.mk.inj (Option.some.inj hf)
    exact r_lret X hr hlocks hR hS dX1_rankOf_19
/-! ===== TwigMatches$Matcher.fillHeadsBefore(II)V ===== -/
theorem dX1_fillHeadsBefore_0 : decode cX1_fillHeadsBefore 0 = .ok (.aload_n 0, 1) := by decide +kernel
theorem dX1_fillHeadsBefore_1 : decode cX1_fillHeadsBefore 1 = .ok (.getfield 40, 3) := by decide +kernel
theorem dX1_fillHeadsBefore_4 : decode cX1_fillHeadsBefore 4 = .ok (.getfield 79, 3) := by decide +kernel
theorem dX1_fillHeadsBefore_7 : decode cX1_fillHeadsBefore 7 = .ok (.iload_n 1, 1) := by decide +kernel
theorem dX1_fillHeadsBefore_8 : decode cX1_fillHeadsBefore 8 = .ok (.iaload, 1) := by decide +kernel
theorem dX1_fillHeadsBefore_9 : decode cX1_fillHeadsBefore 9 = .ok (.iconst 1, 1) := by decide +kernel
theorem dX1_fillHeadsBefore_10 : decode cX1_fillHeadsBefore 10 = .ok (.iadd, 1) := by decide +kernel
theorem dX1_fillHeadsBefore_11 : decode cX1_fillHeadsBefore 11 = .ok (.istore_n 3, 1) := by decide +kernel
theorem dX1_fillHeadsBefore_12 : decode cX1_fillHeadsBefore 12 = .ok (.iload_n 3, 1) := by decide +kernel
theorem dX1_fillHeadsBefore_13 : decode cX1_fillHeadsBefore 13 = .ok (.iload_n 1, 1) := by decide +kernel
theorem dX1_fillHeadsBefore_14 : decode cX1_fillHeadsBefore 14 = .ok (.if_icmp .ge 36, 3) := by decide +kernel
theorem dX1_fillHeadsBefore_17 : decode cX1_fillHeadsBefore 17 = .ok (.aload_n 0, 1) := by decide +kernel
theorem dX1_fillHeadsBefore_18 : decode cX1_fillHeadsBefore 18 = .ok (.getfield 40, 3) := by decide +kernel
theorem dX1_fillHeadsBefore_21 : decode cX1_fillHeadsBefore 21 = .ok (.getfield 79, 3) := by decide +kernel
theorem dX1_fillHeadsBefore_24 : decode cX1_fillHeadsBefore 24 = .ok (.iload_n 3, 1) := by decide +kernel
theorem dX1_fillHeadsBefore_25 : decode cX1_fillHeadsBefore 25 = .ok (.iaload, 1) := by decide +kernel
theorem dX1_fillHeadsBefore_26 : decode cX1_fillHeadsBefore 26 = .ok (.aload_n 0, 1) := by decide +kernel
theorem dX1_fillHeadsBefore_27 : decode cX1_fillHeadsBefore 27 = .ok (.getfield 40, 3) := by decide +kernel
theorem dX1_fillHeadsBefore_30 : decode cX1_fillHeadsBefore 30 = .ok (.getfield 79, 3) := by decide +kernel
theorem dX1_fillHeadsBefore_33 : decode cX1_fillHeadsBefore 33 = .ok (.iload_n 1, 1) := by decide +kernel
theorem dX1_fillHeadsBefore_34 : decode cX1_fillHeadsBefore 34 = .ok (.iaload, 1) := by decide +kernel
theorem dX1_fillHeadsBefore_35 : decode cX1_fillHeadsBefore 35 = .ok (.if_icmp .ne 9, 3) := by decide +kernel
theorem dX1_fillHeadsBefore_38 : decode cX1_fillHeadsBefore 38 = .ok (.aload_n 0, 1) := by decide +kernel
theorem dX1_fillHeadsBefore_39 : decode cX1_fillHeadsBefore 39 = .ok (.iload_n 3, 1) := by decide +kernel
theorem dX1_fillHeadsBefore_40 : decode cX1_fillHeadsBefore 40 = .ok (.iload_n 2, 1) := by decide +kernel
theorem dX1_fillHeadsBefore_41 : decode cX1_fillHeadsBefore 41 = .ok (.invokevirtual 144, 3) := by decide +kernel
theorem dX1_fillHeadsBefore_44 : decode cX1_fillHeadsBefore 44 = .ok (.iinc 3 1, 3) := by decide +kernel
theorem dX1_fillHeadsBefore_47 : decode cX1_fillHeadsBefore 47 = .ok (.goto (-35), 3) := by decide +kernel
theorem dX1_fillHeadsBefore_50 : decode cX1_fillHeadsBefore 50 = .ok (.return_, 1) := by decide +kernel
set_option maxHeartbeats 4000000 in
set_option maxRecDepth 100000 in
theorem c_X1_fillHeadsBefore (l : Launch) (B : Nat) (D : va_G) (cA : Nat → ClassId) (m : Mm) (x0 : Nat) (x1 : Int32) (x2 : Int32) (mZ : Mm) (hf : f_X1_fillHeadsBefore m x0 x1 x2 = some mZ) : Mt l B D cA yX1_fillHeadsBefore cX1_fillHeadsBefore 4 none 3 70 0 0 [.ref (B + x0), .int x1, .int x2] m none mZ := by
  refine r_start (by decide) (Nat.le_of_ble_eq_true rfl) ?_
  intro p e s mt args below meth c ls H locs X hr hlocks hnm hR hl hS
  have hx := X.1
  have hb := X.2.1
  have hl : lv_has ls 4 [(0, .ref (B + x0)), (1, .int x1), (2, .int x2)] := hl
  unfold f_X1_fillHeadsBefore at hf
  refine lv_aload_n hx hb dX1_fillHeadsBefore_0 rfl (lv_at hl 0 rfl) ?_
  obtain ⟨v1, g2, hf⟩ := ob hf
  refine gR_X1_40 X hR g2 dX1_fillHeadsBefore_1 ?_
  obtain ⟨v3, g4, hf⟩ := ob hf
  refine gR_X1_79 X hR g4 dX1_fillHeadsBefore_4 ?_
  refine lv_iload_n hx hb dX1_fillHeadsBefore_7 rfl (lv_at hl 1 rfl) ?_
  obtain ⟨v5, g6, hf⟩ := ob hf
  refine r_lI X hR g6 dX1_fillHeadsBefore_8 ?_
  refine lv_iconst (v := 1) hx hb dX1_fillHeadsBefore_9 (by decide) ?_
  refine lv_iadd hx hb dX1_fillHeadsBefore_10 ?_
  refine lv_istore_n (lv' := [(3, .int (v5 + (1 : Int32))), (0, .ref (B + x0)), (1, .int x1), (2, .int x2)]) hx hb dX1_fillHeadsBefore_11 rfl hl (by decide) rfl (fun ls hl => ?_)
  obtain ⟨e8, hwe8, hf⟩ := ob hf
  refine whl_rule (P := (fun t7 => ∀ (H : Heap) (locs : List Loc) (ls : Array Slot), Rl B D cA t7.2 H → va_S (fun q => B ≤ q) s.heap H locs → lv_has ls 4 [(0, .ref (B + x0)), (1, .int x1), (2, .int x2), (3, .int t7.1)] → W p l e (rmm 3 0 0 70) s mt args below meth c H locs 0 0 (MQ below (mQ B D cA none mZ) args s 0 0 (fun q => B ≤ q)) (F0 mt 12 ls []))) (Qx := (fun e8 => ∀ (H : Heap) (locs : List Loc) (ls : Array Slot), Rl B D cA e8 H → va_S (fun q => B ≤ q) s.heap H locs → lv_has ls 4 [] → W p l e (rmm 3 0 0 70) s mt args below meth c H locs 0 0 (MQ below (mQ B D cA none mZ) args s 0 0 (fun q => B ≤ q)) (F0 mt 50 ls []))) ?_ FU _ e8 hwe8 ?_ H locs ls hR hS (lv_sub hl [1, 2, 3, 0] rfl)
  · clear hwe8 hf
    intro t7 q9 hf hxlq9 hxrq9 H locs ls hR hS hl
    obtain ⟨z10, m11⟩ := t7
    have hf : f_X1_fillHeadsBefore_L12 m11 x0 x1 x2 z10 = some q9 := hf
    have hR : Rl B D cA m11 H := hR
    have hl : lv_has ls 4 [(0, .ref (B + x0)), (1, .int x1), (2, .int x2), (3, .int z10)] := hl
    unfold f_X1_fillHeadsBefore_L12 at hf
    refine lv_iload_n hx hb dX1_fillHeadsBefore_12 rfl (lv_at hl 3 rfl) ?_
    refine lv_iload_n hx hb dX1_fillHeadsBefore_13 rfl (lv_at hl 1 rfl) ?_
    refine lv_icmp_ge (tgt := 50) hx hb dX1_fillHeadsBefore_14 (by decide) (fun c12 => ?_) (fun c12 => ?_)
    · rw [if_pos c12] at hf
      obtain rfl := Option.some.inj hf
      exact hxrq9 _ rfl H locs ls hR hS (lv_sub hl [] rfl)
    · rw [if_neg c12] at hf
      refine lv_aload_n hx hb dX1_fillHeadsBefore_17 rfl (lv_at hl 0 rfl) ?_
      obtain ⟨v13, g14, hf⟩ := ob hf
      refine gR_X1_40 X hR g14 dX1_fillHeadsBefore_18 ?_
      obtain ⟨v15, g16, hf⟩ := ob hf
      refine gR_X1_79 X hR g16 dX1_fillHeadsBefore_21 ?_
      refine lv_iload_n hx hb dX1_fillHeadsBefore_24 rfl (lv_at hl 3 rfl) ?_
      obtain ⟨v17, g18, hf⟩ := ob hf
      refine r_lI X hR g18 dX1_fillHeadsBefore_25 ?_
      refine lv_aload_n hx hb dX1_fillHeadsBefore_26 rfl (lv_at hl 0 rfl) ?_
      obtain ⟨v19, g20, hf⟩ := ob hf
      refine gR_X1_40 X hR g20 dX1_fillHeadsBefore_27 ?_
      obtain ⟨v21, g22, hf⟩ := ob hf
      refine gR_X1_79 X hR g22 dX1_fillHeadsBefore_30 ?_
      refine lv_iload_n hx hb dX1_fillHeadsBefore_33 rfl (lv_at hl 1 rfl) ?_
      obtain ⟨v23, g24, hf⟩ := ob hf
      refine r_lI X hR g24 dX1_fillHeadsBefore_34 ?_
      refine lv_icmp_ne (tgt := 44) hx hb dX1_fillHeadsBefore_35 (by decide) (fun c25 => ?_) (fun c25 => ?_)
      · rw [if_neg c25] at hf
        refine lv_iinc (v := (z10 + 1)) (lv' := [(3, .int (z10 + 1)), (0, .ref (B + x0)), (1, .int x1), (2, .int x2)]) hx hb dX1_fillHeadsBefore_44 hl (k := 3) rfl (congrArg (fun z => z10 + z) (by decide)) (by decide) rfl (fun ls hl => ?_)
        refine lv_goto (tgt := 12) hx hb dX1_fillHeadsBefore_47 (by decide) ?_
        obtain rfl := Option.some.inj hf
        exact hxlq9 _ rfl H locs ls hR hS (lv_sub hl [1, 2, 3, 0] rfl)
      · rw [if_pos c25] at hf
        refine lv_aload_n hx hb dX1_fillHeadsBefore_38 rfl (lv_at hl 0 rfl) ?_
        refine lv_iload_n hx hb dX1_fillHeadsBefore_39 rfl (lv_at hl 3 rfl) ?_
        refine lv_iload_n hx hb dX1_fillHeadsBefore_40 rfl (lv_at hl 2 rfl) ?_
        obtain ⟨o26, h27, hf⟩ := obO hf
        obtain ⟨m29, g28, hf⟩ := ob hf
        refine r_callV X kw_X1_144 (ci := 1) rfl (c_X1_fillHead l B D cA m11 x0 z10 x2 m29 g28) ⟨Nat.le_of_ble_eq_true rfl, Nat.le_of_ble_eq_true rfl⟩ h27 hR hS hl.1 rfl rfl (Nat.le_of_ble_eq_true rfl) ⟨Nat.le_of_ble_eq_true rfl, Nat.le_of_ble_eq_true rfl⟩ dX1_fillHeadsBefore_41 (fun H locs hR hS => ?_)
        refine W.eq (g2 := F0 mt 44 ls []) rfl ?_
        refine lv_iinc (v := (z10 + 1)) (lv' := [(3, .int (z10 + 1)), (0, .ref (B + x0)), (1, .int x1), (2, .int x2)]) hx hb dX1_fillHeadsBefore_44 hl (k := 3) rfl (congrArg (fun z => z10 + z) (by decide)) (by decide) rfl (fun ls hl => ?_)
        refine lv_goto (tgt := 12) hx hb dX1_fillHeadsBefore_47 (by decide) ?_
        obtain rfl := Option.some.inj hf
        exact hxlq9 _ rfl H locs ls hR hS (lv_sub hl [1, 2, 3, 0] rfl)
  · intro H locs ls hR hS hl
    obtain rfl := Option.some.inj hf
    exact r_vret X hr hlocks hR hS dX1_fillHeadsBefore_50
