/-! ===== TwigMatches$Matcher.isUsed(III)Z ===== -/
theorem dX1_isUsed_0 : decode cX1_isUsed 0 = .ok (.aload_n 0, 1) := by decide +kernel
theorem dX1_isUsed_1 : decode cX1_isUsed 1 = .ok (.getfield 17, 3) := by decide +kernel
theorem dX1_isUsed_4 : decode cX1_isUsed 4 = .ok (.iload_n 1, 1) := by decide +kernel
theorem dX1_isUsed_5 : decode cX1_isUsed 5 = .ok (.aaload, 1) := by decide +kernel
theorem dX1_isUsed_6 : decode cX1_isUsed 6 = .ok (.iload_n 3, 1) := by decide +kernel
theorem dX1_isUsed_7 : decode cX1_isUsed 7 = .ok (.laload, 1) := by decide +kernel
theorem dX1_isUsed_8 : decode cX1_isUsed 8 = .ok (.lconst 0, 1) := by decide +kernel
theorem dX1_isUsed_9 : decode cX1_isUsed 9 = .ok (.lcmp, 1) := by decide +kernel
theorem dX1_isUsed_10 : decode cX1_isUsed 10 = .ok (.ifCond .eq 48, 3) := by decide +kernel
theorem dX1_isUsed_13 : decode cX1_isUsed 13 = .ok (.aload_n 0, 1) := by decide +kernel
theorem dX1_isUsed_14 : decode cX1_isUsed 14 = .ok (.iload_n 1, 1) := by decide +kernel
theorem dX1_isUsed_15 : decode cX1_isUsed 15 = .ok (.iload_n 2, 1) := by decide +kernel
theorem dX1_isUsed_16 : decode cX1_isUsed 16 = .ok (.iload_n 3, 1) := by decide +kernel
theorem dX1_isUsed_17 : decode cX1_isUsed 17 = .ok (.invokevirtual 88, 3) := by decide +kernel
theorem dX1_isUsed_20 : decode cX1_isUsed 20 = .ok (.ifCond .eq 38, 3) := by decide +kernel
theorem dX1_isUsed_23 : decode cX1_isUsed 23 = .ok (.aload_n 0, 1) := by decide +kernel
theorem dX1_isUsed_24 : decode cX1_isUsed 24 = .ok (.iload_n 1, 1) := by decide +kernel
theorem dX1_isUsed_25 : decode cX1_isUsed 25 = .ok (.iload_n 2, 1) := by decide +kernel
theorem dX1_isUsed_26 : decode cX1_isUsed 26 = .ok (.iload_n 3, 1) := by decide +kernel
theorem dX1_isUsed_27 : decode cX1_isUsed 27 = .ok (.invokevirtual 107, 3) := by decide +kernel
theorem dX1_isUsed_30 : decode cX1_isUsed 30 = .ok (.lconst 0, 1) := by decide +kernel
theorem dX1_isUsed_31 : decode cX1_isUsed 31 = .ok (.lcmp, 1) := by decide +kernel
theorem dX1_isUsed_32 : decode cX1_isUsed 32 = .ok (.ifCond .eq 26, 3) := by decide +kernel
theorem dX1_isUsed_35 : decode cX1_isUsed 35 = .ok (.aload_n 0, 1) := by decide +kernel
theorem dX1_isUsed_36 : decode cX1_isUsed 36 = .ok (.aload_n 0, 1) := by decide +kernel
theorem dX1_isUsed_37 : decode cX1_isUsed 37 = .ok (.getfield 40, 3) := by decide +kernel
theorem dX1_isUsed_40 : decode cX1_isUsed 40 = .ok (.iload_n 1, 1) := by decide +kernel
theorem dX1_isUsed_41 : decode cX1_isUsed 41 = .ok (.invokevirtual 85, 3) := by decide +kernel
theorem dX1_isUsed_44 : decode cX1_isUsed 44 = .ok (.iload_n 2, 1) := by decide +kernel
theorem dX1_isUsed_45 : decode cX1_isUsed 45 = .ok (.iload_n 3, 1) := by decide +kernel
theorem dX1_isUsed_46 : decode cX1_isUsed 46 = .ok (.invokevirtual 92, 3) := by decide +kernel
theorem dX1_isUsed_49 : decode cX1_isUsed 49 = .ok (.lconst 0, 1) := by decide +kernel
theorem dX1_isUsed_50 : decode cX1_isUsed 50 = .ok (.lcmp, 1) := by decide +kernel
theorem dX1_isUsed_51 : decode cX1_isUsed 51 = .ok (.ifCond .eq 7, 3) := by decide +kernel
theorem dX1_isUsed_54 : decode cX1_isUsed 54 = .ok (.iconst 1, 1) := by decide +kernel
theorem dX1_isUsed_55 : decode cX1_isUsed 55 = .ok (.goto 4, 3) := by decide +kernel
theorem dX1_isUsed_58 : decode cX1_isUsed 58 = .ok (.iconst 0, 1) := by decide +kernel
theorem dX1_isUsed_59 : decode cX1_isUsed 59 = .ok (.ireturn, 1) := by decide +kernel
set_option maxHeartbeats 4000000 in
set_option maxRecDepth 100000 in
theorem c_X1_isUsed (l : Launch) (B : Nat) (D : va_G) (cA : Nat → ClassId) (m : Mm) (x0 : Nat) (x1 : Int32) (x2 : Int32) (x3 : Int32) (rZ : Int32) (hf : f_X1_isUsed m x0 x1 x2 x3 = some rZ) : Mt l B D cA yX1_isUsed cX1_isUsed 4 (some .boolean) 2 46 0 0 [.ref (B + x0), .int x1, .int x2, .int x3] m (some (.int rZ)) m := by
  refine r_start (by decide) (Nat.le_of_ble_eq_true rfl) ?_
  intro p e s mt args below meth c ls H locs X hr hlocks hnm hR hl hS
  have hx := X.1
  have hb := X.2.1
  have hl : lv_has ls 4 [(0, .ref (B + x0)), (1, .int x1), (2, .int x2), (3, .int x3)] := hl
  unfold f_X1_isUsed at hf
  refine lv_aload_n hx hb dX1_isUsed_0 rfl (lv_at hl 0 rfl) ?_
  obtain ⟨v1, g2, hf⟩ := ob hf
  refine gR_X1_17 X hR g2 dX1_isUsed_1 ?_
  refine lv_iload_n hx hb dX1_isUsed_4 rfl (lv_at hl 1 rfl) ?_
  obtain ⟨v3, g4, hf⟩ := ob hf
  refine r_lR (k := 4) (ty := .array .long) X hR rfl rfl g4 dX1_isUsed_5 ?_
  refine lv_iload_n hx hb dX1_isUsed_6 rfl (lv_at hl 3 rfl) ?_
  obtain ⟨v5, g6, hf⟩ := ob hf
  refine r_lJ X hR g6 dX1_isUsed_7 ?_
  refine lv_lconst (v := 0) hx hb dX1_isUsed_8 (by decide) ?_
  refine r_lc_eq (tgt := 58) X dX1_isUsed_9 dX1_isUsed_10 (by decide) (fun c7 => ?_) (fun c7 => ?_)
  · rw [if_pos c7] at hf
    refine lv_iconst (v := 0) hx hb dX1_isUsed_58 (by decide) ?_
    obtain rfl := Option.some.inj hf
    exact r_iret X hr hlocks hR hS rfl dX1_isUsed_59
  · rw [if_neg c7] at hf
    refine lv_aload_n hx hb dX1_isUsed_13 rfl (lv_at hl 0 rfl) ?_
    refine lv_iload_n hx hb dX1_isUsed_14 rfl (lv_at hl 1 rfl) ?_
    refine lv_iload_n hx hb dX1_isUsed_15 rfl (lv_at hl 2 rfl) ?_
    refine lv_iload_n hx hb dX1_isUsed_16 rfl (lv_at hl 3 rfl) ?_
    obtain ⟨o8, h9, hf⟩ := obO hf
    obtain ⟨v11, g10, hf⟩ := ob hf
    refine r_callV X kw_X1_88 (ci := 1) rfl (c_X1_edgeHolds l B D cA m x0 x1 x2 x3 v11 g10) ⟨Nat.le_of_ble_eq_true rfl, Nat.le_of_ble_eq_true rfl⟩ h9 hR hS hl.1 rfl rfl (Nat.le_of_ble_eq_true rfl) ⟨Nat.le_of_ble_eq_true rfl, Nat.le_of_ble_eq_true rfl⟩ dX1_isUsed_17 (fun H locs hR hS => ?_)
    refine W.eq (g2 := F0 mt 20 ls [.int v11]) rfl ?_
    refine lv_if_eq (tgt := 58) hx hb dX1_isUsed_20 (by decide) (fun c12 => ?_) (fun c12 => ?_)
    · rw [if_pos c12] at hf
      refine lv_iconst (v := 0) hx hb dX1_isUsed_58 (by decide) ?_
      obtain rfl := Option.some.inj hf
      exact r_iret X hr hlocks hR hS rfl dX1_isUsed_59
    · rw [if_neg c12] at hf
      refine lv_aload_n hx hb dX1_isUsed_23 rfl (lv_at hl 0 rfl) ?_
      refine lv_iload_n hx hb dX1_isUsed_24 rfl (lv_at hl 1 rfl) ?_
      refine lv_iload_n hx hb dX1_isUsed_25 rfl (lv_at hl 2 rfl) ?_
      refine lv_iload_n hx hb dX1_isUsed_26 rfl (lv_at hl 3 rfl) ?_
      obtain ⟨o13, h14, hf⟩ := obO hf
      obtain ⟨v16, g15, hf⟩ := ob hf
      refine r_callV X kw_X1_107 (ci := 1) rfl (c_X1_waysBefore l B D cA m x0 x1 x2 x3 v16 g15) ⟨Nat.le_of_ble_eq_true rfl, Nat.le_of_ble_eq_true rfl⟩ h14 hR hS hl.1 rfl rfl (Nat.le_of_ble_eq_true rfl) ⟨Nat.le_of_ble_eq_true rfl, Nat.le_of_ble_eq_true rfl⟩ dX1_isUsed_27 (fun H locs hR hS => ?_)
      refine W.eq (g2 := F0 mt 30 ls [.long v16]) rfl ?_
      refine lv_lconst (v := 0) hx hb dX1_isUsed_30 (by decide) ?_
      refine r_lc_eq (tgt := 58) X dX1_isUsed_31 dX1_isUsed_32 (by decide) (fun c17 => ?_) (fun c17 => ?_)
      · rw [if_pos c17] at hf
        refine lv_iconst (v := 0) hx hb dX1_isUsed_58 (by decide) ?_
        obtain rfl := Option.some.inj hf
        exact r_iret X hr hlocks hR hS rfl dX1_isUsed_59
      · rw [if_neg c17] at hf
        refine lv_aload_n hx hb dX1_isUsed_35 rfl (lv_at hl 0 rfl) ?_
        refine lv_aload_n hx hb dX1_isUsed_36 rfl (lv_at hl 0 rfl) ?_
        obtain ⟨v18, g19, hf⟩ := ob hf
        refine gR_X1_40 X hR g19 dX1_isUsed_37 ?_
        refine lv_iload_n hx hb dX1_isUsed_40 rfl (lv_at hl 1 rfl) ?_
        obtain ⟨o20, h21, hf⟩ := obO hf
        obtain ⟨v23, g22, hf⟩ := ob hf
        refine r_callV X kw_X1_85 (ci := 5) rfl (c_X5_nextBranch l B D cA m v18 x1 v23 g22) ⟨Nat.le_of_ble_eq_true rfl, Nat.le_of_ble_eq_true rfl⟩ h21 hR hS hl.1 rfl rfl (Nat.le_of_ble_eq_true rfl) ⟨Nat.le_of_ble_eq_true rfl, Nat.le_of_ble_eq_true rfl⟩ dX1_isUsed_41 (fun H locs hR hS => ?_)
        refine W.eq (g2 := F0 mt 44 ls [.int v23, .ref (B + x0)]) rfl ?_
        refine lv_iload_n hx hb dX1_isUsed_44 rfl (lv_at hl 2 rfl) ?_
        refine lv_iload_n hx hb dX1_isUsed_45 rfl (lv_at hl 3 rfl) ?_
        obtain ⟨o24, h25, hf⟩ := obO hf
        obtain ⟨v27, g26, hf⟩ := ob hf
        refine r_callV X kw_X1_92 (ci := 1) rfl (c_X1_waysAfter l B D cA m x0 v23 x2 x3 v27 g26) ⟨Nat.le_of_ble_eq_true rfl, Nat.le_of_ble_eq_true rfl⟩ h25 hR hS hl.1 rfl rfl (Nat.le_of_ble_eq_true rfl) ⟨Nat.le_of_ble_eq_true rfl, Nat.le_of_ble_eq_true rfl⟩ dX1_isUsed_46 (fun H locs hR hS => ?_)
        refine W.eq (g2 := F0 mt 49 ls [.long v27]) rfl ?_
        refine lv_lconst (v := 0) hx hb dX1_isUsed_49 (by decide) ?_
        refine r_lc_eq (tgt := 58) X dX1_isUsed_50 dX1_isUsed_51 (by decide) (fun c28 => ?_) (fun c28 => ?_)
        · rw [if_pos c28] at hf
          refine lv_iconst (v := 0) hx hb dX1_isUsed_58 (by decide) ?_
          obtain rfl := Option.some.inj hf
          exact r_iret X hr hlocks hR hS rfl dX1_isUsed_59
        · rw [if_neg c28] at hf
          refine lv_iconst (v := 1) hx hb dX1_isUsed_54 (by decide) ?_
          refine lv_goto (tgt := 59) hx hb dX1_isUsed_55 (by decide) ?_
          obtain rfl := Option.some.inj hf
          exact r_iret X hr hlocks hR hS rfl dX1_isUsed_59
/-! ===== TwigMatches$Matcher.lengthenPaths(IIZ)V ===== -/
theorem dX1_lengthenPaths_0 : decode cX1_lengthenPaths 0 = .ok (.aload_n 0, 1) := by decide +kernel
theorem dX1_lengthenPaths_1 : decode cX1_lengthenPaths 1 = .ok (.getfield 26, 3) := by decide +kernel
theorem dX1_lengthenPaths_4 : decode cX1_lengthenPaths 4 = .ok (.aload_n 0, 1) := by decide +kernel
theorem dX1_lengthenPaths_5 : decode cX1_lengthenPaths 5 = .ok (.getfield 40, 3) := by decide +kernel
theorem dX1_lengthenPaths_8 : decode cX1_lengthenPaths 8 = .ok (.getfield 79, 3) := by decide +kernel
theorem dX1_lengthenPaths_11 : decode cX1_lengthenPaths 11 = .ok (.iload_n 1, 1) := by decide +kernel
theorem dX1_lengthenPaths_12 : decode cX1_lengthenPaths 12 = .ok (.iaload, 1) := by decide +kernel
theorem dX1_lengthenPaths_13 : decode cX1_lengthenPaths 13 = .ok (.aaload, 1) := by decide +kernel
theorem dX1_lengthenPaths_14 : decode cX1_lengthenPaths 14 = .ok (.iload_n 2, 1) := by decide +kernel
theorem dX1_lengthenPaths_15 : decode cX1_lengthenPaths 15 = .ok (.laload, 1) := by decide +kernel
theorem dX1_lengthenPaths_16 : decode cX1_lengthenPaths 16 = .ok (.lstore 4, 2) := by decide +kernel
theorem dX1_lengthenPaths_18 : decode cX1_lengthenPaths 18 = .ok (.iload_n 2, 1) := by decide +kernel
theorem dX1_lengthenPaths_19 : decode cX1_lengthenPaths 19 = .ok (.iconst 1, 1) := by decide +kernel
theorem dX1_lengthenPaths_20 : decode cX1_lengthenPaths 20 = .ok (.iadd, 1) := by decide +kernel
theorem dX1_lengthenPaths_21 : decode cX1_lengthenPaths 21 = .ok (.istore 6, 2) := by decide +kernel
theorem dX1_lengthenPaths_23 : decode cX1_lengthenPaths 23 = .ok (.iload 6, 2) := by decide +kernel
theorem dX1_lengthenPaths_25 : decode cX1_lengthenPaths 25 = .ok (.aload_n 0, 1) := by decide +kernel
theorem dX1_lengthenPaths_26 : decode cX1_lengthenPaths 26 = .ok (.getfield 36, 3) := by decide +kernel
theorem dX1_lengthenPaths_29 : decode cX1_lengthenPaths 29 = .ok (.getfield 105, 3) := by decide +kernel
theorem dX1_lengthenPaths_32 : decode cX1_lengthenPaths 32 = .ok (.iload_n 2, 1) := by decide +kernel
theorem dX1_lengthenPaths_33 : decode cX1_lengthenPaths 33 = .ok (.iaload, 1) := by decide +kernel
theorem dX1_lengthenPaths_34 : decode cX1_lengthenPaths 34 = .ok (.if_icmp .gt 66, 3) := by decide +kernel
theorem dX1_lengthenPaths_37 : decode cX1_lengthenPaths 37 = .ok (.iload_n 3, 1) := by decide +kernel
theorem dX1_lengthenPaths_38 : decode cX1_lengthenPaths 38 = .ok (.ifCond .eq 17, 3) := by decide +kernel
theorem dX1_lengthenPaths_41 : decode cX1_lengthenPaths 41 = .ok (.aload_n 0, 1) := by decide +kernel
theorem dX1_lengthenPaths_42 : decode cX1_lengthenPaths 42 = .ok (.iload_n 1, 1) := by decide +kernel
theorem dX1_lengthenPaths_43 : decode cX1_lengthenPaths 43 = .ok (.iload_n 2, 1) := by decide +kernel
theorem dX1_lengthenPaths_44 : decode cX1_lengthenPaths 44 = .ok (.iload 6, 2) := by decide +kernel
theorem dX1_lengthenPaths_46 : decode cX1_lengthenPaths 46 = .ok (.invokevirtual 147, 3) := by decide +kernel
theorem dX1_lengthenPaths_49 : decode cX1_lengthenPaths 49 = .ok (.ifCond .eq 45, 3) := by decide +kernel
theorem dX1_lengthenPaths_52 : decode cX1_lengthenPaths 52 = .ok (.goto 28, 3) := by decide +kernel
theorem dX1_lengthenPaths_55 : decode cX1_lengthenPaths 55 = .ok (.aload_n 0, 1) := by decide +kernel
theorem dX1_lengthenPaths_56 : decode cX1_lengthenPaths 56 = .ok (.getfield 9, 3) := by decide +kernel
theorem dX1_lengthenPaths_59 : decode cX1_lengthenPaths 59 = .ok (.iload_n 1, 1) := by decide +kernel
theorem dX1_lengthenPaths_60 : decode cX1_lengthenPaths 60 = .ok (.iaload, 1) := by decide +kernel
theorem dX1_lengthenPaths_61 : decode cX1_lengthenPaths 61 = .ok (.iload 6, 2) := by decide +kernel
theorem dX1_lengthenPaths_63 : decode cX1_lengthenPaths 63 = .ok (.invokestatic 57, 3) := by decide +kernel
theorem dX1_lengthenPaths_66 : decode cX1_lengthenPaths 66 = .ok (.ifCond .eq 28, 3) := by decide +kernel
theorem dX1_lengthenPaths_69 : decode cX1_lengthenPaths 69 = .ok (.aload_n 0, 1) := by decide +kernel
theorem dX1_lengthenPaths_70 : decode cX1_lengthenPaths 70 = .ok (.iload_n 1, 1) := by decide +kernel
theorem dX1_lengthenPaths_71 : decode cX1_lengthenPaths 71 = .ok (.iload_n 2, 1) := by decide +kernel
theorem dX1_lengthenPaths_72 : decode cX1_lengthenPaths 72 = .ok (.iload 6, 2) := by decide +kernel
theorem dX1_lengthenPaths_74 : decode cX1_lengthenPaths 74 = .ok (.invokevirtual 88, 3) := by decide +kernel
theorem dX1_lengthenPaths_77 : decode cX1_lengthenPaths 77 = .ok (.ifCond .eq 17, 3) := by decide +kernel
theorem dX1_lengthenPaths_80 : decode cX1_lengthenPaths 80 = .ok (.aload_n 0, 1) := by decide +kernel
theorem dX1_lengthenPaths_81 : decode cX1_lengthenPaths 81 = .ok (.getfield 26, 3) := by decide +kernel
theorem dX1_lengthenPaths_84 : decode cX1_lengthenPaths 84 = .ok (.iload_n 1, 1) := by decide +kernel
theorem dX1_lengthenPaths_85 : decode cX1_lengthenPaths 85 = .ok (.aaload, 1) := by decide +kernel
theorem dX1_lengthenPaths_86 : decode cX1_lengthenPaths 86 = .ok (.iload 6, 2) := by decide +kernel
theorem dX1_lengthenPaths_88 : decode cX1_lengthenPaths 88 = .ok (.dup2, 1) := by decide +kernel
theorem dX1_lengthenPaths_89 : decode cX1_lengthenPaths 89 = .ok (.laload, 1) := by decide +kernel
theorem dX1_lengthenPaths_90 : decode cX1_lengthenPaths 90 = .ok (.lload 4, 2) := by decide +kernel
theorem dX1_lengthenPaths_92 : decode cX1_lengthenPaths 92 = .ok (.ladd, 1) := by decide +kernel
theorem dX1_lengthenPaths_93 : decode cX1_lengthenPaths 93 = .ok (.lastore, 1) := by decide +kernel
theorem dX1_lengthenPaths_94 : decode cX1_lengthenPaths 94 = .ok (.iinc 6 1, 3) := by decide +kernel
theorem dX1_lengthenPaths_97 : decode cX1_lengthenPaths 97 = .ok (.goto (-74), 3) := by decide +kernel
theorem dX1_lengthenPaths_100 : decode cX1_lengthenPaths 100 = .ok (.return_, 1) := by decide +kernel
set_option maxHeartbeats 4000000 in
set_option maxRecDepth 100000 in
theorem c_X1_lengthenPaths (l : Launch) (B : Nat) (D : va_G) (cA : Nat → ClassId) (m : Mm) (x0 : Nat) (x1 : Int32) (x2 : Int32) (x3 : Int32) (mZ : Mm) (hf : f_X1_lengthenPaths m x0 x1 x2 x3 = some mZ) : Mt l B D cA yX1_lengthenPaths cX1_lengthenPaths 7 none 3 69 0 0 [.ref (B + x0), .int x1, .int x2, .int x3] m none mZ := by
  refine r_start (by decide) (Nat.le_of_ble_eq_true rfl) ?_
  intro p e s mt args below meth c ls H locs X hr hlocks hnm hR hl hS
  have hx := X.1
  have hb := X.2.1
  have hl : lv_has ls 7 [(0, .ref (B + x0)), (1, .int x1), (2, .int x2), (3, .int x3)] := hl
  unfold f_X1_lengthenPaths at hf
  refine lv_aload_n hx hb dX1_lengthenPaths_0 rfl (lv_at hl 0 rfl) ?_
  obtain ⟨v1, g2, hf⟩ := ob hf
  refine gR_X1_26 X hR g2 dX1_lengthenPaths_1 ?_
  refine lv_aload_n hx hb dX1_lengthenPaths_4 rfl (lv_at hl 0 rfl) ?_
  obtain ⟨v3, g4, hf⟩ := ob hf
  refine gR_X1_40 X hR g4 dX1_lengthenPaths_5 ?_
  obtain ⟨v5, g6, hf⟩ := ob hf
  refine gR_X1_79 X hR g6 dX1_lengthenPaths_8 ?_
  refine lv_iload_n hx hb dX1_lengthenPaths_11 rfl (lv_at hl 1 rfl) ?_
  obtain ⟨v7, g8, hf⟩ := ob hf
  refine r_lI X hR g8 dX1_lengthenPaths_12 ?_
  obtain ⟨v9, g10, hf⟩ := ob hf
  refine r_lR (k := 4) (ty := .array .long) X hR rfl rfl g10 dX1_lengthenPaths_13 ?_
  refine lv_iload_n hx hb dX1_lengthenPaths_14 rfl (lv_at hl 2 rfl) ?_
  obtain ⟨v11, g12, hf⟩ := ob hf
  refine r_lJ X hR g12 dX1_lengthenPaths_15 ?_
  refine lv_lstore (lv' := [(4, .long v11), (0, .ref (B + x0)), (1, .int x1), (2, .int x2), (3, .int x3)]) hx hb dX1_lengthenPaths_16 hl (by decide) rfl (fun ls hl => ?_)
  refine lv_iload_n hx hb dX1_lengthenPaths_18 rfl (lv_at hl 3 rfl) ?_
  refine lv_iconst (v := 1) hx hb dX1_lengthenPaths_19 (by decide) ?_
  refine lv_iadd hx hb dX1_lengthenPaths_20 ?_
  refine lv_istore (lv' := [(6, .int (x2 + (1 : Int32))), (4, .long v11), (0, .ref (B + x0)), (1, .int x1), (2, .int x2), (3, .int x3)]) hx hb dX1_lengthenPaths_21 hl (by decide) rfl (fun ls hl => ?_)
  obtain ⟨e14, hwe14, hf⟩ := ob hf
  refine whl_rule (P := (fun t13 => ∀ (H : Heap) (locs : List Loc) (ls : Array Slot), Rl B D cA t13.2 H → va_S (fun q => B ≤ q) s.heap H locs → lv_has ls 7 [(0, .ref (B + x0)), (1, .int x1), (2, .int x2), (3, .int x3), (4, .long v11), (6, .int t13.1)] → W p l e (rmm 3 0 0 69) s mt args below meth c H locs 0 0 (MQ below (mQ B D cA none mZ) args s 0 0 (fun q => B ≤ q)) (F0 mt 23 ls []))) (Qx := (fun e14 => ∀ (H : Heap) (locs : List Loc) (ls : Array Slot), Rl B D cA e14 H → va_S (fun q => B ≤ q) s.heap H locs → lv_has ls 7 [] → W p l e (rmm 3 0 0 69) s mt args below meth c H locs 0 0 (MQ below (mQ B D cA none mZ) args s 0 0 (fun q => B ≤ q)) (F0 mt 100 ls []))) ?_ FU _ e14 hwe14 ?_ H locs ls hR hS (lv_sub hl [2, 3, 4, 5, 1, 0] rfl)
  · clear hwe14 hf
    intro t13 q15 hf hxlq15 hxrq15 H locs ls hR hS hl
    obtain ⟨z16, m17⟩ := t13
    have hf : f_X1_lengthenPaths_L23 m17 x0 x1 x2 x3 v11 z16 = some q15 := hf
    have hR : Rl B D cA m17 H := hR
    have hl : lv_has ls 7 [(0, .ref (B + x0)), (1, .int x1), (2, .int x2), (3, .int x3), (4, .long v11), (6, .int z16)] := hl
    unfold f_X1_lengthenPaths_L23 at hf
    refine lv_iload hx hb dX1_lengthenPaths_23 (lv_at hl 5 rfl) ?_
    refine lv_aload_n hx hb dX1_lengthenPaths_25 rfl (lv_at hl 0 rfl) ?_
    obtain ⟨v18, g19, hf⟩ := ob hf
    refine gR_X1_36 X hR g19 dX1_lengthenPaths_26 ?_
    obtain ⟨v20, g21, hf⟩ := ob hf
    refine gR_X1_105 X hR g21 dX1_lengthenPaths_29 ?_
    refine lv_iload_n hx hb dX1_lengthenPaths_32 rfl (lv_at hl 2 rfl) ?_
    obtain ⟨v22, g23, hf⟩ := ob hf
    refine r_lI X hR g23 dX1_lengthenPaths_33 ?_
    refine lv_icmp_gt (tgt := 100) hx hb dX1_lengthenPaths_34 (by decide) (fun c24 => ?_) (fun c24 => ?_)
    · rw [if_pos c24] at hf
      obtain rfl := Option.some.inj hf
      exact hxrq15 _ rfl H locs ls hR hS (lv_sub hl [] rfl)
    · rw [if_neg c24] at hf
      refine lv_iload_n hx hb dX1_lengthenPaths_37 rfl (lv_at hl 3 rfl) ?_
      have hJ80 : ∀  (H : Heap) (locs : List Loc) (ls : Array Slot), f_X1_lengthenPaths_J80 m17 x0 x1 x2 x3 v11 z16 = some q15 → Rl B D cA m17 H → va_S (fun q => B ≤ q) s.heap H locs → lv_has ls 7 [(0, .ref (B + x0)), (1, .int x1), (2, .int x2), (3, .int x3), (4, .long v11), (6, .int z16)] → W p l e (rmm 3 0 0 69) s mt args below meth c H locs 0 0 (MQ below (mQ B D cA none mZ) args s 0 0 (fun q => B ≤ q)) (F0 mt 80 ls []) := by
        intro  H locs ls hf hR hS hl
        unfold f_X1_lengthenPaths_J80 at hf
        refine lv_aload_n hx hb dX1_lengthenPaths_80 rfl (lv_at hl 0 rfl) ?_
        obtain ⟨v25, g26, hf⟩ := ob hf
        refine gR_X1_26 X hR g26 dX1_lengthenPaths_81 ?_
        refine lv_iload_n hx hb dX1_lengthenPaths_84 rfl (lv_at hl 1 rfl) ?_
        obtain ⟨v27, g28, hf⟩ := ob hf
        refine r_lR (k := 4) (ty := .array .long) X hR rfl rfl g28 dX1_lengthenPaths_85 ?_
        refine lv_iload hx hb dX1_lengthenPaths_86 (lv_at hl 5 rfl) ?_
        refine lv_dup2_11 hx hb dX1_lengthenPaths_88 rfl rfl ?_
        obtain ⟨v29, g30, hf⟩ := ob hf
        refine r_lJ X hR g30 dX1_lengthenPaths_89 ?_
        refine lv_lload hx hb dX1_lengthenPaths_90 (lv_at hl 4 rfl) ?_
        refine lv_ladd hx hb dX1_lengthenPaths_92 ?_
        obtain ⟨m31, g32, hf⟩ := ob hf
        refine r_sJ X hR hS g32 dX1_lengthenPaths_93 (fun H locs hR hS => ?_)
        refine lv_iinc (v := (z16 + 1)) (lv' := [(6, .int (z16 + 1)), (0, .ref (B + x0)), (1, .int x1), (2, .int x2), (3, .int x3), (4, .long v11)]) hx hb dX1_lengthenPaths_94 hl (k := 5) rfl (congrArg (fun z => z16 + z) (by decide)) (by decide) rfl (fun ls hl => ?_)
        refine lv_goto (tgt := 23) hx hb dX1_lengthenPaths_97 (by decide) ?_
        obtain rfl := Option.some.inj hf
        exact hxlq15 _ rfl H locs ls hR hS (lv_sub hl [1, 2, 3, 4, 5, 0] rfl)
      refine lv_if_eq (tgt := 55) hx hb dX1_lengthenPaths_38 (by decide) (fun c33 => ?_) (fun c33 => ?_)
      · rw [if_pos c33] at hf
        refine lv_aload_n hx hb dX1_lengthenPaths_55 rfl (lv_at hl 0 rfl) ?_
        obtain ⟨v34, g35, hf⟩ := ob hf
        refine gR_X1_9 X hR g35 dX1_lengthenPaths_56 ?_
        refine lv_iload_n hx hb dX1_lengthenPaths_59 rfl (lv_at hl 1 rfl) ?_
        obtain ⟨v36, g37, hf⟩ := ob hf
        refine r_lI X hR g37 dX1_lengthenPaths_60 ?_
        refine lv_iload hx hb dX1_lengthenPaths_61 (lv_at hl 5 rfl) ?_
        obtain ⟨v39, g38, hf⟩ := ob hf
        refine r_callSN X kw_X1_57 (c_X7_holds l B D cA m17 v36 z16 v39 g38) ⟨Nat.le_of_ble_eq_true rfl, Nat.le_of_ble_eq_true rfl⟩ hR hS hl.1 rfl rfl (Nat.le_of_ble_eq_true rfl) ⟨Nat.le_of_ble_eq_true rfl, Nat.le_of_ble_eq_true rfl⟩ dX1_lengthenPaths_63 (fun H locs hR hS => ?_)
        refine W.eq (g2 := F0 mt 66 ls [.int v39]) rfl ?_
        refine lv_if_eq (tgt := 94) hx hb dX1_lengthenPaths_66 (by decide) (fun c40 => ?_) (fun c40 => ?_)
        · rw [if_pos c40] at hf
          refine lv_iinc (v := (z16 + 1)) (lv' := [(6, .int (z16 + 1)), (0, .ref (B + x0)), (1, .int x1), (2, .int x2), (3, .int x3), (4, .long v11)]) hx hb dX1_lengthenPaths_94 hl (k := 5) rfl (congrArg (fun z => z16 + z) (by decide)) (by decide) rfl (fun ls hl => ?_)
          refine lv_goto (tgt := 23) hx hb dX1_lengthenPaths_97 (by decide) ?_
          obtain rfl := Option.some.inj hf
          exact hxlq15 _ rfl H locs ls hR hS (lv_sub hl [1, 2, 3, 4, 5, 0] rfl)
        · rw [if_neg c40] at hf
          refine lv_aload_n hx hb dX1_lengthenPaths_69 rfl (lv_at hl 0 rfl) ?_
          refine lv_iload_n hx hb dX1_lengthenPaths_70 rfl (lv_at hl 1 rfl) ?_
          refine lv_iload_n hx hb dX1_lengthenPaths_71 rfl (lv_at hl 2 rfl) ?_
          refine lv_iload hx hb dX1_lengthenPaths_72 (lv_at hl 5 rfl) ?_
          obtain ⟨o41, h42, hf⟩ := obO hf
          obtain ⟨v44, g43, hf⟩ := ob hf
          refine r_callV X kw_X1_88 (ci := 1) rfl (c_X1_edgeHolds l B D cA m17 x0 x1 x2 z16 v44 g43) ⟨Nat.le_of_ble_eq_true rfl, Nat.le_of_ble_eq_true rfl⟩ h42 hR hS hl.1 rfl rfl (Nat.le_of_ble_eq_true rfl) ⟨Nat.le_of_ble_eq_true rfl, Nat.le_of_ble_eq_true rfl⟩ dX1_lengthenPaths_74 (fun H locs hR hS => ?_)
          refine W.eq (g2 := F0 mt 77 ls [.int v44]) rfl ?_
          refine lv_if_eq (tgt := 94) hx hb dX1_lengthenPaths_77 (by decide) (fun c45 => ?_) (fun c45 => ?_)
          · rw [if_pos c45] at hf
            refine lv_iinc (v := (z16 + 1)) (lv' := [(6, .int (z16 + 1)), (0, .ref (B + x0)), (1, .int x1), (2, .int x2), (3, .int x3), (4, .long v11)]) hx hb dX1_lengthenPaths_94 hl (k := 5) rfl (congrArg (fun z => z16 + z) (by decide)) (by decide) rfl (fun ls hl => ?_)
            refine lv_goto (tgt := 23) hx hb dX1_lengthenPaths_97 (by decide) ?_
            obtain rfl := Option.some.inj hf
            exact hxlq15 _ rfl H locs ls hR hS (lv_sub hl [1, 2, 3, 4, 5, 0] rfl)
          · rw [if_neg c45] at hf
            exact hJ80  H locs ls hf hR hS (lv_sub hl [0, 1, 2, 3, 4, 5] rfl)
      · rw [if_neg c33] at hf
        refine lv_aload_n hx hb dX1_lengthenPaths_41 rfl (lv_at hl 0 rfl) ?_
        refine lv_iload_n hx hb dX1_lengthenPaths_42 rfl (lv_at hl 1 rfl) ?_
        refine lv_iload_n hx hb dX1_lengthenPaths_43 rfl (lv_at hl 2 rfl) ?_
        refine lv_iload hx hb dX1_lengthenPaths_44 (lv_at hl 5 rfl) ?_
        obtain ⟨o46, h47, hf⟩ := obO hf
        obtain ⟨v49, g48, hf⟩ := ob hf
        refine r_callV X kw_X1_147 (ci := 1) rfl (c_X1_isUsed l B D cA m17 x0 x1 x2 z16 v49 g48) ⟨Nat.le_of_ble_eq_true rfl, Nat.le_of_ble_eq_true rfl⟩ h47 hR hS hl.1 rfl rfl (Nat.le_of_ble_eq_true rfl) ⟨Nat.le_of_ble_eq_true rfl, Nat.le_of_ble_eq_true rfl⟩ dX1_lengthenPaths_46 (fun H locs hR hS => ?_)
        refine W.eq (g2 := F0 mt 49 ls [.int v49]) rfl ?_
        refine lv_if_eq (tgt := 94) hx hb dX1_lengthenPaths_49 (by decide) (fun c50 => ?_) (fun c50 => ?_)
        · rw [if_pos c50] at hf
          refine lv_iinc (v := (z16 + 1)) (lv' := [(6, .int (z16 + 1)), (0, .ref (B + x0)), (1, .int x1), (2, .int x2), (3, .int x3), (4, .long v11)]) hx hb dX1_lengthenPaths_94 hl (k := 5) rfl (congrArg (fun z => z16 + z) (by decide)) (by decide) rfl (fun ls hl => ?_)
          refine lv_goto (tgt := 23) hx hb dX1_lengthenPaths_97 (by decide) ?_
          obtain rfl := Option.some.inj hf
          exact hxlq15 _ rfl H locs ls hR hS (lv_sub hl [1, 2, 3, 4, 5, 0] rfl)
        · rw [if_neg c50] at hf
          refine lv_goto (tgt := 80) hx hb dX1_lengthenPaths_52 (by decide) ?_
          exact hJ80  H locs ls hf hR hS (lv_sub hl [0, 1, 2, 3, 4, 5] rfl)
  · intro H locs ls hR hS hl
    obtain rfl := Option.some.inj hf
    exact r_vret X hr hlocks hR hS dX1_lengthenPaths_100
/-! ===== TwigMatches$Matcher.stepDown(IZ)V ===== -/
theorem dX1_stepDown_0 : decode cX1_stepDown 0 = .ok (.aload_n 0, 1) := by decide +kernel
theorem dX1_stepDown_1 : decode cX1_stepDown 1 = .ok (.getfield 40, 3) := by decide +kernel
theorem dX1_stepDown_4 : decode cX1_stepDown 4 = .ok (.getfield 79, 3) := by decide +kernel
theorem dX1_stepDown_7 : decode cX1_stepDown 7 = .ok (.iload_n 1, 1) := by decide +kernel
theorem dX1_stepDown_8 : decode cX1_stepDown 8 = .ok (.iaload, 1) := by decide +kernel
theorem dX1_stepDown_9 : decode cX1_stepDown 9 = .ok (.istore_n 3, 1) := by decide +kernel
theorem dX1_stepDown_10 : decode cX1_stepDown 10 = .ok (.iconst 0, 1) := by decide +kernel
theorem dX1_stepDown_11 : decode cX1_stepDown 11 = .ok (.istore 4, 2) := by decide +kernel
theorem dX1_stepDown_13 : decode cX1_stepDown 13 = .ok (.iload 4, 2) := by decide +kernel
theorem dX1_stepDown_15 : decode cX1_stepDown 15 = .ok (.aload_n 0, 1) := by decide +kernel
theorem dX1_stepDown_16 : decode cX1_stepDown 16 = .ok (.getfield 36, 3) := by decide +kernel
theorem dX1_stepDown_19 : decode cX1_stepDown 19 = .ok (.getfield 54, 3) := by decide +kernel
theorem dX1_stepDown_22 : decode cX1_stepDown 22 = .ok (.if_icmp .ge 19, 3) := by decide +kernel
theorem dX1_stepDown_25 : decode cX1_stepDown 25 = .ok (.aload_n 0, 1) := by decide +kernel
theorem dX1_stepDown_26 : decode cX1_stepDown 26 = .ok (.getfield 26, 3) := by decide +kernel
theorem dX1_stepDown_29 : decode cX1_stepDown 29 = .ok (.iload_n 1, 1) := by decide +kernel
theorem dX1_stepDown_30 : decode cX1_stepDown 30 = .ok (.aaload, 1) := by decide +kernel
theorem dX1_stepDown_31 : decode cX1_stepDown 31 = .ok (.iload 4, 2) := by decide +kernel
theorem dX1_stepDown_33 : decode cX1_stepDown 33 = .ok (.lconst 0, 1) := by decide +kernel
theorem dX1_stepDown_34 : decode cX1_stepDown 34 = .ok (.lastore, 1) := by decide +kernel
theorem dX1_stepDown_35 : decode cX1_stepDown 35 = .ok (.iinc 4 1, 3) := by decide +kernel
theorem dX1_stepDown_38 : decode cX1_stepDown 38 = .ok (.goto (-25), 3) := by decide +kernel
theorem dX1_stepDown_41 : decode cX1_stepDown 41 = .ok (.iconst 0, 1) := by decide +kernel
theorem dX1_stepDown_42 : decode cX1_stepDown 42 = .ok (.istore 4, 2) := by decide +kernel
theorem dX1_stepDown_44 : decode cX1_stepDown 44 = .ok (.iload 4, 2) := by decide +kernel
theorem dX1_stepDown_46 : decode cX1_stepDown 46 = .ok (.aload_n 0, 1) := by decide +kernel
theorem dX1_stepDown_47 : decode cX1_stepDown 47 = .ok (.getfield 36, 3) := by decide +kernel
theorem dX1_stepDown_50 : decode cX1_stepDown 50 = .ok (.getfield 54, 3) := by decide +kernel
theorem dX1_stepDown_53 : decode cX1_stepDown 53 = .ok (.if_icmp .ge 49, 3) := by decide +kernel
theorem dX1_stepDown_56 : decode cX1_stepDown 56 = .ok (.aload_n 0, 1) := by decide +kernel
theorem dX1_stepDown_57 : decode cX1_stepDown 57 = .ok (.getfield 26, 3) := by decide +kernel
theorem dX1_stepDown_60 : decode cX1_stepDown 60 = .ok (.iload_n 3, 1) := by decide +kernel
theorem dX1_stepDown_61 : decode cX1_stepDown 61 = .ok (.aaload, 1) := by decide +kernel
theorem dX1_stepDown_62 : decode cX1_stepDown 62 = .ok (.iload 4, 2) := by decide +kernel
theorem dX1_stepDown_64 : decode cX1_stepDown 64 = .ok (.laload, 1) := by decide +kernel
theorem dX1_stepDown_65 : decode cX1_stepDown 65 = .ok (.lconst 0, 1) := by decide +kernel
theorem dX1_stepDown_66 : decode cX1_stepDown 66 = .ok (.lcmp, 1) := by decide +kernel
theorem dX1_stepDown_67 : decode cX1_stepDown 67 = .ok (.ifCond .eq 29, 3) := by decide +kernel
theorem dX1_stepDown_70 : decode cX1_stepDown 70 = .ok (.iload_n 2, 1) := by decide +kernel
theorem dX1_stepDown_71 : decode cX1_stepDown 71 = .ok (.ifCond .eq 17, 3) := by decide +kernel
theorem dX1_stepDown_74 : decode cX1_stepDown 74 = .ok (.aload_n 0, 1) := by decide +kernel
theorem dX1_stepDown_75 : decode cX1_stepDown 75 = .ok (.iload_n 3, 1) := by decide +kernel
theorem dX1_stepDown_76 : decode cX1_stepDown 76 = .ok (.iload 4, 2) := by decide +kernel
theorem dX1_stepDown_78 : decode cX1_stepDown 78 = .ok (.invokevirtual 73, 3) := by decide +kernel
theorem dX1_stepDown_81 : decode cX1_stepDown 81 = .ok (.aload_n 0, 1) := by decide +kernel
theorem dX1_stepDown_82 : decode cX1_stepDown 82 = .ok (.iload_n 1, 1) := by decide +kernel
theorem dX1_stepDown_83 : decode cX1_stepDown 83 = .ok (.iload 4, 2) := by decide +kernel
theorem dX1_stepDown_85 : decode cX1_stepDown 85 = .ok (.invokevirtual 137, 3) := by decide +kernel
theorem dX1_stepDown_88 : decode cX1_stepDown 88 = .ok (.aload_n 0, 1) := by decide +kernel
theorem dX1_stepDown_89 : decode cX1_stepDown 89 = .ok (.iload_n 1, 1) := by decide +kernel
theorem dX1_stepDown_90 : decode cX1_stepDown 90 = .ok (.iload 4, 2) := by decide +kernel
theorem dX1_stepDown_92 : decode cX1_stepDown 92 = .ok (.iload_n 2, 1) := by decide +kernel
theorem dX1_stepDown_93 : decode cX1_stepDown 93 = .ok (.invokevirtual 140, 3) := by decide +kernel
theorem dX1_stepDown_96 : decode cX1_stepDown 96 = .ok (.iinc 4 1, 3) := by decide +kernel
theorem dX1_stepDown_99 : decode cX1_stepDown 99 = .ok (.goto (-55), 3) := by decide +kernel
theorem dX1_stepDown_102 : decode cX1_stepDown 102 = .ok (.return_, 1) := by decide +kernel
set_option maxHeartbeats 4000000 in
set_option maxRecDepth 100000 in
theorem c_X1_stepDown (l : Launch) (B : Nat) (D : va_G) (cA : Nat → ClassId) (m : Mm) (x0 : Nat) (x1 : Int32) (x2 : Int32) (mZ : Mm) (hf : f_X1_stepDown m x0 x1 x2 = some mZ) : Mt l B D cA yX1_stepDown cX1_stepDown 5 none 4 95 0 0 [.ref (B + x0), .int x1, .int x2] m none mZ := by
  refine r_start (by decide) (Nat.le_of_ble_eq_true rfl) ?_
  intro p e s mt args below meth c ls H locs X hr hlocks hnm hR hl hS
  have hx := X.1
  have hb := X.2.1
  have hl : lv_has ls 5 [(0, .ref (B + x0)), (1, .int x1), (2, .int x2)] := hl
  unfold f_X1_stepDown at hf
  refine lv_aload_n hx hb dX1_stepDown_0 rfl (lv_at hl 0 rfl) ?_
  obtain ⟨v1, g2, hf⟩ := ob hf
  refine gR_X1_40 X hR g2 dX1_stepDown_1 ?_
  obtain ⟨v3, g4, hf⟩ := ob hf
  refine gR_X1_79 X hR g4 dX1_stepDown_4 ?_
  refine lv_iload_n hx hb dX1_stepDown_7 rfl (lv_at hl 1 rfl) ?_
  obtain ⟨v5, g6, hf⟩ := ob hf
  refine r_lI X hR g6 dX1_stepDown_8 ?_
  refine lv_istore_n (lv' := [(3, .int v5), (0, .ref (B + x0)), (1, .int x1), (2, .int x2)]) hx hb dX1_stepDown_9 rfl hl (by decide) rfl (fun ls hl => ?_)
  refine lv_iconst (v := 0) hx hb dX1_stepDown_10 (by decide) ?_
  refine lv_istore (lv' := [(4, .int (0 : Int32)), (3, .int v5), (0, .ref (B + x0)), (1, .int x1), (2, .int x2)]) hx hb dX1_stepDown_11 hl (by decide) rfl (fun ls hl => ?_)
  obtain ⟨e8, hwe8, hf⟩ := ob hf
  refine whl_rule (P := (fun t7 => ∀ (H : Heap) (locs : List Loc) (ls : Array Slot), Rl B D cA t7.2 H → va_S (fun q => B ≤ q) s.heap H locs → lv_has ls 5 [(0, .ref (B + x0)), (1, .int x1), (2, .int x2), (3, .int v5), (4, .int t7.1)] → W p l e (rmm 4 0 0 95) s mt args below meth c H locs 0 0 (MQ below (mQ B D cA none mZ) args s 0 0 (fun q => B ≤ q)) (F0 mt 13 ls []))) (Qx := (fun e8 => ∀ (H : Heap) (locs : List Loc) (ls : Array Slot), Rl B D cA e8 H → va_S (fun q => B ≤ q) s.heap H locs → lv_has ls 5 [(0, .ref (B + x0)), (1, .int x1), (2, .int x2), (3, .int v5)] → W p l e (rmm 4 0 0 95) s mt args below meth c H locs 0 0 (MQ below (mQ B D cA none mZ) args s 0 0 (fun q => B ≤ q)) (F0 mt 41 ls []))) ?_ FU _ e8 hwe8 ?_ H locs ls hR hS (lv_sub hl [2, 3, 4, 1, 0] rfl)
  · clear hwe8 hf
    intro t7 q9 hf hxlq9 hxrq9 H locs ls hR hS hl
    obtain ⟨z10, m11⟩ := t7
    have hf : f_X1_stepDown_L13 m11 x0 x1 x2 v5 z10 = some q9 := hf
    have hR : Rl B D cA m11 H := hR
    have hl : lv_has ls 5 [(0, .ref (B + x0)), (1, .int x1), (2, .int x2), (3, .int v5), (4, .int z10)] := hl
    unfold f_X1_stepDown_L13 at hf
    refine lv_iload hx hb dX1_stepDown_13 (lv_at hl 4 rfl) ?_
    refine lv_aload_n hx hb dX1_stepDown_15 rfl (lv_at hl 0 rfl) ?_
    obtain ⟨v12, g13, hf⟩ := ob hf
    refine gR_X1_36 X hR g13 dX1_stepDown_16 ?_
    obtain ⟨v14, g15, hf⟩ := ob hf
    refine gI_X1_54 X hR g15 dX1_stepDown_19 ?_
    refine lv_icmp_ge (tgt := 41) hx hb dX1_stepDown_22 (by decide) (fun c16 => ?_) (fun c16 => ?_)
    · rw [if_pos c16] at hf
      obtain rfl := Option.some.inj hf
      exact hxrq9 _ rfl H locs ls hR hS (lv_sub hl [0, 1, 2, 3] rfl)
    · rw [if_neg c16] at hf
      refine lv_aload_n hx hb dX1_stepDown_25 rfl (lv_at hl 0 rfl) ?_
      obtain ⟨v17, g18, hf⟩ := ob hf
      refine gR_X1_26 X hR g18 dX1_stepDown_26 ?_
      refine lv_iload_n hx hb dX1_stepDown_29 rfl (lv_at hl 1 rfl) ?_
      obtain ⟨v19, g20, hf⟩ := ob hf
      refine r_lR (k := 4) (ty := .array .long) X hR rfl rfl g20 dX1_stepDown_30 ?_
      refine lv_iload hx hb dX1_stepDown_31 (lv_at hl 4 rfl) ?_
      refine lv_lconst (v := 0) hx hb dX1_stepDown_33 (by decide) ?_
      obtain ⟨m21, g22, hf⟩ := ob hf
      refine r_sJ X hR hS g22 dX1_stepDown_34 (fun H locs hR hS => ?_)
      refine lv_iinc (v := (z10 + 1)) (lv' := [(4, .int (z10 + 1)), (0, .ref (B + x0)), (1, .int x1), (2, .int x2), (3, .int v5)]) hx hb dX1_stepDown_35 hl (k := 4) rfl (congrArg (fun z => z10 + z) (by decide)) (by decide) rfl (fun ls hl => ?_)
      refine lv_goto (tgt := 13) hx hb dX1_stepDown_38 (by decide) ?_
      obtain rfl := Option.some.inj hf
      exact hxlq9 _ rfl H locs ls hR hS (lv_sub hl [1, 2, 3, 4, 0] rfl)
  · intro H locs ls hR hS hl
    refine lv_iconst (v := 0) hx hb dX1_stepDown_41 (by decide) ?_
    refine lv_istore (lv' := [(4, .int (0 : Int32)), (0, .ref (B + x0)), (1, .int x1), (2, .int x2), (3, .int v5)]) hx hb dX1_stepDown_42 hl (by decide) rfl (fun ls hl => ?_)
    obtain ⟨e24, hwe24, hf⟩ := ob hf
    refine whl_rule (P := (fun t23 => ∀ (H : Heap) (locs : List Loc) (ls : Array Slot), Rl B D cA t23.2 H → va_S (fun q => B ≤ q) s.heap H locs → lv_has ls 5 [(0, .ref (B + x0)), (1, .int x1), (2, .int x2), (3, .int v5), (4, .int t23.1)] → W p l e (rmm 4 0 0 95) s mt args below meth c H locs 0 0 (MQ below (mQ B D cA none mZ) args s 0 0 (fun q => B ≤ q)) (F0 mt 44 ls []))) (Qx := (fun e24 => ∀ (H : Heap) (locs : List Loc) (ls : Array Slot), Rl B D cA e24 H → va_S (fun q => B ≤ q) s.heap H locs → lv_has ls 5 [] → W p l e (rmm 4 0 0 95) s mt args below meth c H locs 0 0 (MQ below (mQ B D cA none mZ) args s 0 0 (fun q => B ≤ q)) (F0 mt 102 ls []))) ?_ FU _ e24 hwe24 ?_ H locs ls hR hS (lv_sub hl [1, 2, 3, 4, 0] rfl)
    · clear hwe24 hf
      intro t23 q25 hf hxlq25 hxrq25 H locs ls hR hS hl
      obtain ⟨z26, m27⟩ := t23
      have hf : f_X1_stepDown_L44 m27 x0 x1 x2 v5 z26 = some q25 := hf
      have hR : Rl B D cA m27 H := hR
      have hl : lv_has ls 5 [(0, .ref (B + x0)), (1, .int x1), (2, .int x2), (3, .int v5), (4, .int z26)] := hl
      unfold f_X1_stepDown_L44 at hf
      refine lv_iload hx hb dX1_stepDown_44 (lv_at hl 4 rfl) ?_
      refine lv_aload_n hx hb dX1_stepDown_46 rfl (lv_at hl 0 rfl) ?_
      obtain ⟨v28, g29, hf⟩ := ob hf
      refine gR_X1_36 X hR g29 dX1_stepDown_47 ?_
      obtain ⟨v30, g31, hf⟩ := ob hf
      refine gI_X1_54 X hR g31 dX1_stepDown_50 ?_
      refine lv_icmp_ge (tgt := 102) hx hb dX1_stepDown_53 (by decide) (fun c32 => ?_) (fun c32 => ?_)
      · rw [if_pos c32] at hf
        obtain rfl := Option.some.inj hf
        exact hxrq25 _ rfl H locs ls hR hS (lv_sub hl [] rfl)
      · rw [if_neg c32] at hf
        refine lv_aload_n hx hb dX1_stepDown_56 rfl (lv_at hl 0 rfl) ?_
        obtain ⟨v33, g34, hf⟩ := ob hf
        refine gR_X1_26 X hR g34 dX1_stepDown_57 ?_
        refine lv_iload_n hx hb dX1_stepDown_60 rfl (lv_at hl 3 rfl) ?_
        obtain ⟨v35, g36, hf⟩ := ob hf
        refine r_lR (k := 4) (ty := .array .long) X hR rfl rfl g36 dX1_stepDown_61 ?_
        refine lv_iload hx hb dX1_stepDown_62 (lv_at hl 4 rfl) ?_
        obtain ⟨v37, g38, hf⟩ := ob hf
        refine r_lJ X hR g38 dX1_stepDown_64 ?_
        refine lv_lconst (v := 0) hx hb dX1_stepDown_65 (by decide) ?_
        refine r_lc_eq (tgt := 96) X dX1_stepDown_66 dX1_stepDown_67 (by decide) (fun c39 => ?_) (fun c39 => ?_)
        · rw [if_pos c39] at hf
          refine lv_iinc (v := (z26 + 1)) (lv' := [(4, .int (z26 + 1)), (0, .ref (B + x0)), (1, .int x1), (2, .int x2), (3, .int v5)]) hx hb dX1_stepDown_96 hl (k := 4) rfl (congrArg (fun z => z26 + z) (by decide)) (by decide) rfl (fun ls hl => ?_)
          refine lv_goto (tgt := 44) hx hb dX1_stepDown_99 (by decide) ?_
          obtain rfl := Option.some.inj hf
          exact hxlq25 _ rfl H locs ls hR hS (lv_sub hl [1, 2, 3, 4, 0] rfl)
        · rw [if_neg c39] at hf
          refine lv_iload_n hx hb dX1_stepDown_70 rfl (lv_at hl 2 rfl) ?_
          obtain ⟨t40, hjt40, hf⟩ := ob hf
          have hJt40 : ∀ (H : Heap) (locs : List Loc) (ls : Array Slot), Rl B D cA t40 H → va_S (fun q => B ≤ q) s.heap H locs → lv_has ls 5 [(0, .ref (B + x0)), (1, .int x1), (2, .int x2), (3, .int v5), (4, .int z26)] → W p l e (rmm 4 0 0 95) s mt args below meth c H locs 0 0 (MQ below (mQ B D cA none mZ) args s 0 0 (fun q => B ≤ q)) (F0 mt 88 ls []) := by
            intro H locs ls hR hS hl
            refine lv_aload_n hx hb dX1_stepDown_88 rfl (lv_at hl 0 rfl) ?_
            refine lv_iload_n hx hb dX1_stepDown_89 rfl (lv_at hl 1 rfl) ?_
            refine lv_iload hx hb dX1_stepDown_90 (lv_at hl 4 rfl) ?_
            refine lv_iload_n hx hb dX1_stepDown_92 rfl (lv_at hl 2 rfl) ?_
            obtain ⟨o50, h51, hf⟩ := obO hf
            obtain ⟨m53, g52, hf⟩ := ob hf
            refine r_callV X kw_X1_140 (ci := 1) rfl (c_X1_lengthenPaths l B D cA t40 x0 x1 z26 x2 m53 g52) ⟨Nat.le_of_ble_eq_true rfl, Nat.le_of_ble_eq_true rfl⟩ h51 hR hS hl.1 rfl rfl (Nat.le_of_ble_eq_true rfl) ⟨Nat.le_of_ble_eq_true rfl, Nat.le_of_ble_eq_true rfl⟩ dX1_stepDown_93 (fun H locs hR hS => ?_)
            refine W.eq (g2 := F0 mt 96 ls []) rfl ?_
            refine lv_iinc (v := (z26 + 1)) (lv' := [(4, .int (z26 + 1)), (0, .ref (B + x0)), (1, .int x1), (2, .int x2), (3, .int v5)]) hx hb dX1_stepDown_96 hl (k := 4) rfl (congrArg (fun z => z26 + z) (by decide)) (by decide) rfl (fun ls hl => ?_)
            refine lv_goto (tgt := 44) hx hb dX1_stepDown_99 (by decide) ?_
            obtain rfl := Option.some.inj hf
            exact hxlq25 _ rfl H locs ls hR hS (lv_sub hl [1, 2, 3, 4, 0] rfl)
          have hf := hjt40
          clear hjt40
          refine lv_if_eq (tgt := 88) hx hb dX1_stepDown_71 (by decide) (fun c41 => ?_) (fun c41 => ?_)
          · rw [if_pos c41] at hf
            obtain rfl := Option.some.inj hf
            exact hJt40 H locs ls hR hS (lv_sub hl [0, 1, 2, 3, 4] rfl)
          · rw [if_neg c41] at hf
            refine lv_aload_n hx hb dX1_stepDown_74 rfl (lv_at hl 0 rfl) ?_
            refine lv_iload_n hx hb dX1_stepDown_75 rfl (lv_at hl 3 rfl) ?_
            refine lv_iload hx hb dX1_stepDown_76 (lv_at hl 4 rfl) ?_
            obtain ⟨o42, h43, hf⟩ := obO hf
            obtain ⟨m45, g44, hf⟩ := ob hf
            refine r_callV X kw_X1_73 (ci := 1) rfl (c_X1_spread l B D cA m27 x0 v5 z26 m45 g44) ⟨Nat.le_of_ble_eq_true rfl, Nat.le_of_ble_eq_true rfl⟩ h43 hR hS hl.1 rfl rfl (Nat.le_of_ble_eq_true rfl) ⟨Nat.le_of_ble_eq_true rfl, Nat.le_of_ble_eq_true rfl⟩ dX1_stepDown_78 (fun H locs hR hS => ?_)
            refine W.eq (g2 := F0 mt 81 ls []) rfl ?_
            refine lv_aload_n hx hb dX1_stepDown_81 rfl (lv_at hl 0 rfl) ?_
            refine lv_iload_n hx hb dX1_stepDown_82 rfl (lv_at hl 1 rfl) ?_
            refine lv_iload hx hb dX1_stepDown_83 (lv_at hl 4 rfl) ?_
            obtain ⟨o46, h47, hf⟩ := obO hf
            obtain ⟨m49, g48, hf⟩ := ob hf
            refine r_callV X kw_X1_137 (ci := 1) rfl (c_X1_fillHeadsBefore l B D cA m45 x0 x1 z26 m49 g48) ⟨Nat.le_of_ble_eq_true rfl, Nat.le_of_ble_eq_true rfl⟩ h47 hR hS hl.1 rfl rfl (Nat.le_of_ble_eq_true rfl) ⟨Nat.le_of_ble_eq_true rfl, Nat.le_of_ble_eq_true rfl⟩ dX1_stepDown_85 (fun H locs hR hS => ?_)
            refine W.eq (g2 := F0 mt 88 ls []) rfl ?_
            obtain rfl := Option.some.inj hf
            exact hJt40 H locs ls hR hS (lv_sub hl [0, 1, 2, 3, 4] rfl)
    · intro H locs ls hR hS hl
      obtain rfl := Option.some.inj hf
      exact r_vret X hr hlocks hR hS dX1_stepDown_102
/-! ===== TwigMatches$Matcher.walkPaths(IZ)V ===== -/
theorem dX1_walkPaths_0 : decode cX1_walkPaths 0 = .ok (.iconst 0, 1) := by decide +kernel
theorem dX1_walkPaths_1 : decode cX1_walkPaths 1 = .ok (.istore_n 3, 1) := by decide +kernel
theorem dX1_walkPaths_2 : decode cX1_walkPaths 2 = .ok (.iload_n 3, 1) := by decide +kernel
theorem dX1_walkPaths_3 : decode cX1_walkPaths 3 = .ok (.aload_n 0, 1) := by decide +kernel
theorem dX1_walkPaths_4 : decode cX1_walkPaths 4 = .ok (.getfield 36, 3) := by decide +kernel
theorem dX1_walkPaths_7 : decode cX1_walkPaths 7 = .ok (.getfield 54, 3) := by decide +kernel
theorem dX1_walkPaths_10 : decode cX1_walkPaths 10 = .ok (.if_icmp .ge 64, 3) := by decide +kernel
theorem dX1_walkPaths_13 : decode cX1_walkPaths 13 = .ok (.iload_n 2, 1) := by decide +kernel
theorem dX1_walkPaths_14 : decode cX1_walkPaths 14 = .ok (.ifCond .eq 24, 3) := by decide +kernel
theorem dX1_walkPaths_17 : decode cX1_walkPaths 17 = .ok (.aload_n 0, 1) := by decide +kernel
theorem dX1_walkPaths_18 : decode cX1_walkPaths 18 = .ok (.getfield 17, 3) := by decide +kernel
theorem dX1_walkPaths_21 : decode cX1_walkPaths 21 = .ok (.iconst 0, 1) := by decide +kernel
theorem dX1_walkPaths_22 : decode cX1_walkPaths 22 = .ok (.aaload, 1) := by decide +kernel
theorem dX1_walkPaths_23 : decode cX1_walkPaths 23 = .ok (.iload_n 3, 1) := by decide +kernel
theorem dX1_walkPaths_24 : decode cX1_walkPaths 24 = .ok (.laload, 1) := by decide +kernel
theorem dX1_walkPaths_25 : decode cX1_walkPaths 25 = .ok (.lconst 0, 1) := by decide +kernel
theorem dX1_walkPaths_26 : decode cX1_walkPaths 26 = .ok (.lcmp, 1) := by decide +kernel
theorem dX1_walkPaths_27 : decode cX1_walkPaths 27 = .ok (.ifCond .eq 7, 3) := by decide +kernel
theorem dX1_walkPaths_30 : decode cX1_walkPaths 30 = .ok (.iconst 1, 1) := by decide +kernel
theorem dX1_walkPaths_31 : decode cX1_walkPaths 31 = .ok (.goto 17, 3) := by decide +kernel
theorem dX1_walkPaths_34 : decode cX1_walkPaths 34 = .ok (.iconst 0, 1) := by decide +kernel
theorem dX1_walkPaths_35 : decode cX1_walkPaths 35 = .ok (.goto 13, 3) := by decide +kernel
theorem dX1_walkPaths_38 : decode cX1_walkPaths 38 = .ok (.aload_n 0, 1) := by decide +kernel
theorem dX1_walkPaths_39 : decode cX1_walkPaths 39 = .ok (.getfield 9, 3) := by decide +kernel
theorem dX1_walkPaths_42 : decode cX1_walkPaths 42 = .ok (.iconst 0, 1) := by decide +kernel
theorem dX1_walkPaths_43 : decode cX1_walkPaths 43 = .ok (.iaload, 1) := by decide +kernel
theorem dX1_walkPaths_44 : decode cX1_walkPaths 44 = .ok (.iload_n 3, 1) := by decide +kernel
theorem dX1_walkPaths_45 : decode cX1_walkPaths 45 = .ok (.invokestatic 57, 3) := by decide +kernel
theorem dX1_walkPaths_48 : decode cX1_walkPaths 48 = .ok (.istore 4, 2) := by decide +kernel
theorem dX1_walkPaths_50 : decode cX1_walkPaths 50 = .ok (.aload_n 0, 1) := by decide +kernel
theorem dX1_walkPaths_51 : decode cX1_walkPaths 51 = .ok (.getfield 26, 3) := by decide +kernel
theorem dX1_walkPaths_54 : decode cX1_walkPaths 54 = .ok (.iconst 0, 1) := by decide +kernel
theorem dX1_walkPaths_55 : decode cX1_walkPaths 55 = .ok (.aaload, 1) := by decide +kernel
theorem dX1_walkPaths_56 : decode cX1_walkPaths 56 = .ok (.iload_n 3, 1) := by decide +kernel
theorem dX1_walkPaths_57 : decode cX1_walkPaths 57 = .ok (.iload 4, 2) := by decide +kernel
theorem dX1_walkPaths_59 : decode cX1_walkPaths 59 = .ok (.ifCond .eq 7, 3) := by decide +kernel
theorem dX1_walkPaths_62 : decode cX1_walkPaths 62 = .ok (.lconst 1, 1) := by decide +kernel
theorem dX1_walkPaths_63 : decode cX1_walkPaths 63 = .ok (.goto 4, 3) := by decide +kernel
theorem dX1_walkPaths_66 : decode cX1_walkPaths 66 = .ok (.lconst 0, 1) := by decide +kernel
theorem dX1_walkPaths_67 : decode cX1_walkPaths 67 = .ok (.lastore, 1) := by decide +kernel
theorem dX1_walkPaths_68 : decode cX1_walkPaths 68 = .ok (.iinc 3 1, 3) := by decide +kernel
theorem dX1_walkPaths_71 : decode cX1_walkPaths 71 = .ok (.goto (-69), 3) := by decide +kernel
theorem dX1_walkPaths_74 : decode cX1_walkPaths 74 = .ok (.iconst 1, 1) := by decide +kernel
theorem dX1_walkPaths_75 : decode cX1_walkPaths 75 = .ok (.istore_n 3, 1) := by decide +kernel
theorem dX1_walkPaths_76 : decode cX1_walkPaths 76 = .ok (.iload_n 3, 1) := by decide +kernel
theorem dX1_walkPaths_77 : decode cX1_walkPaths 77 = .ok (.iload_n 1, 1) := by decide +kernel
theorem dX1_walkPaths_78 : decode cX1_walkPaths 78 = .ok (.if_icmp .gt 27, 3) := by decide +kernel
theorem dX1_walkPaths_81 : decode cX1_walkPaths 81 = .ok (.aload_n 0, 1) := by decide +kernel
theorem dX1_walkPaths_82 : decode cX1_walkPaths 82 = .ok (.getfield 40, 3) := by decide +kernel
theorem dX1_walkPaths_85 : decode cX1_walkPaths 85 = .ok (.iload_n 3, 1) := by decide +kernel
theorem dX1_walkPaths_86 : decode cX1_walkPaths 86 = .ok (.invokevirtual 76, 3) := by decide +kernel
theorem dX1_walkPaths_89 : decode cX1_walkPaths 89 = .ok (.iload_n 1, 1) := by decide +kernel
theorem dX1_walkPaths_90 : decode cX1_walkPaths 90 = .ok (.if_icmp .lt 9, 3) := by decide +kernel
theorem dX1_walkPaths_93 : decode cX1_walkPaths 93 = .ok (.aload_n 0, 1) := by decide +kernel
theorem dX1_walkPaths_94 : decode cX1_walkPaths 94 = .ok (.iload_n 3, 1) := by decide +kernel
theorem dX1_walkPaths_95 : decode cX1_walkPaths 95 = .ok (.iload_n 2, 1) := by decide +kernel
theorem dX1_walkPaths_96 : decode cX1_walkPaths 96 = .ok (.invokevirtual 133, 3) := by decide +kernel
theorem dX1_walkPaths_99 : decode cX1_walkPaths 99 = .ok (.iinc 3 1, 3) := by decide +kernel
theorem dX1_walkPaths_102 : decode cX1_walkPaths 102 = .ok (.goto (-26), 3) := by decide +kernel
theorem dX1_walkPaths_105 : decode cX1_walkPaths 105 = .ok (.return_, 1) := by decide +kernel
set_option maxHeartbeats 4000000 in
set_option maxRecDepth 100000 in
theorem c_X1_walkPaths (l : Launch) (B : Nat) (D : va_G) (cA : Nat → ClassId) (m : Mm) (x0 : Nat) (x1 : Int32) (x2 : Int32) (mZ : Mm) (hf : f_X1_walkPaths m x0 x1 x2 = some mZ) : Mt l B D cA yX1_walkPaths cX1_walkPaths 5 none 5 119 0 0 [.ref (B + x0), .int x1, .int x2] m none mZ := by
  refine r_start (by decide) (Nat.le_of_ble_eq_true rfl) ?_
  intro p e s mt args below meth c ls H locs X hr hlocks hnm hR hl hS
  have hx := X.1
  have hb := X.2.1
  have hl : lv_has ls 5 [(0, .ref (B + x0)), (1, .int x1), (2, .int x2)] := hl
  unfold f_X1_walkPaths at hf
  refine lv_iconst (v := 0) hx hb dX1_walkPaths_0 (by decide) ?_
  refine lv_istore_n (lv' := [(3, .int (0 : Int32)), (0, .ref (B + x0)), (1, .int x1), (2, .int x2)]) hx hb dX1_walkPaths_1 rfl hl (by decide) rfl (fun ls hl => ?_)
  obtain ⟨e2, hwe2, hf⟩ := ob hf
  refine whl_rule (P := (fun t1 => ∀ (H : Heap) (locs : List Loc) (ls : Array Slot), Rl B D cA t1.2 H → va_S (fun q => B ≤ q) s.heap H locs → lv_has ls 5 [(0, .ref (B + x0)), (1, .int x1), (2, .int x2), (3, .int t1.1)] → W p l e (rmm 5 0 0 119) s mt args below meth c H locs 0 0 (MQ below (mQ B D cA none mZ) args s 0 0 (fun q => B ≤ q)) (F0 mt 2 ls []))) (Qx := (fun e2 => ∀ (H : Heap) (locs : List Loc) (ls : Array Slot), Rl B D cA e2 H → va_S (fun q => B ≤ q) s.heap H locs → lv_has ls 5 [(0, .ref (B + x0)), (1, .int x1), (2, .int x2)] → W p l e (rmm 5 0 0 119) s mt args below meth c H locs 0 0 (MQ below (mQ B D cA none mZ) args s 0 0 (fun q => B ≤ q)) (F0 mt 74 ls []))) ?_ FU _ e2 hwe2 ?_ H locs ls hR hS (lv_sub hl [1, 2, 3, 0] rfl)
  · clear hwe2 hf
    intro t1 q3 hf hxlq3 hxrq3 H locs ls hR hS hl
    obtain ⟨z4, m5⟩ := t1
    have hf : f_X1_walkPaths_L2 m5 x0 x1 x2 z4 = some q3 := hf
    have hR : Rl B D cA m5 H := hR
    have hl : lv_has ls 5 [(0, .ref (B + x0)), (1, .int x1), (2, .int x2), (3, .int z4)] := hl
    unfold f_X1_walkPaths_L2 at hf
    refine lv_iload_n hx hb dX1_walkPaths_2 rfl (lv_at hl 3 rfl) ?_
    refine lv_aload_n hx hb dX1_walkPaths_3 rfl (lv_at hl 0 rfl) ?_
    obtain ⟨v6, g7, hf⟩ := ob hf
    refine gR_X1_36 X hR g7 dX1_walkPaths_4 ?_
    obtain ⟨v8, g9, hf⟩ := ob hf
    refine gI_X1_54 X hR g9 dX1_walkPaths_7 ?_
    refine lv_icmp_ge (tgt := 74) hx hb dX1_walkPaths_10 (by decide) (fun c10 => ?_) (fun c10 => ?_)
    · rw [if_pos c10] at hf
      obtain rfl := Option.some.inj hf
      exact hxrq3 _ rfl H locs ls hR hS (lv_sub hl [0, 1, 2] rfl)
    · rw [if_neg c10] at hf
      refine lv_iload_n hx hb dX1_walkPaths_13 rfl (lv_at hl 2 rfl) ?_
      obtain ⟨t11, hjt11, hf⟩ := ob hf
      have hJt11 : ∀ (H : Heap) (locs : List Loc) (ls : Array Slot), Rl B D cA m5 H → va_S (fun q => B ≤ q) s.heap H locs → lv_has ls 5 [(0, .ref (B + x0)), (1, .int x1), (2, .int x2), (3, .int z4)] → W p l e (rmm 5 0 0 119) s mt args below meth c H locs 0 0 (MQ below (mQ B D cA none mZ) args s 0 0 (fun q => B ≤ q)) (F0 mt 48 ls [.int t11]) := by
        intro H locs ls hR hS hl
        refine lv_istore (lv' := [(4, .int t11), (0, .ref (B + x0)), (1, .int x1), (2, .int x2), (3, .int z4)]) hx hb dX1_walkPaths_48 hl (by decide) rfl (fun ls hl => ?_)
        refine lv_aload_n hx hb dX1_walkPaths_50 rfl (lv_at hl 1 rfl) ?_
        obtain ⟨v26, g27, hf⟩ := ob hf
        refine gR_X1_26 X hR g27 dX1_walkPaths_51 ?_
        refine lv_iconst (v := 0) hx hb dX1_walkPaths_54 (by decide) ?_
        obtain ⟨v28, g29, hf⟩ := ob hf
        refine r_lR (k := 4) (ty := .array .long) X hR rfl rfl g29 dX1_walkPaths_55 ?_
        refine lv_iload_n hx hb dX1_walkPaths_56 rfl (lv_at hl 4 rfl) ?_
        refine lv_iload hx hb dX1_walkPaths_57 (lv_at hl 0 rfl) ?_
        refine lv_if_eq (tgt := 66) hx hb dX1_walkPaths_59 (by decide) (fun c30 => ?_) (fun c30 => ?_)
        · rw [if_pos c30] at hf
          refine lv_lconst (v := 0) hx hb dX1_walkPaths_66 (by decide) ?_
          obtain ⟨m31, g32, hf⟩ := ob hf
          refine r_sJ X hR hS g32 dX1_walkPaths_67 (fun H locs hR hS => ?_)
          refine lv_iinc (v := (z4 + 1)) (lv' := [(3, .int (z4 + 1)), (4, .int t11), (0, .ref (B + x0)), (1, .int x1), (2, .int x2)]) hx hb dX1_walkPaths_68 hl (k := 4) rfl (congrArg (fun z => z4 + z) (by decide)) (by decide) rfl (fun ls hl => ?_)
          refine lv_goto (tgt := 2) hx hb dX1_walkPaths_71 (by decide) ?_
          obtain rfl := Option.some.inj hf
          exact hxlq3 _ rfl H locs ls hR hS (lv_sub hl [2, 3, 4, 0] rfl)
        · rw [if_neg c30] at hf
          refine lv_lconst (v := 1) hx hb dX1_walkPaths_62 (by decide) ?_
          refine lv_goto (tgt := 67) hx hb dX1_walkPaths_63 (by decide) ?_
          obtain ⟨m33, g34, hf⟩ := ob hf
          refine r_sJ X hR hS g34 dX1_walkPaths_67 (fun H locs hR hS => ?_)
          refine lv_iinc (v := (z4 + 1)) (lv' := [(3, .int (z4 + 1)), (4, .int t11), (0, .ref (B + x0)), (1, .int x1), (2, .int x2)]) hx hb dX1_walkPaths_68 hl (k := 4) rfl (congrArg (fun z => z4 + z) (by decide)) (by decide) rfl (fun ls hl => ?_)
          refine lv_goto (tgt := 2) hx hb dX1_walkPaths_71 (by decide) ?_
          obtain rfl := Option.some.inj hf
          exact hxlq3 _ rfl H locs ls hR hS (lv_sub hl [2, 3, 4, 0] rfl)
      have hf := hjt11
      clear hjt11
      refine lv_if_eq (tgt := 38) hx hb dX1_walkPaths_14 (by decide) (fun c12 => ?_) (fun c12 => ?_)
      · rw [if_pos c12] at hf
        refine lv_aload_n hx hb dX1_walkPaths_38 rfl (lv_at hl 0 rfl) ?_
        obtain ⟨v13, g14, hf⟩ := ob hf
        refine gR_X1_9 X hR g14 dX1_walkPaths_39 ?_
        refine lv_iconst (v := 0) hx hb dX1_walkPaths_42 (by decide) ?_
        obtain ⟨v15, g16, hf⟩ := ob hf
        refine r_lI X hR g16 dX1_walkPaths_43 ?_
        refine lv_iload_n hx hb dX1_walkPaths_44 rfl (lv_at hl 3 rfl) ?_
        obtain ⟨v18, g17, hf⟩ := ob hf
        refine r_callSN X kw_X1_57 (c_X7_holds l B D cA m5 v15 z4 v18 g17) ⟨Nat.le_of_ble_eq_true rfl, Nat.le_of_ble_eq_true rfl⟩ hR hS hl.1 rfl rfl (Nat.le_of_ble_eq_true rfl) ⟨Nat.le_of_ble_eq_true rfl, Nat.le_of_ble_eq_true rfl⟩ dX1_walkPaths_45 (fun H locs hR hS => ?_)
        refine W.eq (g2 := F0 mt 48 ls [.int v18]) rfl ?_
        obtain rfl := Option.some.inj hf
        exact hJt11 H locs ls hR hS (lv_sub hl [0, 1, 2, 3] rfl)
      · rw [if_neg c12] at hf
        refine lv_aload_n hx hb dX1_walkPaths_17 rfl (lv_at hl 0 rfl) ?_
        obtain ⟨v19, g20, hf⟩ := ob hf
        refine gR_X1_17 X hR g20 dX1_walkPaths_18 ?_
        refine lv_iconst (v := 0) hx hb dX1_walkPaths_21 (by decide) ?_
        obtain ⟨v21, g22, hf⟩ := ob hf
        refine r_lR (k := 4) (ty := .array .long) X hR rfl rfl g22 dX1_walkPaths_22 ?_
        refine lv_iload_n hx hb dX1_walkPaths_23 rfl (lv_at hl 3 rfl) ?_
        obtain ⟨v23, g24, hf⟩ := ob hf
        refine r_lJ X hR g24 dX1_walkPaths_24 ?_
        refine lv_lconst (v := 0) hx hb dX1_walkPaths_25 (by decide) ?_
        refine r_lc_eq (tgt := 34) X dX1_walkPaths_26 dX1_walkPaths_27 (by decide) (fun c25 => ?_) (fun c25 => ?_)
        · rw [if_pos c25] at hf
          refine lv_iconst (v := 0) hx hb dX1_walkPaths_34 (by decide) ?_
          refine lv_goto (tgt := 48) hx hb dX1_walkPaths_35 (by decide) ?_
          obtain rfl := Option.some.inj hf
          exact hJt11 H locs ls hR hS (lv_sub hl [0, 1, 2, 3] rfl)
        · rw [if_neg c25] at hf
          refine lv_iconst (v := 1) hx hb dX1_walkPaths_30 (by decide) ?_
          refine lv_goto (tgt := 48) hx hb dX1_walkPaths_31 (by decide) ?_
          obtain rfl := Option.some.inj hf
          exact hJt11 H locs ls hR hS (lv_sub hl [0, 1, 2, 3] rfl)
  · intro H locs ls hR hS hl
    refine lv_iconst (v := 1) hx hb dX1_walkPaths_74 (by decide) ?_
    refine lv_istore_n (lv' := [(3, .int (1 : Int32)), (0, .ref (B + x0)), (1, .int x1), (2, .int x2)]) hx hb dX1_walkPaths_75 rfl hl (by decide) rfl (fun ls hl => ?_)
    obtain ⟨e36, hwe36, hf⟩ := ob hf
    refine whl_rule (P := (fun t35 => ∀ (H : Heap) (locs : List Loc) (ls : Array Slot), Rl B D cA t35.2 H → va_S (fun q => B ≤ q) s.heap H locs → lv_has ls 5 [(0, .ref (B + x0)), (1, .int x1), (2, .int x2), (3, .int t35.1)] → W p l e (rmm 5 0 0 119) s mt args below meth c H locs 0 0 (MQ below (mQ B D cA none mZ) args s 0 0 (fun q => B ≤ q)) (F0 mt 76 ls []))) (Qx := (fun e36 => ∀ (H : Heap) (locs : List Loc) (ls : Array Slot), Rl B D cA e36 H → va_S (fun q => B ≤ q) s.heap H locs → lv_has ls 5 [] → W p l e (rmm 5 0 0 119) s mt args below meth c H locs 0 0 (MQ below (mQ B D cA none mZ) args s 0 0 (fun q => B ≤ q)) (F0 mt 105 ls []))) ?_ FU _ e36 hwe36 ?_ H locs ls hR hS (lv_sub hl [1, 2, 3, 0] rfl)
    · clear hwe36 hf
      intro t35 q37 hf hxlq37 hxrq37 H locs ls hR hS hl
      obtain ⟨z38, m39⟩ := t35
      have hf : f_X1_walkPaths_L76 m39 x0 x1 x2 z38 = some q37 := hf
      have hR : Rl B D cA m39 H := hR
      have hl : lv_has ls 5 [(0, .ref (B + x0)), (1, .int x1), (2, .int x2), (3, .int z38)] := hl
      unfold f_X1_walkPaths_L76 at hf
      refine lv_iload_n hx hb dX1_walkPaths_76 rfl (lv_at hl 3 rfl) ?_
      refine lv_iload_n hx hb dX1_walkPaths_77 rfl (lv_at hl 1 rfl) ?_
      refine lv_icmp_gt (tgt := 105) hx hb dX1_walkPaths_78 (by decide) (fun c40 => ?_) (fun c40 => ?_)
      · rw [if_pos c40] at hf
        obtain rfl := Option.some.inj hf
        exact hxrq37 _ rfl H locs ls hR hS (lv_sub hl [] rfl)
      · rw [if_neg c40] at hf
        refine lv_aload_n hx hb dX1_walkPaths_81 rfl (lv_at hl 0 rfl) ?_
        obtain ⟨v41, g42, hf⟩ := ob hf
        refine gR_X1_40 X hR g42 dX1_walkPaths_82 ?_
        refine lv_iload_n hx hb dX1_walkPaths_85 rfl (lv_at hl 3 rfl) ?_
        obtain ⟨o43, h44, hf⟩ := obO hf
        obtain ⟨v46, g45, hf⟩ := ob hf
        refine r_callV X kw_X1_76 (ci := 5) rfl (c_X5_last l B D cA m39 v41 z38 v46 g45) ⟨Nat.le_of_ble_eq_true rfl, Nat.le_of_ble_eq_true rfl⟩ h44 hR hS hl.1 rfl rfl (Nat.le_of_ble_eq_true rfl) ⟨Nat.le_of_ble_eq_true rfl, Nat.le_of_ble_eq_true rfl⟩ dX1_walkPaths_86 (fun H locs hR hS => ?_)
        refine W.eq (g2 := F0 mt 89 ls [.int v46]) rfl ?_
        refine lv_iload_n hx hb dX1_walkPaths_89 rfl (lv_at hl 1 rfl) ?_
        refine lv_icmp_lt (tgt := 99) hx hb dX1_walkPaths_90 (by decide) (fun c47 => ?_) (fun c47 => ?_)
        · rw [if_pos c47] at hf
          refine lv_iinc (v := (z38 + 1)) (lv' := [(3, .int (z38 + 1)), (0, .ref (B + x0)), (1, .int x1), (2, .int x2)]) hx hb dX1_walkPaths_99 hl (k := 3) rfl (congrArg (fun z => z38 + z) (by decide)) (by decide) rfl (fun ls hl => ?_)
          refine lv_goto (tgt := 76) hx hb dX1_walkPaths_102 (by decide) ?_
          obtain rfl := Option.some.inj hf
          exact hxlq37 _ rfl H locs ls hR hS (lv_sub hl [1, 2, 3, 0] rfl)
        · rw [if_neg c47] at hf
          refine lv_aload_n hx hb dX1_walkPaths_93 rfl (lv_at hl 0 rfl) ?_
          refine lv_iload_n hx hb dX1_walkPaths_94 rfl (lv_at hl 3 rfl) ?_
          refine lv_iload_n hx hb dX1_walkPaths_95 rfl (lv_at hl 2 rfl) ?_
          obtain ⟨o48, h49, hf⟩ := obO hf
          obtain ⟨m51, g50, hf⟩ := ob hf
          refine r_callV X kw_X1_133 (ci := 1) rfl (c_X1_stepDown l B D cA m39 x0 z38 x2 m51 g50) ⟨Nat.le_of_ble_eq_true rfl, Nat.le_of_ble_eq_true rfl⟩ h49 hR hS hl.1 rfl rfl (Nat.le_of_ble_eq_true rfl) ⟨Nat.le_of_ble_eq_true rfl, Nat.le_of_ble_eq_true rfl⟩ dX1_walkPaths_96 (fun H locs hR hS => ?_)
          refine W.eq (g2 := F0 mt 99 ls []) rfl ?_
          refine lv_iinc (v := (z38 + 1)) (lv' := [(3, .int (z38 + 1)), (0, .ref (B + x0)), (1, .int x1), (2, .int x2)]) hx hb dX1_walkPaths_99 hl (k := 3) rfl (congrArg (fun z => z38 + z) (by decide)) (by decide) rfl (fun ls hl => ?_)
          refine lv_goto (tgt := 76) hx hb dX1_walkPaths_102 (by decide) ?_
          obtain rfl := Option.some.inj hf
          exact hxlq37 _ rfl H locs ls hR hS (lv_sub hl [1, 2, 3, 0] rfl)
    · intro H locs ls hR hS hl
      obtain rfl := Option.some.inj hf
      exact r_vret X hr hlocks hR hS dX1_walkPaths_105
/-! ===== TwigMatches$Matcher.reached(I)I ===== -/
theorem dX1_reached_0 : decode cX1_reached 0 = .ok (.iconst 0, 1) := by decide +kernel
theorem dX1_reached_1 : decode cX1_reached 1 = .ok (.istore_n 2, 1) := by decide +kernel
theorem dX1_reached_2 : decode cX1_reached 2 = .ok (.iconst 0, 1) := by decide +kernel
theorem dX1_reached_3 : decode cX1_reached 3 = .ok (.istore_n 3, 1) := by decide +kernel
theorem dX1_reached_4 : decode cX1_reached 4 = .ok (.iload_n 3, 1) := by decide +kernel
theorem dX1_reached_5 : decode cX1_reached 5 = .ok (.aload_n 0, 1) := by decide +kernel
theorem dX1_reached_6 : decode cX1_reached 6 = .ok (.getfield 36, 3) := by decide +kernel
theorem dX1_reached_9 : decode cX1_reached 9 = .ok (.getfield 54, 3) := by decide +kernel
theorem dX1_reached_12 : decode cX1_reached 12 = .ok (.if_icmp .ge 28, 3) := by decide +kernel
theorem dX1_reached_15 : decode cX1_reached 15 = .ok (.aload_n 0, 1) := by decide +kernel
theorem dX1_reached_16 : decode cX1_reached 16 = .ok (.getfield 26, 3) := by decide +kernel
theorem dX1_reached_19 : decode cX1_reached 19 = .ok (.iload_n 1, 1) := by decide +kernel
theorem dX1_reached_20 : decode cX1_reached 20 = .ok (.aaload, 1) := by decide +kernel
theorem dX1_reached_21 : decode cX1_reached 21 = .ok (.iload_n 3, 1) := by decide +kernel
theorem dX1_reached_22 : decode cX1_reached 22 = .ok (.laload, 1) := by decide +kernel
theorem dX1_reached_23 : decode cX1_reached 23 = .ok (.lconst 0, 1) := by decide +kernel
theorem dX1_reached_24 : decode cX1_reached 24 = .ok (.lcmp, 1) := by decide +kernel
theorem dX1_reached_25 : decode cX1_reached 25 = .ok (.ifCond .eq 9, 3) := by decide +kernel
theorem dX1_reached_28 : decode cX1_reached 28 = .ok (.iload_n 2, 1) := by decide +kernel
theorem dX1_reached_29 : decode cX1_reached 29 = .ok (.iconst 1, 1) := by decide +kernel
theorem dX1_reached_30 : decode cX1_reached 30 = .ok (.iload_n 3, 1) := by decide +kernel
theorem dX1_reached_31 : decode cX1_reached 31 = .ok (.ishl, 1) := by decide +kernel
theorem dX1_reached_32 : decode cX1_reached 32 = .ok (.ior, 1) := by decide +kernel
theorem dX1_reached_33 : decode cX1_reached 33 = .ok (.istore_n 2, 1) := by decide +kernel
theorem dX1_reached_34 : decode cX1_reached 34 = .ok (.iinc 3 1, 3) := by decide +kernel
theorem dX1_reached_37 : decode cX1_reached 37 = .ok (.goto (-33), 3) := by decide +kernel
theorem dX1_reached_40 : decode cX1_reached 40 = .ok (.iload_n 2, 1) := by decide +kernel
theorem dX1_reached_41 : decode cX1_reached 41 = .ok (.ireturn, 1) := by decide +kernel
set_option maxHeartbeats 4000000 in
set_option maxRecDepth 100000 in
theorem c_X1_reached (l : Launch) (B : Nat) (D : va_G) (cA : Nat → ClassId) (m : Mm) (x0 : Nat) (x1 : Int32) (rZ : Int32) (hf : f_X1_reached m x0 x1 = some rZ) : Mt l B D cA yX1_reached cX1_reached 4 (some .int) 0 0 0 0 [.ref (B + x0), .int x1] m (some (.int rZ)) m := by
  refine r_start (by decide) (Nat.le_of_ble_eq_true rfl) ?_
  intro p e s mt args below meth c ls H locs X hr hlocks hnm hR hl hS
  have hx := X.1
  have hb := X.2.1
  have hl : lv_has ls 4 [(0, .ref (B + x0)), (1, .int x1)] := hl
  unfold f_X1_reached at hf
  refine lv_iconst (v := 0) hx hb dX1_reached_0 (by decide) ?_
  refine lv_istore_n (lv' := [(2, .int (0 : Int32)), (0, .ref (B + x0)), (1, .int x1)]) hx hb dX1_reached_1 rfl hl (by decide) rfl (fun ls hl => ?_)
  refine lv_iconst (v := 0) hx hb dX1_reached_2 (by decide) ?_
  refine lv_istore_n (lv' := [(3, .int (0 : Int32)), (2, .int (0 : Int32)), (0, .ref (B + x0)), (1, .int x1)]) hx hb dX1_reached_3 rfl hl (by decide) rfl (fun ls hl => ?_)
  obtain ⟨e2, hwe2, hf⟩ := ob hf
  refine whl_rule (P := (fun t1 => ∀ (H : Heap) (locs : List Loc) (ls : Array Slot), Rl B D cA m H → va_S (fun q => B ≤ q) s.heap H locs → lv_has ls 4 [(0, .ref (B + x0)), (1, .int x1), (2, .int t1.1), (3, .int t1.2)] → W p l e (rmm 0 0 0 0) s mt args below meth c H locs 0 0 (MQ below (mQ B D cA (some (.int rZ)) m) args s 0 0 (fun q => B ≤ q)) (F0 mt 4 ls []))) (Qx := (fun e2 => ∀ (H : Heap) (locs : List Loc) (ls : Array Slot), Rl B D cA m H → va_S (fun q => B ≤ q) s.heap H locs → lv_has ls 4 [(2, .int e2)] → W p l e (rmm 0 0 0 0) s mt args below meth c H locs 0 0 (MQ below (mQ B D cA (some (.int rZ)) m) args s 0 0 (fun q => B ≤ q)) (F0 mt 40 ls []))) ?_ FU _ e2 hwe2 ?_ H locs ls hR hS (lv_sub hl [2, 3, 1, 0] rfl)
  · clear hwe2 hf
    intro t1 q3 hf hxlq3 hxrq3 H locs ls hR hS hl
    obtain ⟨z4, z5⟩ := t1
    have hf : f_X1_reached_L4 m x0 x1 z4 z5 = some q3 := hf
    have hR : Rl B D cA m H := hR
    have hl : lv_has ls 4 [(0, .ref (B + x0)), (1, .int x1), (2, .int z4), (3, .int z5)] := hl
    unfold f_X1_reached_L4 at hf
    refine lv_iload_n hx hb dX1_reached_4 rfl (lv_at hl 3 rfl) ?_
    refine lv_aload_n hx hb dX1_reached_5 rfl (lv_at hl 0 rfl) ?_
    obtain ⟨v6, g7, hf⟩ := ob hf
    refine gR_X1_36 X hR g7 dX1_reached_6 ?_
    obtain ⟨v8, g9, hf⟩ := ob hf
    refine gI_X1_54 X hR g9 dX1_reached_9 ?_
    refine lv_icmp_ge (tgt := 40) hx hb dX1_reached_12 (by decide) (fun c10 => ?_) (fun c10 => ?_)
    · rw [if_pos c10] at hf
      obtain rfl := Option.some.inj hf
      exact hxrq3 _ rfl H locs ls hR hS (lv_sub hl [2] rfl)
    · rw [if_neg c10] at hf
      refine lv_aload_n hx hb dX1_reached_15 rfl (lv_at hl 0 rfl) ?_
      obtain ⟨v11, g12, hf⟩ := ob hf
      refine gR_X1_26 X hR g12 dX1_reached_16 ?_
      refine lv_iload_n hx hb dX1_reached_19 rfl (lv_at hl 1 rfl) ?_
      obtain ⟨v13, g14, hf⟩ := ob hf
      refine r_lR (k := 4) (ty := .array .long) X hR rfl rfl g14 dX1_reached_20 ?_
      refine lv_iload_n hx hb dX1_reached_21 rfl (lv_at hl 3 rfl) ?_
      obtain ⟨v15, g16, hf⟩ := ob hf
      refine r_lJ X hR g16 dX1_reached_22 ?_
      refine lv_lconst (v := 0) hx hb dX1_reached_23 (by decide) ?_
      refine r_lc_eq (tgt := 34) X dX1_reached_24 dX1_reached_25 (by decide) (fun c17 => ?_) (fun c17 => ?_)
      · rw [if_pos c17] at hf
        refine lv_iinc (v := (z5 + 1)) (lv' := [(3, .int (z5 + 1)), (0, .ref (B + x0)), (1, .int x1), (2, .int z4)]) hx hb dX1_reached_34 hl (k := 3) rfl (congrArg (fun z => z5 + z) (by decide)) (by decide) rfl (fun ls hl => ?_)
        refine lv_goto (tgt := 4) hx hb dX1_reached_37 (by decide) ?_
        obtain rfl := Option.some.inj hf
        exact hxlq3 _ rfl H locs ls hR hS (lv_sub hl [1, 2, 3, 0] rfl)
      · rw [if_neg c17] at hf
        refine lv_iload_n hx hb dX1_reached_28 rfl (lv_at hl 2 rfl) ?_
        refine lv_iconst (v := 1) hx hb dX1_reached_29 (by decide) ?_
        refine lv_iload_n hx hb dX1_reached_30 rfl (lv_at hl 3 rfl) ?_
        refine lv_ishl hx hb dX1_reached_31 ?_
        refine lv_ior hx hb dX1_reached_32 ?_
        refine lv_istore_n (lv' := [(2, .int (z4 ||| ((1 : Int32) <<< (z5 &&& 31)))), (0, .ref (B + x0)), (1, .int x1), (3, .int z5)]) hx hb dX1_reached_33 rfl hl (by decide) rfl (fun ls hl => ?_)
        refine lv_iinc (v := (z5 + 1)) (lv' := [(3, .int (z5 + 1)), (2, .int (z4 ||| ((1 : Int32) <<< (z5 &&& 31)))), (0, .ref (B + x0)), (1, .int x1)]) hx hb dX1_reached_34 hl (k := 3) rfl (congrArg (fun z => z5 + z) (by decide)) (by decide) rfl (fun ls hl => ?_)
        refine lv_goto (tgt := 4) hx hb dX1_reached_37 (by decide) ?_
        obtain rfl := Option.some.inj hf
        exact hxlq3 _ rfl H locs ls hR hS (lv_sub hl [2, 3, 1, 0] rfl)
  · intro H locs ls hR hS hl
    refine lv_iload_n hx hb dX1_reached_40 rfl (lv_at hl 0 rfl) ?_
    obtain rfl := Option.some.inj hf
    exact r_iret X hr hlocks hR hS rfl dX1_reached_41
/-! ===== TwigMatches$Matcher.pathsTo(I)J ===== -/
theorem dX1_pathsTo_0 : decode cX1_pathsTo 0 = .ok (.lconst 0, 1) := by decide +kernel
theorem dX1_pathsTo_1 : decode cX1_pathsTo 1 = .ok (.lstore_n 2, 1) := by decide +kernel
theorem dX1_pathsTo_2 : decode cX1_pathsTo 2 = .ok (.iconst 0, 1) := by decide +kernel
theorem dX1_pathsTo_3 : decode cX1_pathsTo 3 = .ok (.istore 4, 2) := by decide +kernel
theorem dX1_pathsTo_5 : decode cX1_pathsTo 5 = .ok (.iload 4, 2) := by decide +kernel
theorem dX1_pathsTo_7 : decode cX1_pathsTo 7 = .ok (.aload_n 0, 1) := by decide +kernel
theorem dX1_pathsTo_8 : decode cX1_pathsTo 8 = .ok (.getfield 36, 3) := by decide +kernel
theorem dX1_pathsTo_11 : decode cX1_pathsTo 11 = .ok (.getfield 54, 3) := by decide +kernel
theorem dX1_pathsTo_14 : decode cX1_pathsTo 14 = .ok (.if_icmp .ge 21, 3) := by decide +kernel
theorem dX1_pathsTo_17 : decode cX1_pathsTo 17 = .ok (.lload_n 2, 1) := by decide +kernel
theorem dX1_pathsTo_18 : decode cX1_pathsTo 18 = .ok (.aload_n 0, 1) := by decide +kernel
theorem dX1_pathsTo_19 : decode cX1_pathsTo 19 = .ok (.getfield 26, 3) := by decide +kernel
theorem dX1_pathsTo_22 : decode cX1_pathsTo 22 = .ok (.iload_n 1, 1) := by decide +kernel
theorem dX1_pathsTo_23 : decode cX1_pathsTo 23 = .ok (.aaload, 1) := by decide +kernel
theorem dX1_pathsTo_24 : decode cX1_pathsTo 24 = .ok (.iload 4, 2) := by decide +kernel
theorem dX1_pathsTo_26 : decode cX1_pathsTo 26 = .ok (.laload, 1) := by decide +kernel
theorem dX1_pathsTo_27 : decode cX1_pathsTo 27 = .ok (.ladd, 1) := by decide +kernel
theorem dX1_pathsTo_28 : decode cX1_pathsTo 28 = .ok (.lstore_n 2, 1) := by decide +kernel
theorem dX1_pathsTo_29 : decode cX1_pathsTo 29 = .ok (.iinc 4 1, 3) := by decide +kernel
theorem dX1_pathsTo_32 : decode cX1_pathsTo 32 = .ok (.goto (-27), 3) := by decide +kernel
theorem dX1_pathsTo_35 : decode cX1_pathsTo 35 = .ok (.lload_n 2, 1) := by decide +kernel
theorem dX1_pathsTo_36 : decode cX1_pathsTo 36 = .ok (.lreturn, 1) := by decide +kernel
set_option maxHeartbeats 4000000 in
set_option maxRecDepth 100000 in
theorem c_X1_pathsTo (l : Launch) (B : Nat) (D : va_G) (cA : Nat → ClassId) (m : Mm) (x0 : Nat) (x1 : Int32) (rZ : Int64) (hf : f_X1_pathsTo m x0 x1 = some rZ) : Mt l B D cA yX1_pathsTo cX1_pathsTo 5 (some .long) 0 0 0 0 [.ref (B + x0), .int x1] m (some (.long rZ)) m := by
  refine r_start (by decide) (Nat.le_of_ble_eq_true rfl) ?_
  intro p e s mt args below meth c ls H locs X hr hlocks hnm hR hl hS
  have hx := X.1
  have hb := X.2.1
  have hl : lv_has ls 5 [(0, .ref (B + x0)), (1, .int x1)] := hl
  unfold f_X1_pathsTo at hf
  refine lv_lconst (v := 0) hx hb dX1_pathsTo_0 (by decide) ?_
  refine lv_lstore_n (lv' := [(2, .long (0 : Int64)), (0, .ref (B + x0)), (1, .int x1)]) hx hb dX1_pathsTo_1 rfl hl (by decide) rfl (fun ls hl => ?_)
  refine lv_iconst (v := 0) hx hb dX1_pathsTo_2 (by decide) ?_
  refine lv_istore (lv' := [(4, .int (0 : Int32)), (2, .long (0 : Int64)), (0, .ref (B + x0)), (1, .int x1)]) hx hb dX1_pathsTo_3 hl (by decide) rfl (fun ls hl => ?_)
  obtain ⟨e2, hwe2, hf⟩ := ob hf
  refine whl_rule (P := (fun t1 => ∀ (H : Heap) (locs : List Loc) (ls : Array Slot), Rl B D cA m H → va_S (fun q => B ≤ q) s.heap H locs → lv_has ls 5 [(0, .ref (B + x0)), (1, .int x1), (2, .long t1.1), (4, .int t1.2)] → W p l e (rmm 0 0 0 0) s mt args below meth c H locs 0 0 (MQ below (mQ B D cA (some (.long rZ)) m) args s 0 0 (fun q => B ≤ q)) (F0 mt 5 ls []))) (Qx := (fun e2 => ∀ (H : Heap) (locs : List Loc) (ls : Array Slot), Rl B D cA m H → va_S (fun q => B ≤ q) s.heap H locs → lv_has ls 5 [(2, .long e2)] → W p l e (rmm 0 0 0 0) s mt args below meth c H locs 0 0 (MQ below (mQ B D cA (some (.long rZ)) m) args s 0 0 (fun q => B ≤ q)) (F0 mt 35 ls []))) ?_ FU _ e2 hwe2 ?_ H locs ls hR hS (lv_sub hl [2, 3, 1, 0] rfl)
  · clear hwe2 hf
    intro t1 q3 hf hxlq3 hxrq3 H locs ls hR hS hl
    obtain ⟨z4, z5⟩ := t1
    have hf : f_X1_pathsTo_L5 m x0 x1 z4 z5 = some q3 := hf
    have hR : Rl B D cA m H := hR
    have hl : lv_has ls 5 [(0, .ref (B + x0)), (1, .int x1), (2, .long z4), (4, .int z5)] := hl
    unfold f_X1_pathsTo_L5 at hf
    refine lv_iload hx hb dX1_pathsTo_5 (lv_at hl 3 rfl) ?_
    refine lv_aload_n hx hb dX1_pathsTo_7 rfl (lv_at hl 0 rfl) ?_
    obtain ⟨v6, g7, hf⟩ := ob hf
    refine gR_X1_36 X hR g7 dX1_pathsTo_8 ?_
    obtain ⟨v8, g9, hf⟩ := ob hf
    refine gI_X1_54 X hR g9 dX1_pathsTo_11 ?_
    refine lv_icmp_ge (tgt := 35) hx hb dX1_pathsTo_14 (by decide) (fun c10 => ?_) (fun c10 => ?_)
    · rw [if_pos c10] at hf
      obtain rfl := Option.some.inj hf
      exact hxrq3 _ rfl H locs ls hR hS (lv_sub hl [2] rfl)
    · rw [if_neg c10] at hf
      refine lv_lload_n hx hb dX1_pathsTo_17 rfl (lv_at hl 2 rfl) ?_
      refine lv_aload_n hx hb dX1_pathsTo_18 rfl (lv_at hl 0 rfl) ?_
      obtain ⟨v11, g12, hf⟩ := ob hf
      refine gR_X1_26 X hR g12 dX1_pathsTo_19 ?_
      refine lv_iload_n hx hb dX1_pathsTo_22 rfl (lv_at hl 1 rfl) ?_
      obtain ⟨v13, g14, hf⟩ := ob hf
      refine r_lR (k := 4) (ty := .array .long) X hR rfl rfl g14 dX1_pathsTo_23 ?_
      refine lv_iload hx hb dX1_pathsTo_24 (lv_at hl 3 rfl) ?_
      obtain ⟨v15, g16, hf⟩ := ob hf
      refine r_lJ X hR g16 dX1_pathsTo_26 ?_
      refine lv_ladd hx hb dX1_pathsTo_27 ?_
      refine lv_lstore_n (lv' := [(2, .long (z4 + v15)), (0, .ref (B + x0)), (1, .int x1), (4, .int z5)]) hx hb dX1_pathsTo_28 rfl hl (by decide) rfl (fun ls hl => ?_)
      refine lv_iinc (v := (z5 + 1)) (lv' := [(4, .int (z5 + 1)), (2, .long (z4 + v15)), (0, .ref (B + x0)), (1, .int x1)]) hx hb dX1_pathsTo_29 hl (k := 3) rfl (congrArg (fun z => z5 + z) (by decide)) (by decide) rfl (fun ls hl => ?_)
      refine lv_goto (tgt := 5) hx hb dX1_pathsTo_32 (by decide) ?_
      obtain rfl := Option.some.inj hf
      exact hxlq3 _ rfl H locs ls hR hS (lv_sub hl [2, 3, 1, 0] rfl)
  · intro H locs ls hR hS hl
    refine lv_lload_n hx hb dX1_pathsTo_35 rfl (lv_at hl 0 rfl) ?_
    obtain rfl := Option.some.inj hf
    exact r_lret X hr hlocks hR hS dX1_pathsTo_36
/-! ===== TwigMatches$Tree.copyFrom(LTwigMatches$Tree;)V ===== -/
theorem dX4_copyFrom_0 : decode cX4_copyFrom 0 = .ok (.aload_n 0, 1) := by decide +kernel
theorem dX4_copyFrom_1 : decode cX4_copyFrom 1 = .ok (.aload_n 1, 1) := by decide +kernel
theorem dX4_copyFrom_2 : decode cX4_copyFrom 2 = .ok (.getfield 9, 3) := by decide +kernel
theorem dX4_copyFrom_5 : decode cX4_copyFrom 5 = .ok (.putfield 9, 3) := by decide +kernel
theorem dX4_copyFrom_8 : decode cX4_copyFrom 8 = .ok (.aload_n 1, 1) := by decide +kernel
theorem dX4_copyFrom_9 : decode cX4_copyFrom 9 = .ok (.getfield 15, 3) := by decide +kernel
theorem dX4_copyFrom_12 : decode cX4_copyFrom 12 = .ok (.iconst 0, 1) := by decide +kernel
theorem dX4_copyFrom_13 : decode cX4_copyFrom 13 = .ok (.aload_n 0, 1) := by decide +kernel
theorem dX4_copyFrom_14 : decode cX4_copyFrom 14 = .ok (.getfield 15, 3) := by decide +kernel
theorem dX4_copyFrom_17 : decode cX4_copyFrom 17 = .ok (.iconst 0, 1) := by decide +kernel
theorem dX4_copyFrom_18 : decode cX4_copyFrom 18 = .ok (.bipush 32, 2) := by decide +kernel
theorem dX4_copyFrom_20 : decode cX4_copyFrom 20 = .ok (.invokestatic 31, 3) := by decide +kernel
theorem dX4_copyFrom_23 : decode cX4_copyFrom 23 = .ok (.aload_n 1, 1) := by decide +kernel
theorem dX4_copyFrom_24 : decode cX4_copyFrom 24 = .ok (.getfield 19, 3) := by decide +kernel
theorem dX4_copyFrom_27 : decode cX4_copyFrom 27 = .ok (.iconst 0, 1) := by decide +kernel
theorem dX4_copyFrom_28 : decode cX4_copyFrom 28 = .ok (.aload_n 0, 1) := by decide +kernel
theorem dX4_copyFrom_29 : decode cX4_copyFrom 29 = .ok (.getfield 19, 3) := by decide +kernel
theorem dX4_copyFrom_32 : decode cX4_copyFrom 32 = .ok (.iconst 0, 1) := by decide +kernel
theorem dX4_copyFrom_33 : decode cX4_copyFrom 33 = .ok (.bipush 32, 2) := by decide +kernel
theorem dX4_copyFrom_35 : decode cX4_copyFrom 35 = .ok (.invokestatic 31, 3) := by decide +kernel
theorem dX4_copyFrom_38 : decode cX4_copyFrom 38 = .ok (.aload_n 1, 1) := by decide +kernel
theorem dX4_copyFrom_39 : decode cX4_copyFrom 39 = .ok (.getfield 22, 3) := by decide +kernel
theorem dX4_copyFrom_42 : decode cX4_copyFrom 42 = .ok (.iconst 0, 1) := by decide +kernel
theorem dX4_copyFrom_43 : decode cX4_copyFrom 43 = .ok (.aload_n 0, 1) := by decide +kernel
theorem dX4_copyFrom_44 : decode cX4_copyFrom 44 = .ok (.getfield 22, 3) := by decide +kernel
theorem dX4_copyFrom_47 : decode cX4_copyFrom 47 = .ok (.iconst 0, 1) := by decide +kernel
theorem dX4_copyFrom_48 : decode cX4_copyFrom 48 = .ok (.bipush 32, 2) := by decide +kernel
theorem dX4_copyFrom_50 : decode cX4_copyFrom 50 = .ok (.invokestatic 31, 3) := by decide +kernel
theorem dX4_copyFrom_53 : decode cX4_copyFrom 53 = .ok (.aload_n 1, 1) := by decide +kernel
theorem dX4_copyFrom_54 : decode cX4_copyFrom 54 = .ok (.getfield 25, 3) := by decide +kernel
theorem dX4_copyFrom_57 : decode cX4_copyFrom 57 = .ok (.iconst 0, 1) := by decide +kernel
theorem dX4_copyFrom_58 : decode cX4_copyFrom 58 = .ok (.aload_n 0, 1) := by decide +kernel
theorem dX4_copyFrom_59 : decode cX4_copyFrom 59 = .ok (.getfield 25, 3) := by decide +kernel
theorem dX4_copyFrom_62 : decode cX4_copyFrom 62 = .ok (.iconst 0, 1) := by decide +kernel
theorem dX4_copyFrom_63 : decode cX4_copyFrom 63 = .ok (.bipush 32, 2) := by decide +kernel
theorem dX4_copyFrom_65 : decode cX4_copyFrom 65 = .ok (.invokestatic 31, 3) := by decide +kernel
theorem dX4_copyFrom_68 : decode cX4_copyFrom 68 = .ok (.aload_n 1, 1) := by decide +kernel
theorem dX4_copyFrom_69 : decode cX4_copyFrom 69 = .ok (.getfield 28, 3) := by decide +kernel
theorem dX4_copyFrom_72 : decode cX4_copyFrom 72 = .ok (.iconst 0, 1) := by decide +kernel
theorem dX4_copyFrom_73 : decode cX4_copyFrom 73 = .ok (.aload_n 0, 1) := by decide +kernel
theorem dX4_copyFrom_74 : decode cX4_copyFrom 74 = .ok (.getfield 28, 3) := by decide +kernel
theorem dX4_copyFrom_77 : decode cX4_copyFrom 77 = .ok (.iconst 0, 1) := by decide +kernel
theorem dX4_copyFrom_78 : decode cX4_copyFrom 78 = .ok (.bipush 32, 2) := by decide +kernel
theorem dX4_copyFrom_80 : decode cX4_copyFrom 80 = .ok (.invokestatic 31, 3) := by decide +kernel
theorem dX4_copyFrom_83 : decode cX4_copyFrom 83 = .ok (.return_, 1) := by decide +kernel
set_option maxHeartbeats 4000000 in
set_option maxRecDepth 100000 in
theorem c_X4_copyFrom (l : Launch) (B : Nat) (D : va_G) (cA : Nat → ClassId) (m : Mm) (x0 : Nat) (x1 : Nat) (mZ : Mm) (hf : f_X4_copyFrom m x0 x1 = some mZ) : Mt l B D cA yX4_copyFrom cX4_copyFrom 2 none 1 40 0 0 [.ref (B + x0), .ref (B + x1)] m none mZ := by
  refine r_start (by decide) (Nat.le_of_ble_eq_true rfl) ?_
  intro p e s mt args below meth c ls H locs X hr hlocks hnm hR hl hS
  have hx := X.1
  have hb := X.2.1
  have hl : lv_has ls 2 [(0, .ref (B + x0)), (1, .ref (B + x1))] := hl
  unfold f_X4_copyFrom at hf
  refine lv_aload_n hx hb dX4_copyFrom_0 rfl (lv_at hl 0 rfl) ?_
  refine lv_aload_n hx hb dX4_copyFrom_1 rfl (lv_at hl 1 rfl) ?_
  obtain ⟨v1, g2, hf⟩ := ob hf
  refine gI_X4_9 X hR g2 dX4_copyFrom_2 ?_
  obtain ⟨m3, g4, hf⟩ := ob hf
  refine pI_X4_9 X hR hS g4 dX4_copyFrom_5 (fun H locs hR hS => ?_)
  refine lv_aload_n hx hb dX4_copyFrom_8 rfl (lv_at hl 1 rfl) ?_
  obtain ⟨v5, g6, hf⟩ := ob hf
  refine gR_X4_15 X hR g6 dX4_copyFrom_9 ?_
  refine lv_iconst (v := 0) hx hb dX4_copyFrom_12 (by decide) ?_
  refine lv_aload_n hx hb dX4_copyFrom_13 rfl (lv_at hl 0 rfl) ?_
  obtain ⟨v7, g8, hf⟩ := ob hf
  refine gR_X4_15 X hR g8 dX4_copyFrom_14 ?_
  refine lv_iconst (v := 0) hx hb dX4_copyFrom_17 (by decide) ?_
  refine lv_bipush (v := 32) hx hb dX4_copyFrom_18 (by decide) ?_
  obtain ⟨m9, g10, hf⟩ := ob hf
  refine r_cI X hl.1 (tb2 60 rfl rfl) (tb2 62 rfl rfl) (tb2 61 rfl rfl) (tb1 11 rfl rfl) hR hS g10 (Nat.le_of_ble_eq_true rfl) (Nat.le_of_ble_eq_true rfl) dX4_copyFrom_20 (fun H locs hR hS => ?_)
  refine lv_aload_n hx hb dX4_copyFrom_23 rfl (lv_at hl 1 rfl) ?_
  obtain ⟨v11, g12, hf⟩ := ob hf
  refine gR_X4_19 X hR g12 dX4_copyFrom_24 ?_
  refine lv_iconst (v := 0) hx hb dX4_copyFrom_27 (by decide) ?_
  refine lv_aload_n hx hb dX4_copyFrom_28 rfl (lv_at hl 0 rfl) ?_
  obtain ⟨v13, g14, hf⟩ := ob hf
  refine gR_X4_19 X hR g14 dX4_copyFrom_29 ?_
  refine lv_iconst (v := 0) hx hb dX4_copyFrom_32 (by decide) ?_
  refine lv_bipush (v := 32) hx hb dX4_copyFrom_33 (by decide) ?_
  obtain ⟨m15, g16, hf⟩ := ob hf
  refine r_cI X hl.1 (tb2 60 rfl rfl) (tb2 62 rfl rfl) (tb2 61 rfl rfl) (tb1 11 rfl rfl) hR hS g16 (Nat.le_of_ble_eq_true rfl) (Nat.le_of_ble_eq_true rfl) dX4_copyFrom_35 (fun H locs hR hS => ?_)
  refine lv_aload_n hx hb dX4_copyFrom_38 rfl (lv_at hl 1 rfl) ?_
  obtain ⟨v17, g18, hf⟩ := ob hf
  refine gR_X4_22 X hR g18 dX4_copyFrom_39 ?_
  refine lv_iconst (v := 0) hx hb dX4_copyFrom_42 (by decide) ?_
  refine lv_aload_n hx hb dX4_copyFrom_43 rfl (lv_at hl 0 rfl) ?_
  obtain ⟨v19, g20, hf⟩ := ob hf
  refine gR_X4_22 X hR g20 dX4_copyFrom_44 ?_
  refine lv_iconst (v := 0) hx hb dX4_copyFrom_47 (by decide) ?_
  refine lv_bipush (v := 32) hx hb dX4_copyFrom_48 (by decide) ?_
  obtain ⟨m21, g22, hf⟩ := ob hf
  refine r_cI X hl.1 (tb2 60 rfl rfl) (tb2 62 rfl rfl) (tb2 61 rfl rfl) (tb1 11 rfl rfl) hR hS g22 (Nat.le_of_ble_eq_true rfl) (Nat.le_of_ble_eq_true rfl) dX4_copyFrom_50 (fun H locs hR hS => ?_)
  refine lv_aload_n hx hb dX4_copyFrom_53 rfl (lv_at hl 1 rfl) ?_
  obtain ⟨v23, g24, hf⟩ := ob hf
  refine gR_X4_25 X hR g24 dX4_copyFrom_54 ?_
  refine lv_iconst (v := 0) hx hb dX4_copyFrom_57 (by decide) ?_
  refine lv_aload_n hx hb dX4_copyFrom_58 rfl (lv_at hl 0 rfl) ?_
  obtain ⟨v25, g26, hf⟩ := ob hf
  refine gR_X4_25 X hR g26 dX4_copyFrom_59 ?_
  refine lv_iconst (v := 0) hx hb dX4_copyFrom_62 (by decide) ?_
  refine lv_bipush (v := 32) hx hb dX4_copyFrom_63 (by decide) ?_
  obtain ⟨m27, g28, hf⟩ := ob hf
  refine r_cI X hl.1 (tb2 60 rfl rfl) (tb2 62 rfl rfl) (tb2 61 rfl rfl) (tb1 11 rfl rfl) hR hS g28 (Nat.le_of_ble_eq_true rfl) (Nat.le_of_ble_eq_true rfl) dX4_copyFrom_65 (fun H locs hR hS => ?_)
  refine lv_aload_n hx hb dX4_copyFrom_68 rfl (lv_at hl 1 rfl) ?_
  obtain ⟨v29, g30, hf⟩ := ob hf
  refine gR_X4_28 X hR g30 dX4_copyFrom_69 ?_
  refine lv_iconst (v := 0) hx hb dX4_copyFrom_72 (by decide) ?_
  refine lv_aload_n hx hb dX4_copyFrom_73 rfl (lv_at hl 0 rfl) ?_
  obtain ⟨v31, g32, hf⟩ := ob hf
  refine gR_X4_28 X hR g32 dX4_copyFrom_74 ?_
  refine lv_iconst (v := 0) hx hb dX4_copyFrom_77 (by decide) ?_
  refine lv_bipush (v := 32) hx hb dX4_copyFrom_78 (by decide) ?_
  obtain ⟨m33, g34, hf⟩ := ob hf
  refine r_cI X hl.1 (tb2 60 rfl rfl) (tb2 62 rfl rfl) (tb2 61 rfl rfl) (tb1 11 rfl rfl) hR hS g34 (Nat.le_of_ble_eq_true rfl) (Nat.le_of_ble_eq_true rfl) dX4_copyFrom_80 (fun H locs hR hS => ?_)
  obtain rfl := Option.some.inj hf
  exact r_vret X hr hlocks hR hS dX4_copyFrom_83
/-! ===== TwigMatches$Twig.copyFrom(LTwigMatches$Twig;)V ===== -/
theorem dX5_copyFrom_0 : decode cX5_copyFrom 0 = .ok (.aload_n 0, 1) := by decide +kernel
theorem dX5_copyFrom_1 : decode cX5_copyFrom 1 = .ok (.aload_n 1, 1) := by decide +kernel
theorem dX5_copyFrom_2 : decode cX5_copyFrom 2 = .ok (.getfield 9, 3) := by decide +kernel
theorem dX5_copyFrom_5 : decode cX5_copyFrom 5 = .ok (.putfield 9, 3) := by decide +kernel
theorem dX5_copyFrom_8 : decode cX5_copyFrom 8 = .ok (.aload_n 1, 1) := by decide +kernel
theorem dX5_copyFrom_9 : decode cX5_copyFrom 9 = .ok (.getfield 15, 3) := by decide +kernel
theorem dX5_copyFrom_12 : decode cX5_copyFrom 12 = .ok (.iconst 0, 1) := by decide +kernel
theorem dX5_copyFrom_13 : decode cX5_copyFrom 13 = .ok (.aload_n 0, 1) := by decide +kernel
theorem dX5_copyFrom_14 : decode cX5_copyFrom 14 = .ok (.getfield 15, 3) := by decide +kernel
theorem dX5_copyFrom_17 : decode cX5_copyFrom 17 = .ok (.iconst 0, 1) := by decide +kernel
theorem dX5_copyFrom_18 : decode cX5_copyFrom 18 = .ok (.bipush 6, 2) := by decide +kernel
theorem dX5_copyFrom_20 : decode cX5_copyFrom 20 = .ok (.invokestatic 34, 3) := by decide +kernel
theorem dX5_copyFrom_23 : decode cX5_copyFrom 23 = .ok (.aload_n 1, 1) := by decide +kernel
theorem dX5_copyFrom_24 : decode cX5_copyFrom 24 = .ok (.getfield 19, 3) := by decide +kernel
theorem dX5_copyFrom_27 : decode cX5_copyFrom 27 = .ok (.iconst 0, 1) := by decide +kernel
theorem dX5_copyFrom_28 : decode cX5_copyFrom 28 = .ok (.aload_n 0, 1) := by decide +kernel
theorem dX5_copyFrom_29 : decode cX5_copyFrom 29 = .ok (.getfield 19, 3) := by decide +kernel
theorem dX5_copyFrom_32 : decode cX5_copyFrom 32 = .ok (.iconst 0, 1) := by decide +kernel
theorem dX5_copyFrom_33 : decode cX5_copyFrom 33 = .ok (.bipush 6, 2) := by decide +kernel
theorem dX5_copyFrom_35 : decode cX5_copyFrom 35 = .ok (.invokestatic 34, 3) := by decide +kernel
theorem dX5_copyFrom_38 : decode cX5_copyFrom 38 = .ok (.aload_n 1, 1) := by decide +kernel
theorem dX5_copyFrom_39 : decode cX5_copyFrom 39 = .ok (.getfield 22, 3) := by decide +kernel
theorem dX5_copyFrom_42 : decode cX5_copyFrom 42 = .ok (.iconst 0, 1) := by decide +kernel
theorem dX5_copyFrom_43 : decode cX5_copyFrom 43 = .ok (.aload_n 0, 1) := by decide +kernel
theorem dX5_copyFrom_44 : decode cX5_copyFrom 44 = .ok (.getfield 22, 3) := by decide +kernel
theorem dX5_copyFrom_47 : decode cX5_copyFrom 47 = .ok (.iconst 0, 1) := by decide +kernel
theorem dX5_copyFrom_48 : decode cX5_copyFrom 48 = .ok (.bipush 6, 2) := by decide +kernel
theorem dX5_copyFrom_50 : decode cX5_copyFrom 50 = .ok (.invokestatic 34, 3) := by decide +kernel
theorem dX5_copyFrom_53 : decode cX5_copyFrom 53 = .ok (.aload_n 1, 1) := by decide +kernel
theorem dX5_copyFrom_54 : decode cX5_copyFrom 54 = .ok (.getfield 25, 3) := by decide +kernel
theorem dX5_copyFrom_57 : decode cX5_copyFrom 57 = .ok (.iconst 0, 1) := by decide +kernel
theorem dX5_copyFrom_58 : decode cX5_copyFrom 58 = .ok (.aload_n 0, 1) := by decide +kernel
theorem dX5_copyFrom_59 : decode cX5_copyFrom 59 = .ok (.getfield 25, 3) := by decide +kernel
theorem dX5_copyFrom_62 : decode cX5_copyFrom 62 = .ok (.iconst 0, 1) := by decide +kernel
theorem dX5_copyFrom_63 : decode cX5_copyFrom 63 = .ok (.bipush 6, 2) := by decide +kernel
theorem dX5_copyFrom_65 : decode cX5_copyFrom 65 = .ok (.invokestatic 34, 3) := by decide +kernel
theorem dX5_copyFrom_68 : decode cX5_copyFrom 68 = .ok (.aload_n 1, 1) := by decide +kernel
theorem dX5_copyFrom_69 : decode cX5_copyFrom 69 = .ok (.getfield 28, 3) := by decide +kernel
theorem dX5_copyFrom_72 : decode cX5_copyFrom 72 = .ok (.iconst 0, 1) := by decide +kernel
theorem dX5_copyFrom_73 : decode cX5_copyFrom 73 = .ok (.aload_n 0, 1) := by decide +kernel
theorem dX5_copyFrom_74 : decode cX5_copyFrom 74 = .ok (.getfield 28, 3) := by decide +kernel
theorem dX5_copyFrom_77 : decode cX5_copyFrom 77 = .ok (.iconst 0, 1) := by decide +kernel
theorem dX5_copyFrom_78 : decode cX5_copyFrom 78 = .ok (.bipush 6, 2) := by decide +kernel
theorem dX5_copyFrom_80 : decode cX5_copyFrom 80 = .ok (.invokestatic 34, 3) := by decide +kernel
theorem dX5_copyFrom_83 : decode cX5_copyFrom 83 = .ok (.aload_n 1, 1) := by decide +kernel
theorem dX5_copyFrom_84 : decode cX5_copyFrom 84 = .ok (.getfield 31, 3) := by decide +kernel
theorem dX5_copyFrom_87 : decode cX5_copyFrom 87 = .ok (.iconst 0, 1) := by decide +kernel
theorem dX5_copyFrom_88 : decode cX5_copyFrom 88 = .ok (.aload_n 0, 1) := by decide +kernel
theorem dX5_copyFrom_89 : decode cX5_copyFrom 89 = .ok (.getfield 31, 3) := by decide +kernel
theorem dX5_copyFrom_92 : decode cX5_copyFrom 92 = .ok (.iconst 0, 1) := by decide +kernel
theorem dX5_copyFrom_93 : decode cX5_copyFrom 93 = .ok (.bipush 6, 2) := by decide +kernel
theorem dX5_copyFrom_95 : decode cX5_copyFrom 95 = .ok (.invokestatic 34, 3) := by decide +kernel
theorem dX5_copyFrom_98 : decode cX5_copyFrom 98 = .ok (.return_, 1) := by decide +kernel
set_option maxHeartbeats 4000000 in
set_option maxRecDepth 100000 in
theorem c_X5_copyFrom (l : Launch) (B : Nat) (D : va_G) (cA : Nat → ClassId) (m : Mm) (x0 : Nat) (x1 : Nat) (mZ : Mm) (hf : f_X5_copyFrom m x0 x1 = some mZ) : Mt l B D cA yX5_copyFrom cX5_copyFrom 2 none 1 40 0 0 [.ref (B + x0), .ref (B + x1)] m none mZ := by
  refine r_start (by decide) (Nat.le_of_ble_eq_true rfl) ?_
  intro p e s mt args below meth c ls H locs X hr hlocks hnm hR hl hS
  have hx := X.1
  have hb := X.2.1
  have hl : lv_has ls 2 [(0, .ref (B + x0)), (1, .ref (B + x1))] := hl
  unfold f_X5_copyFrom at hf
  refine lv_aload_n hx hb dX5_copyFrom_0 rfl (lv_at hl 0 rfl) ?_
  refine lv_aload_n hx hb dX5_copyFrom_1 rfl (lv_at hl 1 rfl) ?_
  obtain ⟨v1, g2, hf⟩ := ob hf
  refine gI_X5_9 X hR g2 dX5_copyFrom_2 ?_
  obtain ⟨m3, g4, hf⟩ := ob hf
  refine pI_X5_9 X hR hS g4 dX5_copyFrom_5 (fun H locs hR hS => ?_)
  refine lv_aload_n hx hb dX5_copyFrom_8 rfl (lv_at hl 1 rfl) ?_
  obtain ⟨v5, g6, hf⟩ := ob hf
  refine gR_X5_15 X hR g6 dX5_copyFrom_9 ?_
  refine lv_iconst (v := 0) hx hb dX5_copyFrom_12 (by decide) ?_
  refine lv_aload_n hx hb dX5_copyFrom_13 rfl (lv_at hl 0 rfl) ?_
  obtain ⟨v7, g8, hf⟩ := ob hf
  refine gR_X5_15 X hR g8 dX5_copyFrom_14 ?_
  refine lv_iconst (v := 0) hx hb dX5_copyFrom_17 (by decide) ?_
  refine lv_bipush (v := 6) hx hb dX5_copyFrom_18 (by decide) ?_
  obtain ⟨m9, g10, hf⟩ := ob hf
  refine r_cI X hl.1 (tb2 67 rfl rfl) (tb2 62 rfl rfl) (tb2 61 rfl rfl) (tb1 11 rfl rfl) hR hS g10 (Nat.le_of_ble_eq_true rfl) (Nat.le_of_ble_eq_true rfl) dX5_copyFrom_20 (fun H locs hR hS => ?_)
  refine lv_aload_n hx hb dX5_copyFrom_23 rfl (lv_at hl 1 rfl) ?_
  obtain ⟨v11, g12, hf⟩ := ob hf
  refine gR_X5_19 X hR g12 dX5_copyFrom_24 ?_
  refine lv_iconst (v := 0) hx hb dX5_copyFrom_27 (by decide) ?_
  refine lv_aload_n hx hb dX5_copyFrom_28 rfl (lv_at hl 0 rfl) ?_
  obtain ⟨v13, g14, hf⟩ := ob hf
  refine gR_X5_19 X hR g14 dX5_copyFrom_29 ?_
  refine lv_iconst (v := 0) hx hb dX5_copyFrom_32 (by decide) ?_
  refine lv_bipush (v := 6) hx hb dX5_copyFrom_33 (by decide) ?_
  obtain ⟨m15, g16, hf⟩ := ob hf
  refine r_cI X hl.1 (tb2 67 rfl rfl) (tb2 62 rfl rfl) (tb2 61 rfl rfl) (tb1 11 rfl rfl) hR hS g16 (Nat.le_of_ble_eq_true rfl) (Nat.le_of_ble_eq_true rfl) dX5_copyFrom_35 (fun H locs hR hS => ?_)
  refine lv_aload_n hx hb dX5_copyFrom_38 rfl (lv_at hl 1 rfl) ?_
  obtain ⟨v17, g18, hf⟩ := ob hf
  refine gR_X5_22 X hR g18 dX5_copyFrom_39 ?_
  refine lv_iconst (v := 0) hx hb dX5_copyFrom_42 (by decide) ?_
  refine lv_aload_n hx hb dX5_copyFrom_43 rfl (lv_at hl 0 rfl) ?_
  obtain ⟨v19, g20, hf⟩ := ob hf
  refine gR_X5_22 X hR g20 dX5_copyFrom_44 ?_
  refine lv_iconst (v := 0) hx hb dX5_copyFrom_47 (by decide) ?_
  refine lv_bipush (v := 6) hx hb dX5_copyFrom_48 (by decide) ?_
  obtain ⟨m21, g22, hf⟩ := ob hf
  refine r_cI X hl.1 (tb2 67 rfl rfl) (tb2 62 rfl rfl) (tb2 61 rfl rfl) (tb1 11 rfl rfl) hR hS g22 (Nat.le_of_ble_eq_true rfl) (Nat.le_of_ble_eq_true rfl) dX5_copyFrom_50 (fun H locs hR hS => ?_)
  refine lv_aload_n hx hb dX5_copyFrom_53 rfl (lv_at hl 1 rfl) ?_
  obtain ⟨v23, g24, hf⟩ := ob hf
  refine gR_X5_25 X hR g24 dX5_copyFrom_54 ?_
  refine lv_iconst (v := 0) hx hb dX5_copyFrom_57 (by decide) ?_
  refine lv_aload_n hx hb dX5_copyFrom_58 rfl (lv_at hl 0 rfl) ?_
  obtain ⟨v25, g26, hf⟩ := ob hf
  refine gR_X5_25 X hR g26 dX5_copyFrom_59 ?_
  refine lv_iconst (v := 0) hx hb dX5_copyFrom_62 (by decide) ?_
  refine lv_bipush (v := 6) hx hb dX5_copyFrom_63 (by decide) ?_
  obtain ⟨m27, g28, hf⟩ := ob hf
  refine r_cI X hl.1 (tb2 67 rfl rfl) (tb2 62 rfl rfl) (tb2 61 rfl rfl) (tb1 11 rfl rfl) hR hS g28 (Nat.le_of_ble_eq_true rfl) (Nat.le_of_ble_eq_true rfl) dX5_copyFrom_65 (fun H locs hR hS => ?_)
  refine lv_aload_n hx hb dX5_copyFrom_68 rfl (lv_at hl 1 rfl) ?_
  obtain ⟨v29, g30, hf⟩ := ob hf
  refine gR_X5_28 X hR g30 dX5_copyFrom_69 ?_
  refine lv_iconst (v := 0) hx hb dX5_copyFrom_72 (by decide) ?_
  refine lv_aload_n hx hb dX5_copyFrom_73 rfl (lv_at hl 0 rfl) ?_
  obtain ⟨v31, g32, hf⟩ := ob hf
  refine gR_X5_28 X hR g32 dX5_copyFrom_74 ?_
  refine lv_iconst (v := 0) hx hb dX5_copyFrom_77 (by decide) ?_
  refine lv_bipush (v := 6) hx hb dX5_copyFrom_78 (by decide) ?_
  obtain ⟨m33, g34, hf⟩ := ob hf
  refine r_cI X hl.1 (tb2 67 rfl rfl) (tb2 62 rfl rfl) (tb2 61 rfl rfl) (tb1 11 rfl rfl) hR hS g34 (Nat.le_of_ble_eq_true rfl) (Nat.le_of_ble_eq_true rfl) dX5_copyFrom_80 (fun H locs hR hS => ?_)
  refine lv_aload_n hx hb dX5_copyFrom_83 rfl (lv_at hl 1 rfl) ?_
  obtain ⟨v35, g36, hf⟩ := ob hf
  refine gR_X5_31 X hR g36 dX5_copyFrom_84 ?_
  refine lv_iconst (v := 0) hx hb dX5_copyFrom_87 (by decide) ?_
  refine lv_aload_n hx hb dX5_copyFrom_88 rfl (lv_at hl 0 rfl) ?_
  obtain ⟨v37, g38, hf⟩ := ob hf
  refine gR_X5_31 X hR g38 dX5_copyFrom_89 ?_
  refine lv_iconst (v := 0) hx hb dX5_copyFrom_92 (by decide) ?_
  refine lv_bipush (v := 6) hx hb dX5_copyFrom_93 (by decide) ?_
  obtain ⟨m39, g40, hf⟩ := ob hf
  refine r_cI X hl.1 (tb2 67 rfl rfl) (tb2 62 rfl rfl) (tb2 61 rfl rfl) (tb1 11 rfl rfl) hR hS g40 (Nat.le_of_ble_eq_true rfl) (Nat.le_of_ble_eq_true rfl) dX5_copyFrom_95 (fun H locs hR hS => ?_)
  obtain rfl := Option.some.inj hf
  exact r_vret X hr hlocks hR hS dX5_copyFrom_98
/-! ===== TwigMatches$State.copyFrom(LTwigMatches$State;)V ===== -/
theorem dX2_copyFrom_0 : decode cX2_copyFrom 0 = .ok (.aload_n 0, 1) := by decide +kernel
theorem dX2_copyFrom_1 : decode cX2_copyFrom 1 = .ok (.getfield 12, 3) := by decide +kernel
theorem dX2_copyFrom_4 : decode cX2_copyFrom 4 = .ok (.aload_n 1, 1) := by decide +kernel
theorem dX2_copyFrom_5 : decode cX2_copyFrom 5 = .ok (.getfield 12, 3) := by decide +kernel
theorem dX2_copyFrom_8 : decode cX2_copyFrom 8 = .ok (.invokevirtual 25, 3) := by decide +kernel
theorem dX2_copyFrom_11 : decode cX2_copyFrom 11 = .ok (.iconst 0, 1) := by decide +kernel
theorem dX2_copyFrom_12 : decode cX2_copyFrom 12 = .ok (.istore_n 2, 1) := by decide +kernel
theorem dX2_copyFrom_13 : decode cX2_copyFrom 13 = .ok (.iload_n 2, 1) := by decide +kernel
theorem dX2_copyFrom_14 : decode cX2_copyFrom 14 = .ok (.iconst 4, 1) := by decide +kernel
theorem dX2_copyFrom_15 : decode cX2_copyFrom 15 = .ok (.if_icmp .ge 24, 3) := by decide +kernel
theorem dX2_copyFrom_18 : decode cX2_copyFrom 18 = .ok (.aload_n 0, 1) := by decide +kernel
theorem dX2_copyFrom_19 : decode cX2_copyFrom 19 = .ok (.getfield 20, 3) := by decide +kernel
theorem dX2_copyFrom_22 : decode cX2_copyFrom 22 = .ok (.iload_n 2, 1) := by decide +kernel
theorem dX2_copyFrom_23 : decode cX2_copyFrom 23 = .ok (.aaload, 1) := by decide +kernel
theorem dX2_copyFrom_24 : decode cX2_copyFrom 24 = .ok (.aload_n 1, 1) := by decide +kernel
theorem dX2_copyFrom_25 : decode cX2_copyFrom 25 = .ok (.getfield 20, 3) := by decide +kernel
theorem dX2_copyFrom_28 : decode cX2_copyFrom 28 = .ok (.iload_n 2, 1) := by decide +kernel
theorem dX2_copyFrom_29 : decode cX2_copyFrom 29 = .ok (.aaload, 1) := by decide +kernel
theorem dX2_copyFrom_30 : decode cX2_copyFrom 30 = .ok (.invokevirtual 29, 3) := by decide +kernel
theorem dX2_copyFrom_33 : decode cX2_copyFrom 33 = .ok (.iinc 2 1, 3) := by decide +kernel
theorem dX2_copyFrom_36 : decode cX2_copyFrom 36 = .ok (.goto (-23), 3) := by decide +kernel
theorem dX2_copyFrom_39 : decode cX2_copyFrom 39 = .ok (.return_, 1) := by decide +kernel
set_option maxHeartbeats 4000000 in
set_option maxRecDepth 100000 in
theorem c_X2_copyFrom (l : Launch) (B : Nat) (D : va_G) (cA : Nat → ClassId) (m : Mm) (x0 : Nat) (x1 : Nat) (mZ : Mm) (hf : f_X2_copyFrom m x0 x1 = some mZ) : Mt l B D cA yX2_copyFrom cX2_copyFrom 3 none 2 61 0 0 [.ref (B + x0), .ref (B + x1)] m none mZ := by
  refine r_start (by decide) (Nat.le_of_ble_eq_true rfl) ?_
  intro p e s mt args below meth c ls H locs X hr hlocks hnm hR hl hS
  have hx := X.1
  have hb := X.2.1
  have hl : lv_has ls 3 [(0, .ref (B + x0)), (1, .ref (B + x1))] := hl
  unfold f_X2_copyFrom at hf
  refine lv_aload_n hx hb dX2_copyFrom_0 rfl (lv_at hl 0 rfl) ?_
  obtain ⟨v1, g2, hf⟩ := ob hf
  refine gR_X2_12 X hR g2 dX2_copyFrom_1 ?_
  refine lv_aload_n hx hb dX2_copyFrom_4 rfl (lv_at hl 1 rfl) ?_
  obtain ⟨v3, g4, hf⟩ := ob hf
  refine gR_X2_12 X hR g4 dX2_copyFrom_5 ?_
  obtain ⟨o5, h6, hf⟩ := obO hf
  obtain ⟨m8, g7, hf⟩ := ob hf
  refine r_callV X kw_X2_25 (ci := 4) rfl (c_X4_copyFrom l B D cA m v1 v3 m8 g7) ⟨Nat.le_of_ble_eq_true rfl, Nat.le_of_ble_eq_true rfl⟩ h6 hR hS hl.1 rfl rfl (Nat.le_of_ble_eq_true rfl) ⟨Nat.le_of_ble_eq_true rfl, Nat.le_of_ble_eq_true rfl⟩ dX2_copyFrom_8 (fun H locs hR hS => ?_)
  refine W.eq (g2 := F0 mt 11 ls []) rfl ?_
  refine lv_iconst (v := 0) hx hb dX2_copyFrom_11 (by decide) ?_
  refine lv_istore_n (lv' := [(2, .int (0 : Int32)), (0, .ref (B + x0)), (1, .ref (B + x1))]) hx hb dX2_copyFrom_12 rfl hl (by decide) rfl (fun ls hl => ?_)
  obtain ⟨e10, hwe10, hf⟩ := ob hf
  refine whl_rule (P := (fun t9 => ∀ (H : Heap) (locs : List Loc) (ls : Array Slot), Rl B D cA t9.2 H → va_S (fun q => B ≤ q) s.heap H locs → lv_has ls 3 [(0, .ref (B + x0)), (1, .ref (B + x1)), (2, .int t9.1)] → W p l e (rmm 2 0 0 61) s mt args below meth c H locs 0 0 (MQ below (mQ B D cA none mZ) args s 0 0 (fun q => B ≤ q)) (F0 mt 13 ls []))) (Qx := (fun e10 => ∀ (H : Heap) (locs : List Loc) (ls : Array Slot), Rl B D cA e10 H → va_S (fun q => B ≤ q) s.heap H locs → lv_has ls 3 [] → W p l e (rmm 2 0 0 61) s mt args below meth c H locs 0 0 (MQ below (mQ B D cA none mZ) args s 0 0 (fun q => B ≤ q)) (F0 mt 39 ls []))) ?_ FU _ e10 hwe10 ?_ H locs ls hR hS (lv_sub hl [1, 2, 0] rfl)
  · clear hwe10 hf
    intro t9 q11 hf hxlq11 hxrq11 H locs ls hR hS hl
    obtain ⟨z12, m13⟩ := t9
    have hf : f_X2_copyFrom_L13 m13 x0 x1 z12 = some q11 := hf
    have hR : Rl B D cA m13 H := hR
    have hl : lv_has ls 3 [(0, .ref (B + x0)), (1, .ref (B + x1)), (2, .int z12)] := hl
    unfold f_X2_copyFrom_L13 at hf
    refine lv_iload_n hx hb dX2_copyFrom_13 rfl (lv_at hl 2 rfl) ?_
    refine lv_iconst (v := 4) hx hb dX2_copyFrom_14 (by decide) ?_
    refine lv_icmp_ge (tgt := 39) hx hb dX2_copyFrom_15 (by decide) (fun c14 => ?_) (fun c14 => ?_)
    · rw [if_pos c14] at hf
      obtain rfl := Option.some.inj hf
      exact hxrq11 _ rfl H locs ls hR hS (lv_sub hl [] rfl)
    · rw [if_neg c14] at hf
      refine lv_aload_n hx hb dX2_copyFrom_18 rfl (lv_at hl 0 rfl) ?_
      obtain ⟨v15, g16, hf⟩ := ob hf
      refine gR_X2_20 X hR g16 dX2_copyFrom_19 ?_
      refine lv_iload_n hx hb dX2_copyFrom_22 rfl (lv_at hl 2 rfl) ?_
      obtain ⟨v17, g18, hf⟩ := ob hf
      refine r_lR (k := 3) (ty := .object RX5) X hR rfl rfl g18 dX2_copyFrom_23 ?_
      refine lv_aload_n hx hb dX2_copyFrom_24 rfl (lv_at hl 1 rfl) ?_
      obtain ⟨v19, g20, hf⟩ := ob hf
      refine gR_X2_20 X hR g20 dX2_copyFrom_25 ?_
      refine lv_iload_n hx hb dX2_copyFrom_28 rfl (lv_at hl 2 rfl) ?_
      obtain ⟨v21, g22, hf⟩ := ob hf
      refine r_lR (k := 3) (ty := .object RX5) X hR rfl rfl g22 dX2_copyFrom_29 ?_
      obtain ⟨o23, h24, hf⟩ := obO hf
      obtain ⟨m26, g25, hf⟩ := ob hf
      refine r_callV X kw_X2_29 (ci := 5) rfl (c_X5_copyFrom l B D cA m13 v17 v21 m26 g25) ⟨Nat.le_of_ble_eq_true rfl, Nat.le_of_ble_eq_true rfl⟩ h24 hR hS hl.1 rfl rfl (Nat.le_of_ble_eq_true rfl) ⟨Nat.le_of_ble_eq_true rfl, Nat.le_of_ble_eq_true rfl⟩ dX2_copyFrom_30 (fun H locs hR hS => ?_)
      refine W.eq (g2 := F0 mt 33 ls []) rfl ?_
      refine lv_iinc (v := (z12 + 1)) (lv' := [(2, .int (z12 + 1)), (0, .ref (B + x0)), (1, .ref (B + x1))]) hx hb dX2_copyFrom_33 hl (k := 2) rfl (congrArg (fun z => z12 + z) (by decide)) (by decide) rfl (fun ls hl => ?_)
      refine lv_goto (tgt := 13) hx hb dX2_copyFrom_36 (by decide) ?_
      obtain rfl := Option.some.inj hf
      exact hxlq11 _ rfl H locs ls hR hS (lv_sub hl [1, 2, 0] rfl)
  · intro H locs ls hR hS hl
    obtain rfl := Option.some.inj hf
    exact r_vret X hr hlocks hR hS dX2_copyFrom_39
/-! ===== TwigMatches$State.existing()I ===== -/
theorem dX2_existing_0 : decode cX2_existing 0 = .ok (.iconst 0, 1) := by decide +kernel
theorem dX2_existing_1 : decode cX2_existing 1 = .ok (.istore_n 1, 1) := by decide +kernel
theorem dX2_existing_2 : decode cX2_existing 2 = .ok (.iconst 0, 1) := by decide +kernel
theorem dX2_existing_3 : decode cX2_existing 3 = .ok (.istore_n 2, 1) := by decide +kernel
theorem dX2_existing_4 : decode cX2_existing 4 = .ok (.iload_n 2, 1) := by decide +kernel
theorem dX2_existing_5 : decode cX2_existing 5 = .ok (.iconst 4, 1) := by decide +kernel
theorem dX2_existing_6 : decode cX2_existing 6 = .ok (.if_icmp .ge 27, 3) := by decide +kernel
theorem dX2_existing_9 : decode cX2_existing 9 = .ok (.aload_n 0, 1) := by decide +kernel
theorem dX2_existing_10 : decode cX2_existing 10 = .ok (.getfield 20, 3) := by decide +kernel
theorem dX2_existing_13 : decode cX2_existing 13 = .ok (.iload_n 2, 1) := by decide +kernel
theorem dX2_existing_14 : decode cX2_existing 14 = .ok (.aaload, 1) := by decide +kernel
theorem dX2_existing_15 : decode cX2_existing 15 = .ok (.getfield 32, 3) := by decide +kernel
theorem dX2_existing_18 : decode cX2_existing 18 = .ok (.ifCond .le 9, 3) := by decide +kernel
theorem dX2_existing_21 : decode cX2_existing 21 = .ok (.iload_n 1, 1) := by decide +kernel
theorem dX2_existing_22 : decode cX2_existing 22 = .ok (.iconst 1, 1) := by decide +kernel
theorem dX2_existing_23 : decode cX2_existing 23 = .ok (.iload_n 2, 1) := by decide +kernel
theorem dX2_existing_24 : decode cX2_existing 24 = .ok (.ishl, 1) := by decide +kernel
theorem dX2_existing_25 : decode cX2_existing 25 = .ok (.ior, 1) := by decide +kernel
theorem dX2_existing_26 : decode cX2_existing 26 = .ok (.istore_n 1, 1) := by decide +kernel
theorem dX2_existing_27 : decode cX2_existing 27 = .ok (.iinc 2 1, 3) := by decide +kernel
theorem dX2_existing_30 : decode cX2_existing 30 = .ok (.goto (-26), 3) := by decide +kernel
theorem dX2_existing_33 : decode cX2_existing 33 = .ok (.iload_n 1, 1) := by decide +kernel
theorem dX2_existing_34 : decode cX2_existing 34 = .ok (.ireturn, 1) := by decide +kernel
set_option maxHeartbeats 4000000 in
set_option maxRecDepth 100000 in
theorem c_X2_existing (l : Launch) (B : Nat) (D : va_G) (cA : Nat → ClassId) (m : Mm) (x0 : Nat) (rZ : Int32) (hf : f_X2_existing m x0 = some rZ) : Mt l B D cA yX2_existing cX2_existing 3 (some .int) 0 0 0 0 [.ref (B + x0)] m (some (.int rZ)) m := by
  refine r_start (by decide) (Nat.le_of_ble_eq_true rfl) ?_
  intro p e s mt args below meth c ls H locs X hr hlocks hnm hR hl hS
  have hx := X.1
  have hb := X.2.1
  have hl : lv_has ls 3 [(0, .ref (B + x0))] := hl
  unfold f_X2_existing at hf
  refine lv_iconst (v := 0) hx hb dX2_existing_0 (by decide) ?_
  refine lv_istore_n (lv' := [(1, .int (0 : Int32)), (0, .ref (B + x0))]) hx hb dX2_existing_1 rfl hl (by decide) rfl (fun ls hl => ?_)
  refine lv_iconst (v := 0) hx hb dX2_existing_2 (by decide) ?_
  refine lv_istore_n (lv' := [(2, .int (0 : Int32)), (1, .int (0 : Int32)), (0, .ref (B + x0))]) hx hb dX2_existing_3 rfl hl (by decide) rfl (fun ls hl => ?_)
  obtain ⟨e2, hwe2, hf⟩ := ob hf
  refine whl_rule (P := (fun t1 => ∀ (H : Heap) (locs : List Loc) (ls : Array Slot), Rl B D cA m H → va_S (fun q => B ≤ q) s.heap H locs → lv_has ls 3 [(0, .ref (B + x0)), (1, .int t1.1), (2, .int t1.2)] → W p l e (rmm 0 0 0 0) s mt args below meth c H locs 0 0 (MQ below (mQ B D cA (some (.int rZ)) m) args s 0 0 (fun q => B ≤ q)) (F0 mt 4 ls []))) (Qx := (fun e2 => ∀ (H : Heap) (locs : List Loc) (ls : Array Slot), Rl B D cA m H → va_S (fun q => B ≤ q) s.heap H locs → lv_has ls 3 [(1, .int e2)] → W p l e (rmm 0 0 0 0) s mt args below meth c H locs 0 0 (MQ below (mQ B D cA (some (.int rZ)) m) args s 0 0 (fun q => B ≤ q)) (F0 mt 33 ls []))) ?_ FU _ e2 hwe2 ?_ H locs ls hR hS (lv_sub hl [2, 1, 0] rfl)
  · clear hwe2 hf
    intro t1 q3 hf hxlq3 hxrq3 H locs ls hR hS hl
    obtain ⟨z4, z5⟩ := t1
    have hf : f_X2_existing_L4 m x0 z4 z5 = some q3 := hf
    have hR : Rl B D cA m H := hR
    have hl : lv_has ls 3 [(0, .ref (B + x0)), (1, .int z4), (2, .int z5)] := hl
    unfold f_X2_existing_L4 at hf
    refine lv_iload_n hx hb dX2_existing_4 rfl (lv_at hl 2 rfl) ?_
    refine lv_iconst (v := 4) hx hb dX2_existing_5 (by decide) ?_
    refine lv_icmp_ge (tgt := 33) hx hb dX2_existing_6 (by decide) (fun c6 => ?_) (fun c6 => ?_)
    · rw [if_pos c6] at hf
      obtain rfl := Option.some.inj hf
      exact hxrq3 _ rfl H locs ls hR hS (lv_sub hl [1] rfl)
    · rw [if_neg c6] at hf
      refine lv_aload_n hx hb dX2_existing_9 rfl (lv_at hl 0 rfl) ?_
      obtain ⟨v7, g8, hf⟩ := ob hf
      refine gR_X2_20 X hR g8 dX2_existing_10 ?_
      refine lv_iload_n hx hb dX2_existing_13 rfl (lv_at hl 2 rfl) ?_
      obtain ⟨v9, g10, hf⟩ := ob hf
      refine r_lR (k := 3) (ty := .object RX5) X hR rfl rfl g10 dX2_existing_14 ?_
      obtain ⟨v11, g12, hf⟩ := ob hf
      refine gI_X2_32 X hR g12 dX2_existing_15 ?_
      refine lv_if_le (tgt := 27) hx hb dX2_existing_18 (by decide) (fun c13 => ?_) (fun c13 => ?_)
      · rw [if_pos c13] at hf
        refine lv_iinc (v := (z5 + 1)) (lv' := [(2, .int (z5 + 1)), (0, .ref (B + x0)), (1, .int z4)]) hx hb dX2_existing_27 hl (k := 2) rfl (congrArg (fun z => z5 + z) (by decide)) (by decide) rfl (fun ls hl => ?_)
        refine lv_goto (tgt := 4) hx hb dX2_existing_30 (by decide) ?_
        obtain rfl := Option.some.inj hf
        exact hxlq3 _ rfl H locs ls hR hS (lv_sub hl [1, 2, 0] rfl)
      · rw [if_neg c13] at hf
        refine lv_iload_n hx hb dX2_existing_21 rfl (lv_at hl 1 rfl) ?_
        refine lv_iconst (v := 1) hx hb dX2_existing_22 (by decide) ?_
        refine lv_iload_n hx hb dX2_existing_23 rfl (lv_at hl 2 rfl) ?_
        refine lv_ishl hx hb dX2_existing_24 ?_
        refine lv_ior hx hb dX2_existing_25 ?_
        refine lv_istore_n (lv' := [(1, .int (z4 ||| ((1 : Int32) <<< (z5 &&& 31)))), (0, .ref (B + x0)), (2, .int z5)]) hx hb dX2_existing_26 rfl hl (by decide) rfl (fun ls hl => ?_)
        refine lv_iinc (v := (z5 + 1)) (lv' := [(2, .int (z5 + 1)), (1, .int (z4 ||| ((1 : Int32) <<< (z5 &&& 31)))), (0, .ref (B + x0))]) hx hb dX2_existing_27 hl (k := 2) rfl (congrArg (fun z => z5 + z) (by decide)) (by decide) rfl (fun ls hl => ?_)
        refine lv_goto (tgt := 4) hx hb dX2_existing_30 (by decide) ?_
        obtain rfl := Option.some.inj hf
        exact hxlq3 _ rfl H locs ls hR hS (lv_sub hl [2, 1, 0] rfl)
  · intro H locs ls hR hS hl
    refine lv_iload_n hx hb dX2_existing_33 rfl (lv_at hl 0 rfl) ?_
    obtain rfl := Option.some.inj hf
    exact r_iret X hr hlocks hR hS rfl dX2_existing_34
/-! ===== TwigMatches$Text.isLetter(I)Z ===== -/
theorem dX3_isLetter_0 : decode cX3_isLetter 0 = .ok (.iload_n 0, 1) := by decide +kernel
theorem dX3_isLetter_1 : decode cX3_isLetter 1 = .ok (.bipush 97, 2) := by decide +kernel
theorem dX3_isLetter_3 : decode cX3_isLetter 3 = .ok (.if_icmp .lt 13, 3) := by decide +kernel
theorem dX3_isLetter_6 : decode cX3_isLetter 6 = .ok (.iload_n 0, 1) := by decide +kernel
theorem dX3_isLetter_7 : decode cX3_isLetter 7 = .ok (.bipush 103, 2) := by decide +kernel
theorem dX3_isLetter_9 : decode cX3_isLetter 9 = .ok (.if_icmp .ge 7, 3) := by decide +kernel
theorem dX3_isLetter_12 : decode cX3_isLetter 12 = .ok (.iconst 1, 1) := by decide +kernel
theorem dX3_isLetter_13 : decode cX3_isLetter 13 = .ok (.goto 4, 3) := by decide +kernel
theorem dX3_isLetter_16 : decode cX3_isLetter 16 = .ok (.iconst 0, 1) := by decide +kernel
theorem dX3_isLetter_17 : decode cX3_isLetter 17 = .ok (.ireturn, 1) := by decide +kernel
set_option maxHeartbeats 4000000 in
set_option maxRecDepth 100000 in
theorem c_X3_isLetter (l : Launch) (B : Nat) (D : va_G) (cA : Nat → ClassId) (m : Mm) (x0 : Int32) (rZ : Int32) (hf : f_X3_isLetter m x0 = some rZ) : Mt l B D cA yX3_isLetter cX3_isLetter 1 (some .boolean) 0 0 0 0 [.int x0] m (some (.int rZ)) m := by
  refine r_start (by decide) (Nat.le_of_ble_eq_true rfl) ?_
  intro p e s mt args below meth c ls H locs X hr hlocks hnm hR hl hS
  have hx := X.1
  have hb := X.2.1
  have hl : lv_has ls 1 [(0, .int x0)] := hl
  unfold f_X3_isLetter at hf
  refine lv_iload_n hx hb dX3_isLetter_0 rfl (lv_at hl 0 rfl) ?_
  refine lv_bipush (v := 97) hx hb dX3_isLetter_1 (by decide) ?_
  refine lv_icmp_lt (tgt := 16) hx hb dX3_isLetter_3 (by decide) (fun c1 => ?_) (fun c1 => ?_)
  · rw [if_pos c1] at hf
    refine lv_iconst (v := 0) hx hb dX3_isLetter_16 (by decide) ?_
    obtain rfl := Option.some.inj hf
    exact r_iret X hr hlocks hR hS rfl dX3_isLetter_17
  · rw [if_neg c1] at hf
    refine lv_iload_n hx hb dX3_isLetter_6 rfl (lv_at hl 0 rfl) ?_
    refine lv_bipush (v := 103) hx hb dX3_isLetter_7 (by decide) ?_
    refine lv_icmp_ge (tgt := 16) hx hb dX3_isLetter_9 (by decide) (fun c2 => ?_) (fun c2 => ?_)
    · rw [if_pos c2] at hf
      refine lv_iconst (v := 0) hx hb dX3_isLetter_16 (by decide) ?_
      obtain rfl := Option.some.inj hf
      exact r_iret X hr hlocks hR hS rfl dX3_isLetter_17
    · rw [if_neg c2] at hf
      refine lv_iconst (v := 1) hx hb dX3_isLetter_12 (by decide) ?_
      refine lv_goto (tgt := 17) hx hb dX3_isLetter_13 (by decide) ?_
      obtain rfl := Option.some.inj hf
      exact r_iret X hr hlocks hR hS rfl dX3_isLetter_17
/-! ===== TwigMatches$Text.fault(II)I ===== -/
theorem dX3_fault_0 : decode cX3_fault 0 = .ok (.aload_n 0, 1) := by decide +kernel
theorem dX3_fault_1 : decode cX3_fault 1 = .ok (.iload_n 2, 1) := by decide +kernel
theorem dX3_fault_2 : decode cX3_fault 2 = .ok (.putfield 19, 3) := by decide +kernel
theorem dX3_fault_5 : decode cX3_fault 5 = .ok (.iload_n 1, 1) := by decide +kernel
theorem dX3_fault_6 : decode cX3_fault 6 = .ok (.ireturn, 1) := by decide +kernel
set_option maxHeartbeats 4000000 in
set_option maxRecDepth 100000 in
theorem c_X3_fault (l : Launch) (B : Nat) (D : va_G) (cA : Nat → ClassId) (m : Mm) (x0 : Nat) (x1 : Int32) (x2 : Int32) (rZ : Int32) (mZ : Mm) (hf : f_X3_fault m x0 x1 x2 = some (rZ, mZ)) : Mt l B D cA yX3_fault cX3_fault 3 (some .int) 0 0 0 0 [.ref (B + x0), .int x1, .int x2] m (some (.int rZ)) mZ := by
  refine r_start (by decide) (Nat.le_of_ble_eq_true rfl) ?_
  intro p e s mt args below meth c ls H locs X hr hlocks hnm hR hl hS
  have hx := X.1
  have hb := X.2.1
  have hl : lv_has ls 3 [(0, .ref (B + x0)), (1, .int x1), (2, .int x2)] := hl
  unfold f_X3_fault at hf
  refine lv_aload_n hx hb dX3_fault_0 rfl (lv_at hl 0 rfl) ?_
  refine lv_iload_n hx hb dX3_fault_1 rfl (lv_at hl 2 rfl) ?_
  obtain ⟨m1, g2, hf⟩ := ob hf
  refine pI_X3_19 X hR hS g2 dX3_fault_2 (fun H locs hR hS => ?_)
  refine lv_iload_n hx hb dX3_fault_5 rfl (lv_at hl 1 rfl) ?_
  obtain ⟨rfl, rfl⟩ := Prod.mk.inj (Option.some.inj hf)
  exact r_iret X hr hlocks hR hS rfl dX3_fault_6
/-! ===== TwigMatches$Tree.put(IIII)V ===== -/
theorem dX4_put_0 : decode cX4_put 0 = .ok (.aload_n 0, 1) := by decide +kernel
theorem dX4_put_1 : decode cX4_put 1 = .ok (.getfield 15, 3) := by decide +kernel
theorem dX4_put_4 : decode cX4_put 4 = .ok (.iload_n 1, 1) := by decide +kernel
theorem dX4_put_5 : decode cX4_put 5 = .ok (.iload_n 2, 1) := by decide +kernel
theorem dX4_put_6 : decode cX4_put 6 = .ok (.iastore, 1) := by decide +kernel
theorem dX4_put_7 : decode cX4_put 7 = .ok (.aload_n 0, 1) := by decide +kernel
theorem dX4_put_8 : decode cX4_put 8 = .ok (.getfield 19, 3) := by decide +kernel
theorem dX4_put_11 : decode cX4_put 11 = .ok (.iload_n 1, 1) := by decide +kernel
theorem dX4_put_12 : decode cX4_put 12 = .ok (.iload_n 3, 1) := by decide +kernel
theorem dX4_put_13 : decode cX4_put 13 = .ok (.iastore, 1) := by decide +kernel
theorem dX4_put_14 : decode cX4_put 14 = .ok (.aload_n 0, 1) := by decide +kernel
theorem dX4_put_15 : decode cX4_put 15 = .ok (.getfield 22, 3) := by decide +kernel
theorem dX4_put_18 : decode cX4_put 18 = .ok (.iload_n 1, 1) := by decide +kernel
theorem dX4_put_19 : decode cX4_put 19 = .ok (.iload 4, 2) := by decide +kernel
theorem dX4_put_21 : decode cX4_put 21 = .ok (.iastore, 1) := by decide +kernel
theorem dX4_put_22 : decode cX4_put 22 = .ok (.return_, 1) := by decide +kernel
set_option maxHeartbeats 4000000 in
set_option maxRecDepth 100000 in
theorem c_X4_put (l : Launch) (B : Nat) (D : va_G) (cA : Nat → ClassId) (m : Mm) (x0 : Nat) (x1 : Int32) (x2 : Int32) (x3 : Int32) (x4 : Int32) (mZ : Mm) (hf : f_X4_put m x0 x1 x2 x3 x4 = some mZ) : Mt l B D cA yX4_put cX4_put 5 none 0 0 0 0 [.ref (B + x0), .int x1, .int x2, .int x3, .int x4] m none mZ := by
  refine r_start (by decide) (Nat.le_of_ble_eq_true rfl) ?_
  intro p e s mt args below meth c ls H locs X hr hlocks hnm hR hl hS
  have hx := X.1
  have hb := X.2.1
  have hl : lv_has ls 5 [(0, .ref (B + x0)), (1, .int x1), (2, .int x2), (3, .int x3), (4, .int x4)] := hl
  unfold f_X4_put at hf
  refine lv_aload_n hx hb dX4_put_0 rfl (lv_at hl 0 rfl) ?_
  obtain ⟨v1, g2, hf⟩ := ob hf
  refine gR_X4_15 X hR g2 dX4_put_1 ?_
  refine lv_iload_n hx hb dX4_put_4 rfl (lv_at hl 1 rfl) ?_
  refine lv_iload_n hx hb dX4_put_5 rfl (lv_at hl 2 rfl) ?_
  obtain ⟨m3, g4, hf⟩ := ob hf
  refine r_sI X hR hS g4 dX4_put_6 (fun H locs hR hS => ?_)
  refine lv_aload_n hx hb dX4_put_7 rfl (lv_at hl 0 rfl) ?_
  obtain ⟨v5, g6, hf⟩ := ob hf
  refine gR_X4_19 X hR g6 dX4_put_8 ?_
  refine lv_iload_n hx hb dX4_put_11 rfl (lv_at hl 1 rfl) ?_
  refine lv_iload_n hx hb dX4_put_12 rfl (lv_at hl 3 rfl) ?_
  obtain ⟨m7, g8, hf⟩ := ob hf
  refine r_sI X hR hS g8 dX4_put_13 (fun H locs hR hS => ?_)
  refine lv_aload_n hx hb dX4_put_14 rfl (lv_at hl 0 rfl) ?_
  obtain ⟨v9, g10, hf⟩ := ob hf
  refine gR_X4_22 X hR g10 dX4_put_15 ?_
  refine lv_iload_n hx hb dX4_put_18 rfl (lv_at hl 1 rfl) ?_
  refine lv_iload hx hb dX4_put_19 (lv_at hl 4 rfl) ?_
  obtain ⟨m11, g12, hf⟩ := ob hf
  refine r_sI X hR hS g12 dX4_put_21 (fun H locs hR hS => ?_)
  obtain rfl := Option.some.inj hf
  exact r_vret X hr hlocks hR hS dX4_put_22
/-! ===== TwigMatches$Tree.append(II)V ===== -/
theorem dX4_append_0 : decode cX4_append 0 = .ok (.aload_n 0, 1) := by decide +kernel
theorem dX4_append_1 : decode cX4_append 1 = .ok (.getfield 9, 3) := by decide +kernel
theorem dX4_append_4 : decode cX4_append 4 = .ok (.bipush 32, 2) := by decide +kernel
theorem dX4_append_6 : decode cX4_append 6 = .ok (.if_icmp .ge 24, 3) := by decide +kernel
theorem dX4_append_9 : decode cX4_append 9 = .ok (.aload_n 0, 1) := by decide +kernel
theorem dX4_append_10 : decode cX4_append 10 = .ok (.aload_n 0, 1) := by decide +kernel
theorem dX4_append_11 : decode cX4_append 11 = .ok (.getfield 9, 3) := by decide +kernel
theorem dX4_append_14 : decode cX4_append 14 = .ok (.iload_n 1, 1) := by decide +kernel
theorem dX4_append_15 : decode cX4_append 15 = .ok (.iconst 0, 1) := by decide +kernel
theorem dX4_append_16 : decode cX4_append 16 = .ok (.iload_n 2, 1) := by decide +kernel
theorem dX4_append_17 : decode cX4_append 17 = .ok (.invokevirtual 37, 3) := by decide +kernel
theorem dX4_append_20 : decode cX4_append 20 = .ok (.aload_n 0, 1) := by decide +kernel
theorem dX4_append_21 : decode cX4_append 21 = .ok (.dup, 1) := by decide +kernel
theorem dX4_append_22 : decode cX4_append 22 = .ok (.getfield 9, 3) := by decide +kernel
theorem dX4_append_25 : decode cX4_append 25 = .ok (.iconst 1, 1) := by decide +kernel
theorem dX4_append_26 : decode cX4_append 26 = .ok (.iadd, 1) := by decide +kernel
theorem dX4_append_27 : decode cX4_append 27 = .ok (.putfield 9, 3) := by decide +kernel
theorem dX4_append_30 : decode cX4_append 30 = .ok (.return_, 1) := by decide +kernel
set_option maxHeartbeats 4000000 in
set_option maxRecDepth 100000 in
theorem c_X4_append (l : Launch) (B : Nat) (D : va_G) (cA : Nat → ClassId) (m : Mm) (x0 : Nat) (x1 : Int32) (x2 : Int32) (mZ : Mm) (hf : f_X4_append m x0 x1 x2 = some mZ) : Mt l B D cA yX4_append cX4_append 3 none 1 24 0 0 [.ref (B + x0), .int x1, .int x2] m none mZ := by
  refine r_start (by decide) (Nat.le_of_ble_eq_true rfl) ?_
  intro p e s mt args below meth c ls H locs X hr hlocks hnm hR hl hS
  have hx := X.1
  have hb := X.2.1
  have hl : lv_has ls 3 [(0, .ref (B + x0)), (1, .int x1), (2, .int x2)] := hl
  unfold f_X4_append at hf
  refine lv_aload_n hx hb dX4_append_0 rfl (lv_at hl 0 rfl) ?_
  obtain ⟨v1, g2, hf⟩ := ob hf
  refine gI_X4_9 X hR g2 dX4_append_1 ?_
  refine lv_bipush (v := 32) hx hb dX4_append_4 (by decide) ?_
  refine lv_icmp_ge (tgt := 30) hx hb dX4_append_6 (by decide) (fun c3 => ?_) (fun c3 => ?_)
  · rw [if_pos c3] at hf
    obtain rfl := Option.some.inj hf
    exact r_vret X hr hlocks hR hS dX4_append_30
  · rw [if_neg c3] at hf
    refine lv_aload_n hx hb dX4_append_9 rfl (lv_at hl 0 rfl) ?_
    refine lv_aload_n hx hb dX4_append_10 rfl (lv_at hl 0 rfl) ?_
    obtain ⟨v4, g5, hf⟩ := ob hf
    refine gI_X4_9 X hR g5 dX4_append_11 ?_
    refine lv_iload_n hx hb dX4_append_14 rfl (lv_at hl 1 rfl) ?_
    refine lv_iconst (v := 0) hx hb dX4_append_15 (by decide) ?_
    refine lv_iload_n hx hb dX4_append_16 rfl (lv_at hl 2 rfl) ?_
    obtain ⟨o6, h7, hf⟩ := obO hf
    obtain ⟨m9, g8, hf⟩ := ob hf
    refine r_callV X kw_X4_37 (ci := 4) rfl (c_X4_put l B D cA m x0 v4 x1 (0 : Int32) x2 m9 g8) ⟨Nat.le_of_ble_eq_true rfl, Nat.le_of_ble_eq_true rfl⟩ h7 hR hS hl.1 rfl rfl (Nat.le_of_ble_eq_true rfl) ⟨Nat.le_of_ble_eq_true rfl, Nat.le_of_ble_eq_true rfl⟩ dX4_append_17 (fun H locs hR hS => ?_)
    refine W.eq (g2 := F0 mt 20 ls []) rfl ?_
    refine lv_aload_n hx hb dX4_append_20 rfl (lv_at hl 0 rfl) ?_
    refine lv_dup hx hb dX4_append_21 rfl ?_
    obtain ⟨v10, g11, hf⟩ := ob hf
    refine gI_X4_9 X hR g11 dX4_append_22 ?_
    refine lv_iconst (v := 1) hx hb dX4_append_25 (by decide) ?_
    refine lv_iadd hx hb dX4_append_26 ?_
    obtain ⟨m12, g13, hf⟩ := ob hf
    refine pI_X4_9 X hR hS g13 dX4_append_27 (fun H locs hR hS => ?_)
    obtain rfl := Option.some.inj hf
    exact r_vret X hr hlocks hR hS dX4_append_30
/-! ===== TwigMatches$Text.isDigit(I)Z ===== -/
theorem dX3_isDigit_0 : decode cX3_isDigit 0 = .ok (.iload_n 0, 1) := by decide +kernel
theorem dX3_isDigit_1 : decode cX3_isDigit 1 = .ok (.bipush 48, 2) := by decide +kernel
theorem dX3_isDigit_3 : decode cX3_isDigit 3 = .ok (.if_icmp .lt 13, 3) := by decide +kernel
theorem dX3_isDigit_6 : decode cX3_isDigit 6 = .ok (.iload_n 0, 1) := by decide +kernel
theorem dX3_isDigit_7 : decode cX3_isDigit 7 = .ok (.bipush 58, 2) := by decide +kernel
theorem dX3_isDigit_9 : decode cX3_isDigit 9 = .ok (.if_icmp .ge 7, 3) := by decide +kernel
theorem dX3_isDigit_12 : decode cX3_isDigit 12 = .ok (.iconst 1, 1) := by decide +kernel
theorem dX3_isDigit_13 : decode cX3_isDigit 13 = .ok (.goto 4, 3) := by decide +kernel
theorem dX3_isDigit_16 : decode cX3_isDigit 16 = .ok (.iconst 0, 1) := by decide +kernel
theorem dX3_isDigit_17 : decode cX3_isDigit 17 = .ok (.ireturn, 1) := by decide +kernel
set_option maxHeartbeats 4000000 in
set_option maxRecDepth 100000 in
theorem c_X3_isDigit (l : Launch) (B : Nat) (D : va_G) (cA : Nat → ClassId) (m : Mm) (x0 : Int32) (rZ : Int32) (hf : f_X3_isDigit m x0 = some rZ) : Mt l B D cA yX3_isDigit cX3_isDigit 1 (some .boolean) 0 0 0 0 [.int x0] m (some (.int rZ)) m := by
  refine r_start (by decide) (Nat.le_of_ble_eq_true rfl) ?_
  intro p e s mt args below meth c ls H locs X hr hlocks hnm hR hl hS
  have hx := X.1
  have hb := X.2.1
  have hl : lv_has ls 1 [(0, .int x0)] := hl
  unfold f_X3_isDigit at hf
  refine lv_iload_n hx hb dX3_isDigit_0 rfl (lv_at hl 0 rfl) ?_
  refine lv_bipush (v := 48) hx hb dX3_isDigit_1 (by decide) ?_
  refine lv_icmp_lt (tgt := 16) hx hb dX3_isDigit_3 (by decide) (fun c1 => ?_) (fun c1 => ?_)
  · rw [if_pos c1] at hf
    refine lv_iconst (v := 0) hx hb dX3_isDigit_16 (by decide) ?_
    obtain rfl := Option.some.inj hf
    exact r_iret X hr hlocks hR hS rfl dX3_isDigit_17
  · rw [if_neg c1] at hf
    refine lv_iload_n hx hb dX3_isDigit_6 rfl (lv_at hl 0 rfl) ?_
    refine lv_bipush (v := 58) hx hb dX3_isDigit_7 (by decide) ?_
    refine lv_icmp_ge (tgt := 16) hx hb dX3_isDigit_9 (by decide) (fun c2 => ?_) (fun c2 => ?_)
    · rw [if_pos c2] at hf
      refine lv_iconst (v := 0) hx hb dX3_isDigit_16 (by decide) ?_
      obtain rfl := Option.some.inj hf
      exact r_iret X hr hlocks hR hS rfl dX3_isDigit_17
    · rw [if_neg c2] at hf
      refine lv_iconst (v := 1) hx hb dX3_isDigit_12 (by decide) ?_
      refine lv_goto (tgt := 17) hx hb dX3_isDigit_13 (by decide) ?_
      obtain rfl := Option.some.inj hf
      exact r_iret X hr hlocks hR hS rfl dX3_isDigit_17
/-! ===== TwigMatches$Text.isWhole(I)Z ===== -/
theorem dX3_isWhole_0 : decode cX3_isWhole 0 = .ok (.iload_n 0, 1) := by decide +kernel
theorem dX3_isWhole_1 : decode cX3_isWhole 1 = .ok (.iconst 3, 1) := by decide +kernel
theorem dX3_isWhole_2 : decode cX3_isWhole 2 = .ok (.if_icmp .eq 13, 3) := by decide +kernel
theorem dX3_isWhole_5 : decode cX3_isWhole 5 = .ok (.iload_n 0, 1) := by decide +kernel
theorem dX3_isWhole_6 : decode cX3_isWhole 6 = .ok (.iconst 4, 1) := by decide +kernel
theorem dX3_isWhole_7 : decode cX3_isWhole 7 = .ok (.if_icmp .eq 8, 3) := by decide +kernel
theorem dX3_isWhole_10 : decode cX3_isWhole 10 = .ok (.iload_n 0, 1) := by decide +kernel
theorem dX3_isWhole_11 : decode cX3_isWhole 11 = .ok (.iconst 5, 1) := by decide +kernel
theorem dX3_isWhole_12 : decode cX3_isWhole 12 = .ok (.if_icmp .ne 7, 3) := by decide +kernel
theorem dX3_isWhole_15 : decode cX3_isWhole 15 = .ok (.iconst 1, 1) := by decide +kernel
theorem dX3_isWhole_16 : decode cX3_isWhole 16 = .ok (.goto 4, 3) := by decide +kernel
theorem dX3_isWhole_19 : decode cX3_isWhole 19 = .ok (.iconst 0, 1) := by decide +kernel
theorem dX3_isWhole_20 : decode cX3_isWhole 20 = .ok (.ireturn, 1) := by decide +kernel
set_option maxHeartbeats 4000000 in
set_option maxRecDepth 100000 in
theorem c_X3_isWhole (l : Launch) (B : Nat) (D : va_G) (cA : Nat → ClassId) (m : Mm) (x0 : Int32) (rZ : Int32) (hf : f_X3_isWhole m x0 = some rZ) : Mt l B D cA yX3_isWhole cX3_isWhole 1 (some .boolean) 0 0 0 0 [.int x0] m (some (.int rZ)) m := by
  refine r_start (by decide) (Nat.le_of_ble_eq_true rfl) ?_
  intro p e s mt args below meth c ls H locs X hr hlocks hnm hR hl hS
  have hx := X.1
  have hb := X.2.1
  have hl : lv_has ls 1 [(0, .int x0)] := hl
  unfold f_X3_isWhole at hf
  refine lv_iload_n hx hb dX3_isWhole_0 rfl (lv_at hl 0 rfl) ?_
  refine lv_iconst (v := 3) hx hb dX3_isWhole_1 (by decide) ?_
  refine lv_icmp_eq (tgt := 15) hx hb dX3_isWhole_2 (by decide) (fun c1 => ?_) (fun c1 => ?_)
  · rw [if_pos c1] at hf
    refine lv_iconst (v := 1) hx hb dX3_isWhole_15 (by decide) ?_
    refine lv_goto (tgt := 20) hx hb dX3_isWhole_16 (by decide) ?_
    obtain rfl := Option.some.inj hf
    exact r_iret X hr hlocks hR hS rfl dX3_isWhole_20
  · rw [if_neg c1] at hf
    refine lv_iload_n hx hb dX3_isWhole_5 rfl (lv_at hl 0 rfl) ?_
    refine lv_iconst (v := 4) hx hb dX3_isWhole_6 (by decide) ?_
    refine lv_icmp_eq (tgt := 15) hx hb dX3_isWhole_7 (by decide) (fun c2 => ?_) (fun c2 => ?_)
    · rw [if_pos c2] at hf
      refine lv_iconst (v := 1) hx hb dX3_isWhole_15 (by decide) ?_
      refine lv_goto (tgt := 20) hx hb dX3_isWhole_16 (by decide) ?_
      obtain rfl := Option.some.inj hf
      exact r_iret X hr hlocks hR hS rfl dX3_isWhole_20
    · rw [if_neg c2] at hf
      refine lv_iload_n hx hb dX3_isWhole_10 rfl (lv_at hl 0 rfl) ?_
      refine lv_iconst (v := 5) hx hb dX3_isWhole_11 (by decide) ?_
      refine lv_icmp_ne (tgt := 19) hx hb dX3_isWhole_12 (by decide) (fun c3 => ?_) (fun c3 => ?_)
      · rw [if_neg c3] at hf
        refine lv_iconst (v := 0) hx hb dX3_isWhole_19 (by decide) ?_
        obtain rfl := Option.some.inj hf
        exact r_iret X hr hlocks hR hS rfl dX3_isWhole_20
      · rw [if_pos c3] at hf
        refine lv_iconst (v := 1) hx hb dX3_isWhole_15 (by decide) ?_
        refine lv_goto (tgt := 20) hx hb dX3_isWhole_16 (by decide) ?_
        obtain rfl := Option.some.inj hf
        exact r_iret X hr hlocks hR hS rfl dX3_isWhole_20
