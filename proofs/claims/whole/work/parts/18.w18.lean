/-! ===== TwigMatchesModel.fitsIn(III)Z ===== -/
theorem dX8_fitsIn_0 : decode cX8_fitsIn 0 = .ok (.aload_n 0, 1) := by decide +kernel
theorem dX8_fitsIn_1 : decode cX8_fitsIn 1 = .ok (.iload_n 1, 1) := by decide +kernel
theorem dX8_fitsIn_2 : decode cX8_fitsIn 2 = .ok (.iload_n 2, 1) := by decide +kernel
theorem dX8_fitsIn_3 : decode cX8_fitsIn 3 = .ok (.invokevirtual 105, 3) := by decide +kernel
theorem dX8_fitsIn_6 : decode cX8_fitsIn 6 = .ok (.bipush 6, 2) := by decide +kernel
theorem dX8_fitsIn_8 : decode cX8_fitsIn 8 = .ok (.if_icmp .eq 18, 3) := by decide +kernel
theorem dX8_fitsIn_11 : decode cX8_fitsIn 11 = .ok (.aload_n 0, 1) := by decide +kernel
theorem dX8_fitsIn_12 : decode cX8_fitsIn 12 = .ok (.iload_n 1, 1) := by decide +kernel
theorem dX8_fitsIn_13 : decode cX8_fitsIn 13 = .ok (.iload_n 2, 1) := by decide +kernel
theorem dX8_fitsIn_14 : decode cX8_fitsIn 14 = .ok (.invokevirtual 105, 3) := by decide +kernel
theorem dX8_fitsIn_17 : decode cX8_fitsIn 17 = .ok (.aload_n 0, 1) := by decide +kernel
theorem dX8_fitsIn_18 : decode cX8_fitsIn 18 = .ok (.getfield 17, 3) := by decide +kernel
theorem dX8_fitsIn_21 : decode cX8_fitsIn 21 = .ok (.iload_n 3, 1) := by decide +kernel
theorem dX8_fitsIn_22 : decode cX8_fitsIn 22 = .ok (.iaload, 1) := by decide +kernel
theorem dX8_fitsIn_23 : decode cX8_fitsIn 23 = .ok (.if_icmp .ne 22, 3) := by decide +kernel
theorem dX8_fitsIn_26 : decode cX8_fitsIn 26 = .ok (.aload_n 0, 1) := by decide +kernel
theorem dX8_fitsIn_27 : decode cX8_fitsIn 27 = .ok (.iload_n 1, 1) := by decide +kernel
theorem dX8_fitsIn_28 : decode cX8_fitsIn 28 = .ok (.iload_n 2, 1) := by decide +kernel
theorem dX8_fitsIn_29 : decode cX8_fitsIn 29 = .ok (.aload_n 0, 1) := by decide +kernel
theorem dX8_fitsIn_30 : decode cX8_fitsIn 30 = .ok (.getfield 20, 3) := by decide +kernel
theorem dX8_fitsIn_33 : decode cX8_fitsIn 33 = .ok (.iload_n 3, 1) := by decide +kernel
theorem dX8_fitsIn_34 : decode cX8_fitsIn 34 = .ok (.iaload, 1) := by decide +kernel
theorem dX8_fitsIn_35 : decode cX8_fitsIn 35 = .ok (.invokevirtual 102, 3) := by decide +kernel
theorem dX8_fitsIn_38 : decode cX8_fitsIn 38 = .ok (.ifCond .eq 7, 3) := by decide +kernel
theorem dX8_fitsIn_41 : decode cX8_fitsIn 41 = .ok (.iconst 1, 1) := by decide +kernel
theorem dX8_fitsIn_42 : decode cX8_fitsIn 42 = .ok (.goto 4, 3) := by decide +kernel
theorem dX8_fitsIn_45 : decode cX8_fitsIn 45 = .ok (.iconst 0, 1) := by decide +kernel
theorem dX8_fitsIn_46 : decode cX8_fitsIn 46 = .ok (.ireturn, 1) := by decide +kernel
set_option maxHeartbeats 4000000 in
set_option maxRecDepth 100000 in
theorem c_X8_fitsIn (l : Launch) (B : Nat) (D : va_G) (cA : Nat → ClassId) (m : Mm) (x0 : Nat) (x1 : Int32) (x2 : Int32) (x3 : Int32) (rZ : Int32) (hf : f_X8_fitsIn m x0 x1 x2 x3 = some rZ) : Mt l B D cA yX8_fitsIn cX8_fitsIn 4 (some .boolean) 2 47 0 0 [.ref (B + x0), .int x1, .int x2, .int x3] m (some (.int rZ)) m := by
  refine r_start (by decide) (Nat.le_of_ble_eq_true rfl) ?_
  intro p e s mt args below meth c ls H locs X hr hlocks hnm hR hl hS
  have hx := X.1
  have hb := X.2.1
  have hl : lv_has ls 4 [(0, .ref (B + x0)), (1, .int x1), (2, .int x2), (3, .int x3)] := hl
  unfold f_X8_fitsIn at hf
  refine lv_aload_n hx hb dX8_fitsIn_0 rfl (lv_at hl 0 rfl) ?_
  refine lv_iload_n hx hb dX8_fitsIn_1 rfl (lv_at hl 1 rfl) ?_
  refine lv_iload_n hx hb dX8_fitsIn_2 rfl (lv_at hl 2 rfl) ?_
  obtain ⟨o1, h2, hf⟩ := obO hf
  obtain ⟨v4, g3, hf⟩ := ob hf
  refine r_callV X kw_X8_105 (ci := 8) rfl (c_X8_tagOf l B D cA m x0 x1 x2 v4 g3) ⟨Nat.le_of_ble_eq_true rfl, Nat.le_of_ble_eq_true rfl⟩ h2 hR hS hl.1 rfl rfl (Nat.le_of_ble_eq_true rfl) ⟨Nat.le_of_ble_eq_true rfl, Nat.le_of_ble_eq_true rfl⟩ dX8_fitsIn_3 (fun H locs hR hS => ?_)
  refine W.eq (g2 := F0 mt 6 ls [.int v4]) rfl ?_
  refine lv_bipush (v := 6) hx hb dX8_fitsIn_6 (by decide) ?_
  have hJ26 : ∀  (H : Heap) (locs : List Loc) (ls : Array Slot), f_X8_fitsIn_J26 m x0 x1 x2 x3 = some rZ → Rl B D cA m H → va_S (fun q => B ≤ q) s.heap H locs → lv_has ls 4 [(0, .ref (B + x0)), (1, .int x1), (2, .int x2), (3, .int x3)] → W p l e (rmm 2 0 0 47) s mt args below meth c H locs 0 0 (MQ below (mQ B D cA (some (.int rZ)) m) args s 0 0 (fun q => B ≤ q)) (F0 mt 26 ls []) := by
    intro  H locs ls hf hR hS hl
    unfold f_X8_fitsIn_J26 at hf
    refine lv_aload_n hx hb dX8_fitsIn_26 rfl (lv_at hl 0 rfl) ?_
    refine lv_iload_n hx hb dX8_fitsIn_27 rfl (lv_at hl 1 rfl) ?_
    refine lv_iload_n hx hb dX8_fitsIn_28 rfl (lv_at hl 2 rfl) ?_
    refine lv_aload_n hx hb dX8_fitsIn_29 rfl (lv_at hl 0 rfl) ?_
    obtain ⟨v5, g6, hf⟩ := ob hf
    refine gR_X8_20 X hR g6 dX8_fitsIn_30 ?_
    refine lv_iload_n hx hb dX8_fitsIn_33 rfl (lv_at hl 3 rfl) ?_
    obtain ⟨v7, g8, hf⟩ := ob hf
    refine r_lI X hR g8 dX8_fitsIn_34 ?_
    obtain ⟨o9, h10, hf⟩ := obO hf
    obtain ⟨v12, g11, hf⟩ := ob hf
    refine r_callV X kw_X8_102 (ci := 8) rfl (c_X8_passes l B D cA m x0 x1 x2 v7 v12 g11) ⟨Nat.le_of_ble_eq_true rfl, Nat.le_of_ble_eq_true rfl⟩ h10 hR hS hl.1 rfl rfl (Nat.le_of_ble_eq_true rfl) ⟨Nat.le_of_ble_eq_true rfl, Nat.le_of_ble_eq_true rfl⟩ dX8_fitsIn_35 (fun H locs hR hS => ?_)
    refine W.eq (g2 := F0 mt 38 ls [.int v12]) rfl ?_
    refine lv_if_eq (tgt := 45) hx hb dX8_fitsIn_38 (by decide) (fun c13 => ?_) (fun c13 => ?_)
    · rw [if_pos c13] at hf
      refine lv_iconst (v := 0) hx hb dX8_fitsIn_45 (by decide) ?_
      obtain rfl := Option.some.inj hf
      exact r_iret X hr hlocks hR hS rfl dX8_fitsIn_46
    · rw [if_neg c13] at hf
      refine lv_iconst (v := 1) hx hb dX8_fitsIn_41 (by decide) ?_
      refine lv_goto (tgt := 46) hx hb dX8_fitsIn_42 (by decide) ?_
      obtain rfl := Option.some.inj hf
      exact r_iret X hr hlocks hR hS rfl dX8_fitsIn_46
  refine lv_icmp_eq (tgt := 26) hx hb dX8_fitsIn_8 (by decide) (fun c14 => ?_) (fun c14 => ?_)
  · rw [if_pos c14] at hf
    exact hJ26  H locs ls hf hR hS (lv_sub hl [0, 1, 2, 3] rfl)
  · rw [if_neg c14] at hf
    refine lv_aload_n hx hb dX8_fitsIn_11 rfl (lv_at hl 0 rfl) ?_
    refine lv_iload_n hx hb dX8_fitsIn_12 rfl (lv_at hl 1 rfl) ?_
    refine lv_iload_n hx hb dX8_fitsIn_13 rfl (lv_at hl 2 rfl) ?_
    obtain ⟨o15, h16, hf⟩ := obO hf
    obtain ⟨v18, g17, hf⟩ := ob hf
    refine r_callV X kw_X8_105 (ci := 8) rfl (c_X8_tagOf l B D cA m x0 x1 x2 v18 g17) ⟨Nat.le_of_ble_eq_true rfl, Nat.le_of_ble_eq_true rfl⟩ h16 hR hS hl.1 rfl rfl (Nat.le_of_ble_eq_true rfl) ⟨Nat.le_of_ble_eq_true rfl, Nat.le_of_ble_eq_true rfl⟩ dX8_fitsIn_14 (fun H locs hR hS => ?_)
    refine W.eq (g2 := F0 mt 17 ls [.int v18]) rfl ?_
    refine lv_aload_n hx hb dX8_fitsIn_17 rfl (lv_at hl 0 rfl) ?_
    obtain ⟨v19, g20, hf⟩ := ob hf
    refine gR_X8_17 X hR g20 dX8_fitsIn_18 ?_
    refine lv_iload_n hx hb dX8_fitsIn_21 rfl (lv_at hl 3 rfl) ?_
    obtain ⟨v21, g22, hf⟩ := ob hf
    refine r_lI X hR g22 dX8_fitsIn_22 ?_
    refine lv_icmp_ne (tgt := 45) hx hb dX8_fitsIn_23 (by decide) (fun c23 => ?_) (fun c23 => ?_)
    · rw [if_neg c23] at hf
      refine lv_iconst (v := 0) hx hb dX8_fitsIn_45 (by decide) ?_
      obtain rfl := Option.some.inj hf
      exact r_iret X hr hlocks hR hS rfl dX8_fitsIn_46
    · rw [if_pos c23] at hf
      exact hJ26  H locs ls hf hR hS (lv_sub hl [0, 1, 2, 3] rfl)
/-! ===== TwigMatchesModel.hasOrder(I)Z ===== -/
theorem dX8_hasOrder_0 : decode cX8_hasOrder 0 = .ok (.iconst 0, 1) := by decide +kernel
theorem dX8_hasOrder_1 : decode cX8_hasOrder 1 = .ok (.istore_n 2, 1) := by decide +kernel
theorem dX8_hasOrder_2 : decode cX8_hasOrder 2 = .ok (.iconst 0, 1) := by decide +kernel
theorem dX8_hasOrder_3 : decode cX8_hasOrder 3 = .ok (.istore_n 3, 1) := by decide +kernel
theorem dX8_hasOrder_4 : decode cX8_hasOrder 4 = .ok (.iload_n 3, 1) := by decide +kernel
theorem dX8_hasOrder_5 : decode cX8_hasOrder 5 = .ok (.aload_n 0, 1) := by decide +kernel
theorem dX8_hasOrder_6 : decode cX8_hasOrder 6 = .ok (.getfield 32, 3) := by decide +kernel
theorem dX8_hasOrder_9 : decode cX8_hasOrder 9 = .ok (.iload_n 1, 1) := by decide +kernel
theorem dX8_hasOrder_10 : decode cX8_hasOrder 10 = .ok (.iaload, 1) := by decide +kernel
theorem dX8_hasOrder_11 : decode cX8_hasOrder 11 = .ok (.if_icmp .ge 28, 3) := by decide +kernel
theorem dX8_hasOrder_14 : decode cX8_hasOrder 14 = .ok (.iload_n 2, 1) := by decide +kernel
theorem dX8_hasOrder_15 : decode cX8_hasOrder 15 = .ok (.ifCond .ne 12, 3) := by decide +kernel
theorem dX8_hasOrder_18 : decode cX8_hasOrder 18 = .ok (.aload_n 0, 1) := by decide +kernel
theorem dX8_hasOrder_19 : decode cX8_hasOrder 19 = .ok (.iload_n 1, 1) := by decide +kernel
theorem dX8_hasOrder_20 : decode cX8_hasOrder 20 = .ok (.iload_n 3, 1) := by decide +kernel
theorem dX8_hasOrder_21 : decode cX8_hasOrder 21 = .ok (.invokevirtual 109, 3) := by decide +kernel
theorem dX8_hasOrder_24 : decode cX8_hasOrder 24 = .ok (.ifCond .eq 7, 3) := by decide +kernel
theorem dX8_hasOrder_27 : decode cX8_hasOrder 27 = .ok (.iconst 1, 1) := by decide +kernel
theorem dX8_hasOrder_28 : decode cX8_hasOrder 28 = .ok (.goto 4, 3) := by decide +kernel
theorem dX8_hasOrder_31 : decode cX8_hasOrder 31 = .ok (.iconst 0, 1) := by decide +kernel
theorem dX8_hasOrder_32 : decode cX8_hasOrder 32 = .ok (.istore_n 2, 1) := by decide +kernel
theorem dX8_hasOrder_33 : decode cX8_hasOrder 33 = .ok (.iinc 3 1, 3) := by decide +kernel
theorem dX8_hasOrder_36 : decode cX8_hasOrder 36 = .ok (.goto (-32), 3) := by decide +kernel
theorem dX8_hasOrder_39 : decode cX8_hasOrder 39 = .ok (.iload_n 2, 1) := by decide +kernel
theorem dX8_hasOrder_40 : decode cX8_hasOrder 40 = .ok (.ireturn, 1) := by decide +kernel
set_option maxHeartbeats 4000000 in
set_option maxRecDepth 100000 in
theorem c_X8_hasOrder (l : Launch) (B : Nat) (D : va_G) (cA : Nat → ClassId) (m : Mm) (x0 : Nat) (x1 : Int32) (rZ : Int32) (hf : f_X8_hasOrder m x0 x1 = some rZ) : Mt l B D cA yX8_hasOrder cX8_hasOrder 4 (some .boolean) 2 44 0 0 [.ref (B + x0), .int x1] m (some (.int rZ)) m := by
  refine r_start (by decide) (Nat.le_of_ble_eq_true rfl) ?_
  intro p e s mt args below meth c ls H locs X hr hlocks hnm hR hl hS
  have hx := X.1
  have hb := X.2.1
  have hl : lv_has ls 4 [(0, .ref (B + x0)), (1, .int x1)] := hl
  unfold f_X8_hasOrder at hf
  refine lv_iconst (v := 0) hx hb dX8_hasOrder_0 (by decide) ?_
  refine lv_istore_n (lv' := [(2, .int (0 : Int32)), (0, .ref (B + x0)), (1, .int x1)]) hx hb dX8_hasOrder_1 rfl hl (by decide) rfl (fun ls hl => ?_)
  refine lv_iconst (v := 0) hx hb dX8_hasOrder_2 (by decide) ?_
  refine lv_istore_n (lv' := [(3, .int (0 : Int32)), (2, .int (0 : Int32)), (0, .ref (B + x0)), (1, .int x1)]) hx hb dX8_hasOrder_3 rfl hl (by decide) rfl (fun ls hl => ?_)
  obtain ⟨e2, hwe2, hf⟩ := ob hf
  refine whl_rule (P := (fun t1 => ∀ (H : Heap) (locs : List Loc) (ls : Array Slot), Rl B D cA m H → va_S (fun q => B ≤ q) s.heap H locs → lv_has ls 4 [(0, .ref (B + x0)), (1, .int x1), (2, .int t1.1), (3, .int t1.2)] → W p l e (rmm 2 0 0 44) s mt args below meth c H locs 0 0 (MQ below (mQ B D cA (some (.int rZ)) m) args s 0 0 (fun q => B ≤ q)) (F0 mt 4 ls []))) (Qx := (fun e2 => ∀ (H : Heap) (locs : List Loc) (ls : Array Slot), Rl B D cA m H → va_S (fun q => B ≤ q) s.heap H locs → lv_has ls 4 [(2, .int e2)] → W p l e (rmm 2 0 0 44) s mt args below meth c H locs 0 0 (MQ below (mQ B D cA (some (.int rZ)) m) args s 0 0 (fun q => B ≤ q)) (F0 mt 39 ls []))) ?_ FU _ e2 hwe2 ?_ H locs ls hR hS (lv_sub hl [2, 3, 1, 0] rfl)
  · clear hwe2 hf
    intro t1 q3 hf hxlq3 hxrq3 H locs ls hR hS hl
    obtain ⟨z4, z5⟩ := t1
    have hf : f_X8_hasOrder_L4 m x0 x1 z4 z5 = some q3 := hf
    have hR : Rl B D cA m H := hR
    have hl : lv_has ls 4 [(0, .ref (B + x0)), (1, .int x1), (2, .int z4), (3, .int z5)] := hl
    unfold f_X8_hasOrder_L4 at hf
    refine lv_iload_n hx hb dX8_hasOrder_4 rfl (lv_at hl 3 rfl) ?_
    refine lv_aload_n hx hb dX8_hasOrder_5 rfl (lv_at hl 0 rfl) ?_
    obtain ⟨v6, g7, hf⟩ := ob hf
    refine gR_X8_32 X hR g7 dX8_hasOrder_6 ?_
    refine lv_iload_n hx hb dX8_hasOrder_9 rfl (lv_at hl 1 rfl) ?_
    obtain ⟨v8, g9, hf⟩ := ob hf
    refine r_lI X hR g9 dX8_hasOrder_10 ?_
    refine lv_icmp_ge (tgt := 39) hx hb dX8_hasOrder_11 (by decide) (fun c10 => ?_) (fun c10 => ?_)
    · rw [if_pos c10] at hf
      obtain rfl := Option.some.inj hf
      exact hxrq3 _ rfl H locs ls hR hS (lv_sub hl [2] rfl)
    · rw [if_neg c10] at hf
      refine lv_iload_n hx hb dX8_hasOrder_14 rfl (lv_at hl 2 rfl) ?_
      refine lv_if_ne (tgt := 27) hx hb dX8_hasOrder_15 (by decide) (fun c11 => ?_) (fun c11 => ?_)
      · rw [if_neg c11] at hf
        refine lv_iconst (v := 1) hx hb dX8_hasOrder_27 (by decide) ?_
        refine lv_goto (tgt := 32) hx hb dX8_hasOrder_28 (by decide) ?_
        refine lv_istore_n (lv' := [(2, .int (1 : Int32)), (0, .ref (B + x0)), (1, .int x1), (3, .int z5)]) hx hb dX8_hasOrder_32 rfl hl (by decide) rfl (fun ls hl => ?_)
        refine lv_iinc (v := (z5 + 1)) (lv' := [(3, .int (z5 + 1)), (2, .int (1 : Int32)), (0, .ref (B + x0)), (1, .int x1)]) hx hb dX8_hasOrder_33 hl (k := 3) rfl (congrArg (fun z => z5 + z) (by decide)) (by decide) rfl (fun ls hl => ?_)
        refine lv_goto (tgt := 4) hx hb dX8_hasOrder_36 (by decide) ?_
        obtain rfl := Option.some.inj hf
        exact hxlq3 _ rfl H locs ls hR hS (lv_sub hl [2, 3, 1, 0] rfl)
      · rw [if_pos c11] at hf
        refine lv_aload_n hx hb dX8_hasOrder_18 rfl (lv_at hl 0 rfl) ?_
        refine lv_iload_n hx hb dX8_hasOrder_19 rfl (lv_at hl 1 rfl) ?_
        refine lv_iload_n hx hb dX8_hasOrder_20 rfl (lv_at hl 3 rfl) ?_
        obtain ⟨o12, h13, hf⟩ := obO hf
        obtain ⟨v15, g14, hf⟩ := ob hf
        refine r_callV X kw_X8_109 (ci := 8) rfl (c_X8_isOrdered l B D cA m x0 x1 z5 v15 g14) ⟨Nat.le_of_ble_eq_true rfl, Nat.le_of_ble_eq_true rfl⟩ h13 hR hS hl.1 rfl rfl (Nat.le_of_ble_eq_true rfl) ⟨Nat.le_of_ble_eq_true rfl, Nat.le_of_ble_eq_true rfl⟩ dX8_hasOrder_21 (fun H locs hR hS => ?_)
        refine W.eq (g2 := F0 mt 24 ls [.int v15]) rfl ?_
        refine lv_if_eq (tgt := 31) hx hb dX8_hasOrder_24 (by decide) (fun c16 => ?_) (fun c16 => ?_)
        · rw [if_pos c16] at hf
          refine lv_iconst (v := 0) hx hb dX8_hasOrder_31 (by decide) ?_
          refine lv_istore_n (lv' := [(2, .int (0 : Int32)), (0, .ref (B + x0)), (1, .int x1), (3, .int z5)]) hx hb dX8_hasOrder_32 rfl hl (by decide) rfl (fun ls hl => ?_)
          refine lv_iinc (v := (z5 + 1)) (lv' := [(3, .int (z5 + 1)), (2, .int (0 : Int32)), (0, .ref (B + x0)), (1, .int x1)]) hx hb dX8_hasOrder_33 hl (k := 3) rfl (congrArg (fun z => z5 + z) (by decide)) (by decide) rfl (fun ls hl => ?_)
          refine lv_goto (tgt := 4) hx hb dX8_hasOrder_36 (by decide) ?_
          obtain rfl := Option.some.inj hf
          exact hxlq3 _ rfl H locs ls hR hS (lv_sub hl [2, 3, 1, 0] rfl)
        · rw [if_neg c16] at hf
          refine lv_iconst (v := 1) hx hb dX8_hasOrder_27 (by decide) ?_
          refine lv_goto (tgt := 32) hx hb dX8_hasOrder_28 (by decide) ?_
          refine lv_istore_n (lv' := [(2, .int (1 : Int32)), (0, .ref (B + x0)), (1, .int x1), (3, .int z5)]) hx hb dX8_hasOrder_32 rfl hl (by decide) rfl (fun ls hl => ?_)
          refine lv_iinc (v := (z5 + 1)) (lv' := [(3, .int (z5 + 1)), (2, .int (1 : Int32)), (0, .ref (B + x0)), (1, .int x1)]) hx hb dX8_hasOrder_33 hl (k := 3) rfl (congrArg (fun z => z5 + z) (by decide)) (by decide) rfl (fun ls hl => ?_)
          refine lv_goto (tgt := 4) hx hb dX8_hasOrder_36 (by decide) ?_
          obtain rfl := Option.some.inj hf
          exact hxlq3 _ rfl H locs ls hR hS (lv_sub hl [2, 3, 1, 0] rfl)
  · intro H locs ls hR hS hl
    refine lv_iload_n hx hb dX8_hasOrder_39 rfl (lv_at hl 0 rfl) ?_
    obtain ⟨h17, hf⟩ := obB hf
    obtain rfl := Option.some.inj hf
    exact r_iret X hr hlocks hR hS h17 dX8_hasOrder_40
/-! ===== TwigMatchesModel.isWithin(III)Z ===== -/
theorem dX8_isWithin_0 : decode cX8_isWithin 0 = .ok (.iload_n 2, 1) := by decide +kernel
theorem dX8_isWithin_1 : decode cX8_isWithin 1 = .ok (.istore 4, 2) := by decide +kernel
theorem dX8_isWithin_3 : decode cX8_isWithin 3 = .ok (.iload 4, 2) := by decide +kernel
theorem dX8_isWithin_5 : decode cX8_isWithin 5 = .ok (.iconst (-1), 1) := by decide +kernel
theorem dX8_isWithin_6 : decode cX8_isWithin 6 = .ok (.if_icmp .eq 21, 3) := by decide +kernel
theorem dX8_isWithin_9 : decode cX8_isWithin 9 = .ok (.iload 4, 2) := by decide +kernel
theorem dX8_isWithin_11 : decode cX8_isWithin 11 = .ok (.iload_n 3, 1) := by decide +kernel
theorem dX8_isWithin_12 : decode cX8_isWithin 12 = .ok (.if_icmp .eq 15, 3) := by decide +kernel
theorem dX8_isWithin_15 : decode cX8_isWithin 15 = .ok (.aload_n 0, 1) := by decide +kernel
theorem dX8_isWithin_16 : decode cX8_isWithin 16 = .ok (.iload_n 1, 1) := by decide +kernel
theorem dX8_isWithin_17 : decode cX8_isWithin 17 = .ok (.iload 4, 2) := by decide +kernel
theorem dX8_isWithin_19 : decode cX8_isWithin 19 = .ok (.invokevirtual 113, 3) := by decide +kernel
theorem dX8_isWithin_22 : decode cX8_isWithin 22 = .ok (.istore 4, 2) := by decide +kernel
theorem dX8_isWithin_24 : decode cX8_isWithin 24 = .ok (.goto (-21), 3) := by decide +kernel
theorem dX8_isWithin_27 : decode cX8_isWithin 27 = .ok (.iload 4, 2) := by decide +kernel
theorem dX8_isWithin_29 : decode cX8_isWithin 29 = .ok (.iload_n 3, 1) := by decide +kernel
theorem dX8_isWithin_30 : decode cX8_isWithin 30 = .ok (.if_icmp .ne 7, 3) := by decide +kernel
theorem dX8_isWithin_33 : decode cX8_isWithin 33 = .ok (.iconst 1, 1) := by decide +kernel
theorem dX8_isWithin_34 : decode cX8_isWithin 34 = .ok (.goto 4, 3) := by decide +kernel
theorem dX8_isWithin_37 : decode cX8_isWithin 37 = .ok (.iconst 0, 1) := by decide +kernel
theorem dX8_isWithin_38 : decode cX8_isWithin 38 = .ok (.ireturn, 1) := by decide +kernel
set_option maxHeartbeats 4000000 in
set_option maxRecDepth 100000 in
theorem c_X8_isWithin (l : Launch) (B : Nat) (D : va_G) (cA : Nat → ClassId) (m : Mm) (x0 : Nat) (x1 : Int32) (x2 : Int32) (x3 : Int32) (rZ : Int32) (hf : f_X8_isWithin m x0 x1 x2 x3 = some rZ) : Mt l B D cA yX8_isWithin cX8_isWithin 5 (some .boolean) 2 44 0 0 [.ref (B + x0), .int x1, .int x2, .int x3] m (some (.int rZ)) m := by
  refine r_start (by decide) (Nat.le_of_ble_eq_true rfl) ?_
  intro p e s mt args below meth c ls H locs X hr hlocks hnm hR hl hS
  have hx := X.1
  have hb := X.2.1
  have hl : lv_has ls 5 [(0, .ref (B + x0)), (1, .int x1), (2, .int x2), (3, .int x3)] := hl
  unfold f_X8_isWithin at hf
  refine lv_iload_n hx hb dX8_isWithin_0 rfl (lv_at hl 2 rfl) ?_
  refine lv_istore (lv' := [(4, .int x2), (0, .ref (B + x0)), (1, .int x1), (2, .int x2), (3, .int x3)]) hx hb dX8_isWithin_1 hl (by decide) rfl (fun ls hl => ?_)
  obtain ⟨e2, hwe2, hf⟩ := ob hf
  refine whl_rule (P := (fun t1 => ∀ (H : Heap) (locs : List Loc) (ls : Array Slot), Rl B D cA m H → va_S (fun q => B ≤ q) s.heap H locs → lv_has ls 5 [(0, .ref (B + x0)), (1, .int x1), (3, .int x3), (4, .int t1)] → W p l e (rmm 2 0 0 44) s mt args below meth c H locs 0 0 (MQ below (mQ B D cA (some (.int rZ)) m) args s 0 0 (fun q => B ≤ q)) (F0 mt 3 ls []))) (Qx := (fun e2 => ∀ (H : Heap) (locs : List Loc) (ls : Array Slot), Rl B D cA m H → va_S (fun q => B ≤ q) s.heap H locs → lv_has ls 5 [(3, .int x3), (4, .int e2)] → W p l e (rmm 2 0 0 44) s mt args below meth c H locs 0 0 (MQ below (mQ B D cA (some (.int rZ)) m) args s 0 0 (fun q => B ≤ q)) (F0 mt 27 ls []))) ?_ FU _ e2 hwe2 ?_ H locs ls hR hS (lv_sub hl [1, 2, 4, 0] rfl)
  · clear hwe2 hf
    intro t1 q3 hf hxlq3 hxrq3 H locs ls hR hS hl
    have hf : f_X8_isWithin_L3 m x0 x1 x3 t1 = some q3 := hf
    have hR : Rl B D cA m H := hR
    have hl : lv_has ls 5 [(0, .ref (B + x0)), (1, .int x1), (3, .int x3), (4, .int t1)] := hl
    unfold f_X8_isWithin_L3 at hf
    refine lv_iload hx hb dX8_isWithin_3 (lv_at hl 3 rfl) ?_
    refine lv_iconst (v := -1) hx hb dX8_isWithin_5 (by decide) ?_
    refine lv_icmp_eq (tgt := 27) hx hb dX8_isWithin_6 (by decide) (fun c5 => ?_) (fun c5 => ?_)
    · rw [if_pos c5] at hf
      obtain rfl := Option.some.inj hf
      exact hxrq3 _ rfl H locs ls hR hS (lv_sub hl [2, 3] rfl)
    · rw [if_neg c5] at hf
      refine lv_iload hx hb dX8_isWithin_9 (lv_at hl 3 rfl) ?_
      refine lv_iload_n hx hb dX8_isWithin_11 rfl (lv_at hl 2 rfl) ?_
      refine lv_icmp_eq (tgt := 27) hx hb dX8_isWithin_12 (by decide) (fun c6 => ?_) (fun c6 => ?_)
      · rw [if_pos c6] at hf
        obtain rfl := Option.some.inj hf
        exact hxrq3 _ rfl H locs ls hR hS (lv_sub hl [2, 3] rfl)
      · rw [if_neg c6] at hf
        refine lv_aload_n hx hb dX8_isWithin_15 rfl (lv_at hl 0 rfl) ?_
        refine lv_iload_n hx hb dX8_isWithin_16 rfl (lv_at hl 1 rfl) ?_
        refine lv_iload hx hb dX8_isWithin_17 (lv_at hl 3 rfl) ?_
        obtain ⟨o7, h8, hf⟩ := obO hf
        obtain ⟨v10, g9, hf⟩ := ob hf
        refine r_callV X kw_X8_113 (ci := 8) rfl (c_X8_ofNode l B D cA m x0 x1 t1 v10 g9) ⟨Nat.le_of_ble_eq_true rfl, Nat.le_of_ble_eq_true rfl⟩ h8 hR hS hl.1 rfl rfl (Nat.le_of_ble_eq_true rfl) ⟨Nat.le_of_ble_eq_true rfl, Nat.le_of_ble_eq_true rfl⟩ dX8_isWithin_19 (fun H locs hR hS => ?_)
        refine W.eq (g2 := F0 mt 22 ls [.int v10]) rfl ?_
        refine lv_istore (lv' := [(4, .int v10), (0, .ref (B + x0)), (1, .int x1), (3, .int x3)]) hx hb dX8_isWithin_22 hl (by decide) rfl (fun ls hl => ?_)
        refine lv_goto (tgt := 3) hx hb dX8_isWithin_24 (by decide) ?_
        obtain rfl := Option.some.inj hf
        exact hxlq3 _ rfl H locs ls hR hS (lv_sub hl [1, 2, 3, 0] rfl)
  · intro H locs ls hR hS hl
    refine lv_iload hx hb dX8_isWithin_27 (lv_at hl 1 rfl) ?_
    refine lv_iload_n hx hb dX8_isWithin_29 rfl (lv_at hl 0 rfl) ?_
    refine lv_icmp_ne (tgt := 37) hx hb dX8_isWithin_30 (by decide) (fun c11 => ?_) (fun c11 => ?_)
    · rw [if_neg c11] at hf
      refine lv_iconst (v := 0) hx hb dX8_isWithin_37 (by decide) ?_
      obtain rfl := Option.some.inj hf
      exact r_iret X hr hlocks hR hS rfl dX8_isWithin_38
    · rw [if_pos c11] at hf
      refine lv_iconst (v := 1) hx hb dX8_isWithin_33 (by decide) ?_
      refine lv_goto (tgt := 38) hx hb dX8_isWithin_34 (by decide) ?_
      obtain rfl := Option.some.inj hf
      exact r_iret X hr hlocks hR hS rfl dX8_isWithin_38
/-! ===== TwigMatchesModel.leavesState()V ===== -/
theorem dX8_leavesState_0 : decode cX8_leavesState 0 = .ok (.aload_n 0, 1) := by decide +kernel
theorem dX8_leavesState_1 : decode cX8_leavesState 1 = .ok (.getfield 116, 3) := by decide +kernel
theorem dX8_leavesState_4 : decode cX8_leavesState 4 = .ok (.bipush 8, 2) := by decide +kernel
theorem dX8_leavesState_6 : decode cX8_leavesState 6 = .ok (.if_icmp .ne 44, 3) := by decide +kernel
theorem dX8_leavesState_9 : decode cX8_leavesState 9 = .ok (.iconst 0, 1) := by decide +kernel
theorem dX8_leavesState_10 : decode cX8_leavesState 10 = .ok (.istore_n 1, 1) := by decide +kernel
theorem dX8_leavesState_11 : decode cX8_leavesState 11 = .ok (.iload_n 1, 1) := by decide +kernel
theorem dX8_leavesState_12 : decode cX8_leavesState 12 = .ok (.sipush 1715, 3) := by decide +kernel
theorem dX8_leavesState_15 : decode cX8_leavesState 15 = .ok (.if_icmp .ge 25, 3) := by decide +kernel
theorem dX8_leavesState_18 : decode cX8_leavesState 18 = .ok (.aload_n 0, 1) := by decide +kernel
theorem dX8_leavesState_19 : decode cX8_leavesState 19 = .ok (.getfield 38, 3) := by decide +kernel
theorem dX8_leavesState_22 : decode cX8_leavesState 22 = .ok (.iload_n 1, 1) := by decide +kernel
theorem dX8_leavesState_23 : decode cX8_leavesState 23 = .ok (.aload_n 0, 1) := by decide +kernel
theorem dX8_leavesState_24 : decode cX8_leavesState 24 = .ok (.getfield 38, 3) := by decide +kernel
theorem dX8_leavesState_27 : decode cX8_leavesState 27 = .ok (.iload_n 1, 1) := by decide +kernel
theorem dX8_leavesState_28 : decode cX8_leavesState 28 = .ok (.sipush 245, 3) := by decide +kernel
theorem dX8_leavesState_31 : decode cX8_leavesState 31 = .ok (.iadd, 1) := by decide +kernel
theorem dX8_leavesState_32 : decode cX8_leavesState 32 = .ok (.iaload, 1) := by decide +kernel
theorem dX8_leavesState_33 : decode cX8_leavesState 33 = .ok (.iastore, 1) := by decide +kernel
theorem dX8_leavesState_34 : decode cX8_leavesState 34 = .ok (.iinc 1 1, 3) := by decide +kernel
theorem dX8_leavesState_37 : decode cX8_leavesState 37 = .ok (.goto (-26), 3) := by decide +kernel
theorem dX8_leavesState_40 : decode cX8_leavesState 40 = .ok (.aload_n 0, 1) := by decide +kernel
theorem dX8_leavesState_41 : decode cX8_leavesState 41 = .ok (.dup, 1) := by decide +kernel
theorem dX8_leavesState_42 : decode cX8_leavesState 42 = .ok (.getfield 116, 3) := by decide +kernel
theorem dX8_leavesState_45 : decode cX8_leavesState 45 = .ok (.iconst 1, 1) := by decide +kernel
theorem dX8_leavesState_46 : decode cX8_leavesState 46 = .ok (.isub, 1) := by decide +kernel
theorem dX8_leavesState_47 : decode cX8_leavesState 47 = .ok (.putfield 116, 3) := by decide +kernel
theorem dX8_leavesState_50 : decode cX8_leavesState 50 = .ok (.sipush 245, 3) := by decide +kernel
theorem dX8_leavesState_53 : decode cX8_leavesState 53 = .ok (.aload_n 0, 1) := by decide +kernel
theorem dX8_leavesState_54 : decode cX8_leavesState 54 = .ok (.getfield 116, 3) := by decide +kernel
theorem dX8_leavesState_57 : decode cX8_leavesState 57 = .ok (.imul, 1) := by decide +kernel
theorem dX8_leavesState_58 : decode cX8_leavesState 58 = .ok (.istore_n 1, 1) := by decide +kernel
theorem dX8_leavesState_59 : decode cX8_leavesState 59 = .ok (.aload_n 0, 1) := by decide +kernel
theorem dX8_leavesState_60 : decode cX8_leavesState 60 = .ok (.getfield 38, 3) := by decide +kernel
theorem dX8_leavesState_63 : decode cX8_leavesState 63 = .ok (.iload_n 1, 1) := by decide +kernel
theorem dX8_leavesState_64 : decode cX8_leavesState 64 = .ok (.aload_n 0, 1) := by decide +kernel
theorem dX8_leavesState_65 : decode cX8_leavesState 65 = .ok (.getfield 13, 3) := by decide +kernel
theorem dX8_leavesState_68 : decode cX8_leavesState 68 = .ok (.iastore, 1) := by decide +kernel
theorem dX8_leavesState_69 : decode cX8_leavesState 69 = .ok (.iconst 0, 1) := by decide +kernel
theorem dX8_leavesState_70 : decode cX8_leavesState 70 = .ok (.istore_n 2, 1) := by decide +kernel
theorem dX8_leavesState_71 : decode cX8_leavesState 71 = .ok (.iload_n 2, 1) := by decide +kernel
theorem dX8_leavesState_72 : decode cX8_leavesState 72 = .ok (.bipush 32, 2) := by decide +kernel
theorem dX8_leavesState_74 : decode cX8_leavesState 74 = .ok (.if_icmp .ge 59, 3) := by decide +kernel
theorem dX8_leavesState_77 : decode cX8_leavesState 77 = .ok (.aload_n 0, 1) := by decide +kernel
theorem dX8_leavesState_78 : decode cX8_leavesState 78 = .ok (.getfield 38, 3) := by decide +kernel
theorem dX8_leavesState_81 : decode cX8_leavesState 81 = .ok (.iload_n 1, 1) := by decide +kernel
theorem dX8_leavesState_82 : decode cX8_leavesState 82 = .ok (.iconst 1, 1) := by decide +kernel
theorem dX8_leavesState_83 : decode cX8_leavesState 83 = .ok (.iadd, 1) := by decide +kernel
theorem dX8_leavesState_84 : decode cX8_leavesState 84 = .ok (.iload_n 2, 1) := by decide +kernel
theorem dX8_leavesState_85 : decode cX8_leavesState 85 = .ok (.iadd, 1) := by decide +kernel
theorem dX8_leavesState_86 : decode cX8_leavesState 86 = .ok (.aload_n 0, 1) := by decide +kernel
theorem dX8_leavesState_87 : decode cX8_leavesState 87 = .ok (.getfield 17, 3) := by decide +kernel
theorem dX8_leavesState_90 : decode cX8_leavesState 90 = .ok (.iload_n 2, 1) := by decide +kernel
theorem dX8_leavesState_91 : decode cX8_leavesState 91 = .ok (.iaload, 1) := by decide +kernel
theorem dX8_leavesState_92 : decode cX8_leavesState 92 = .ok (.iastore, 1) := by decide +kernel
theorem dX8_leavesState_93 : decode cX8_leavesState 93 = .ok (.aload_n 0, 1) := by decide +kernel
theorem dX8_leavesState_94 : decode cX8_leavesState 94 = .ok (.getfield 38, 3) := by decide +kernel
theorem dX8_leavesState_97 : decode cX8_leavesState 97 = .ok (.iload_n 1, 1) := by decide +kernel
theorem dX8_leavesState_98 : decode cX8_leavesState 98 = .ok (.bipush 33, 2) := by decide +kernel
theorem dX8_leavesState_100 : decode cX8_leavesState 100 = .ok (.iadd, 1) := by decide +kernel
theorem dX8_leavesState_101 : decode cX8_leavesState 101 = .ok (.iload_n 2, 1) := by decide +kernel
theorem dX8_leavesState_102 : decode cX8_leavesState 102 = .ok (.iadd, 1) := by decide +kernel
theorem dX8_leavesState_103 : decode cX8_leavesState 103 = .ok (.aload_n 0, 1) := by decide +kernel
theorem dX8_leavesState_104 : decode cX8_leavesState 104 = .ok (.getfield 20, 3) := by decide +kernel
theorem dX8_leavesState_107 : decode cX8_leavesState 107 = .ok (.iload_n 2, 1) := by decide +kernel
theorem dX8_leavesState_108 : decode cX8_leavesState 108 = .ok (.iaload, 1) := by decide +kernel
theorem dX8_leavesState_109 : decode cX8_leavesState 109 = .ok (.iastore, 1) := by decide +kernel
theorem dX8_leavesState_110 : decode cX8_leavesState 110 = .ok (.aload_n 0, 1) := by decide +kernel
theorem dX8_leavesState_111 : decode cX8_leavesState 111 = .ok (.getfield 38, 3) := by decide +kernel
theorem dX8_leavesState_114 : decode cX8_leavesState 114 = .ok (.iload_n 1, 1) := by decide +kernel
theorem dX8_leavesState_115 : decode cX8_leavesState 115 = .ok (.bipush 65, 2) := by decide +kernel
theorem dX8_leavesState_117 : decode cX8_leavesState 117 = .ok (.iadd, 1) := by decide +kernel
theorem dX8_leavesState_118 : decode cX8_leavesState 118 = .ok (.iload_n 2, 1) := by decide +kernel
theorem dX8_leavesState_119 : decode cX8_leavesState 119 = .ok (.iadd, 1) := by decide +kernel
theorem dX8_leavesState_120 : decode cX8_leavesState 120 = .ok (.aload_n 0, 1) := by decide +kernel
theorem dX8_leavesState_121 : decode cX8_leavesState 121 = .ok (.getfield 23, 3) := by decide +kernel
theorem dX8_leavesState_124 : decode cX8_leavesState 124 = .ok (.iload_n 2, 1) := by decide +kernel
theorem dX8_leavesState_125 : decode cX8_leavesState 125 = .ok (.iaload, 1) := by decide +kernel
theorem dX8_leavesState_126 : decode cX8_leavesState 126 = .ok (.iastore, 1) := by decide +kernel
theorem dX8_leavesState_127 : decode cX8_leavesState 127 = .ok (.iinc 2 1, 3) := by decide +kernel
theorem dX8_leavesState_130 : decode cX8_leavesState 130 = .ok (.goto (-59), 3) := by decide +kernel
theorem dX8_leavesState_133 : decode cX8_leavesState 133 = .ok (.iconst 0, 1) := by decide +kernel
theorem dX8_leavesState_134 : decode cX8_leavesState 134 = .ok (.istore_n 2, 1) := by decide +kernel
theorem dX8_leavesState_135 : decode cX8_leavesState 135 = .ok (.iload_n 2, 1) := by decide +kernel
theorem dX8_leavesState_136 : decode cX8_leavesState 136 = .ok (.iconst 4, 1) := by decide +kernel
theorem dX8_leavesState_137 : decode cX8_leavesState 137 = .ok (.if_icmp .ge 26, 3) := by decide +kernel
theorem dX8_leavesState_140 : decode cX8_leavesState 140 = .ok (.aload_n 0, 1) := by decide +kernel
theorem dX8_leavesState_141 : decode cX8_leavesState 141 = .ok (.getfield 38, 3) := by decide +kernel
theorem dX8_leavesState_144 : decode cX8_leavesState 144 = .ok (.iload_n 1, 1) := by decide +kernel
theorem dX8_leavesState_145 : decode cX8_leavesState 145 = .ok (.bipush 97, 2) := by decide +kernel
theorem dX8_leavesState_147 : decode cX8_leavesState 147 = .ok (.iadd, 1) := by decide +kernel
theorem dX8_leavesState_148 : decode cX8_leavesState 148 = .ok (.iload_n 2, 1) := by decide +kernel
theorem dX8_leavesState_149 : decode cX8_leavesState 149 = .ok (.iadd, 1) := by decide +kernel
theorem dX8_leavesState_150 : decode cX8_leavesState 150 = .ok (.aload_n 0, 1) := by decide +kernel
theorem dX8_leavesState_151 : decode cX8_leavesState 151 = .ok (.getfield 32, 3) := by decide +kernel
theorem dX8_leavesState_154 : decode cX8_leavesState 154 = .ok (.iload_n 2, 1) := by decide +kernel
theorem dX8_leavesState_155 : decode cX8_leavesState 155 = .ok (.iaload, 1) := by decide +kernel
theorem dX8_leavesState_156 : decode cX8_leavesState 156 = .ok (.iastore, 1) := by decide +kernel
theorem dX8_leavesState_157 : decode cX8_leavesState 157 = .ok (.iinc 2 1, 3) := by decide +kernel
theorem dX8_leavesState_160 : decode cX8_leavesState 160 = .ok (.goto (-25), 3) := by decide +kernel
theorem dX8_leavesState_163 : decode cX8_leavesState 163 = .ok (.iconst 0, 1) := by decide +kernel
theorem dX8_leavesState_164 : decode cX8_leavesState 164 = .ok (.istore_n 2, 1) := by decide +kernel
theorem dX8_leavesState_165 : decode cX8_leavesState 165 = .ok (.iload_n 2, 1) := by decide +kernel
theorem dX8_leavesState_166 : decode cX8_leavesState 166 = .ok (.sipush 144, 3) := by decide +kernel
theorem dX8_leavesState_169 : decode cX8_leavesState 169 = .ok (.if_icmp .ge 26, 3) := by decide +kernel
theorem dX8_leavesState_172 : decode cX8_leavesState 172 = .ok (.aload_n 0, 1) := by decide +kernel
theorem dX8_leavesState_173 : decode cX8_leavesState 173 = .ok (.getfield 38, 3) := by decide +kernel
theorem dX8_leavesState_176 : decode cX8_leavesState 176 = .ok (.iload_n 1, 1) := by decide +kernel
theorem dX8_leavesState_177 : decode cX8_leavesState 177 = .ok (.bipush 101, 2) := by decide +kernel
theorem dX8_leavesState_179 : decode cX8_leavesState 179 = .ok (.iadd, 1) := by decide +kernel
theorem dX8_leavesState_180 : decode cX8_leavesState 180 = .ok (.iload_n 2, 1) := by decide +kernel
theorem dX8_leavesState_181 : decode cX8_leavesState 181 = .ok (.iadd, 1) := by decide +kernel
theorem dX8_leavesState_182 : decode cX8_leavesState 182 = .ok (.aload_n 0, 1) := by decide +kernel
theorem dX8_leavesState_183 : decode cX8_leavesState 183 = .ok (.getfield 35, 3) := by decide +kernel
theorem dX8_leavesState_186 : decode cX8_leavesState 186 = .ok (.iload_n 2, 1) := by decide +kernel
theorem dX8_leavesState_187 : decode cX8_leavesState 187 = .ok (.iaload, 1) := by decide +kernel
theorem dX8_leavesState_188 : decode cX8_leavesState 188 = .ok (.iastore, 1) := by decide +kernel
theorem dX8_leavesState_189 : decode cX8_leavesState 189 = .ok (.iinc 2 1, 3) := by decide +kernel
theorem dX8_leavesState_192 : decode cX8_leavesState 192 = .ok (.goto (-27), 3) := by decide +kernel
theorem dX8_leavesState_195 : decode cX8_leavesState 195 = .ok (.aload_n 0, 1) := by decide +kernel
theorem dX8_leavesState_196 : decode cX8_leavesState 196 = .ok (.dup, 1) := by decide +kernel
theorem dX8_leavesState_197 : decode cX8_leavesState 197 = .ok (.getfield 116, 3) := by decide +kernel
theorem dX8_leavesState_200 : decode cX8_leavesState 200 = .ok (.iconst 1, 1) := by decide +kernel
theorem dX8_leavesState_201 : decode cX8_leavesState 201 = .ok (.iadd, 1) := by decide +kernel
theorem dX8_leavesState_202 : decode cX8_leavesState 202 = .ok (.putfield 116, 3) := by decide +kernel
theorem dX8_leavesState_205 : decode cX8_leavesState 205 = .ok (.return_, 1) := by decide +kernel
set_option maxHeartbeats 4000000 in
set_option maxRecDepth 100000 in
theorem c_X8_leavesState (l : Launch) (B : Nat) (D : va_G) (cA : Nat → ClassId) (m : Mm) (x0 : Nat) (mZ : Mm) (hf : f_X8_leavesState m x0 = some mZ) : Mt l B D cA yX8_leavesState cX8_leavesState 3 none 0 0 0 0 [.ref (B + x0)] m none mZ := by
  refine r_start (by decide) (Nat.le_of_ble_eq_true rfl) ?_
  intro p e s mt args below meth c ls H locs X hr hlocks hnm hR hl hS
  have hx := X.1
  have hb := X.2.1
  have hl : lv_has ls 3 [(0, .ref (B + x0))] := hl
  unfold f_X8_leavesState at hf
  refine lv_aload_n hx hb dX8_leavesState_0 rfl (lv_at hl 0 rfl) ?_
  obtain ⟨v1, g2, hf⟩ := ob hf
  refine gI_X8_116 X hR g2 dX8_leavesState_1 ?_
  refine lv_bipush (v := 8) hx hb dX8_leavesState_4 (by decide) ?_
  obtain ⟨t3, hjt3, hf⟩ := ob hf
  have hJt3 : ∀ (H : Heap) (locs : List Loc) (ls : Array Slot), Rl B D cA t3 H → va_S (fun q => B ≤ q) s.heap H locs → lv_has ls 3 [(0, .ref (B + x0))] → W p l e (rmm 0 0 0 0) s mt args below meth c H locs 0 0 (MQ below (mQ B D cA none mZ) args s 0 0 (fun q => B ≤ q)) (F0 mt 50 ls []) := by
    intro H locs ls hR hS hl
    refine lv_sipush (v := 245) hx hb dX8_leavesState_50 (by decide) ?_
    refine lv_aload_n hx hb dX8_leavesState_53 rfl (lv_at hl 0 rfl) ?_
    obtain ⟨v23, g24, hf⟩ := ob hf
    refine gI_X8_116 X hR g24 dX8_leavesState_54 ?_
    refine lv_imul hx hb dX8_leavesState_57 ?_
    refine lv_istore_n (lv' := [(1, .int ((245 : Int32) * v23)), (0, .ref (B + x0))]) hx hb dX8_leavesState_58 rfl hl (by decide) rfl (fun ls hl => ?_)
    refine lv_aload_n hx hb dX8_leavesState_59 rfl (lv_at hl 1 rfl) ?_
    obtain ⟨v25, g26, hf⟩ := ob hf
    refine gR_X8_38 X hR g26 dX8_leavesState_60 ?_
    refine lv_iload_n hx hb dX8_leavesState_63 rfl (lv_at hl 0 rfl) ?_
    refine lv_aload_n hx hb dX8_leavesState_64 rfl (lv_at hl 1 rfl) ?_
    obtain ⟨v27, g28, hf⟩ := ob hf
    refine gI_X8_13 X hR g28 dX8_leavesState_65 ?_
    obtain ⟨m29, g30, hf⟩ := ob hf
    refine r_sI X hR hS g30 dX8_leavesState_68 (fun H locs hR hS => ?_)
    refine lv_iconst (v := 0) hx hb dX8_leavesState_69 (by decide) ?_
    refine lv_istore_n (lv' := [(2, .int (0 : Int32)), (1, .int ((245 : Int32) * v23)), (0, .ref (B + x0))]) hx hb dX8_leavesState_70 rfl hl (by decide) rfl (fun ls hl => ?_)
    obtain ⟨e32, hwe32, hf⟩ := ob hf
    refine whl_rule (P := (fun t31 => ∀ (H : Heap) (locs : List Loc) (ls : Array Slot), Rl B D cA t31.2 H → va_S (fun q => B ≤ q) s.heap H locs → lv_has ls 3 [(0, .ref (B + x0)), (1, .int ((245 : Int32) * v23)), (2, .int t31.1)] → W p l e (rmm 0 0 0 0) s mt args below meth c H locs 0 0 (MQ below (mQ B D cA none mZ) args s 0 0 (fun q => B ≤ q)) (F0 mt 71 ls []))) (Qx := (fun e32 => ∀ (H : Heap) (locs : List Loc) (ls : Array Slot), Rl B D cA e32 H → va_S (fun q => B ≤ q) s.heap H locs → lv_has ls 3 [(0, .ref (B + x0)), (1, .int ((245 : Int32) * v23))] → W p l e (rmm 0 0 0 0) s mt args below meth c H locs 0 0 (MQ below (mQ B D cA none mZ) args s 0 0 (fun q => B ≤ q)) (F0 mt 133 ls []))) ?_ FU _ e32 hwe32 ?_ H locs ls hR hS (lv_sub hl [2, 1, 0] rfl)
    · clear hwe32 hf
      intro t31 q33 hf hxlq33 hxrq33 H locs ls hR hS hl
      obtain ⟨z34, m35⟩ := t31
      have hf : f_X8_leavesState_L71 m35 x0 ((245 : Int32) * v23) z34 = some q33 := hf
      have hR : Rl B D cA m35 H := hR
      have hl : lv_has ls 3 [(0, .ref (B + x0)), (1, .int ((245 : Int32) * v23)), (2, .int z34)] := hl
      unfold f_X8_leavesState_L71 at hf
      refine lv_iload_n hx hb dX8_leavesState_71 rfl (lv_at hl 2 rfl) ?_
      refine lv_bipush (v := 32) hx hb dX8_leavesState_72 (by decide) ?_
      refine lv_icmp_ge (tgt := 133) hx hb dX8_leavesState_74 (by decide) (fun c36 => ?_) (fun c36 => ?_)
      · rw [if_pos c36] at hf
        obtain rfl := Option.some.inj hf
        exact hxrq33 _ rfl H locs ls hR hS (lv_sub hl [0, 1] rfl)
      · rw [if_neg c36] at hf
        refine lv_aload_n hx hb dX8_leavesState_77 rfl (lv_at hl 0 rfl) ?_
        obtain ⟨v37, g38, hf⟩ := ob hf
        refine gR_X8_38 X hR g38 dX8_leavesState_78 ?_
        refine lv_iload_n hx hb dX8_leavesState_81 rfl (lv_at hl 1 rfl) ?_
        refine lv_iconst (v := 1) hx hb dX8_leavesState_82 (by decide) ?_
        refine lv_iadd hx hb dX8_leavesState_83 ?_
        refine lv_iload_n hx hb dX8_leavesState_84 rfl (lv_at hl 2 rfl) ?_
        refine lv_iadd hx hb dX8_leavesState_85 ?_
        refine lv_aload_n hx hb dX8_leavesState_86 rfl (lv_at hl 0 rfl) ?_
        obtain ⟨v39, g40, hf⟩ := ob hf
        refine gR_X8_17 X hR g40 dX8_leavesState_87 ?_
        refine lv_iload_n hx hb dX8_leavesState_90 rfl (lv_at hl 2 rfl) ?_
        obtain ⟨v41, g42, hf⟩ := ob hf
        refine r_lI X hR g42 dX8_leavesState_91 ?_
        obtain ⟨m43, g44, hf⟩ := ob hf
        refine r_sI X hR hS g44 dX8_leavesState_92 (fun H locs hR hS => ?_)
        refine lv_aload_n hx hb dX8_leavesState_93 rfl (lv_at hl 0 rfl) ?_
        obtain ⟨v45, g46, hf⟩ := ob hf
        refine gR_X8_38 X hR g46 dX8_leavesState_94 ?_
        refine lv_iload_n hx hb dX8_leavesState_97 rfl (lv_at hl 1 rfl) ?_
        refine lv_bipush (v := 33) hx hb dX8_leavesState_98 (by decide) ?_
        refine lv_iadd hx hb dX8_leavesState_100 ?_
        refine lv_iload_n hx hb dX8_leavesState_101 rfl (lv_at hl 2 rfl) ?_
        refine lv_iadd hx hb dX8_leavesState_102 ?_
        refine lv_aload_n hx hb dX8_leavesState_103 rfl (lv_at hl 0 rfl) ?_
        obtain ⟨v47, g48, hf⟩ := ob hf
        refine gR_X8_20 X hR g48 dX8_leavesState_104 ?_
        refine lv_iload_n hx hb dX8_leavesState_107 rfl (lv_at hl 2 rfl) ?_
        obtain ⟨v49, g50, hf⟩ := ob hf
        refine r_lI X hR g50 dX8_leavesState_108 ?_
        obtain ⟨m51, g52, hf⟩ := ob hf
        refine r_sI X hR hS g52 dX8_leavesState_109 (fun H locs hR hS => ?_)
        refine lv_aload_n hx hb dX8_leavesState_110 rfl (lv_at hl 0 rfl) ?_
        obtain ⟨v53, g54, hf⟩ := ob hf
        refine gR_X8_38 X hR g54 dX8_leavesState_111 ?_
        refine lv_iload_n hx hb dX8_leavesState_114 rfl (lv_at hl 1 rfl) ?_
        refine lv_bipush (v := 65) hx hb dX8_leavesState_115 (by decide) ?_
        refine lv_iadd hx hb dX8_leavesState_117 ?_
        refine lv_iload_n hx hb dX8_leavesState_118 rfl (lv_at hl 2 rfl) ?_
        refine lv_iadd hx hb dX8_leavesState_119 ?_
        refine lv_aload_n hx hb dX8_leavesState_120 rfl (lv_at hl 0 rfl) ?_
        obtain ⟨v55, g56, hf⟩ := ob hf
        refine gR_X8_23 X hR g56 dX8_leavesState_121 ?_
        refine lv_iload_n hx hb dX8_leavesState_124 rfl (lv_at hl 2 rfl) ?_
        obtain ⟨v57, g58, hf⟩ := ob hf
        refine r_lI X hR g58 dX8_leavesState_125 ?_
        obtain ⟨m59, g60, hf⟩ := ob hf
        refine r_sI X hR hS g60 dX8_leavesState_126 (fun H locs hR hS => ?_)
        refine lv_iinc (v := (z34 + 1)) (lv' := [(2, .int (z34 + 1)), (0, .ref (B + x0)), (1, .int ((245 : Int32) * v23))]) hx hb dX8_leavesState_127 hl (k := 2) rfl (congrArg (fun z => z34 + z) (by decide)) (by decide) rfl (fun ls hl => ?_)
        refine lv_goto (tgt := 71) hx hb dX8_leavesState_130 (by decide) ?_
        obtain rfl := Option.some.inj hf
        exact hxlq33 _ rfl H locs ls hR hS (lv_sub hl [1, 2, 0] rfl)
    · intro H locs ls hR hS hl
      refine lv_iconst (v := 0) hx hb dX8_leavesState_133 (by decide) ?_
      refine lv_istore_n (lv' := [(2, .int (0 : Int32)), (0, .ref (B + x0)), (1, .int ((245 : Int32) * v23))]) hx hb dX8_leavesState_134 rfl hl (by decide) rfl (fun ls hl => ?_)
      obtain ⟨e62, hwe62, hf⟩ := ob hf
      refine whl_rule (P := (fun t61 => ∀ (H : Heap) (locs : List Loc) (ls : Array Slot), Rl B D cA t61.2 H → va_S (fun q => B ≤ q) s.heap H locs → lv_has ls 3 [(0, .ref (B + x0)), (1, .int ((245 : Int32) * v23)), (2, .int t61.1)] → W p l e (rmm 0 0 0 0) s mt args below meth c H locs 0 0 (MQ below (mQ B D cA none mZ) args s 0 0 (fun q => B ≤ q)) (F0 mt 135 ls []))) (Qx := (fun e62 => ∀ (H : Heap) (locs : List Loc) (ls : Array Slot), Rl B D cA e62 H → va_S (fun q => B ≤ q) s.heap H locs → lv_has ls 3 [(0, .ref (B + x0)), (1, .int ((245 : Int32) * v23))] → W p l e (rmm 0 0 0 0) s mt args below meth c H locs 0 0 (MQ below (mQ B D cA none mZ) args s 0 0 (fun q => B ≤ q)) (F0 mt 163 ls []))) ?_ FU _ e62 hwe62 ?_ H locs ls hR hS (lv_sub hl [1, 2, 0] rfl)
      · clear hwe62 hf
        intro t61 q63 hf hxlq63 hxrq63 H locs ls hR hS hl
        obtain ⟨z64, m65⟩ := t61
        have hf : f_X8_leavesState_L135 m65 x0 ((245 : Int32) * v23) z64 = some q63 := hf
        have hR : Rl B D cA m65 H := hR
        have hl : lv_has ls 3 [(0, .ref (B + x0)), (1, .int ((245 : Int32) * v23)), (2, .int z64)] := hl
        unfold f_X8_leavesState_L135 at hf
        refine lv_iload_n hx hb dX8_leavesState_135 rfl (lv_at hl 2 rfl) ?_
        refine lv_iconst (v := 4) hx hb dX8_leavesState_136 (by decide) ?_
        refine lv_icmp_ge (tgt := 163) hx hb dX8_leavesState_137 (by decide) (fun c66 => ?_) (fun c66 => ?_)
        · rw [if_pos c66] at hf
          obtain rfl := Option.some.inj hf
          exact hxrq63 _ rfl H locs ls hR hS (lv_sub hl [0, 1] rfl)
        · rw [if_neg c66] at hf
          refine lv_aload_n hx hb dX8_leavesState_140 rfl (lv_at hl 0 rfl) ?_
          obtain ⟨v67, g68, hf⟩ := ob hf
          refine gR_X8_38 X hR g68 dX8_leavesState_141 ?_
          refine lv_iload_n hx hb dX8_leavesState_144 rfl (lv_at hl 1 rfl) ?_
          refine lv_bipush (v := 97) hx hb dX8_leavesState_145 (by decide) ?_
          refine lv_iadd hx hb dX8_leavesState_147 ?_
          refine lv_iload_n hx hb dX8_leavesState_148 rfl (lv_at hl 2 rfl) ?_
          refine lv_iadd hx hb dX8_leavesState_149 ?_
          refine lv_aload_n hx hb dX8_leavesState_150 rfl (lv_at hl 0 rfl) ?_
          obtain ⟨v69, g70, hf⟩ := ob hf
          refine gR_X8_32 X hR g70 dX8_leavesState_151 ?_
          refine lv_iload_n hx hb dX8_leavesState_154 rfl (lv_at hl 2 rfl) ?_
          obtain ⟨v71, g72, hf⟩ := ob hf
          refine r_lI X hR g72 dX8_leavesState_155 ?_
          obtain ⟨m73, g74, hf⟩ := ob hf
          refine r_sI X hR hS g74 dX8_leavesState_156 (fun H locs hR hS => ?_)
          refine lv_iinc (v := (z64 + 1)) (lv' := [(2, .int (z64 + 1)), (0, .ref (B + x0)), (1, .int ((245 : Int32) * v23))]) hx hb dX8_leavesState_157 hl (k := 2) rfl (congrArg (fun z => z64 + z) (by decide)) (by decide) rfl (fun ls hl => ?_)
          refine lv_goto (tgt := 135) hx hb dX8_leavesState_160 (by decide) ?_
          obtain rfl := Option.some.inj hf
          exact hxlq63 _ rfl H locs ls hR hS (lv_sub hl [1, 2, 0] rfl)
      · intro H locs ls hR hS hl
        refine lv_iconst (v := 0) hx hb dX8_leavesState_163 (by decide) ?_
        refine lv_istore_n (lv' := [(2, .int (0 : Int32)), (0, .ref (B + x0)), (1, .int ((245 : Int32) * v23))]) hx hb dX8_leavesState_164 rfl hl (by decide) rfl (fun ls hl => ?_)
        obtain ⟨e76, hwe76, hf⟩ := ob hf
        refine whl_rule (P := (fun t75 => ∀ (H : Heap) (locs : List Loc) (ls : Array Slot), Rl B D cA t75.2 H → va_S (fun q => B ≤ q) s.heap H locs → lv_has ls 3 [(0, .ref (B + x0)), (1, .int ((245 : Int32) * v23)), (2, .int t75.1)] → W p l e (rmm 0 0 0 0) s mt args below meth c H locs 0 0 (MQ below (mQ B D cA none mZ) args s 0 0 (fun q => B ≤ q)) (F0 mt 165 ls []))) (Qx := (fun e76 => ∀ (H : Heap) (locs : List Loc) (ls : Array Slot), Rl B D cA e76 H → va_S (fun q => B ≤ q) s.heap H locs → lv_has ls 3 [(0, .ref (B + x0))] → W p l e (rmm 0 0 0 0) s mt args below meth c H locs 0 0 (MQ below (mQ B D cA none mZ) args s 0 0 (fun q => B ≤ q)) (F0 mt 195 ls []))) ?_ FU _ e76 hwe76 ?_ H locs ls hR hS (lv_sub hl [1, 2, 0] rfl)
        · clear hwe76 hf
          intro t75 q77 hf hxlq77 hxrq77 H locs ls hR hS hl
          obtain ⟨z78, m79⟩ := t75
          have hf : f_X8_leavesState_L165 m79 x0 ((245 : Int32) * v23) z78 = some q77 := hf
          have hR : Rl B D cA m79 H := hR
          have hl : lv_has ls 3 [(0, .ref (B + x0)), (1, .int ((245 : Int32) * v23)), (2, .int z78)] := hl
          unfold f_X8_leavesState_L165 at hf
          refine lv_iload_n hx hb dX8_leavesState_165 rfl (lv_at hl 2 rfl) ?_
          refine lv_sipush (v := 144) hx hb dX8_leavesState_166 (by decide) ?_
          refine lv_icmp_ge (tgt := 195) hx hb dX8_leavesState_169 (by decide) (fun c80 => ?_) (fun c80 => ?_)
          · rw [if_pos c80] at hf
            obtain rfl := Option.some.inj hf
            exact hxrq77 _ rfl H locs ls hR hS (lv_sub hl [0] rfl)
          · rw [if_neg c80] at hf
            refine lv_aload_n hx hb dX8_leavesState_172 rfl (lv_at hl 0 rfl) ?_
            obtain ⟨v81, g82, hf⟩ := ob hf
            refine gR_X8_38 X hR g82 dX8_leavesState_173 ?_
            refine lv_iload_n hx hb dX8_leavesState_176 rfl (lv_at hl 1 rfl) ?_
            refine lv_bipush (v := 101) hx hb dX8_leavesState_177 (by decide) ?_
            refine lv_iadd hx hb dX8_leavesState_179 ?_
            refine lv_iload_n hx hb dX8_leavesState_180 rfl (lv_at hl 2 rfl) ?_
            refine lv_iadd hx hb dX8_leavesState_181 ?_
            refine lv_aload_n hx hb dX8_leavesState_182 rfl (lv_at hl 0 rfl) ?_
            obtain ⟨v83, g84, hf⟩ := ob hf
            refine gR_X8_35 X hR g84 dX8_leavesState_183 ?_
            refine lv_iload_n hx hb dX8_leavesState_186 rfl (lv_at hl 2 rfl) ?_
            obtain ⟨v85, g86, hf⟩ := ob hf
            refine r_lI X hR g86 dX8_leavesState_187 ?_
            obtain ⟨m87, g88, hf⟩ := ob hf
            refine r_sI X hR hS g88 dX8_leavesState_188 (fun H locs hR hS => ?_)
            refine lv_iinc (v := (z78 + 1)) (lv' := [(2, .int (z78 + 1)), (0, .ref (B + x0)), (1, .int ((245 : Int32) * v23))]) hx hb dX8_leavesState_189 hl (k := 2) rfl (congrArg (fun z => z78 + z) (by decide)) (by decide) rfl (fun ls hl => ?_)
            refine lv_goto (tgt := 165) hx hb dX8_leavesState_192 (by decide) ?_
            obtain rfl := Option.some.inj hf
            exact hxlq77 _ rfl H locs ls hR hS (lv_sub hl [1, 2, 0] rfl)
        · intro H locs ls hR hS hl
          refine lv_aload_n hx hb dX8_leavesState_195 rfl (lv_at hl 0 rfl) ?_
          refine lv_dup hx hb dX8_leavesState_196 rfl ?_
          obtain ⟨v89, g90, hf⟩ := ob hf
          refine gI_X8_116 X hR g90 dX8_leavesState_197 ?_
          refine lv_iconst (v := 1) hx hb dX8_leavesState_200 (by decide) ?_
          refine lv_iadd hx hb dX8_leavesState_201 ?_
          obtain ⟨m91, g92, hf⟩ := ob hf
          refine pI_X8_116 X hR hS g92 dX8_leavesState_202 (fun H locs hR hS => ?_)
          obtain rfl := Option.some.inj hf
          exact r_vret X hr hlocks hR hS dX8_leavesState_205
  have hf := hjt3
  clear hjt3
  refine lv_icmp_ne (tgt := 50) hx hb dX8_leavesState_6 (by decide) (fun c4 => ?_) (fun c4 => ?_)
  · rw [if_neg c4] at hf
    obtain rfl := Option.some.inj hf
    exact hJt3 H locs ls hR hS (lv_sub hl [0] rfl)
  · rw [if_pos c4] at hf
    refine lv_iconst (v := 0) hx hb dX8_leavesState_9 (by decide) ?_
    refine lv_istore_n (lv' := [(1, .int (0 : Int32)), (0, .ref (B + x0))]) hx hb dX8_leavesState_10 rfl hl (by decide) rfl (fun ls hl => ?_)
    obtain ⟨e6, hwe6, hf⟩ := ob hf
    refine whl_rule (P := (fun t5 => ∀ (H : Heap) (locs : List Loc) (ls : Array Slot), Rl B D cA t5.2 H → va_S (fun q => B ≤ q) s.heap H locs → lv_has ls 3 [(0, .ref (B + x0)), (1, .int t5.1)] → W p l e (rmm 0 0 0 0) s mt args below meth c H locs 0 0 (MQ below (mQ B D cA none mZ) args s 0 0 (fun q => B ≤ q)) (F0 mt 11 ls []))) (Qx := (fun e6 => ∀ (H : Heap) (locs : List Loc) (ls : Array Slot), Rl B D cA e6 H → va_S (fun q => B ≤ q) s.heap H locs → lv_has ls 3 [(0, .ref (B + x0))] → W p l e (rmm 0 0 0 0) s mt args below meth c H locs 0 0 (MQ below (mQ B D cA none mZ) args s 0 0 (fun q => B ≤ q)) (F0 mt 40 ls []))) ?_ FU _ e6 hwe6 ?_ H locs ls hR hS (lv_sub hl [1, 0] rfl)
    · clear hwe6 hf
      intro t5 q7 hf hxlq7 hxrq7 H locs ls hR hS hl
      obtain ⟨z8, m9⟩ := t5
      have hf : f_X8_leavesState_L11 m9 x0 z8 = some q7 := hf
      have hR : Rl B D cA m9 H := hR
      have hl : lv_has ls 3 [(0, .ref (B + x0)), (1, .int z8)] := hl
      unfold f_X8_leavesState_L11 at hf
      refine lv_iload_n hx hb dX8_leavesState_11 rfl (lv_at hl 1 rfl) ?_
      refine lv_sipush (v := 1715) hx hb dX8_leavesState_12 (by decide) ?_
      refine lv_icmp_ge (tgt := 40) hx hb dX8_leavesState_15 (by decide) (fun c10 => ?_) (fun c10 => ?_)
      · rw [if_pos c10] at hf
        obtain rfl := Option.some.inj hf
        exact hxrq7 _ rfl H locs ls hR hS (lv_sub hl [0] rfl)
      · rw [if_neg c10] at hf
        refine lv_aload_n hx hb dX8_leavesState_18 rfl (lv_at hl 0 rfl) ?_
        obtain ⟨v11, g12, hf⟩ := ob hf
        refine gR_X8_38 X hR g12 dX8_leavesState_19 ?_
        refine lv_iload_n hx hb dX8_leavesState_22 rfl (lv_at hl 1 rfl) ?_
        refine lv_aload_n hx hb dX8_leavesState_23 rfl (lv_at hl 0 rfl) ?_
        obtain ⟨v13, g14, hf⟩ := ob hf
        refine gR_X8_38 X hR g14 dX8_leavesState_24 ?_
        refine lv_iload_n hx hb dX8_leavesState_27 rfl (lv_at hl 1 rfl) ?_
        refine lv_sipush (v := 245) hx hb dX8_leavesState_28 (by decide) ?_
        refine lv_iadd hx hb dX8_leavesState_31 ?_
        obtain ⟨v15, g16, hf⟩ := ob hf
        refine r_lI X hR g16 dX8_leavesState_32 ?_
        obtain ⟨m17, g18, hf⟩ := ob hf
        refine r_sI X hR hS g18 dX8_leavesState_33 (fun H locs hR hS => ?_)
        refine lv_iinc (v := (z8 + 1)) (lv' := [(1, .int (z8 + 1)), (0, .ref (B + x0))]) hx hb dX8_leavesState_34 hl (k := 1) rfl (congrArg (fun z => z8 + z) (by decide)) (by decide) rfl (fun ls hl => ?_)
        refine lv_goto (tgt := 11) hx hb dX8_leavesState_37 (by decide) ?_
        obtain rfl := Option.some.inj hf
        exact hxlq7 _ rfl H locs ls hR hS (lv_sub hl [1, 0] rfl)
    · intro H locs ls hR hS hl
      refine lv_aload_n hx hb dX8_leavesState_40 rfl (lv_at hl 0 rfl) ?_
      refine lv_dup hx hb dX8_leavesState_41 rfl ?_
      obtain ⟨v19, g20, hf⟩ := ob hf
      refine gI_X8_116 X hR g20 dX8_leavesState_42 ?_
      refine lv_iconst (v := 1) hx hb dX8_leavesState_45 (by decide) ?_
      refine lv_isub hx hb dX8_leavesState_46 ?_
      obtain ⟨m21, g22, hf⟩ := ob hf
      refine pI_X8_116 X hR hS g22 dX8_leavesState_47 (fun H locs hR hS => ?_)
      obtain rfl := Option.some.inj hf
      exact hJt3 H locs ls hR hS (lv_sub hl [0] rfl)
/-! ===== TwigMatchesModel.back()I ===== -/
theorem dX8_back_0 : decode cX8_back 0 = .ok (.aload_n 0, 1) := by decide +kernel
theorem dX8_back_1 : decode cX8_back 1 = .ok (.getfield 116, 3) := by decide +kernel
theorem dX8_back_4 : decode cX8_back 4 = .ok (.ifCond .ne 8, 3) := by decide +kernel
theorem dX8_back_7 : decode cX8_back 7 = .ok (.aload_n 0, 1) := by decide +kernel
theorem dX8_back_8 : decode cX8_back 8 = .ok (.invokevirtual 119, 3) := by decide +kernel
theorem dX8_back_11 : decode cX8_back 11 = .ok (.ireturn, 1) := by decide +kernel
theorem dX8_back_12 : decode cX8_back 12 = .ok (.aload_n 0, 1) := by decide +kernel
theorem dX8_back_13 : decode cX8_back 13 = .ok (.dup, 1) := by decide +kernel
theorem dX8_back_14 : decode cX8_back 14 = .ok (.getfield 116, 3) := by decide +kernel
theorem dX8_back_17 : decode cX8_back 17 = .ok (.iconst 1, 1) := by decide +kernel
theorem dX8_back_18 : decode cX8_back 18 = .ok (.isub, 1) := by decide +kernel
theorem dX8_back_19 : decode cX8_back 19 = .ok (.putfield 116, 3) := by decide +kernel
theorem dX8_back_22 : decode cX8_back 22 = .ok (.sipush 245, 3) := by decide +kernel
theorem dX8_back_25 : decode cX8_back 25 = .ok (.aload_n 0, 1) := by decide +kernel
theorem dX8_back_26 : decode cX8_back 26 = .ok (.getfield 116, 3) := by decide +kernel
theorem dX8_back_29 : decode cX8_back 29 = .ok (.imul, 1) := by decide +kernel
theorem dX8_back_30 : decode cX8_back 30 = .ok (.istore_n 1, 1) := by decide +kernel
theorem dX8_back_31 : decode cX8_back 31 = .ok (.aload_n 0, 1) := by decide +kernel
theorem dX8_back_32 : decode cX8_back 32 = .ok (.aload_n 0, 1) := by decide +kernel
theorem dX8_back_33 : decode cX8_back 33 = .ok (.getfield 38, 3) := by decide +kernel
theorem dX8_back_36 : decode cX8_back 36 = .ok (.iload_n 1, 1) := by decide +kernel
theorem dX8_back_37 : decode cX8_back 37 = .ok (.iaload, 1) := by decide +kernel
theorem dX8_back_38 : decode cX8_back 38 = .ok (.putfield 13, 3) := by decide +kernel
theorem dX8_back_41 : decode cX8_back 41 = .ok (.iconst 0, 1) := by decide +kernel
theorem dX8_back_42 : decode cX8_back 42 = .ok (.istore_n 2, 1) := by decide +kernel
theorem dX8_back_43 : decode cX8_back 43 = .ok (.iload_n 2, 1) := by decide +kernel
theorem dX8_back_44 : decode cX8_back 44 = .ok (.bipush 32, 2) := by decide +kernel
theorem dX8_back_46 : decode cX8_back 46 = .ok (.if_icmp .ge 59, 3) := by decide +kernel
theorem dX8_back_49 : decode cX8_back 49 = .ok (.aload_n 0, 1) := by decide +kernel
theorem dX8_back_50 : decode cX8_back 50 = .ok (.getfield 17, 3) := by decide +kernel
theorem dX8_back_53 : decode cX8_back 53 = .ok (.iload_n 2, 1) := by decide +kernel
theorem dX8_back_54 : decode cX8_back 54 = .ok (.aload_n 0, 1) := by decide +kernel
theorem dX8_back_55 : decode cX8_back 55 = .ok (.getfield 38, 3) := by decide +kernel
theorem dX8_back_58 : decode cX8_back 58 = .ok (.iload_n 1, 1) := by decide +kernel
theorem dX8_back_59 : decode cX8_back 59 = .ok (.iconst 1, 1) := by decide +kernel
theorem dX8_back_60 : decode cX8_back 60 = .ok (.iadd, 1) := by decide +kernel
theorem dX8_back_61 : decode cX8_back 61 = .ok (.iload_n 2, 1) := by decide +kernel
theorem dX8_back_62 : decode cX8_back 62 = .ok (.iadd, 1) := by decide +kernel
theorem dX8_back_63 : decode cX8_back 63 = .ok (.iaload, 1) := by decide +kernel
theorem dX8_back_64 : decode cX8_back 64 = .ok (.iastore, 1) := by decide +kernel
theorem dX8_back_65 : decode cX8_back 65 = .ok (.aload_n 0, 1) := by decide +kernel
theorem dX8_back_66 : decode cX8_back 66 = .ok (.getfield 20, 3) := by decide +kernel
theorem dX8_back_69 : decode cX8_back 69 = .ok (.iload_n 2, 1) := by decide +kernel
theorem dX8_back_70 : decode cX8_back 70 = .ok (.aload_n 0, 1) := by decide +kernel
theorem dX8_back_71 : decode cX8_back 71 = .ok (.getfield 38, 3) := by decide +kernel
theorem dX8_back_74 : decode cX8_back 74 = .ok (.iload_n 1, 1) := by decide +kernel
theorem dX8_back_75 : decode cX8_back 75 = .ok (.bipush 33, 2) := by decide +kernel
theorem dX8_back_77 : decode cX8_back 77 = .ok (.iadd, 1) := by decide +kernel
theorem dX8_back_78 : decode cX8_back 78 = .ok (.iload_n 2, 1) := by decide +kernel
theorem dX8_back_79 : decode cX8_back 79 = .ok (.iadd, 1) := by decide +kernel
theorem dX8_back_80 : decode cX8_back 80 = .ok (.iaload, 1) := by decide +kernel
theorem dX8_back_81 : decode cX8_back 81 = .ok (.iastore, 1) := by decide +kernel
theorem dX8_back_82 : decode cX8_back 82 = .ok (.aload_n 0, 1) := by decide +kernel
theorem dX8_back_83 : decode cX8_back 83 = .ok (.getfield 23, 3) := by decide +kernel
theorem dX8_back_86 : decode cX8_back 86 = .ok (.iload_n 2, 1) := by decide +kernel
theorem dX8_back_87 : decode cX8_back 87 = .ok (.aload_n 0, 1) := by decide +kernel
theorem dX8_back_88 : decode cX8_back 88 = .ok (.getfield 38, 3) := by decide +kernel
theorem dX8_back_91 : decode cX8_back 91 = .ok (.iload_n 1, 1) := by decide +kernel
theorem dX8_back_92 : decode cX8_back 92 = .ok (.bipush 65, 2) := by decide +kernel
theorem dX8_back_94 : decode cX8_back 94 = .ok (.iadd, 1) := by decide +kernel
theorem dX8_back_95 : decode cX8_back 95 = .ok (.iload_n 2, 1) := by decide +kernel
theorem dX8_back_96 : decode cX8_back 96 = .ok (.iadd, 1) := by decide +kernel
theorem dX8_back_97 : decode cX8_back 97 = .ok (.iaload, 1) := by decide +kernel
theorem dX8_back_98 : decode cX8_back 98 = .ok (.iastore, 1) := by decide +kernel
theorem dX8_back_99 : decode cX8_back 99 = .ok (.iinc 2 1, 3) := by decide +kernel
theorem dX8_back_102 : decode cX8_back 102 = .ok (.goto (-59), 3) := by decide +kernel
theorem dX8_back_105 : decode cX8_back 105 = .ok (.iconst 0, 1) := by decide +kernel
theorem dX8_back_106 : decode cX8_back 106 = .ok (.istore_n 2, 1) := by decide +kernel
theorem dX8_back_107 : decode cX8_back 107 = .ok (.iload_n 2, 1) := by decide +kernel
theorem dX8_back_108 : decode cX8_back 108 = .ok (.iconst 4, 1) := by decide +kernel
theorem dX8_back_109 : decode cX8_back 109 = .ok (.if_icmp .ge 26, 3) := by decide +kernel
theorem dX8_back_112 : decode cX8_back 112 = .ok (.aload_n 0, 1) := by decide +kernel
theorem dX8_back_113 : decode cX8_back 113 = .ok (.getfield 32, 3) := by decide +kernel
theorem dX8_back_116 : decode cX8_back 116 = .ok (.iload_n 2, 1) := by decide +kernel
theorem dX8_back_117 : decode cX8_back 117 = .ok (.aload_n 0, 1) := by decide +kernel
theorem dX8_back_118 : decode cX8_back 118 = .ok (.getfield 38, 3) := by decide +kernel
theorem dX8_back_121 : decode cX8_back 121 = .ok (.iload_n 1, 1) := by decide +kernel
theorem dX8_back_122 : decode cX8_back 122 = .ok (.bipush 97, 2) := by decide +kernel
theorem dX8_back_124 : decode cX8_back 124 = .ok (.iadd, 1) := by decide +kernel
theorem dX8_back_125 : decode cX8_back 125 = .ok (.iload_n 2, 1) := by decide +kernel
theorem dX8_back_126 : decode cX8_back 126 = .ok (.iadd, 1) := by decide +kernel
theorem dX8_back_127 : decode cX8_back 127 = .ok (.iaload, 1) := by decide +kernel
theorem dX8_back_128 : decode cX8_back 128 = .ok (.iastore, 1) := by decide +kernel
theorem dX8_back_129 : decode cX8_back 129 = .ok (.iinc 2 1, 3) := by decide +kernel
theorem dX8_back_132 : decode cX8_back 132 = .ok (.goto (-25), 3) := by decide +kernel
theorem dX8_back_135 : decode cX8_back 135 = .ok (.iconst 0, 1) := by decide +kernel
theorem dX8_back_136 : decode cX8_back 136 = .ok (.istore_n 2, 1) := by decide +kernel
theorem dX8_back_137 : decode cX8_back 137 = .ok (.iload_n 2, 1) := by decide +kernel
theorem dX8_back_138 : decode cX8_back 138 = .ok (.sipush 144, 3) := by decide +kernel
theorem dX8_back_141 : decode cX8_back 141 = .ok (.if_icmp .ge 26, 3) := by decide +kernel
theorem dX8_back_144 : decode cX8_back 144 = .ok (.aload_n 0, 1) := by decide +kernel
theorem dX8_back_145 : decode cX8_back 145 = .ok (.getfield 35, 3) := by decide +kernel
theorem dX8_back_148 : decode cX8_back 148 = .ok (.iload_n 2, 1) := by decide +kernel
theorem dX8_back_149 : decode cX8_back 149 = .ok (.aload_n 0, 1) := by decide +kernel
theorem dX8_back_150 : decode cX8_back 150 = .ok (.getfield 38, 3) := by decide +kernel
theorem dX8_back_153 : decode cX8_back 153 = .ok (.iload_n 1, 1) := by decide +kernel
theorem dX8_back_154 : decode cX8_back 154 = .ok (.bipush 101, 2) := by decide +kernel
theorem dX8_back_156 : decode cX8_back 156 = .ok (.iadd, 1) := by decide +kernel
theorem dX8_back_157 : decode cX8_back 157 = .ok (.iload_n 2, 1) := by decide +kernel
theorem dX8_back_158 : decode cX8_back 158 = .ok (.iadd, 1) := by decide +kernel
theorem dX8_back_159 : decode cX8_back 159 = .ok (.iaload, 1) := by decide +kernel
theorem dX8_back_160 : decode cX8_back 160 = .ok (.iastore, 1) := by decide +kernel
theorem dX8_back_161 : decode cX8_back 161 = .ok (.iinc 2 1, 3) := by decide +kernel
theorem dX8_back_164 : decode cX8_back 164 = .ok (.goto (-27), 3) := by decide +kernel
theorem dX8_back_167 : decode cX8_back 167 = .ok (.aload_n 0, 1) := by decide +kernel
theorem dX8_back_168 : decode cX8_back 168 = .ok (.invokevirtual 123, 3) := by decide +kernel
theorem dX8_back_171 : decode cX8_back 171 = .ok (.aload_n 0, 1) := by decide +kernel
theorem dX8_back_172 : decode cX8_back 172 = .ok (.getfield 116, 3) := by decide +kernel
theorem dX8_back_175 : decode cX8_back 175 = .ok (.ireturn, 1) := by decide +kernel
set_option maxHeartbeats 4000000 in
set_option maxRecDepth 100000 in
theorem c_X8_back (l : Launch) (B : Nat) (D : va_G) (cA : Nat → ClassId) (m : Mm) (x0 : Nat) (rZ : Int32) (mZ : Mm) (hf : f_X8_back m x0 = some (rZ, mZ)) : Mt l B D cA yX8_back cX8_back 3 (some .int) 1 23 0 0 [.ref (B + x0)] m (some (.int rZ)) mZ := by
  refine r_start (by decide) (Nat.le_of_ble_eq_true rfl) ?_
  intro p e s mt args below meth c ls H locs X hr hlocks hnm hR hl hS
  have hx := X.1
  have hb := X.2.1
  have hl : lv_has ls 3 [(0, .ref (B + x0))] := hl
  unfold f_X8_back at hf
  refine lv_aload_n hx hb dX8_back_0 rfl (lv_at hl 0 rfl) ?_
  obtain ⟨v1, g2, hf⟩ := ob hf
  refine gI_X8_116 X hR g2 dX8_back_1 ?_
  refine lv_if_ne (tgt := 12) hx hb dX8_back_4 (by decide) (fun c3 => ?_) (fun c3 => ?_)
  · rw [if_neg c3] at hf
    refine lv_aload_n hx hb dX8_back_12 rfl (lv_at hl 0 rfl) ?_
    refine lv_dup hx hb dX8_back_13 rfl ?_
    obtain ⟨v4, g5, hf⟩ := ob hf
    refine gI_X8_116 X hR g5 dX8_back_14 ?_
    refine lv_iconst (v := 1) hx hb dX8_back_17 (by decide) ?_
    refine lv_isub hx hb dX8_back_18 ?_
    obtain ⟨m6, g7, hf⟩ := ob hf
    refine pI_X8_116 X hR hS g7 dX8_back_19 (fun H locs hR hS => ?_)
    refine lv_sipush (v := 245) hx hb dX8_back_22 (by decide) ?_
    refine lv_aload_n hx hb dX8_back_25 rfl (lv_at hl 0 rfl) ?_
    obtain ⟨v8, g9, hf⟩ := ob hf
    refine gI_X8_116 X hR g9 dX8_back_26 ?_
    refine lv_imul hx hb dX8_back_29 ?_
    refine lv_istore_n (lv' := [(1, .int ((245 : Int32) * v8)), (0, .ref (B + x0))]) hx hb dX8_back_30 rfl hl (by decide) rfl (fun ls hl => ?_)
    refine lv_aload_n hx hb dX8_back_31 rfl (lv_at hl 1 rfl) ?_
    refine lv_aload_n hx hb dX8_back_32 rfl (lv_at hl 1 rfl) ?_
    obtain ⟨v10, g11, hf⟩ := ob hf
    refine gR_X8_38 X hR g11 dX8_back_33 ?_
    refine lv_iload_n hx hb dX8_back_36 rfl (lv_at hl 0 rfl) ?_
    obtain ⟨v12, g13, hf⟩ := ob hf
    refine r_lI X hR g13 dX8_back_37 ?_
    obtain ⟨m14, g15, hf⟩ := ob hf
    refine pI_X8_13 X hR hS g15 dX8_back_38 (fun H locs hR hS => ?_)
    refine lv_iconst (v := 0) hx hb dX8_back_41 (by decide) ?_
    refine lv_istore_n (lv' := [(2, .int (0 : Int32)), (1, .int ((245 : Int32) * v8)), (0, .ref (B + x0))]) hx hb dX8_back_42 rfl hl (by decide) rfl (fun ls hl => ?_)
    obtain ⟨e17, hwe17, hf⟩ := ob hf
    refine whl_rule (P := (fun t16 => ∀ (H : Heap) (locs : List Loc) (ls : Array Slot), Rl B D cA t16.2 H → va_S (fun q => B ≤ q) s.heap H locs → lv_has ls 3 [(0, .ref (B + x0)), (1, .int ((245 : Int32) * v8)), (2, .int t16.1)] → W p l e (rmm 1 0 0 23) s mt args below meth c H locs 0 0 (MQ below (mQ B D cA (some (.int rZ)) mZ) args s 0 0 (fun q => B ≤ q)) (F0 mt 43 ls []))) (Qx := (fun e17 => ∀ (H : Heap) (locs : List Loc) (ls : Array Slot), Rl B D cA e17 H → va_S (fun q => B ≤ q) s.heap H locs → lv_has ls 3 [(0, .ref (B + x0)), (1, .int ((245 : Int32) * v8))] → W p l e (rmm 1 0 0 23) s mt args below meth c H locs 0 0 (MQ below (mQ B D cA (some (.int rZ)) mZ) args s 0 0 (fun q => B ≤ q)) (F0 mt 105 ls []))) ?_ FU _ e17 hwe17 ?_ H locs ls hR hS (lv_sub hl [2, 1, 0] rfl)
    · clear hwe17 hf
      intro t16 q18 hf hxlq18 hxrq18 H locs ls hR hS hl
      obtain ⟨z19, m20⟩ := t16
      have hf : f_X8_back_L43 m20 x0 ((245 : Int32) * v8) z19 = some q18 := hf
      have hR : Rl B D cA m20 H := hR
      have hl : lv_has ls 3 [(0, .ref (B + x0)), (1, .int ((245 : Int32) * v8)), (2, .int z19)] := hl
      unfold f_X8_back_L43 at hf
      refine lv_iload_n hx hb dX8_back_43 rfl (lv_at hl 2 rfl) ?_
      refine lv_bipush (v := 32) hx hb dX8_back_44 (by decide) ?_
      refine lv_icmp_ge (tgt := 105) hx hb dX8_back_46 (by decide) (fun c21 => ?_) (fun c21 => ?_)
      · rw [if_pos c21] at hf
        obtain rfl := Option.some.inj hf
        exact hxrq18 _ rfl H locs ls hR hS (lv_sub hl [0, 1] rfl)
      · rw [if_neg c21] at hf
        refine lv_aload_n hx hb dX8_back_49 rfl (lv_at hl 0 rfl) ?_
        obtain ⟨v22, g23, hf⟩ := ob hf
        refine gR_X8_17 X hR g23 dX8_back_50 ?_
        refine lv_iload_n hx hb dX8_back_53 rfl (lv_at hl 2 rfl) ?_
        refine lv_aload_n hx hb dX8_back_54 rfl (lv_at hl 0 rfl) ?_
        obtain ⟨v24, g25, hf⟩ := ob hf
        refine gR_X8_38 X hR g25 dX8_back_55 ?_
        refine lv_iload_n hx hb dX8_back_58 rfl (lv_at hl 1 rfl) ?_
        refine lv_iconst (v := 1) hx hb dX8_back_59 (by decide) ?_
        refine lv_iadd hx hb dX8_back_60 ?_
        refine lv_iload_n hx hb dX8_back_61 rfl (lv_at hl 2 rfl) ?_
        refine lv_iadd hx hb dX8_back_62 ?_
        obtain ⟨v26, g27, hf⟩ := ob hf
        refine r_lI X hR g27 dX8_back_63 ?_
        obtain ⟨m28, g29, hf⟩ := ob hf
        refine r_sI X hR hS g29 dX8_back_64 (fun H locs hR hS => ?_)
        refine lv_aload_n hx hb dX8_back_65 rfl (lv_at hl 0 rfl) ?_
        obtain ⟨v30, g31, hf⟩ := ob hf
        refine gR_X8_20 X hR g31 dX8_back_66 ?_
        refine lv_iload_n hx hb dX8_back_69 rfl (lv_at hl 2 rfl) ?_
        refine lv_aload_n hx hb dX8_back_70 rfl (lv_at hl 0 rfl) ?_
        obtain ⟨v32, g33, hf⟩ := ob hf
        refine gR_X8_38 X hR g33 dX8_back_71 ?_
        refine lv_iload_n hx hb dX8_back_74 rfl (lv_at hl 1 rfl) ?_
        refine lv_bipush (v := 33) hx hb dX8_back_75 (by decide) ?_
        refine lv_iadd hx hb dX8_back_77 ?_
        refine lv_iload_n hx hb dX8_back_78 rfl (lv_at hl 2 rfl) ?_
        refine lv_iadd hx hb dX8_back_79 ?_
        obtain ⟨v34, g35, hf⟩ := ob hf
        refine r_lI X hR g35 dX8_back_80 ?_
        obtain ⟨m36, g37, hf⟩ := ob hf
        refine r_sI X hR hS g37 dX8_back_81 (fun H locs hR hS => ?_)
        refine lv_aload_n hx hb dX8_back_82 rfl (lv_at hl 0 rfl) ?_
        obtain ⟨v38, g39, hf⟩ := ob hf
        refine gR_X8_23 X hR g39 dX8_back_83 ?_
        refine lv_iload_n hx hb dX8_back_86 rfl (lv_at hl 2 rfl) ?_
        refine lv_aload_n hx hb dX8_back_87 rfl (lv_at hl 0 rfl) ?_
        obtain ⟨v40, g41, hf⟩ := ob hf
        refine gR_X8_38 X hR g41 dX8_back_88 ?_
        refine lv_iload_n hx hb dX8_back_91 rfl (lv_at hl 1 rfl) ?_
        refine lv_bipush (v := 65) hx hb dX8_back_92 (by decide) ?_
        refine lv_iadd hx hb dX8_back_94 ?_
        refine lv_iload_n hx hb dX8_back_95 rfl (lv_at hl 2 rfl) ?_
        refine lv_iadd hx hb dX8_back_96 ?_
        obtain ⟨v42, g43, hf⟩ := ob hf
        refine r_lI X hR g43 dX8_back_97 ?_
        obtain ⟨m44, g45, hf⟩ := ob hf
        refine r_sI X hR hS g45 dX8_back_98 (fun H locs hR hS => ?_)
        refine lv_iinc (v := (z19 + 1)) (lv' := [(2, .int (z19 + 1)), (0, .ref (B + x0)), (1, .int ((245 : Int32) * v8))]) hx hb dX8_back_99 hl (k := 2) rfl (congrArg (fun z => z19 + z) (by decide)) (by decide) rfl (fun ls hl => ?_)
        refine lv_goto (tgt := 43) hx hb dX8_back_102 (by decide) ?_
        obtain rfl := Option.some.inj hf
        exact hxlq18 _ rfl H locs ls hR hS (lv_sub hl [1, 2, 0] rfl)
    · intro H locs ls hR hS hl
      refine lv_iconst (v := 0) hx hb dX8_back_105 (by decide) ?_
      refine lv_istore_n (lv' := [(2, .int (0 : Int32)), (0, .ref (B + x0)), (1, .int ((245 : Int32) * v8))]) hx hb dX8_back_106 rfl hl (by decide) rfl (fun ls hl => ?_)
      obtain ⟨e47, hwe47, hf⟩ := ob hf
      refine whl_rule (P := (fun t46 => ∀ (H : Heap) (locs : List Loc) (ls : Array Slot), Rl B D cA t46.2 H → va_S (fun q => B ≤ q) s.heap H locs → lv_has ls 3 [(0, .ref (B + x0)), (1, .int ((245 : Int32) * v8)), (2, .int t46.1)] → W p l e (rmm 1 0 0 23) s mt args below meth c H locs 0 0 (MQ below (mQ B D cA (some (.int rZ)) mZ) args s 0 0 (fun q => B ≤ q)) (F0 mt 107 ls []))) (Qx := (fun e47 => ∀ (H : Heap) (locs : List Loc) (ls : Array Slot), Rl B D cA e47 H → va_S (fun q => B ≤ q) s.heap H locs → lv_has ls 3 [(0, .ref (B + x0)), (1, .int ((245 : Int32) * v8))] → W p l e (rmm 1 0 0 23) s mt args below meth c H locs 0 0 (MQ below (mQ B D cA (some (.int rZ)) mZ) args s 0 0 (fun q => B ≤ q)) (F0 mt 135 ls []))) ?_ FU _ e47 hwe47 ?_ H locs ls hR hS (lv_sub hl [1, 2, 0] rfl)
      · clear hwe47 hf
        intro t46 q48 hf hxlq48 hxrq48 H locs ls hR hS hl
        obtain ⟨z49, m50⟩ := t46
        have hf : f_X8_back_L107 m50 x0 ((245 : Int32) * v8) z49 = some q48 := hf
        have hR : Rl B D cA m50 H := hR
        have hl : lv_has ls 3 [(0, .ref (B + x0)), (1, .int ((245 : Int32) * v8)), (2, .int z49)] := hl
        unfold f_X8_back_L107 at hf
        refine lv_iload_n hx hb dX8_back_107 rfl (lv_at hl 2 rfl) ?_
        refine lv_iconst (v := 4) hx hb dX8_back_108 (by decide) ?_
        refine lv_icmp_ge (tgt := 135) hx hb dX8_back_109 (by decide) (fun c51 => ?_) (fun c51 => ?_)
        · rw [if_pos c51] at hf
          obtain rfl := Option.some.inj hf
          exact hxrq48 _ rfl H locs ls hR hS (lv_sub hl [0, 1] rfl)
        · rw [if_neg c51] at hf
          refine lv_aload_n hx hb dX8_back_112 rfl (lv_at hl 0 rfl) ?_
          obtain ⟨v52, g53, hf⟩ := ob hf
          refine gR_X8_32 X hR g53 dX8_back_113 ?_
          refine lv_iload_n hx hb dX8_back_116 rfl (lv_at hl 2 rfl) ?_
          refine lv_aload_n hx hb dX8_back_117 rfl (lv_at hl 0 rfl) ?_
          obtain ⟨v54, g55, hf⟩ := ob hf
          refine gR_X8_38 X hR g55 dX8_back_118 ?_
          refine lv_iload_n hx hb dX8_back_121 rfl (lv_at hl 1 rfl) ?_
          refine lv_bipush (v := 97) hx hb dX8_back_122 (by decide) ?_
          refine lv_iadd hx hb dX8_back_124 ?_
          refine lv_iload_n hx hb dX8_back_125 rfl (lv_at hl 2 rfl) ?_
          refine lv_iadd hx hb dX8_back_126 ?_
          obtain ⟨v56, g57, hf⟩ := ob hf
          refine r_lI X hR g57 dX8_back_127 ?_
          obtain ⟨m58, g59, hf⟩ := ob hf
          refine r_sI X hR hS g59 dX8_back_128 (fun H locs hR hS => ?_)
          refine lv_iinc (v := (z49 + 1)) (lv' := [(2, .int (z49 + 1)), (0, .ref (B + x0)), (1, .int ((245 : Int32) * v8))]) hx hb dX8_back_129 hl (k := 2) rfl (congrArg (fun z => z49 + z) (by decide)) (by decide) rfl (fun ls hl => ?_)
          refine lv_goto (tgt := 107) hx hb dX8_back_132 (by decide) ?_
          obtain rfl := Option.some.inj hf
          exact hxlq48 _ rfl H locs ls hR hS (lv_sub hl [1, 2, 0] rfl)
      · intro H locs ls hR hS hl
        refine lv_iconst (v := 0) hx hb dX8_back_135 (by decide) ?_
        refine lv_istore_n (lv' := [(2, .int (0 : Int32)), (0, .ref (B + x0)), (1, .int ((245 : Int32) * v8))]) hx hb dX8_back_136 rfl hl (by decide) rfl (fun ls hl => ?_)
        obtain ⟨e61, hwe61, hf⟩ := ob hf
        refine whl_rule (P := (fun t60 => ∀ (H : Heap) (locs : List Loc) (ls : Array Slot), Rl B D cA t60.2 H → va_S (fun q => B ≤ q) s.heap H locs → lv_has ls 3 [(0, .ref (B + x0)), (1, .int ((245 : Int32) * v8)), (2, .int t60.1)] → W p l e (rmm 1 0 0 23) s mt args below meth c H locs 0 0 (MQ below (mQ B D cA (some (.int rZ)) mZ) args s 0 0 (fun q => B ≤ q)) (F0 mt 137 ls []))) (Qx := (fun e61 => ∀ (H : Heap) (locs : List Loc) (ls : Array Slot), Rl B D cA e61 H → va_S (fun q => B ≤ q) s.heap H locs → lv_has ls 3 [(0, .ref (B + x0))] → W p l e (rmm 1 0 0 23) s mt args below meth c H locs 0 0 (MQ below (mQ B D cA (some (.int rZ)) mZ) args s 0 0 (fun q => B ≤ q)) (F0 mt 167 ls []))) ?_ FU _ e61 hwe61 ?_ H locs ls hR hS (lv_sub hl [1, 2, 0] rfl)
        · clear hwe61 hf
          intro t60 q62 hf hxlq62 hxrq62 H locs ls hR hS hl
          obtain ⟨z63, m64⟩ := t60
          have hf : f_X8_back_L137 m64 x0 ((245 : Int32) * v8) z63 = some q62 := hf
          have hR : Rl B D cA m64 H := hR
          have hl : lv_has ls 3 [(0, .ref (B + x0)), (1, .int ((245 : Int32) * v8)), (2, .int z63)] := hl
          unfold f_X8_back_L137 at hf
          refine lv_iload_n hx hb dX8_back_137 rfl (lv_at hl 2 rfl) ?_
          refine lv_sipush (v := 144) hx hb dX8_back_138 (by decide) ?_
          refine lv_icmp_ge (tgt := 167) hx hb dX8_back_141 (by decide) (fun c65 => ?_) (fun c65 => ?_)
          · rw [if_pos c65] at hf
            obtain rfl := Option.some.inj hf
            exact hxrq62 _ rfl H locs ls hR hS (lv_sub hl [0] rfl)
          · rw [if_neg c65] at hf
            refine lv_aload_n hx hb dX8_back_144 rfl (lv_at hl 0 rfl) ?_
            obtain ⟨v66, g67, hf⟩ := ob hf
            refine gR_X8_35 X hR g67 dX8_back_145 ?_
            refine lv_iload_n hx hb dX8_back_148 rfl (lv_at hl 2 rfl) ?_
            refine lv_aload_n hx hb dX8_back_149 rfl (lv_at hl 0 rfl) ?_
            obtain ⟨v68, g69, hf⟩ := ob hf
            refine gR_X8_38 X hR g69 dX8_back_150 ?_
            refine lv_iload_n hx hb dX8_back_153 rfl (lv_at hl 1 rfl) ?_
            refine lv_bipush (v := 101) hx hb dX8_back_154 (by decide) ?_
            refine lv_iadd hx hb dX8_back_156 ?_
            refine lv_iload_n hx hb dX8_back_157 rfl (lv_at hl 2 rfl) ?_
            refine lv_iadd hx hb dX8_back_158 ?_
            obtain ⟨v70, g71, hf⟩ := ob hf
            refine r_lI X hR g71 dX8_back_159 ?_
            obtain ⟨m72, g73, hf⟩ := ob hf
            refine r_sI X hR hS g73 dX8_back_160 (fun H locs hR hS => ?_)
            refine lv_iinc (v := (z63 + 1)) (lv' := [(2, .int (z63 + 1)), (0, .ref (B + x0)), (1, .int ((245 : Int32) * v8))]) hx hb dX8_back_161 hl (k := 2) rfl (congrArg (fun z => z63 + z) (by decide)) (by decide) rfl (fun ls hl => ?_)
            refine lv_goto (tgt := 137) hx hb dX8_back_164 (by decide) ?_
            obtain rfl := Option.some.inj hf
            exact hxlq62 _ rfl H locs ls hR hS (lv_sub hl [1, 2, 0] rfl)
        · intro H locs ls hR hS hl
          refine lv_aload_n hx hb dX8_back_167 rfl (lv_at hl 0 rfl) ?_
          obtain ⟨o74, h75, hf⟩ := obO hf
          obtain ⟨m77, g76, hf⟩ := ob hf
          refine r_callV X kw_X8_123 (ci := 8) rfl (c_X8_tellsTree l B D cA e61 x0 m77 g76) ⟨Nat.le_of_ble_eq_true rfl, Nat.le_of_ble_eq_true rfl⟩ h75 hR hS hl.1 rfl rfl (Nat.le_of_ble_eq_true rfl) ⟨Nat.le_of_ble_eq_true rfl, Nat.le_of_ble_eq_true rfl⟩ dX8_back_168 (fun H locs hR hS => ?_)
          refine W.eq (g2 := F0 mt 171 ls []) rfl ?_
          refine lv_aload_n hx hb dX8_back_171 rfl (lv_at hl 0 rfl) ?_
          obtain ⟨v78, g79, hf⟩ := ob hf
          refine gI_X8_116 X hR g79 dX8_back_172 ?_
          obtain ⟨rfl, rfl⟩ := Prod.mk.inj (Option.some.inj hf)
          exact r_iret X hr hlocks hR hS rfl dX8_back_175
  · rw [if_pos c3] at hf
    refine lv_aload_n hx hb dX8_back_7 rfl (lv_at hl 0 rfl) ?_
    obtain ⟨o80, h81, hf⟩ := obO hf
    obtain ⟨t83, g82, hf⟩ := ob hf
    refine r_callV X kw_X8_119 (ci := 8) rfl (c_X8_no l B D cA m x0 t83.1 t83.2 g82) ⟨Nat.le_of_ble_eq_true rfl, Nat.le_of_ble_eq_true rfl⟩ h81 hR hS hl.1 rfl rfl (Nat.le_of_ble_eq_true rfl) ⟨Nat.le_of_ble_eq_true rfl, Nat.le_of_ble_eq_true rfl⟩ dX8_back_8 (fun H locs hR hS => ?_)
    refine W.eq (g2 := F0 mt 11 ls [.int t83.1]) rfl ?_
    obtain ⟨rfl, rfl⟩ := Prod.mk.inj (Option.some.inj hf)
    exact r_iret X hr hlocks hR hS rfl dX8_back_11
/-! ===== TwigMatchesModel.adds(IIII)I ===== -/
theorem dX8_adds_0 : decode cX8_adds 0 = .ok (.aload_n 0, 1) := by decide +kernel
theorem dX8_adds_1 : decode cX8_adds 1 = .ok (.iload_n 1, 1) := by decide +kernel
theorem dX8_adds_2 : decode cX8_adds 2 = .ok (.invokevirtual 126, 3) := by decide +kernel
theorem dX8_adds_5 : decode cX8_adds 5 = .ok (.ifCond .eq 36, 3) := by decide +kernel
theorem dX8_adds_8 : decode cX8_adds 8 = .ok (.iload_n 2, 1) := by decide +kernel
theorem dX8_adds_9 : decode cX8_adds 9 = .ok (.iconst 0, 1) := by decide +kernel
theorem dX8_adds_10 : decode cX8_adds 10 = .ok (.aload_n 0, 1) := by decide +kernel
theorem dX8_adds_11 : decode cX8_adds 11 = .ok (.iload_n 1, 1) := by decide +kernel
theorem dX8_adds_12 : decode cX8_adds 12 = .ok (.invokevirtual 130, 3) := by decide +kernel
theorem dX8_adds_15 : decode cX8_adds 15 = .ok (.invokestatic 90, 3) := by decide +kernel
theorem dX8_adds_18 : decode cX8_adds 18 = .ok (.ifCond .eq 23, 3) := by decide +kernel
theorem dX8_adds_21 : decode cX8_adds 21 = .ok (.iload_n 3, 1) := by decide +kernel
theorem dX8_adds_22 : decode cX8_adds 22 = .ok (.iconst 0, 1) := by decide +kernel
theorem dX8_adds_23 : decode cX8_adds 23 = .ok (.iconst 5, 1) := by decide +kernel
theorem dX8_adds_24 : decode cX8_adds 24 = .ok (.invokestatic 90, 3) := by decide +kernel
theorem dX8_adds_27 : decode cX8_adds 27 = .ok (.ifCond .eq 14, 3) := by decide +kernel
theorem dX8_adds_30 : decode cX8_adds 30 = .ok (.iload 4, 2) := by decide +kernel
theorem dX8_adds_32 : decode cX8_adds 32 = .ok (.iconst 0, 1) := by decide +kernel
theorem dX8_adds_33 : decode cX8_adds 33 = .ok (.bipush 9, 2) := by decide +kernel
theorem dX8_adds_35 : decode cX8_adds 35 = .ok (.invokestatic 90, 3) := by decide +kernel
theorem dX8_adds_38 : decode cX8_adds 38 = .ok (.ifCond .ne 8, 3) := by decide +kernel
theorem dX8_adds_41 : decode cX8_adds 41 = .ok (.aload_n 0, 1) := by decide +kernel
theorem dX8_adds_42 : decode cX8_adds 42 = .ok (.invokevirtual 134, 3) := by decide +kernel
theorem dX8_adds_45 : decode cX8_adds 45 = .ok (.ireturn, 1) := by decide +kernel
theorem dX8_adds_46 : decode cX8_adds 46 = .ok (.aload_n 0, 1) := by decide +kernel
theorem dX8_adds_47 : decode cX8_adds 47 = .ok (.getfield 23, 3) := by decide +kernel
theorem dX8_adds_50 : decode cX8_adds 50 = .ok (.iload_n 1, 1) := by decide +kernel
theorem dX8_adds_51 : decode cX8_adds 51 = .ok (.iaload, 1) := by decide +kernel
theorem dX8_adds_52 : decode cX8_adds 52 = .ok (.bipush 10, 2) := by decide +kernel
theorem dX8_adds_54 : decode cX8_adds 54 = .ok (.if_icmp .ne 8, 3) := by decide +kernel
theorem dX8_adds_57 : decode cX8_adds 57 = .ok (.aload_n 0, 1) := by decide +kernel
theorem dX8_adds_58 : decode cX8_adds 58 = .ok (.invokevirtual 119, 3) := by decide +kernel
theorem dX8_adds_61 : decode cX8_adds 61 = .ok (.ireturn, 1) := by decide +kernel
theorem dX8_adds_62 : decode cX8_adds 62 = .ok (.aload_n 0, 1) := by decide +kernel
theorem dX8_adds_63 : decode cX8_adds 63 = .ok (.getfield 13, 3) := by decide +kernel
theorem dX8_adds_66 : decode cX8_adds 66 = .ok (.bipush 32, 2) := by decide +kernel
theorem dX8_adds_68 : decode cX8_adds 68 = .ok (.if_icmp .ne 8, 3) := by decide +kernel
theorem dX8_adds_71 : decode cX8_adds 71 = .ok (.aload_n 0, 1) := by decide +kernel
theorem dX8_adds_72 : decode cX8_adds 72 = .ok (.invokevirtual 137, 3) := by decide +kernel
theorem dX8_adds_75 : decode cX8_adds 75 = .ok (.ireturn, 1) := by decide +kernel
theorem dX8_adds_76 : decode cX8_adds 76 = .ok (.aload_n 0, 1) := by decide +kernel
theorem dX8_adds_77 : decode cX8_adds 77 = .ok (.invokevirtual 140, 3) := by decide +kernel
theorem dX8_adds_80 : decode cX8_adds 80 = .ok (.aload_n 0, 1) := by decide +kernel
theorem dX8_adds_81 : decode cX8_adds 81 = .ok (.iload_n 1, 1) := by decide +kernel
theorem dX8_adds_82 : decode cX8_adds 82 = .ok (.iload_n 2, 1) := by decide +kernel
theorem dX8_adds_83 : decode cX8_adds 83 = .ok (.invokevirtual 143, 3) := by decide +kernel
theorem dX8_adds_86 : decode cX8_adds 86 = .ok (.istore 5, 2) := by decide +kernel
theorem dX8_adds_88 : decode cX8_adds 88 = .ok (.aload_n 0, 1) := by decide +kernel
theorem dX8_adds_89 : decode cX8_adds 89 = .ok (.getfield 23, 3) := by decide +kernel
theorem dX8_adds_92 : decode cX8_adds 92 = .ok (.iload_n 1, 1) := by decide +kernel
theorem dX8_adds_93 : decode cX8_adds 93 = .ok (.iaload, 1) := by decide +kernel
theorem dX8_adds_94 : decode cX8_adds 94 = .ok (.iconst 1, 1) := by decide +kernel
theorem dX8_adds_95 : decode cX8_adds 95 = .ok (.iadd, 1) := by decide +kernel
theorem dX8_adds_96 : decode cX8_adds 96 = .ok (.istore 6, 2) := by decide +kernel
theorem dX8_adds_98 : decode cX8_adds 98 = .ok (.aload_n 0, 1) := by decide +kernel
theorem dX8_adds_99 : decode cX8_adds 99 = .ok (.iload 5, 2) := by decide +kernel
theorem dX8_adds_101 : decode cX8_adds 101 = .ok (.iconst 1, 1) := by decide +kernel
theorem dX8_adds_102 : decode cX8_adds 102 = .ok (.invokevirtual 146, 3) := by decide +kernel
theorem dX8_adds_105 : decode cX8_adds 105 = .ok (.aload_n 0, 1) := by decide +kernel
theorem dX8_adds_106 : decode cX8_adds 106 = .ok (.getfield 17, 3) := by decide +kernel
theorem dX8_adds_109 : decode cX8_adds 109 = .ok (.iload 5, 2) := by decide +kernel
theorem dX8_adds_111 : decode cX8_adds 111 = .ok (.iload_n 3, 1) := by decide +kernel
theorem dX8_adds_112 : decode cX8_adds 112 = .ok (.iastore, 1) := by decide +kernel
theorem dX8_adds_113 : decode cX8_adds 113 = .ok (.aload_n 0, 1) := by decide +kernel
theorem dX8_adds_114 : decode cX8_adds 114 = .ok (.getfield 20, 3) := by decide +kernel
theorem dX8_adds_117 : decode cX8_adds 117 = .ok (.iload 5, 2) := by decide +kernel
theorem dX8_adds_119 : decode cX8_adds 119 = .ok (.iload 4, 2) := by decide +kernel
theorem dX8_adds_121 : decode cX8_adds 121 = .ok (.iastore, 1) := by decide +kernel
theorem dX8_adds_122 : decode cX8_adds 122 = .ok (.aload_n 0, 1) := by decide +kernel
theorem dX8_adds_123 : decode cX8_adds 123 = .ok (.getfield 23, 3) := by decide +kernel
theorem dX8_adds_126 : decode cX8_adds 126 = .ok (.iload 5, 2) := by decide +kernel
theorem dX8_adds_128 : decode cX8_adds 128 = .ok (.iload 6, 2) := by decide +kernel
theorem dX8_adds_130 : decode cX8_adds 130 = .ok (.iastore, 1) := by decide +kernel
theorem dX8_adds_131 : decode cX8_adds 131 = .ok (.aload_n 0, 1) := by decide +kernel
theorem dX8_adds_132 : decode cX8_adds 132 = .ok (.invokevirtual 123, 3) := by decide +kernel
theorem dX8_adds_135 : decode cX8_adds 135 = .ok (.iload 5, 2) := by decide +kernel
theorem dX8_adds_137 : decode cX8_adds 137 = .ok (.ireturn, 1) := by decide +kernel
set_option maxHeartbeats 4000000 in
set_option maxRecDepth 100000 in
theorem c_X8_adds (l : Launch) (B : Nat) (D : va_G) (cA : Nat → ClassId) (m : Mm) (x0 : Nat) (x1 : Int32) (x2 : Int32) (x3 : Int32) (x4 : Int32) (rZ : Int32) (mZ : Mm) (hf : f_X8_adds m x0 x1 x2 x3 x4 = some (rZ, mZ)) : Mt l B D cA yX8_adds cX8_adds 7 (some .int) 2 45 0 0 [.ref (B + x0), .int x1, .int x2, .int x3, .int x4] m (some (.int rZ)) mZ := by
  refine r_start (by decide) (Nat.le_of_ble_eq_true rfl) ?_
  intro p e s mt args below meth c ls H locs X hr hlocks hnm hR hl hS
  have hx := X.1
  have hb := X.2.1
  have hl : lv_has ls 7 [(0, .ref (B + x0)), (1, .int x1), (2, .int x2), (3, .int x3), (4, .int x4)] := hl
  unfold f_X8_adds at hf
  refine lv_aload_n hx hb dX8_adds_0 rfl (lv_at hl 0 rfl) ?_
  refine lv_iload_n hx hb dX8_adds_1 rfl (lv_at hl 1 rfl) ?_
  obtain ⟨o1, h2, hf⟩ := obO hf
  obtain ⟨v4, g3, hf⟩ := ob hf
  refine r_callV X kw_X8_126 (ci := 8) rfl (c_X8_isElement l B D cA m x0 x1 v4 g3) ⟨Nat.le_of_ble_eq_true rfl, Nat.le_of_ble_eq_true rfl⟩ h2 hR hS hl.1 rfl rfl (Nat.le_of_ble_eq_true rfl) ⟨Nat.le_of_ble_eq_true rfl, Nat.le_of_ble_eq_true rfl⟩ dX8_adds_2 (fun H locs hR hS => ?_)
  refine W.eq (g2 := F0 mt 5 ls [.int v4]) rfl ?_
  refine lv_if_eq (tgt := 41) hx hb dX8_adds_5 (by decide) (fun c5 => ?_) (fun c5 => ?_)
  · rw [if_pos c5] at hf
    refine lv_aload_n hx hb dX8_adds_41 rfl (lv_at hl 0 rfl) ?_
    obtain ⟨o6, h7, hf⟩ := obO hf
    obtain ⟨t9, g8, hf⟩ := ob hf
    refine r_callV X kw_X8_134 (ci := 8) rfl (c_X8_bad l B D cA m x0 t9.1 t9.2 g8) ⟨Nat.le_of_ble_eq_true rfl, Nat.le_of_ble_eq_true rfl⟩ h7 hR hS hl.1 rfl rfl (Nat.le_of_ble_eq_true rfl) ⟨Nat.le_of_ble_eq_true rfl, Nat.le_of_ble_eq_true rfl⟩ dX8_adds_42 (fun H locs hR hS => ?_)
    refine W.eq (g2 := F0 mt 45 ls [.int t9.1]) rfl ?_
    obtain ⟨rfl, rfl⟩ := Prod.mk.inj (Option.some.inj hf)
    exact r_iret X hr hlocks hR hS rfl dX8_adds_45
  · rw [if_neg c5] at hf
    refine lv_iload_n hx hb dX8_adds_8 rfl (lv_at hl 2 rfl) ?_
    refine lv_iconst (v := 0) hx hb dX8_adds_9 (by decide) ?_
    refine lv_aload_n hx hb dX8_adds_10 rfl (lv_at hl 0 rfl) ?_
    refine lv_iload_n hx hb dX8_adds_11 rfl (lv_at hl 1 rfl) ?_
    obtain ⟨o10, h11, hf⟩ := obO hf
    obtain ⟨v13, g12, hf⟩ := ob hf
    refine r_callV X kw_X8_130 (ci := 8) rfl (c_X8_children l B D cA m x0 x1 v13 g12) ⟨Nat.le_of_ble_eq_true rfl, Nat.le_of_ble_eq_true rfl⟩ h11 hR hS hl.1 rfl rfl (Nat.le_of_ble_eq_true rfl) ⟨Nat.le_of_ble_eq_true rfl, Nat.le_of_ble_eq_true rfl⟩ dX8_adds_12 (fun H locs hR hS => ?_)
    refine W.eq (g2 := F0 mt 15 ls [.int v13, .int (0 : Int32), .int x2]) rfl ?_
    obtain ⟨v15, g14, hf⟩ := ob hf
    refine r_callS X kw_X8_90 (c_X8_in l B D cA m x2 (0 : Int32) v13 v15 g14) ⟨Nat.le_of_ble_eq_true rfl, Nat.le_of_ble_eq_true rfl⟩ hR hS hl.1 rfl rfl (Nat.le_of_ble_eq_true rfl) ⟨Nat.le_of_ble_eq_true rfl, Nat.le_of_ble_eq_true rfl⟩ dX8_adds_15 (fun H locs hR hS => ?_)
    refine W.eq (g2 := F0 mt 18 ls [.int v15]) rfl ?_
    refine lv_if_eq (tgt := 41) hx hb dX8_adds_18 (by decide) (fun c16 => ?_) (fun c16 => ?_)
    · rw [if_pos c16] at hf
      refine lv_aload_n hx hb dX8_adds_41 rfl (lv_at hl 0 rfl) ?_
      obtain ⟨o17, h18, hf⟩ := obO hf
      obtain ⟨t20, g19, hf⟩ := ob hf
      refine r_callV X kw_X8_134 (ci := 8) rfl (c_X8_bad l B D cA m x0 t20.1 t20.2 g19) ⟨Nat.le_of_ble_eq_true rfl, Nat.le_of_ble_eq_true rfl⟩ h18 hR hS hl.1 rfl rfl (Nat.le_of_ble_eq_true rfl) ⟨Nat.le_of_ble_eq_true rfl, Nat.le_of_ble_eq_true rfl⟩ dX8_adds_42 (fun H locs hR hS => ?_)
      refine W.eq (g2 := F0 mt 45 ls [.int t20.1]) rfl ?_
      obtain ⟨rfl, rfl⟩ := Prod.mk.inj (Option.some.inj hf)
      exact r_iret X hr hlocks hR hS rfl dX8_adds_45
    · rw [if_neg c16] at hf
      refine lv_iload_n hx hb dX8_adds_21 rfl (lv_at hl 3 rfl) ?_
      refine lv_iconst (v := 0) hx hb dX8_adds_22 (by decide) ?_
      refine lv_iconst (v := 5) hx hb dX8_adds_23 (by decide) ?_
      obtain ⟨v22, g21, hf⟩ := ob hf
      refine r_callS X kw_X8_90 (c_X8_in l B D cA m x3 (0 : Int32) (5 : Int32) v22 g21) ⟨Nat.le_of_ble_eq_true rfl, Nat.le_of_ble_eq_true rfl⟩ hR hS hl.1 rfl rfl (Nat.le_of_ble_eq_true rfl) ⟨Nat.le_of_ble_eq_true rfl, Nat.le_of_ble_eq_true rfl⟩ dX8_adds_24 (fun H locs hR hS => ?_)
      refine W.eq (g2 := F0 mt 27 ls [.int v22]) rfl ?_
      refine lv_if_eq (tgt := 41) hx hb dX8_adds_27 (by decide) (fun c23 => ?_) (fun c23 => ?_)
      · rw [if_pos c23] at hf
        refine lv_aload_n hx hb dX8_adds_41 rfl (lv_at hl 0 rfl) ?_
        obtain ⟨o24, h25, hf⟩ := obO hf
        obtain ⟨t27, g26, hf⟩ := ob hf
        refine r_callV X kw_X8_134 (ci := 8) rfl (c_X8_bad l B D cA m x0 t27.1 t27.2 g26) ⟨Nat.le_of_ble_eq_true rfl, Nat.le_of_ble_eq_true rfl⟩ h25 hR hS hl.1 rfl rfl (Nat.le_of_ble_eq_true rfl) ⟨Nat.le_of_ble_eq_true rfl, Nat.le_of_ble_eq_true rfl⟩ dX8_adds_42 (fun H locs hR hS => ?_)
        refine W.eq (g2 := F0 mt 45 ls [.int t27.1]) rfl ?_
        obtain ⟨rfl, rfl⟩ := Prod.mk.inj (Option.some.inj hf)
        exact r_iret X hr hlocks hR hS rfl dX8_adds_45
      · rw [if_neg c23] at hf
        refine lv_iload hx hb dX8_adds_30 (lv_at hl 4 rfl) ?_
        refine lv_iconst (v := 0) hx hb dX8_adds_32 (by decide) ?_
        refine lv_bipush (v := 9) hx hb dX8_adds_33 (by decide) ?_
        obtain ⟨v29, g28, hf⟩ := ob hf
        refine r_callS X kw_X8_90 (c_X8_in l B D cA m x4 (0 : Int32) (9 : Int32) v29 g28) ⟨Nat.le_of_ble_eq_true rfl, Nat.le_of_ble_eq_true rfl⟩ hR hS hl.1 rfl rfl (Nat.le_of_ble_eq_true rfl) ⟨Nat.le_of_ble_eq_true rfl, Nat.le_of_ble_eq_true rfl⟩ dX8_adds_35 (fun H locs hR hS => ?_)
        refine W.eq (g2 := F0 mt 38 ls [.int v29]) rfl ?_
        refine lv_if_ne (tgt := 46) hx hb dX8_adds_38 (by decide) (fun c30 => ?_) (fun c30 => ?_)
        · rw [if_neg c30] at hf
          refine lv_aload_n hx hb dX8_adds_46 rfl (lv_at hl 0 rfl) ?_
          obtain ⟨v31, g32, hf⟩ := ob hf
          refine gR_X8_23 X hR g32 dX8_adds_47 ?_
          refine lv_iload_n hx hb dX8_adds_50 rfl (lv_at hl 1 rfl) ?_
          obtain ⟨v33, g34, hf⟩ := ob hf
          refine r_lI X hR g34 dX8_adds_51 ?_
          refine lv_bipush (v := 10) hx hb dX8_adds_52 (by decide) ?_
          refine lv_icmp_ne (tgt := 62) hx hb dX8_adds_54 (by decide) (fun c35 => ?_) (fun c35 => ?_)
          · rw [if_neg c35] at hf
            refine lv_aload_n hx hb dX8_adds_62 rfl (lv_at hl 0 rfl) ?_
            obtain ⟨v36, g37, hf⟩ := ob hf
            refine gI_X8_13 X hR g37 dX8_adds_63 ?_
            refine lv_bipush (v := 32) hx hb dX8_adds_66 (by decide) ?_
            refine lv_icmp_ne (tgt := 76) hx hb dX8_adds_68 (by decide) (fun c38 => ?_) (fun c38 => ?_)
            · rw [if_neg c38] at hf
              refine lv_aload_n hx hb dX8_adds_76 rfl (lv_at hl 0 rfl) ?_
              obtain ⟨o39, h40, hf⟩ := obO hf
              obtain ⟨m42, g41, hf⟩ := ob hf
              refine r_callV X kw_X8_140 (ci := 8) rfl (c_X8_leavesState l B D cA m x0 m42 g41) ⟨Nat.le_of_ble_eq_true rfl, Nat.le_of_ble_eq_true rfl⟩ h40 hR hS hl.1 rfl rfl (Nat.le_of_ble_eq_true rfl) ⟨Nat.le_of_ble_eq_true rfl, Nat.le_of_ble_eq_true rfl⟩ dX8_adds_77 (fun H locs hR hS => ?_)
              refine W.eq (g2 := F0 mt 80 ls []) rfl ?_
              refine lv_aload_n hx hb dX8_adds_80 rfl (lv_at hl 0 rfl) ?_
              refine lv_iload_n hx hb dX8_adds_81 rfl (lv_at hl 1 rfl) ?_
              refine lv_iload_n hx hb dX8_adds_82 rfl (lv_at hl 2 rfl) ?_
              obtain ⟨o43, h44, hf⟩ := obO hf
              obtain ⟨v46, g45, hf⟩ := ob hf
              refine r_callV X kw_X8_143 (ci := 8) rfl (c_X8_spot l B D cA m42 x0 x1 x2 v46 g45) ⟨Nat.le_of_ble_eq_true rfl, Nat.le_of_ble_eq_true rfl⟩ h44 hR hS hl.1 rfl rfl (Nat.le_of_ble_eq_true rfl) ⟨Nat.le_of_ble_eq_true rfl, Nat.le_of_ble_eq_true rfl⟩ dX8_adds_83 (fun H locs hR hS => ?_)
              refine W.eq (g2 := F0 mt 86 ls [.int v46]) rfl ?_
              refine lv_istore (lv' := [(5, .int v46), (0, .ref (B + x0)), (1, .int x1), (2, .int x2), (3, .int x3), (4, .int x4)]) hx hb dX8_adds_86 hl (by decide) rfl (fun ls hl => ?_)
              refine lv_aload_n hx hb dX8_adds_88 rfl (lv_at hl 1 rfl) ?_
              obtain ⟨v47, g48, hf⟩ := ob hf
              refine gR_X8_23 X hR g48 dX8_adds_89 ?_
              refine lv_iload_n hx hb dX8_adds_92 rfl (lv_at hl 2 rfl) ?_
              obtain ⟨v49, g50, hf⟩ := ob hf
              refine r_lI X hR g50 dX8_adds_93 ?_
              refine lv_iconst (v := 1) hx hb dX8_adds_94 (by decide) ?_
              refine lv_iadd hx hb dX8_adds_95 ?_
              refine lv_istore (lv' := [(6, .int (v49 + (1 : Int32))), (5, .int v46), (0, .ref (B + x0)), (1, .int x1), (2, .int x2), (3, .int x3), (4, .int x4)]) hx hb dX8_adds_96 hl (by decide) rfl (fun ls hl => ?_)
              refine lv_aload_n hx hb dX8_adds_98 rfl (lv_at hl 2 rfl) ?_
              refine lv_iload hx hb dX8_adds_99 (lv_at hl 1 rfl) ?_
              refine lv_iconst (v := 1) hx hb dX8_adds_101 (by decide) ?_
              obtain ⟨o51, h52, hf⟩ := obO hf
              obtain ⟨m54, g53, hf⟩ := ob hf
              refine r_callV X kw_X8_146 (ci := 8) rfl (c_X8_makesRoom l B D cA m42 x0 v46 (1 : Int32) m54 g53) ⟨Nat.le_of_ble_eq_true rfl, Nat.le_of_ble_eq_true rfl⟩ h52 hR hS hl.1 rfl rfl (Nat.le_of_ble_eq_true rfl) ⟨Nat.le_of_ble_eq_true rfl, Nat.le_of_ble_eq_true rfl⟩ dX8_adds_102 (fun H locs hR hS => ?_)
              refine W.eq (g2 := F0 mt 105 ls []) rfl ?_
              refine lv_aload_n hx hb dX8_adds_105 rfl (lv_at hl 2 rfl) ?_
              obtain ⟨v55, g56, hf⟩ := ob hf
              refine gR_X8_17 X hR g56 dX8_adds_106 ?_
              refine lv_iload hx hb dX8_adds_109 (lv_at hl 1 rfl) ?_
              refine lv_iload_n hx hb dX8_adds_111 rfl (lv_at hl 5 rfl) ?_
              obtain ⟨m57, g58, hf⟩ := ob hf
              refine r_sI X hR hS g58 dX8_adds_112 (fun H locs hR hS => ?_)
              refine lv_aload_n hx hb dX8_adds_113 rfl (lv_at hl 2 rfl) ?_
              obtain ⟨v59, g60, hf⟩ := ob hf
              refine gR_X8_20 X hR g60 dX8_adds_114 ?_
              refine lv_iload hx hb dX8_adds_117 (lv_at hl 1 rfl) ?_
              refine lv_iload hx hb dX8_adds_119 (lv_at hl 6 rfl) ?_
              obtain ⟨m61, g62, hf⟩ := ob hf
              refine r_sI X hR hS g62 dX8_adds_121 (fun H locs hR hS => ?_)
              refine lv_aload_n hx hb dX8_adds_122 rfl (lv_at hl 2 rfl) ?_
              obtain ⟨v63, g64, hf⟩ := ob hf
              refine gR_X8_23 X hR g64 dX8_adds_123 ?_
              refine lv_iload hx hb dX8_adds_126 (lv_at hl 1 rfl) ?_
              refine lv_iload hx hb dX8_adds_128 (lv_at hl 0 rfl) ?_
              obtain ⟨m65, g66, hf⟩ := ob hf
              refine r_sI X hR hS g66 dX8_adds_130 (fun H locs hR hS => ?_)
              refine lv_aload_n hx hb dX8_adds_131 rfl (lv_at hl 2 rfl) ?_
              obtain ⟨o67, h68, hf⟩ := obO hf
              obtain ⟨m70, g69, hf⟩ := ob hf
              refine r_callV X kw_X8_123 (ci := 8) rfl (c_X8_tellsTree l B D cA m65 x0 m70 g69) ⟨Nat.le_of_ble_eq_true rfl, Nat.le_of_ble_eq_true rfl⟩ h68 hR hS hl.1 rfl rfl (Nat.le_of_ble_eq_true rfl) ⟨Nat.le_of_ble_eq_true rfl, Nat.le_of_ble_eq_true rfl⟩ dX8_adds_132 (fun H locs hR hS => ?_)
              refine W.eq (g2 := F0 mt 135 ls []) rfl ?_
              refine lv_iload hx hb dX8_adds_135 (lv_at hl 1 rfl) ?_
              obtain ⟨rfl, rfl⟩ := Prod.mk.inj (Option.some.inj hf)
              exact r_iret X hr hlocks hR hS rfl dX8_adds_137
            · rw [if_pos c38] at hf
              refine lv_aload_n hx hb dX8_adds_71 rfl (lv_at hl 0 rfl) ?_
              obtain ⟨o71, h72, hf⟩ := obO hf
              obtain ⟨t74, g73, hf⟩ := ob hf
              refine r_callV X kw_X8_137 (ci := 8) rfl (c_X8_full l B D cA m x0 t74.1 t74.2 g73) ⟨Nat.le_of_ble_eq_true rfl, Nat.le_of_ble_eq_true rfl⟩ h72 hR hS hl.1 rfl rfl (Nat.le_of_ble_eq_true rfl) ⟨Nat.le_of_ble_eq_true rfl, Nat.le_of_ble_eq_true rfl⟩ dX8_adds_72 (fun H locs hR hS => ?_)
              refine W.eq (g2 := F0 mt 75 ls [.int t74.1]) rfl ?_
              obtain ⟨rfl, rfl⟩ := Prod.mk.inj (Option.some.inj hf)
              exact r_iret X hr hlocks hR hS rfl dX8_adds_75
          · rw [if_pos c35] at hf
            refine lv_aload_n hx hb dX8_adds_57 rfl (lv_at hl 0 rfl) ?_
            obtain ⟨o75, h76, hf⟩ := obO hf
            obtain ⟨t78, g77, hf⟩ := ob hf
            refine r_callV X kw_X8_119 (ci := 8) rfl (c_X8_no l B D cA m x0 t78.1 t78.2 g77) ⟨Nat.le_of_ble_eq_true rfl, Nat.le_of_ble_eq_true rfl⟩ h76 hR hS hl.1 rfl rfl (Nat.le_of_ble_eq_true rfl) ⟨Nat.le_of_ble_eq_true rfl, Nat.le_of_ble_eq_true rfl⟩ dX8_adds_58 (fun H locs hR hS => ?_)
            refine W.eq (g2 := F0 mt 61 ls [.int t78.1]) rfl ?_
            obtain ⟨rfl, rfl⟩ := Prod.mk.inj (Option.some.inj hf)
            exact r_iret X hr hlocks hR hS rfl dX8_adds_61
        · rw [if_pos c30] at hf
          refine lv_aload_n hx hb dX8_adds_41 rfl (lv_at hl 0 rfl) ?_
          obtain ⟨o79, h80, hf⟩ := obO hf
          obtain ⟨t82, g81, hf⟩ := ob hf
          refine r_callV X kw_X8_134 (ci := 8) rfl (c_X8_bad l B D cA m x0 t82.1 t82.2 g81) ⟨Nat.le_of_ble_eq_true rfl, Nat.le_of_ble_eq_true rfl⟩ h80 hR hS hl.1 rfl rfl (Nat.le_of_ble_eq_true rfl) ⟨Nat.le_of_ble_eq_true rfl, Nat.le_of_ble_eq_true rfl⟩ dX8_adds_42 (fun H locs hR hS => ?_)
          refine W.eq (g2 := F0 mt 45 ls [.int t82.1]) rfl ?_
          obtain ⟨rfl, rfl⟩ := Prod.mk.inj (Option.some.inj hf)
          exact r_iret X hr hlocks hR hS rfl dX8_adds_45
/-! ===== TwigMatchesModel.drops(I)I ===== -/
theorem dX8_drops_0 : decode cX8_drops 0 = .ok (.aload_n 0, 1) := by decide +kernel
theorem dX8_drops_1 : decode cX8_drops 1 = .ok (.iload_n 1, 1) := by decide +kernel
theorem dX8_drops_2 : decode cX8_drops 2 = .ok (.invokevirtual 126, 3) := by decide +kernel
theorem dX8_drops_5 : decode cX8_drops 5 = .ok (.ifCond .ne 8, 3) := by decide +kernel
theorem dX8_drops_8 : decode cX8_drops 8 = .ok (.aload_n 0, 1) := by decide +kernel
theorem dX8_drops_9 : decode cX8_drops 9 = .ok (.invokevirtual 134, 3) := by decide +kernel
theorem dX8_drops_12 : decode cX8_drops 12 = .ok (.ireturn, 1) := by decide +kernel
theorem dX8_drops_13 : decode cX8_drops 13 = .ok (.iload_n 1, 1) := by decide +kernel
theorem dX8_drops_14 : decode cX8_drops 14 = .ok (.ifCond .ne 8, 3) := by decide +kernel
theorem dX8_drops_17 : decode cX8_drops 17 = .ok (.aload_n 0, 1) := by decide +kernel
theorem dX8_drops_18 : decode cX8_drops 18 = .ok (.invokevirtual 119, 3) := by decide +kernel
theorem dX8_drops_21 : decode cX8_drops 21 = .ok (.ireturn, 1) := by decide +kernel
theorem dX8_drops_22 : decode cX8_drops 22 = .ok (.aload_n 0, 1) := by decide +kernel
theorem dX8_drops_23 : decode cX8_drops 23 = .ok (.invokevirtual 140, 3) := by decide +kernel
theorem dX8_drops_26 : decode cX8_drops 26 = .ok (.aload_n 0, 1) := by decide +kernel
theorem dX8_drops_27 : decode cX8_drops 27 = .ok (.getfield 26, 3) := by decide +kernel
theorem dX8_drops_30 : decode cX8_drops 30 = .ok (.iload_n 1, 1) := by decide +kernel
theorem dX8_drops_31 : decode cX8_drops 31 = .ok (.iaload, 1) := by decide +kernel
theorem dX8_drops_32 : decode cX8_drops 32 = .ok (.iload_n 1, 1) := by decide +kernel
theorem dX8_drops_33 : decode cX8_drops 33 = .ok (.isub, 1) := by decide +kernel
theorem dX8_drops_34 : decode cX8_drops 34 = .ok (.istore_n 2, 1) := by decide +kernel
theorem dX8_drops_35 : decode cX8_drops 35 = .ok (.aload_n 0, 1) := by decide +kernel
theorem dX8_drops_36 : decode cX8_drops 36 = .ok (.iload_n 1, 1) := by decide +kernel
theorem dX8_drops_37 : decode cX8_drops 37 = .ok (.iload_n 2, 1) := by decide +kernel
theorem dX8_drops_38 : decode cX8_drops 38 = .ok (.invokevirtual 149, 3) := by decide +kernel
theorem dX8_drops_41 : decode cX8_drops 41 = .ok (.aload_n 0, 1) := by decide +kernel
theorem dX8_drops_42 : decode cX8_drops 42 = .ok (.invokevirtual 123, 3) := by decide +kernel
theorem dX8_drops_45 : decode cX8_drops 45 = .ok (.iload_n 2, 1) := by decide +kernel
theorem dX8_drops_46 : decode cX8_drops 46 = .ok (.ireturn, 1) := by decide +kernel
set_option maxHeartbeats 4000000 in
set_option maxRecDepth 100000 in
theorem c_X8_drops (l : Launch) (B : Nat) (D : va_G) (cA : Nat → ClassId) (m : Mm) (x0 : Nat) (x1 : Int32) (rZ : Int32) (mZ : Mm) (hf : f_X8_drops m x0 x1 = some (rZ, mZ)) : Mt l B D cA yX8_drops cX8_drops 3 (some .int) 2 45 0 0 [.ref (B + x0), .int x1] m (some (.int rZ)) mZ := by
  refine r_start (by decide) (Nat.le_of_ble_eq_true rfl) ?_
  intro p e s mt args below meth c ls H locs X hr hlocks hnm hR hl hS
  have hx := X.1
  have hb := X.2.1
  have hl : lv_has ls 3 [(0, .ref (B + x0)), (1, .int x1)] := hl
  unfold f_X8_drops at hf
  refine lv_aload_n hx hb dX8_drops_0 rfl (lv_at hl 0 rfl) ?_
  refine lv_iload_n hx hb dX8_drops_1 rfl (lv_at hl 1 rfl) ?_
  obtain ⟨o1, h2, hf⟩ := obO hf
  obtain ⟨v4, g3, hf⟩ := ob hf
  refine r_callV X kw_X8_126 (ci := 8) rfl (c_X8_isElement l B D cA m x0 x1 v4 g3) ⟨Nat.le_of_ble_eq_true rfl, Nat.le_of_ble_eq_true rfl⟩ h2 hR hS hl.1 rfl rfl (Nat.le_of_ble_eq_true rfl) ⟨Nat.le_of_ble_eq_true rfl, Nat.le_of_ble_eq_true rfl⟩ dX8_drops_2 (fun H locs hR hS => ?_)
  refine W.eq (g2 := F0 mt 5 ls [.int v4]) rfl ?_
  refine lv_if_ne (tgt := 13) hx hb dX8_drops_5 (by decide) (fun c5 => ?_) (fun c5 => ?_)
  · rw [if_neg c5] at hf
    refine lv_iload_n hx hb dX8_drops_13 rfl (lv_at hl 1 rfl) ?_
    refine lv_if_ne (tgt := 22) hx hb dX8_drops_14 (by decide) (fun c6 => ?_) (fun c6 => ?_)
    · rw [if_neg c6] at hf
      refine lv_aload_n hx hb dX8_drops_22 rfl (lv_at hl 0 rfl) ?_
      obtain ⟨o7, h8, hf⟩ := obO hf
      obtain ⟨m10, g9, hf⟩ := ob hf
      refine r_callV X kw_X8_140 (ci := 8) rfl (c_X8_leavesState l B D cA m x0 m10 g9) ⟨Nat.le_of_ble_eq_true rfl, Nat.le_of_ble_eq_true rfl⟩ h8 hR hS hl.1 rfl rfl (Nat.le_of_ble_eq_true rfl) ⟨Nat.le_of_ble_eq_true rfl, Nat.le_of_ble_eq_true rfl⟩ dX8_drops_23 (fun H locs hR hS => ?_)
      refine W.eq (g2 := F0 mt 26 ls []) rfl ?_
      refine lv_aload_n hx hb dX8_drops_26 rfl (lv_at hl 0 rfl) ?_
      obtain ⟨v11, g12, hf⟩ := ob hf
      refine gR_X8_26 X hR g12 dX8_drops_27 ?_
      refine lv_iload_n hx hb dX8_drops_30 rfl (lv_at hl 1 rfl) ?_
      obtain ⟨v13, g14, hf⟩ := ob hf
      refine r_lI X hR g14 dX8_drops_31 ?_
      refine lv_iload_n hx hb dX8_drops_32 rfl (lv_at hl 1 rfl) ?_
      refine lv_isub hx hb dX8_drops_33 ?_
      refine lv_istore_n (lv' := [(2, .int (v13 - x1)), (0, .ref (B + x0)), (1, .int x1)]) hx hb dX8_drops_34 rfl hl (by decide) rfl (fun ls hl => ?_)
      refine lv_aload_n hx hb dX8_drops_35 rfl (lv_at hl 1 rfl) ?_
      refine lv_iload_n hx hb dX8_drops_36 rfl (lv_at hl 2 rfl) ?_
      refine lv_iload_n hx hb dX8_drops_37 rfl (lv_at hl 0 rfl) ?_
      obtain ⟨o15, h16, hf⟩ := obO hf
      obtain ⟨m18, g17, hf⟩ := ob hf
      refine r_callV X kw_X8_149 (ci := 8) rfl (c_X8_closes l B D cA m10 x0 x1 (v13 - x1) m18 g17) ⟨Nat.le_of_ble_eq_true rfl, Nat.le_of_ble_eq_true rfl⟩ h16 hR hS hl.1 rfl rfl (Nat.le_of_ble_eq_true rfl) ⟨Nat.le_of_ble_eq_true rfl, Nat.le_of_ble_eq_true rfl⟩ dX8_drops_38 (fun H locs hR hS => ?_)
      refine W.eq (g2 := F0 mt 41 ls []) rfl ?_
      refine lv_aload_n hx hb dX8_drops_41 rfl (lv_at hl 1 rfl) ?_
      obtain ⟨o19, h20, hf⟩ := obO hf
      obtain ⟨m22, g21, hf⟩ := ob hf
      refine r_callV X kw_X8_123 (ci := 8) rfl (c_X8_tellsTree l B D cA m18 x0 m22 g21) ⟨Nat.le_of_ble_eq_true rfl, Nat.le_of_ble_eq_true rfl⟩ h20 hR hS hl.1 rfl rfl (Nat.le_of_ble_eq_true rfl) ⟨Nat.le_of_ble_eq_true rfl, Nat.le_of_ble_eq_true rfl⟩ dX8_drops_42 (fun H locs hR hS => ?_)
      refine W.eq (g2 := F0 mt 45 ls []) rfl ?_
      refine lv_iload_n hx hb dX8_drops_45 rfl (lv_at hl 0 rfl) ?_
      obtain ⟨rfl, rfl⟩ := Prod.mk.inj (Option.some.inj hf)
      exact r_iret X hr hlocks hR hS rfl dX8_drops_46
    · rw [if_pos c6] at hf
      refine lv_aload_n hx hb dX8_drops_17 rfl (lv_at hl 0 rfl) ?_
      obtain ⟨o23, h24, hf⟩ := obO hf
      obtain ⟨t26, g25, hf⟩ := ob hf
      refine r_callV X kw_X8_119 (ci := 8) rfl (c_X8_no l B D cA m x0 t26.1 t26.2 g25) ⟨Nat.le_of_ble_eq_true rfl, Nat.le_of_ble_eq_true rfl⟩ h24 hR hS hl.1 rfl rfl (Nat.le_of_ble_eq_true rfl) ⟨Nat.le_of_ble_eq_true rfl, Nat.le_of_ble_eq_true rfl⟩ dX8_drops_18 (fun H locs hR hS => ?_)
      refine W.eq (g2 := F0 mt 21 ls [.int t26.1]) rfl ?_
      obtain ⟨rfl, rfl⟩ := Prod.mk.inj (Option.some.inj hf)
      exact r_iret X hr hlocks hR hS rfl dX8_drops_21
  · rw [if_pos c5] at hf
    refine lv_aload_n hx hb dX8_drops_8 rfl (lv_at hl 0 rfl) ?_
    obtain ⟨o27, h28, hf⟩ := obO hf
    obtain ⟨t30, g29, hf⟩ := ob hf
    refine r_callV X kw_X8_134 (ci := 8) rfl (c_X8_bad l B D cA m x0 t30.1 t30.2 g29) ⟨Nat.le_of_ble_eq_true rfl, Nat.le_of_ble_eq_true rfl⟩ h28 hR hS hl.1 rfl rfl (Nat.le_of_ble_eq_true rfl) ⟨Nat.le_of_ble_eq_true rfl, Nat.le_of_ble_eq_true rfl⟩ dX8_drops_9 (fun H locs hR hS => ?_)
    refine W.eq (g2 := F0 mt 12 ls [.int t30.1]) rfl ?_
    obtain ⟨rfl, rfl⟩ := Prod.mk.inj (Option.some.inj hf)
    exact r_iret X hr hlocks hR hS rfl dX8_drops_12
/-! ===== TwigMatchesModel.sets(III)I ===== -/
theorem dX8_sets_0 : decode cX8_sets 0 = .ok (.aload_n 0, 1) := by decide +kernel
theorem dX8_sets_1 : decode cX8_sets 1 = .ok (.iload_n 1, 1) := by decide +kernel
theorem dX8_sets_2 : decode cX8_sets 2 = .ok (.invokevirtual 126, 3) := by decide +kernel
theorem dX8_sets_5 : decode cX8_sets 5 = .ok (.ifCond .eq 22, 3) := by decide +kernel
theorem dX8_sets_8 : decode cX8_sets 8 = .ok (.iload_n 2, 1) := by decide +kernel
theorem dX8_sets_9 : decode cX8_sets 9 = .ok (.iconst 0, 1) := by decide +kernel
theorem dX8_sets_10 : decode cX8_sets 10 = .ok (.iconst 5, 1) := by decide +kernel
theorem dX8_sets_11 : decode cX8_sets 11 = .ok (.invokestatic 90, 3) := by decide +kernel
theorem dX8_sets_14 : decode cX8_sets 14 = .ok (.ifCond .eq 13, 3) := by decide +kernel
theorem dX8_sets_17 : decode cX8_sets 17 = .ok (.iload_n 3, 1) := by decide +kernel
theorem dX8_sets_18 : decode cX8_sets 18 = .ok (.iconst 0, 1) := by decide +kernel
theorem dX8_sets_19 : decode cX8_sets 19 = .ok (.bipush 9, 2) := by decide +kernel
theorem dX8_sets_21 : decode cX8_sets 21 = .ok (.invokestatic 90, 3) := by decide +kernel
theorem dX8_sets_24 : decode cX8_sets 24 = .ok (.ifCond .ne 8, 3) := by decide +kernel
theorem dX8_sets_27 : decode cX8_sets 27 = .ok (.aload_n 0, 1) := by decide +kernel
theorem dX8_sets_28 : decode cX8_sets 28 = .ok (.invokevirtual 134, 3) := by decide +kernel
theorem dX8_sets_31 : decode cX8_sets 31 = .ok (.ireturn, 1) := by decide +kernel
theorem dX8_sets_32 : decode cX8_sets 32 = .ok (.aload_n 0, 1) := by decide +kernel
theorem dX8_sets_33 : decode cX8_sets 33 = .ok (.invokevirtual 140, 3) := by decide +kernel
theorem dX8_sets_36 : decode cX8_sets 36 = .ok (.bipush 10, 2) := by decide +kernel
theorem dX8_sets_38 : decode cX8_sets 38 = .ok (.aload_n 0, 1) := by decide +kernel
theorem dX8_sets_39 : decode cX8_sets 39 = .ok (.getfield 17, 3) := by decide +kernel
theorem dX8_sets_42 : decode cX8_sets 42 = .ok (.iload_n 1, 1) := by decide +kernel
theorem dX8_sets_43 : decode cX8_sets 43 = .ok (.iaload, 1) := by decide +kernel
theorem dX8_sets_44 : decode cX8_sets 44 = .ok (.imul, 1) := by decide +kernel
theorem dX8_sets_45 : decode cX8_sets 45 = .ok (.aload_n 0, 1) := by decide +kernel
theorem dX8_sets_46 : decode cX8_sets 46 = .ok (.getfield 20, 3) := by decide +kernel
theorem dX8_sets_49 : decode cX8_sets 49 = .ok (.iload_n 1, 1) := by decide +kernel
theorem dX8_sets_50 : decode cX8_sets 50 = .ok (.iaload, 1) := by decide +kernel
theorem dX8_sets_51 : decode cX8_sets 51 = .ok (.iadd, 1) := by decide +kernel
theorem dX8_sets_52 : decode cX8_sets 52 = .ok (.istore 4, 2) := by decide +kernel
theorem dX8_sets_54 : decode cX8_sets 54 = .ok (.aload_n 0, 1) := by decide +kernel
theorem dX8_sets_55 : decode cX8_sets 55 = .ok (.getfield 17, 3) := by decide +kernel
theorem dX8_sets_58 : decode cX8_sets 58 = .ok (.iload_n 1, 1) := by decide +kernel
theorem dX8_sets_59 : decode cX8_sets 59 = .ok (.iload_n 2, 1) := by decide +kernel
theorem dX8_sets_60 : decode cX8_sets 60 = .ok (.iastore, 1) := by decide +kernel
theorem dX8_sets_61 : decode cX8_sets 61 = .ok (.aload_n 0, 1) := by decide +kernel
theorem dX8_sets_62 : decode cX8_sets 62 = .ok (.getfield 20, 3) := by decide +kernel
theorem dX8_sets_65 : decode cX8_sets 65 = .ok (.iload_n 1, 1) := by decide +kernel
theorem dX8_sets_66 : decode cX8_sets 66 = .ok (.iload_n 3, 1) := by decide +kernel
theorem dX8_sets_67 : decode cX8_sets 67 = .ok (.iastore, 1) := by decide +kernel
theorem dX8_sets_68 : decode cX8_sets 68 = .ok (.iload 4, 2) := by decide +kernel
theorem dX8_sets_70 : decode cX8_sets 70 = .ok (.ireturn, 1) := by decide +kernel
set_option maxHeartbeats 4000000 in
set_option maxRecDepth 100000 in
theorem c_X8_sets (l : Launch) (B : Nat) (D : va_G) (cA : Nat → ClassId) (m : Mm) (x0 : Nat) (x1 : Int32) (x2 : Int32) (x3 : Int32) (rZ : Int32) (mZ : Mm) (hf : f_X8_sets m x0 x1 x2 x3 = some (rZ, mZ)) : Mt l B D cA yX8_sets cX8_sets 5 (some .int) 2 43 0 0 [.ref (B + x0), .int x1, .int x2, .int x3] m (some (.int rZ)) mZ := by
  refine r_start (by decide) (Nat.le_of_ble_eq_true rfl) ?_
  intro p e s mt args below meth c ls H locs X hr hlocks hnm hR hl hS
  have hx := X.1
  have hb := X.2.1
  have hl : lv_has ls 5 [(0, .ref (B + x0)), (1, .int x1), (2, .int x2), (3, .int x3)] := hl
  unfold f_X8_sets at hf
  refine lv_aload_n hx hb dX8_sets_0 rfl (lv_at hl 0 rfl) ?_
  refine lv_iload_n hx hb dX8_sets_1 rfl (lv_at hl 1 rfl) ?_
  obtain ⟨o1, h2, hf⟩ := obO hf
  obtain ⟨v4, g3, hf⟩ := ob hf
  refine r_callV X kw_X8_126 (ci := 8) rfl (c_X8_isElement l B D cA m x0 x1 v4 g3) ⟨Nat.le_of_ble_eq_true rfl, Nat.le_of_ble_eq_true rfl⟩ h2 hR hS hl.1 rfl rfl (Nat.le_of_ble_eq_true rfl) ⟨Nat.le_of_ble_eq_true rfl, Nat.le_of_ble_eq_true rfl⟩ dX8_sets_2 (fun H locs hR hS => ?_)
  refine W.eq (g2 := F0 mt 5 ls [.int v4]) rfl ?_
  refine lv_if_eq (tgt := 27) hx hb dX8_sets_5 (by decide) (fun c5 => ?_) (fun c5 => ?_)
  · rw [if_pos c5] at hf
    refine lv_aload_n hx hb dX8_sets_27 rfl (lv_at hl 0 rfl) ?_
    obtain ⟨o6, h7, hf⟩ := obO hf
    obtain ⟨t9, g8, hf⟩ := ob hf
    refine r_callV X kw_X8_134 (ci := 8) rfl (c_X8_bad l B D cA m x0 t9.1 t9.2 g8) ⟨Nat.le_of_ble_eq_true rfl, Nat.le_of_ble_eq_true rfl⟩ h7 hR hS hl.1 rfl rfl (Nat.le_of_ble_eq_true rfl) ⟨Nat.le_of_ble_eq_true rfl, Nat.le_of_ble_eq_true rfl⟩ dX8_sets_28 (fun H locs hR hS => ?_)
    refine W.eq (g2 := F0 mt 31 ls [.int t9.1]) rfl ?_
    obtain ⟨rfl, rfl⟩ := Prod.mk.inj (Option.some.inj hf)
    exact r_iret X hr hlocks hR hS rfl dX8_sets_31
  · rw [if_neg c5] at hf
    refine lv_iload_n hx hb dX8_sets_8 rfl (lv_at hl 2 rfl) ?_
    refine lv_iconst (v := 0) hx hb dX8_sets_9 (by decide) ?_
    refine lv_iconst (v := 5) hx hb dX8_sets_10 (by decide) ?_
    obtain ⟨v11, g10, hf⟩ := ob hf
    refine r_callS X kw_X8_90 (c_X8_in l B D cA m x2 (0 : Int32) (5 : Int32) v11 g10) ⟨Nat.le_of_ble_eq_true rfl, Nat.le_of_ble_eq_true rfl⟩ hR hS hl.1 rfl rfl (Nat.le_of_ble_eq_true rfl) ⟨Nat.le_of_ble_eq_true rfl, Nat.le_of_ble_eq_true rfl⟩ dX8_sets_11 (fun H locs hR hS => ?_)
    refine W.eq (g2 := F0 mt 14 ls [.int v11]) rfl ?_
    refine lv_if_eq (tgt := 27) hx hb dX8_sets_14 (by decide) (fun c12 => ?_) (fun c12 => ?_)
    · rw [if_pos c12] at hf
      refine lv_aload_n hx hb dX8_sets_27 rfl (lv_at hl 0 rfl) ?_
      obtain ⟨o13, h14, hf⟩ := obO hf
      obtain ⟨t16, g15, hf⟩ := ob hf
      refine r_callV X kw_X8_134 (ci := 8) rfl (c_X8_bad l B D cA m x0 t16.1 t16.2 g15) ⟨Nat.le_of_ble_eq_true rfl, Nat.le_of_ble_eq_true rfl⟩ h14 hR hS hl.1 rfl rfl (Nat.le_of_ble_eq_true rfl) ⟨Nat.le_of_ble_eq_true rfl, Nat.le_of_ble_eq_true rfl⟩ dX8_sets_28 (fun H locs hR hS => ?_)
      refine W.eq (g2 := F0 mt 31 ls [.int t16.1]) rfl ?_
      obtain ⟨rfl, rfl⟩ := Prod.mk.inj (Option.some.inj hf)
      exact r_iret X hr hlocks hR hS rfl dX8_sets_31
    · rw [if_neg c12] at hf
      refine lv_iload_n hx hb dX8_sets_17 rfl (lv_at hl 3 rfl) ?_
      refine lv_iconst (v := 0) hx hb dX8_sets_18 (by decide) ?_
      refine lv_bipush (v := 9) hx hb dX8_sets_19 (by decide) ?_
      obtain ⟨v18, g17, hf⟩ := ob hf
      refine r_callS X kw_X8_90 (c_X8_in l B D cA m x3 (0 : Int32) (9 : Int32) v18 g17) ⟨Nat.le_of_ble_eq_true rfl, Nat.le_of_ble_eq_true rfl⟩ hR hS hl.1 rfl rfl (Nat.le_of_ble_eq_true rfl) ⟨Nat.le_of_ble_eq_true rfl, Nat.le_of_ble_eq_true rfl⟩ dX8_sets_21 (fun H locs hR hS => ?_)
      refine W.eq (g2 := F0 mt 24 ls [.int v18]) rfl ?_
      refine lv_if_ne (tgt := 32) hx hb dX8_sets_24 (by decide) (fun c19 => ?_) (fun c19 => ?_)
      · rw [if_neg c19] at hf
        refine lv_aload_n hx hb dX8_sets_32 rfl (lv_at hl 0 rfl) ?_
        obtain ⟨o20, h21, hf⟩ := obO hf
        obtain ⟨m23, g22, hf⟩ := ob hf
        refine r_callV X kw_X8_140 (ci := 8) rfl (c_X8_leavesState l B D cA m x0 m23 g22) ⟨Nat.le_of_ble_eq_true rfl, Nat.le_of_ble_eq_true rfl⟩ h21 hR hS hl.1 rfl rfl (Nat.le_of_ble_eq_true rfl) ⟨Nat.le_of_ble_eq_true rfl, Nat.le_of_ble_eq_true rfl⟩ dX8_sets_33 (fun H locs hR hS => ?_)
        refine W.eq (g2 := F0 mt 36 ls []) rfl ?_
        refine lv_bipush (v := 10) hx hb dX8_sets_36 (by decide) ?_
        refine lv_aload_n hx hb dX8_sets_38 rfl (lv_at hl 0 rfl) ?_
        obtain ⟨v24, g25, hf⟩ := ob hf
        refine gR_X8_17 X hR g25 dX8_sets_39 ?_
        refine lv_iload_n hx hb dX8_sets_42 rfl (lv_at hl 1 rfl) ?_
        obtain ⟨v26, g27, hf⟩ := ob hf
        refine r_lI X hR g27 dX8_sets_43 ?_
        refine lv_imul hx hb dX8_sets_44 ?_
        refine lv_aload_n hx hb dX8_sets_45 rfl (lv_at hl 0 rfl) ?_
        obtain ⟨v28, g29, hf⟩ := ob hf
        refine gR_X8_20 X hR g29 dX8_sets_46 ?_
        refine lv_iload_n hx hb dX8_sets_49 rfl (lv_at hl 1 rfl) ?_
        obtain ⟨v30, g31, hf⟩ := ob hf
        refine r_lI X hR g31 dX8_sets_50 ?_
        refine lv_iadd hx hb dX8_sets_51 ?_
        refine lv_istore (lv' := [(4, .int (((10 : Int32) * v26) + v30)), (0, .ref (B + x0)), (1, .int x1), (2, .int x2), (3, .int x3)]) hx hb dX8_sets_52 hl (by decide) rfl (fun ls hl => ?_)
        refine lv_aload_n hx hb dX8_sets_54 rfl (lv_at hl 1 rfl) ?_
        obtain ⟨v32, g33, hf⟩ := ob hf
        refine gR_X8_17 X hR g33 dX8_sets_55 ?_
        refine lv_iload_n hx hb dX8_sets_58 rfl (lv_at hl 2 rfl) ?_
        refine lv_iload_n hx hb dX8_sets_59 rfl (lv_at hl 3 rfl) ?_
        obtain ⟨m34, g35, hf⟩ := ob hf
        refine r_sI X hR hS g35 dX8_sets_60 (fun H locs hR hS => ?_)
        refine lv_aload_n hx hb dX8_sets_61 rfl (lv_at hl 1 rfl) ?_
        obtain ⟨v36, g37, hf⟩ := ob hf
        refine gR_X8_20 X hR g37 dX8_sets_62 ?_
        refine lv_iload_n hx hb dX8_sets_65 rfl (lv_at hl 2 rfl) ?_
        refine lv_iload_n hx hb dX8_sets_66 rfl (lv_at hl 4 rfl) ?_
        obtain ⟨m38, g39, hf⟩ := ob hf
        refine r_sI X hR hS g39 dX8_sets_67 (fun H locs hR hS => ?_)
        refine lv_iload hx hb dX8_sets_68 (lv_at hl 0 rfl) ?_
        obtain ⟨rfl, rfl⟩ := Prod.mk.inj (Option.some.inj hf)
        exact r_iret X hr hlocks hR hS rfl dX8_sets_70
      · rw [if_pos c19] at hf
        refine lv_aload_n hx hb dX8_sets_27 rfl (lv_at hl 0 rfl) ?_
        obtain ⟨o40, h41, hf⟩ := obO hf
        obtain ⟨t43, g42, hf⟩ := ob hf
        refine r_callV X kw_X8_134 (ci := 8) rfl (c_X8_bad l B D cA m x0 t43.1 t43.2 g42) ⟨Nat.le_of_ble_eq_true rfl, Nat.le_of_ble_eq_true rfl⟩ h41 hR hS hl.1 rfl rfl (Nat.le_of_ble_eq_true rfl) ⟨Nat.le_of_ble_eq_true rfl, Nat.le_of_ble_eq_true rfl⟩ dX8_sets_28 (fun H locs hR hS => ?_)
        refine W.eq (g2 := F0 mt 31 ls [.int t43.1]) rfl ?_
        obtain ⟨rfl, rfl⟩ := Prod.mk.inj (Option.some.inj hf)
        exact r_iret X hr hlocks hR hS rfl dX8_sets_31
/-! ===== TwigMatchesModel.deepest(I)I ===== -/
theorem dX8_deepest_0 : decode cX8_deepest 0 = .ok (.aload_n 0, 1) := by decide +kernel
theorem dX8_deepest_1 : decode cX8_deepest 1 = .ok (.getfield 23, 3) := by decide +kernel
theorem dX8_deepest_4 : decode cX8_deepest 4 = .ok (.iload_n 1, 1) := by decide +kernel
theorem dX8_deepest_5 : decode cX8_deepest 5 = .ok (.iaload, 1) := by decide +kernel
theorem dX8_deepest_6 : decode cX8_deepest 6 = .ok (.istore_n 2, 1) := by decide +kernel
theorem dX8_deepest_7 : decode cX8_deepest 7 = .ok (.iload_n 1, 1) := by decide +kernel
theorem dX8_deepest_8 : decode cX8_deepest 8 = .ok (.istore_n 3, 1) := by decide +kernel
theorem dX8_deepest_9 : decode cX8_deepest 9 = .ok (.iload_n 3, 1) := by decide +kernel
theorem dX8_deepest_10 : decode cX8_deepest 10 = .ok (.aload_n 0, 1) := by decide +kernel
theorem dX8_deepest_11 : decode cX8_deepest 11 = .ok (.getfield 26, 3) := by decide +kernel
theorem dX8_deepest_14 : decode cX8_deepest 14 = .ok (.iload_n 1, 1) := by decide +kernel
theorem dX8_deepest_15 : decode cX8_deepest 15 = .ok (.iaload, 1) := by decide +kernel
theorem dX8_deepest_16 : decode cX8_deepest 16 = .ok (.if_icmp .ge 30, 3) := by decide +kernel
theorem dX8_deepest_19 : decode cX8_deepest 19 = .ok (.aload_n 0, 1) := by decide +kernel
theorem dX8_deepest_20 : decode cX8_deepest 20 = .ok (.getfield 23, 3) := by decide +kernel
theorem dX8_deepest_23 : decode cX8_deepest 23 = .ok (.iload_n 3, 1) := by decide +kernel
theorem dX8_deepest_24 : decode cX8_deepest 24 = .ok (.iaload, 1) := by decide +kernel
theorem dX8_deepest_25 : decode cX8_deepest 25 = .ok (.iload_n 2, 1) := by decide +kernel
theorem dX8_deepest_26 : decode cX8_deepest 26 = .ok (.if_icmp .le 12, 3) := by decide +kernel
theorem dX8_deepest_29 : decode cX8_deepest 29 = .ok (.aload_n 0, 1) := by decide +kernel
theorem dX8_deepest_30 : decode cX8_deepest 30 = .ok (.getfield 23, 3) := by decide +kernel
theorem dX8_deepest_33 : decode cX8_deepest 33 = .ok (.iload_n 3, 1) := by decide +kernel
theorem dX8_deepest_34 : decode cX8_deepest 34 = .ok (.iaload, 1) := by decide +kernel
theorem dX8_deepest_35 : decode cX8_deepest 35 = .ok (.goto 4, 3) := by decide +kernel
theorem dX8_deepest_38 : decode cX8_deepest 38 = .ok (.iload_n 2, 1) := by decide +kernel
theorem dX8_deepest_39 : decode cX8_deepest 39 = .ok (.istore_n 2, 1) := by decide +kernel
theorem dX8_deepest_40 : decode cX8_deepest 40 = .ok (.iinc 3 1, 3) := by decide +kernel
theorem dX8_deepest_43 : decode cX8_deepest 43 = .ok (.goto (-34), 3) := by decide +kernel
theorem dX8_deepest_46 : decode cX8_deepest 46 = .ok (.iload_n 2, 1) := by decide +kernel
theorem dX8_deepest_47 : decode cX8_deepest 47 = .ok (.ireturn, 1) := by decide +kernel
set_option maxHeartbeats 4000000 in
set_option maxRecDepth 100000 in
theorem c_X8_deepest (l : Launch) (B : Nat) (D : va_G) (cA : Nat → ClassId) (m : Mm) (x0 : Nat) (x1 : Int32) (rZ : Int32) (hf : f_X8_deepest m x0 x1 = some rZ) : Mt l B D cA yX8_deepest cX8_deepest 4 (some .int) 0 0 0 0 [.ref (B + x0), .int x1] m (some (.int rZ)) m := by
  refine r_start (by decide) (Nat.le_of_ble_eq_true rfl) ?_
  intro p e s mt args below meth c ls H locs X hr hlocks hnm hR hl hS
  have hx := X.1
  have hb := X.2.1
  have hl : lv_has ls 4 [(0, .ref (B + x0)), (1, .int x1)] := hl
  unfold f_X8_deepest at hf
  refine lv_aload_n hx hb dX8_deepest_0 rfl (lv_at hl 0 rfl) ?_
  obtain ⟨v1, g2, hf⟩ := ob hf
  refine gR_X8_23 X hR g2 dX8_deepest_1 ?_
  refine lv_iload_n hx hb dX8_deepest_4 rfl (lv_at hl 1 rfl) ?_
  obtain ⟨v3, g4, hf⟩ := ob hf
  refine r_lI X hR g4 dX8_deepest_5 ?_
  refine lv_istore_n (lv' := [(2, .int v3), (0, .ref (B + x0)), (1, .int x1)]) hx hb dX8_deepest_6 rfl hl (by decide) rfl (fun ls hl => ?_)
  refine lv_iload_n hx hb dX8_deepest_7 rfl (lv_at hl 2 rfl) ?_
  refine lv_istore_n (lv' := [(3, .int x1), (2, .int v3), (0, .ref (B + x0)), (1, .int x1)]) hx hb dX8_deepest_8 rfl hl (by decide) rfl (fun ls hl => ?_)
  obtain ⟨e6, hwe6, hf⟩ := ob hf
  refine whl_rule (P := (fun t5 => ∀ (H : Heap) (locs : List Loc) (ls : Array Slot), Rl B D cA m H → va_S (fun q => B ≤ q) s.heap H locs → lv_has ls 4 [(0, .ref (B + x0)), (1, .int x1), (2, .int t5.1), (3, .int t5.2)] → W p l e (rmm 0 0 0 0) s mt args below meth c H locs 0 0 (MQ below (mQ B D cA (some (.int rZ)) m) args s 0 0 (fun q => B ≤ q)) (F0 mt 9 ls []))) (Qx := (fun e6 => ∀ (H : Heap) (locs : List Loc) (ls : Array Slot), Rl B D cA m H → va_S (fun q => B ≤ q) s.heap H locs → lv_has ls 4 [(2, .int e6)] → W p l e (rmm 0 0 0 0) s mt args below meth c H locs 0 0 (MQ below (mQ B D cA (some (.int rZ)) m) args s 0 0 (fun q => B ≤ q)) (F0 mt 46 ls []))) ?_ FU _ e6 hwe6 ?_ H locs ls hR hS (lv_sub hl [2, 3, 1, 0] rfl)
  · clear hwe6 hf
    intro t5 q7 hf hxlq7 hxrq7 H locs ls hR hS hl
    obtain ⟨z8, z9⟩ := t5
    have hf : f_X8_deepest_L9 m x0 x1 z8 z9 = some q7 := hf
    have hR : Rl B D cA m H := hR
    have hl : lv_has ls 4 [(0, .ref (B + x0)), (1, .int x1), (2, .int z8), (3, .int z9)] := hl
    unfold f_X8_deepest_L9 at hf
    refine lv_iload_n hx hb dX8_deepest_9 rfl (lv_at hl 3 rfl) ?_
    refine lv_aload_n hx hb dX8_deepest_10 rfl (lv_at hl 0 rfl) ?_
    obtain ⟨v10, g11, hf⟩ := ob hf
    refine gR_X8_26 X hR g11 dX8_deepest_11 ?_
    refine lv_iload_n hx hb dX8_deepest_14 rfl (lv_at hl 1 rfl) ?_
    obtain ⟨v12, g13, hf⟩ := ob hf
    refine r_lI X hR g13 dX8_deepest_15 ?_
    refine lv_icmp_ge (tgt := 46) hx hb dX8_deepest_16 (by decide) (fun c14 => ?_) (fun c14 => ?_)
    · rw [if_pos c14] at hf
      obtain rfl := Option.some.inj hf
      exact hxrq7 _ rfl H locs ls hR hS (lv_sub hl [2] rfl)
    · rw [if_neg c14] at hf
      refine lv_aload_n hx hb dX8_deepest_19 rfl (lv_at hl 0 rfl) ?_
      obtain ⟨v15, g16, hf⟩ := ob hf
      refine gR_X8_23 X hR g16 dX8_deepest_20 ?_
      refine lv_iload_n hx hb dX8_deepest_23 rfl (lv_at hl 3 rfl) ?_
      obtain ⟨v17, g18, hf⟩ := ob hf
      refine r_lI X hR g18 dX8_deepest_24 ?_
      refine lv_iload_n hx hb dX8_deepest_25 rfl (lv_at hl 2 rfl) ?_
      refine lv_icmp_le (tgt := 38) hx hb dX8_deepest_26 (by decide) (fun c19 => ?_) (fun c19 => ?_)
      · rw [if_pos c19] at hf
        refine lv_iload_n hx hb dX8_deepest_38 rfl (lv_at hl 2 rfl) ?_
        refine lv_istore_n (lv' := [(2, .int z8), (0, .ref (B + x0)), (1, .int x1), (3, .int z9)]) hx hb dX8_deepest_39 rfl hl (by decide) rfl (fun ls hl => ?_)
        refine lv_iinc (v := (z9 + 1)) (lv' := [(3, .int (z9 + 1)), (2, .int z8), (0, .ref (B + x0)), (1, .int x1)]) hx hb dX8_deepest_40 hl (k := 3) rfl (congrArg (fun z => z9 + z) (by decide)) (by decide) rfl (fun ls hl => ?_)
        refine lv_goto (tgt := 9) hx hb dX8_deepest_43 (by decide) ?_
        obtain rfl := Option.some.inj hf
        exact hxlq7 _ rfl H locs ls hR hS (lv_sub hl [2, 3, 1, 0] rfl)
      · rw [if_neg c19] at hf
        refine lv_aload_n hx hb dX8_deepest_29 rfl (lv_at hl 0 rfl) ?_
        obtain ⟨v20, g21, hf⟩ := ob hf
        refine gR_X8_23 X hR g21 dX8_deepest_30 ?_
        refine lv_iload_n hx hb dX8_deepest_33 rfl (lv_at hl 3 rfl) ?_
        obtain ⟨v22, g23, hf⟩ := ob hf
        refine r_lI X hR g23 dX8_deepest_34 ?_
        refine lv_goto (tgt := 39) hx hb dX8_deepest_35 (by decide) ?_
        refine lv_istore_n (lv' := [(2, .int v22), (0, .ref (B + x0)), (1, .int x1), (3, .int z9)]) hx hb dX8_deepest_39 rfl hl (by decide) rfl (fun ls hl => ?_)
        refine lv_iinc (v := (z9 + 1)) (lv' := [(3, .int (z9 + 1)), (2, .int v22), (0, .ref (B + x0)), (1, .int x1)]) hx hb dX8_deepest_40 hl (k := 3) rfl (congrArg (fun z => z9 + z) (by decide)) (by decide) rfl (fun ls hl => ?_)
        refine lv_goto (tgt := 9) hx hb dX8_deepest_43 (by decide) ?_
        obtain rfl := Option.some.inj hf
        exact hxlq7 _ rfl H locs ls hR hS (lv_sub hl [2, 3, 1, 0] rfl)
  · intro H locs ls hR hS hl
    refine lv_iload_n hx hb dX8_deepest_46 rfl (lv_at hl 0 rfl) ?_
    obtain rfl := Option.some.inj hf
    exact r_iret X hr hlocks hR hS rfl dX8_deepest_47
