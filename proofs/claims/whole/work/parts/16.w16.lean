/-! ===== TwigMatches.spare(II)I ===== -/
theorem dX7_spare_0 : decode cX7_spare 0 = .ok (.aload_n 0, 1) := by decide +kernel
theorem dX7_spare_1 : decode cX7_spare 1 = .ok (.iload_n 1, 1) := by decide +kernel
theorem dX7_spare_2 : decode cX7_spare 2 = .ok (.iload_n 2, 1) := by decide +kernel
theorem dX7_spare_3 : decode cX7_spare 3 = .ok (.iload_n 2, 1) := by decide +kernel
theorem dX7_spare_4 : decode cX7_spare 4 = .ok (.ifCond .le 7, 3) := by decide +kernel
theorem dX7_spare_7 : decode cX7_spare 7 = .ok (.iconst 1, 1) := by decide +kernel
theorem dX7_spare_8 : decode cX7_spare 8 = .ok (.goto 4, 3) := by decide +kernel
theorem dX7_spare_11 : decode cX7_spare 11 = .ok (.iconst 0, 1) := by decide +kernel
theorem dX7_spare_12 : decode cX7_spare 12 = .ok (.invokevirtual 156, 3) := by decide +kernel
theorem dX7_spare_15 : decode cX7_spare 15 = .ok (.istore_n 3, 1) := by decide +kernel
theorem dX7_spare_16 : decode cX7_spare 16 = .ok (.iload_n 3, 1) := by decide +kernel
theorem dX7_spare_17 : decode cX7_spare 17 = .ok (.ifCond .eq 9, 3) := by decide +kernel
theorem dX7_spare_20 : decode cX7_spare 20 = .ok (.aload_n 0, 1) := by decide +kernel
theorem dX7_spare_21 : decode cX7_spare 21 = .ok (.iload_n 3, 1) := by decide +kernel
theorem dX7_spare_22 : decode cX7_spare 22 = .ok (.invokevirtual 102, 3) := by decide +kernel
theorem dX7_spare_25 : decode cX7_spare 25 = .ok (.ireturn, 1) := by decide +kernel
theorem dX7_spare_26 : decode cX7_spare 26 = .ok (.aload_n 0, 1) := by decide +kernel
theorem dX7_spare_27 : decode cX7_spare 27 = .ok (.getfield 12, 3) := by decide +kernel
theorem dX7_spare_30 : decode cX7_spare 30 = .ok (.getfield 160, 3) := by decide +kernel
theorem dX7_spare_33 : decode cX7_spare 33 = .ok (.iload_n 1, 1) := by decide +kernel
theorem dX7_spare_34 : decode cX7_spare 34 = .ok (.aaload, 1) := by decide +kernel
theorem dX7_spare_35 : decode cX7_spare 35 = .ok (.astore 4, 2) := by decide +kernel
theorem dX7_spare_37 : decode cX7_spare 37 = .ok (.aload 4, 2) := by decide +kernel
theorem dX7_spare_39 : decode cX7_spare 39 = .ok (.invokevirtual 175, 3) := by decide +kernel
theorem dX7_spare_42 : decode cX7_spare 42 = .ok (.ifCond .eq 10, 3) := by decide +kernel
theorem dX7_spare_45 : decode cX7_spare 45 = .ok (.aload_n 0, 1) := by decide +kernel
theorem dX7_spare_46 : decode cX7_spare 46 = .ok (.bipush (-3), 2) := by decide +kernel
theorem dX7_spare_48 : decode cX7_spare 48 = .ok (.invokevirtual 102, 3) := by decide +kernel
theorem dX7_spare_51 : decode cX7_spare 51 = .ok (.ireturn, 1) := by decide +kernel
theorem dX7_spare_52 : decode cX7_spare 52 = .ok (.aload_n 0, 1) := by decide +kernel
theorem dX7_spare_53 : decode cX7_spare 53 = .ok (.getfield 63, 3) := by decide +kernel
theorem dX7_spare_56 : decode cX7_spare 56 = .ok (.aload 4, 2) := by decide +kernel
theorem dX7_spare_58 : decode cX7_spare 58 = .ok (.aload 4, 2) := by decide +kernel
theorem dX7_spare_60 : decode cX7_spare 60 = .ok (.iload_n 2, 1) := by decide +kernel
theorem dX7_spare_61 : decode cX7_spare 61 = .ok (.aload 4, 2) := by decide +kernel
theorem dX7_spare_63 : decode cX7_spare 63 = .ok (.iload_n 2, 1) := by decide +kernel
theorem dX7_spare_64 : decode cX7_spare 64 = .ok (.invokevirtual 183, 3) := by decide +kernel
theorem dX7_spare_67 : decode cX7_spare 67 = .ok (.invokestatic 185, 3) := by decide +kernel
theorem dX7_spare_70 : decode cX7_spare 70 = .ok (.invokevirtual 179, 3) := by decide +kernel
theorem dX7_spare_73 : decode cX7_spare 73 = .ok (.iconst 1, 1) := by decide +kernel
theorem dX7_spare_74 : decode cX7_spare 74 = .ok (.iand, 1) := by decide +kernel
theorem dX7_spare_75 : decode cX7_spare 75 = .ok (.ireturn, 1) := by decide +kernel
set_option maxHeartbeats 4000000 in
set_option maxRecDepth 100000 in
theorem c_X7_spare (l : Launch) (B : Nat) (D : va_G) (cA : Nat → ClassId) (m : Mm) (x0 : Nat) (x1 : Int32) (x2 : Int32) (rZ : Int32) (mZ : Mm) (hf : f_X7_spare m x0 x1 x2 = some (rZ, mZ)) : Mt l B D cA yX7_spare cX7_spare 5 (some .int) 4 100 0 0 [.ref (B + x0), .int x1, .int x2] m (some (.int rZ)) mZ := by
  refine r_start (by decide) (Nat.le_of_ble_eq_true rfl) ?_
  intro p e s mt args below meth c ls H locs X hr hlocks hnm hR hl hS
  have hx := X.1
  have hb := X.2.1
  have hl : lv_has ls 5 [(0, .ref (B + x0)), (1, .int x1), (2, .int x2)] := hl
  unfold f_X7_spare at hf
  refine lv_aload_n hx hb dX7_spare_0 rfl (lv_at hl 0 rfl) ?_
  refine lv_iload_n hx hb dX7_spare_1 rfl (lv_at hl 1 rfl) ?_
  refine lv_iload_n hx hb dX7_spare_2 rfl (lv_at hl 2 rfl) ?_
  refine lv_iload_n hx hb dX7_spare_3 rfl (lv_at hl 2 rfl) ?_
  obtain ⟨t1, hjt1, hf⟩ := ob hf
  have hJt1 : ∀ (H : Heap) (locs : List Loc) (ls : Array Slot), Rl B D cA m H → va_S (fun q => B ≤ q) s.heap H locs → lv_has ls 5 [(0, .ref (B + x0)), (1, .int x1), (2, .int x2)] → W p l e (rmm 4 0 0 100) s mt args below meth c H locs 0 0 (MQ below (mQ B D cA (some (.int rZ)) mZ) args s 0 0 (fun q => B ≤ q)) (F0 mt 12 ls [.int t1, .int x2, .int x1, .ref (B + x0)]) := by
    intro H locs ls hR hS hl
    obtain ⟨o3, h4, hf⟩ := obO hf
    obtain ⟨v6, g5, hf⟩ := ob hf
    refine r_callV X kw_X7_156 (ci := 7) rfl (c_X7_nodeFault l B D cA m x0 x1 x2 t1 v6 g5) ⟨Nat.le_of_ble_eq_true rfl, Nat.le_of_ble_eq_true rfl⟩ h4 hR hS hl.1 rfl rfl (Nat.le_of_ble_eq_true rfl) ⟨Nat.le_of_ble_eq_true rfl, Nat.le_of_ble_eq_true rfl⟩ dX7_spare_12 (fun H locs hR hS => ?_)
    refine W.eq (g2 := F0 mt 15 ls [.int v6]) rfl ?_
    refine lv_istore_n (lv' := [(3, .int v6), (0, .ref (B + x0)), (1, .int x1), (2, .int x2)]) hx hb dX7_spare_15 rfl hl (by decide) rfl (fun ls hl => ?_)
    refine lv_iload_n hx hb dX7_spare_16 rfl (lv_at hl 0 rfl) ?_
    refine lv_if_eq (tgt := 26) hx hb dX7_spare_17 (by decide) (fun c7 => ?_) (fun c7 => ?_)
    · rw [if_pos c7] at hf
      refine lv_aload_n hx hb dX7_spare_26 rfl (lv_at hl 1 rfl) ?_
      obtain ⟨v8, g9, hf⟩ := ob hf
      refine gR_X7_12 X hR g9 dX7_spare_27 ?_
      obtain ⟨v10, g11, hf⟩ := ob hf
      refine gR_X7_160 X hR g11 dX7_spare_30 ?_
      refine lv_iload_n hx hb dX7_spare_33 rfl (lv_at hl 2 rfl) ?_
      obtain ⟨v12, g13, hf⟩ := ob hf
      refine r_lR (k := 3) (ty := .object RX5) X hR rfl rfl g13 dX7_spare_34 ?_
      refine lv_astore (lv' := [(4, .ref (B + v12)), (3, .int v6), (0, .ref (B + x0)), (1, .int x1), (2, .int x2)]) hx hb dX7_spare_35 hl (by decide) rfl (fun ls hl => ?_)
      refine lv_aload hx hb dX7_spare_37 (lv_at hl 0 rfl) ?_
      obtain ⟨o14, h15, hf⟩ := obO hf
      obtain ⟨v17, g16, hf⟩ := ob hf
      refine r_callV X kw_X7_175 (ci := 5) rfl (c_X5_hasOrdered l B D cA m v12 v17 g16) ⟨Nat.le_of_ble_eq_true rfl, Nat.le_of_ble_eq_true rfl⟩ h15 hR hS hl.1 rfl rfl (Nat.le_of_ble_eq_true rfl) ⟨Nat.le_of_ble_eq_true rfl, Nat.le_of_ble_eq_true rfl⟩ dX7_spare_39 (fun H locs hR hS => ?_)
      refine W.eq (g2 := F0 mt 42 ls [.int v17]) rfl ?_
      refine lv_if_eq (tgt := 52) hx hb dX7_spare_42 (by decide) (fun c18 => ?_) (fun c18 => ?_)
      · rw [if_pos c18] at hf
        refine lv_aload_n hx hb dX7_spare_52 rfl (lv_at hl 2 rfl) ?_
        obtain ⟨v19, g20, hf⟩ := ob hf
        refine gR_X7_63 X hR g20 dX7_spare_53 ?_
        refine lv_aload hx hb dX7_spare_56 (lv_at hl 0 rfl) ?_
        refine lv_aload hx hb dX7_spare_58 (lv_at hl 0 rfl) ?_
        refine lv_iload_n hx hb dX7_spare_60 rfl (lv_at hl 4 rfl) ?_
        refine lv_aload hx hb dX7_spare_61 (lv_at hl 0 rfl) ?_
        refine lv_iload_n hx hb dX7_spare_63 rfl (lv_at hl 4 rfl) ?_
        obtain ⟨o21, h22, hf⟩ := obO hf
        obtain ⟨v24, g23, hf⟩ := ob hf
        refine r_callV X kw_X7_183 (ci := 5) rfl (c_X5_last l B D cA m v12 x2 v24 g23) ⟨Nat.le_of_ble_eq_true rfl, Nat.le_of_ble_eq_true rfl⟩ h22 hR hS hl.1 rfl rfl (Nat.le_of_ble_eq_true rfl) ⟨Nat.le_of_ble_eq_true rfl, Nat.le_of_ble_eq_true rfl⟩ dX7_spare_64 (fun H locs hR hS => ?_)
        refine W.eq (g2 := F0 mt 67 ls [.int v24, .int x2, .ref (B + v12), .ref (B + v12), .ref (B + v19)]) rfl ?_
        obtain ⟨v26, g25, hf⟩ := ob hf
        refine r_callS X kw_X7_185 (c_X7_span l B D cA m x2 v24 v26 g25) ⟨Nat.le_of_ble_eq_true rfl, Nat.le_of_ble_eq_true rfl⟩ hR hS hl.1 rfl rfl (Nat.le_of_ble_eq_true rfl) ⟨Nat.le_of_ble_eq_true rfl, Nat.le_of_ble_eq_true rfl⟩ dX7_spare_67 (fun H locs hR hS => ?_)
        refine W.eq (g2 := F0 mt 70 ls [.int v26, .ref (B + v12), .ref (B + v12), .ref (B + v19)]) rfl ?_
        obtain ⟨o27, h28, hf⟩ := obO hf
        obtain ⟨t30, g29, hf⟩ := ob hf
        refine r_callV X kw_X7_179 (ci := 0) rfl (c_X0_rootTargets l B D cA m v19 v12 v12 v26 t30.1 t30.2 g29) ⟨Nat.le_of_ble_eq_true rfl, Nat.le_of_ble_eq_true rfl⟩ h28 hR hS hl.1 rfl rfl (Nat.le_of_ble_eq_true rfl) ⟨Nat.le_of_ble_eq_true rfl, Nat.le_of_ble_eq_true rfl⟩ dX7_spare_70 (fun H locs hR hS => ?_)
        refine W.eq (g2 := F0 mt 73 ls [.int t30.1]) rfl ?_
        refine lv_iconst (v := 1) hx hb dX7_spare_73 (by decide) ?_
        refine lv_iand hx hb dX7_spare_74 ?_
        obtain ⟨rfl, rfl⟩ := Prod.mk.inj (Option.some.inj hf)
        exact r_iret X hr hlocks hR hS rfl dX7_spare_75
      · rw [if_neg c18] at hf
        refine lv_aload_n hx hb dX7_spare_45 rfl (lv_at hl 2 rfl) ?_
        refine lv_bipush (v := -3) hx hb dX7_spare_46 (by decide) ?_
        obtain ⟨o31, h32, hf⟩ := obO hf
        obtain ⟨t34, g33, hf⟩ := ob hf
        refine r_callV X kw_X7_102 (ci := 7) rfl (c_X7_failed l B D cA m x0 (-3 : Int32) t34.1 t34.2 g33) ⟨Nat.le_of_ble_eq_true rfl, Nat.le_of_ble_eq_true rfl⟩ h32 hR hS hl.1 rfl rfl (Nat.le_of_ble_eq_true rfl) ⟨Nat.le_of_ble_eq_true rfl, Nat.le_of_ble_eq_true rfl⟩ dX7_spare_48 (fun H locs hR hS => ?_)
        refine W.eq (g2 := F0 mt 51 ls [.int t34.1]) rfl ?_
        obtain ⟨rfl, rfl⟩ := Prod.mk.inj (Option.some.inj hf)
        exact r_iret X hr hlocks hR hS rfl dX7_spare_51
    · rw [if_neg c7] at hf
      refine lv_aload_n hx hb dX7_spare_20 rfl (lv_at hl 1 rfl) ?_
      refine lv_iload_n hx hb dX7_spare_21 rfl (lv_at hl 0 rfl) ?_
      obtain ⟨o35, h36, hf⟩ := obO hf
      obtain ⟨t38, g37, hf⟩ := ob hf
      refine r_callV X kw_X7_102 (ci := 7) rfl (c_X7_failed l B D cA m x0 v6 t38.1 t38.2 g37) ⟨Nat.le_of_ble_eq_true rfl, Nat.le_of_ble_eq_true rfl⟩ h36 hR hS hl.1 rfl rfl (Nat.le_of_ble_eq_true rfl) ⟨Nat.le_of_ble_eq_true rfl, Nat.le_of_ble_eq_true rfl⟩ dX7_spare_22 (fun H locs hR hS => ?_)
      refine W.eq (g2 := F0 mt 25 ls [.int t38.1]) rfl ?_
      obtain ⟨rfl, rfl⟩ := Prod.mk.inj (Option.some.inj hf)
      exact r_iret X hr hlocks hR hS rfl dX7_spare_25
  have hf := hjt1
  clear hjt1
  refine lv_if_le (tgt := 11) hx hb dX7_spare_4 (by decide) (fun c2 => ?_) (fun c2 => ?_)
  · rw [if_pos c2] at hf
    refine lv_iconst (v := 0) hx hb dX7_spare_11 (by decide) ?_
    obtain rfl := Option.some.inj hf
    exact hJt1 H locs ls hR hS (lv_sub hl [0, 1, 2] rfl)
  · rw [if_neg c2] at hf
    refine lv_iconst (v := 1) hx hb dX7_spare_7 (by decide) ?_
    refine lv_goto (tgt := 12) hx hb dX7_spare_8 (by decide) ?_
    obtain rfl := Option.some.inj hf
    exact hJt1 H locs ls hR hS (lv_sub hl [0, 1, 2] rfl)
/-! ===== TwigMatches.countMatches(I)J ===== -/
theorem dX7_countMatches_0 : decode cX7_countMatches 0 = .ok (.aload_n 0, 1) := by decide +kernel
theorem dX7_countMatches_1 : decode cX7_countMatches 1 = .ok (.getfield 56, 3) := by decide +kernel
theorem dX7_countMatches_4 : decode cX7_countMatches 4 = .ok (.aload_n 0, 1) := by decide +kernel
theorem dX7_countMatches_5 : decode cX7_countMatches 5 = .ok (.getfield 12, 3) := by decide +kernel
theorem dX7_countMatches_8 : decode cX7_countMatches 8 = .ok (.getfield 160, 3) := by decide +kernel
theorem dX7_countMatches_11 : decode cX7_countMatches 11 = .ok (.iload_n 1, 1) := by decide +kernel
theorem dX7_countMatches_12 : decode cX7_countMatches 12 = .ok (.aaload, 1) := by decide +kernel
theorem dX7_countMatches_13 : decode cX7_countMatches 13 = .ok (.invokevirtual 211, 3) := by decide +kernel
theorem dX7_countMatches_16 : decode cX7_countMatches 16 = .ok (.aload_n 0, 1) := by decide +kernel
theorem dX7_countMatches_17 : decode cX7_countMatches 17 = .ok (.getfield 56, 3) := by decide +kernel
theorem dX7_countMatches_20 : decode cX7_countMatches 20 = .ok (.invokevirtual 218, 3) := by decide +kernel
theorem dX7_countMatches_23 : decode cX7_countMatches 23 = .ok (.lreturn, 1) := by decide +kernel
set_option maxHeartbeats 4000000 in
set_option maxRecDepth 100000 in
theorem c_X7_countMatches (l : Launch) (B : Nat) (D : va_G) (cA : Nat → ClassId) (m : Mm) (x0 : Nat) (x1 : Int32) (rZ : Int64) (mZ : Mm) (hf : f_X7_countMatches m x0 x1 = some (rZ, mZ)) : Mt l B D cA yX7_countMatches cX7_countMatches 2 (some .long) 5 116 0 0 [.ref (B + x0), .int x1] m (some (.long rZ)) mZ := by
  refine r_start (by decide) (Nat.le_of_ble_eq_true rfl) ?_
  intro p e s mt args below meth c ls H locs X hr hlocks hnm hR hl hS
  have hx := X.1
  have hb := X.2.1
  have hl : lv_has ls 2 [(0, .ref (B + x0)), (1, .int x1)] := hl
  unfold f_X7_countMatches at hf
  refine lv_aload_n hx hb dX7_countMatches_0 rfl (lv_at hl 0 rfl) ?_
  obtain ⟨v1, g2, hf⟩ := ob hf
  refine gR_X7_56 X hR g2 dX7_countMatches_1 ?_
  refine lv_aload_n hx hb dX7_countMatches_4 rfl (lv_at hl 0 rfl) ?_
  obtain ⟨v3, g4, hf⟩ := ob hf
  refine gR_X7_12 X hR g4 dX7_countMatches_5 ?_
  obtain ⟨v5, g6, hf⟩ := ob hf
  refine gR_X7_160 X hR g6 dX7_countMatches_8 ?_
  refine lv_iload_n hx hb dX7_countMatches_11 rfl (lv_at hl 1 rfl) ?_
  obtain ⟨v7, g8, hf⟩ := ob hf
  refine r_lR (k := 3) (ty := .object RX5) X hR rfl rfl g8 dX7_countMatches_12 ?_
  obtain ⟨o9, h10, hf⟩ := obO hf
  obtain ⟨m12, g11, hf⟩ := ob hf
  refine r_callV X kw_X7_211 (ci := 1) rfl (c_X1_open l B D cA m v1 v7 m12 g11) ⟨Nat.le_of_ble_eq_true rfl, Nat.le_of_ble_eq_true rfl⟩ h10 hR hS hl.1 rfl rfl (Nat.le_of_ble_eq_true rfl) ⟨Nat.le_of_ble_eq_true rfl, Nat.le_of_ble_eq_true rfl⟩ dX7_countMatches_13 (fun H locs hR hS => ?_)
  refine W.eq (g2 := F0 mt 16 ls []) rfl ?_
  refine lv_aload_n hx hb dX7_countMatches_16 rfl (lv_at hl 0 rfl) ?_
  obtain ⟨v13, g14, hf⟩ := ob hf
  refine gR_X7_56 X hR g14 dX7_countMatches_17 ?_
  obtain ⟨o15, h16, hf⟩ := obO hf
  obtain ⟨t18, g17, hf⟩ := ob hf
  refine r_callV X kw_X7_218 (ci := 1) rfl (c_X1_solve l B D cA m12 v13 t18.1 t18.2 g17) ⟨Nat.le_of_ble_eq_true rfl, Nat.le_of_ble_eq_true rfl⟩ h16 hR hS hl.1 rfl rfl (Nat.le_of_ble_eq_true rfl) ⟨Nat.le_of_ble_eq_true rfl, Nat.le_of_ble_eq_true rfl⟩ dX7_countMatches_20 (fun H locs hR hS => ?_)
  refine W.eq (g2 := F0 mt 23 ls [.long t18.1]) rfl ?_
  obtain ⟨rfl, rfl⟩ := Prod.mk.inj (Option.some.inj hf)
  exact r_lret X hr hlocks hR hS dX7_countMatches_23
/-! ===== TwigMatches.matches(I)J ===== -/
theorem dX7_matches_0 : decode cX7_matches 0 = .ok (.aload_n 0, 1) := by decide +kernel
theorem dX7_matches_1 : decode cX7_matches 1 = .ok (.iload_n 1, 1) := by decide +kernel
theorem dX7_matches_2 : decode cX7_matches 2 = .ok (.iconst 1, 1) := by decide +kernel
theorem dX7_matches_3 : decode cX7_matches 3 = .ok (.invokevirtual 167, 3) := by decide +kernel
theorem dX7_matches_6 : decode cX7_matches 6 = .ok (.istore_n 2, 1) := by decide +kernel
theorem dX7_matches_7 : decode cX7_matches 7 = .ok (.iload_n 2, 1) := by decide +kernel
theorem dX7_matches_8 : decode cX7_matches 8 = .ok (.ifCond .ne 11, 3) := by decide +kernel
theorem dX7_matches_11 : decode cX7_matches 11 = .ok (.aload_n 0, 1) := by decide +kernel
theorem dX7_matches_12 : decode cX7_matches 12 = .ok (.iload_n 1, 1) := by decide +kernel
theorem dX7_matches_13 : decode cX7_matches 13 = .ok (.invokevirtual 188, 3) := by decide +kernel
theorem dX7_matches_16 : decode cX7_matches 16 = .ok (.goto 9, 3) := by decide +kernel
theorem dX7_matches_19 : decode cX7_matches 19 = .ok (.aload_n 0, 1) := by decide +kernel
theorem dX7_matches_20 : decode cX7_matches 20 = .ok (.iload_n 2, 1) := by decide +kernel
theorem dX7_matches_21 : decode cX7_matches 21 = .ok (.invokevirtual 102, 3) := by decide +kernel
theorem dX7_matches_24 : decode cX7_matches 24 = .ok (.i2l, 1) := by decide +kernel
theorem dX7_matches_25 : decode cX7_matches 25 = .ok (.lreturn, 1) := by decide +kernel
set_option maxHeartbeats 4000000 in
set_option maxRecDepth 100000 in
theorem c_X7_matches (l : Launch) (B : Nat) (D : va_G) (cA : Nat → ClassId) (m : Mm) (x0 : Nat) (x1 : Int32) (rZ : Int64) (mZ : Mm) (hf : f_X7_matches m x0 x1 = some (rZ, mZ)) : Mt l B D cA yX7_matches cX7_matches 3 (some .long) 6 137 0 0 [.ref (B + x0), .int x1] m (some (.long rZ)) mZ := by
  refine r_start (by decide) (Nat.le_of_ble_eq_true rfl) ?_
  intro p e s mt args below meth c ls H locs X hr hlocks hnm hR hl hS
  have hx := X.1
  have hb := X.2.1
  have hl : lv_has ls 3 [(0, .ref (B + x0)), (1, .int x1)] := hl
  unfold f_X7_matches at hf
  refine lv_aload_n hx hb dX7_matches_0 rfl (lv_at hl 0 rfl) ?_
  refine lv_iload_n hx hb dX7_matches_1 rfl (lv_at hl 1 rfl) ?_
  refine lv_iconst (v := 1) hx hb dX7_matches_2 (by decide) ?_
  obtain ⟨o1, h2, hf⟩ := obO hf
  obtain ⟨v4, g3, hf⟩ := ob hf
  refine r_callV X kw_X7_167 (ci := 7) rfl (c_X7_twigFault l B D cA m x0 x1 (1 : Int32) v4 g3) ⟨Nat.le_of_ble_eq_true rfl, Nat.le_of_ble_eq_true rfl⟩ h2 hR hS hl.1 rfl rfl (Nat.le_of_ble_eq_true rfl) ⟨Nat.le_of_ble_eq_true rfl, Nat.le_of_ble_eq_true rfl⟩ dX7_matches_3 (fun H locs hR hS => ?_)
  refine W.eq (g2 := F0 mt 6 ls [.int v4]) rfl ?_
  refine lv_istore_n (lv' := [(2, .int v4), (0, .ref (B + x0)), (1, .int x1)]) hx hb dX7_matches_6 rfl hl (by decide) rfl (fun ls hl => ?_)
  refine lv_iload_n hx hb dX7_matches_7 rfl (lv_at hl 0 rfl) ?_
  refine lv_if_ne (tgt := 19) hx hb dX7_matches_8 (by decide) (fun c5 => ?_) (fun c5 => ?_)
  · rw [if_neg c5] at hf
    refine lv_aload_n hx hb dX7_matches_19 rfl (lv_at hl 1 rfl) ?_
    refine lv_iload_n hx hb dX7_matches_20 rfl (lv_at hl 0 rfl) ?_
    obtain ⟨o6, h7, hf⟩ := obO hf
    obtain ⟨t9, g8, hf⟩ := ob hf
    refine r_callV X kw_X7_102 (ci := 7) rfl (c_X7_failed l B D cA m x0 v4 t9.1 t9.2 g8) ⟨Nat.le_of_ble_eq_true rfl, Nat.le_of_ble_eq_true rfl⟩ h7 hR hS hl.1 rfl rfl (Nat.le_of_ble_eq_true rfl) ⟨Nat.le_of_ble_eq_true rfl, Nat.le_of_ble_eq_true rfl⟩ dX7_matches_21 (fun H locs hR hS => ?_)
    refine W.eq (g2 := F0 mt 24 ls [.int t9.1]) rfl ?_
    refine lv_i2l (v := t9.1.toInt64) hx hb dX7_matches_24 rfl ?_
    obtain ⟨rfl, rfl⟩ := Prod.mk.inj (Option.some.inj hf)
    exact r_lret X hr hlocks hR hS dX7_matches_25
  · rw [if_pos c5] at hf
    refine lv_aload_n hx hb dX7_matches_11 rfl (lv_at hl 1 rfl) ?_
    refine lv_iload_n hx hb dX7_matches_12 rfl (lv_at hl 2 rfl) ?_
    obtain ⟨o10, h11, hf⟩ := obO hf
    obtain ⟨t13, g12, hf⟩ := ob hf
    refine r_callV X kw_X7_188 (ci := 7) rfl (c_X7_countMatches l B D cA m x0 x1 t13.1 t13.2 g12) ⟨Nat.le_of_ble_eq_true rfl, Nat.le_of_ble_eq_true rfl⟩ h11 hR hS hl.1 rfl rfl (Nat.le_of_ble_eq_true rfl) ⟨Nat.le_of_ble_eq_true rfl, Nat.le_of_ble_eq_true rfl⟩ dX7_matches_13 (fun H locs hR hS => ?_)
    refine W.eq (g2 := F0 mt 16 ls [.long t13.1]) rfl ?_
    refine lv_goto (tgt := 25) hx hb dX7_matches_16 (by decide) ?_
    obtain ⟨rfl, rfl⟩ := Prod.mk.inj (Option.some.inj hf)
    exact r_lret X hr hlocks hR hS dX7_matches_25
/-! ===== TwigMatches.match(IJI)I ===== -/
theorem dX7_match_0 : decode cX7_match 0 = .ok (.aload_n 0, 1) := by decide +kernel
theorem dX7_match_1 : decode cX7_match 1 = .ok (.iload_n 1, 1) := by decide +kernel
theorem dX7_match_2 : decode cX7_match 2 = .ok (.iload 4, 2) := by decide +kernel
theorem dX7_match_4 : decode cX7_match 4 = .ok (.lload_n 2, 1) := by decide +kernel
theorem dX7_match_5 : decode cX7_match 5 = .ok (.lconst 0, 1) := by decide +kernel
theorem dX7_match_6 : decode cX7_match 6 = .ok (.lcmp, 1) := by decide +kernel
theorem dX7_match_7 : decode cX7_match 7 = .ok (.ifCond .lt 7, 3) := by decide +kernel
theorem dX7_match_10 : decode cX7_match 10 = .ok (.iconst 1, 1) := by decide +kernel
theorem dX7_match_11 : decode cX7_match 11 = .ok (.goto 4, 3) := by decide +kernel
theorem dX7_match_14 : decode cX7_match 14 = .ok (.iconst 0, 1) := by decide +kernel
theorem dX7_match_15 : decode cX7_match 15 = .ok (.invokevirtual 156, 3) := by decide +kernel
theorem dX7_match_18 : decode cX7_match 18 = .ok (.istore 5, 2) := by decide +kernel
theorem dX7_match_20 : decode cX7_match 20 = .ok (.iload 5, 2) := by decide +kernel
theorem dX7_match_22 : decode cX7_match 22 = .ok (.ifCond .eq 10, 3) := by decide +kernel
theorem dX7_match_25 : decode cX7_match 25 = .ok (.aload_n 0, 1) := by decide +kernel
theorem dX7_match_26 : decode cX7_match 26 = .ok (.iload 5, 2) := by decide +kernel
theorem dX7_match_28 : decode cX7_match 28 = .ok (.invokevirtual 102, 3) := by decide +kernel
theorem dX7_match_31 : decode cX7_match 31 = .ok (.ireturn, 1) := by decide +kernel
theorem dX7_match_32 : decode cX7_match 32 = .ok (.lload_n 2, 1) := by decide +kernel
theorem dX7_match_33 : decode cX7_match 33 = .ok (.aload_n 0, 1) := by decide +kernel
theorem dX7_match_34 : decode cX7_match 34 = .ok (.iload_n 1, 1) := by decide +kernel
theorem dX7_match_35 : decode cX7_match 35 = .ok (.invokevirtual 188, 3) := by decide +kernel
theorem dX7_match_38 : decode cX7_match 38 = .ok (.lcmp, 1) := by decide +kernel
theorem dX7_match_39 : decode cX7_match 39 = .ok (.ifCond .lt 5, 3) := by decide +kernel
theorem dX7_match_42 : decode cX7_match 42 = .ok (.iconst (-1), 1) := by decide +kernel
theorem dX7_match_43 : decode cX7_match 43 = .ok (.ireturn, 1) := by decide +kernel
theorem dX7_match_44 : decode cX7_match 44 = .ok (.aload_n 0, 1) := by decide +kernel
theorem dX7_match_45 : decode cX7_match 45 = .ok (.getfield 56, 3) := by decide +kernel
theorem dX7_match_48 : decode cX7_match 48 = .ok (.lload_n 2, 1) := by decide +kernel
theorem dX7_match_49 : decode cX7_match 49 = .ok (.iload 4, 2) := by decide +kernel
theorem dX7_match_51 : decode cX7_match 51 = .ok (.invokevirtual 192, 3) := by decide +kernel
theorem dX7_match_54 : decode cX7_match 54 = .ok (.ireturn, 1) := by decide +kernel
set_option maxHeartbeats 4000000 in
set_option maxRecDepth 100000 in
theorem c_X7_match (l : Launch) (B : Nat) (D : va_G) (cA : Nat → ClassId) (m : Mm) (x0 : Nat) (x1 : Int32) (x2 : Int64) (x4 : Int32) (rZ : Int32) (mZ : Mm) (hf : f_X7_match m x0 x1 x2 x4 = some (rZ, mZ)) : Mt l B D cA yX7_match cX7_match 6 (some .int) 6 137 0 0 [.ref (B + x0), .int x1, .long x2, .int x4] m (some (.int rZ)) mZ := by
  refine r_start (by decide) (Nat.le_of_ble_eq_true rfl) ?_
  intro p e s mt args below meth c ls H locs X hr hlocks hnm hR hl hS
  have hx := X.1
  have hb := X.2.1
  have hl : lv_has ls 6 [(0, .ref (B + x0)), (1, .int x1), (2, .long x2), (4, .int x4)] := hl
  unfold f_X7_match at hf
  refine lv_aload_n hx hb dX7_match_0 rfl (lv_at hl 0 rfl) ?_
  refine lv_iload_n hx hb dX7_match_1 rfl (lv_at hl 1 rfl) ?_
  refine lv_iload hx hb dX7_match_2 (lv_at hl 3 rfl) ?_
  refine lv_lload_n hx hb dX7_match_4 rfl (lv_at hl 2 rfl) ?_
  refine lv_lconst (v := 0) hx hb dX7_match_5 (by decide) ?_
  obtain ⟨t1, hjt1, hf⟩ := ob hf
  have hJt1 : ∀ (H : Heap) (locs : List Loc) (ls : Array Slot), Rl B D cA m H → va_S (fun q => B ≤ q) s.heap H locs → lv_has ls 6 [(0, .ref (B + x0)), (1, .int x1), (2, .long x2), (4, .int x4)] → W p l e (rmm 6 0 0 137) s mt args below meth c H locs 0 0 (MQ below (mQ B D cA (some (.int rZ)) mZ) args s 0 0 (fun q => B ≤ q)) (F0 mt 15 ls [.int t1, .int x4, .int x1, .ref (B + x0)]) := by
    intro H locs ls hR hS hl
    obtain ⟨o3, h4, hf⟩ := obO hf
    obtain ⟨v6, g5, hf⟩ := ob hf
    refine r_callV X kw_X7_156 (ci := 7) rfl (c_X7_nodeFault l B D cA m x0 x1 x4 t1 v6 g5) ⟨Nat.le_of_ble_eq_true rfl, Nat.le_of_ble_eq_true rfl⟩ h4 hR hS hl.1 rfl rfl (Nat.le_of_ble_eq_true rfl) ⟨Nat.le_of_ble_eq_true rfl, Nat.le_of_ble_eq_true rfl⟩ dX7_match_15 (fun H locs hR hS => ?_)
    refine W.eq (g2 := F0 mt 18 ls [.int v6]) rfl ?_
    refine lv_istore (lv' := [(5, .int v6), (0, .ref (B + x0)), (1, .int x1), (2, .long x2), (4, .int x4)]) hx hb dX7_match_18 hl (by decide) rfl (fun ls hl => ?_)
    refine lv_iload hx hb dX7_match_20 (lv_at hl 0 rfl) ?_
    refine lv_if_eq (tgt := 32) hx hb dX7_match_22 (by decide) (fun c7 => ?_) (fun c7 => ?_)
    · rw [if_pos c7] at hf
      refine lv_lload_n hx hb dX7_match_32 rfl (lv_at hl 3 rfl) ?_
      refine lv_aload_n hx hb dX7_match_33 rfl (lv_at hl 1 rfl) ?_
      refine lv_iload_n hx hb dX7_match_34 rfl (lv_at hl 2 rfl) ?_
      obtain ⟨o8, h9, hf⟩ := obO hf
      obtain ⟨t11, g10, hf⟩ := ob hf
      refine r_callV X kw_X7_188 (ci := 7) rfl (c_X7_countMatches l B D cA m x0 x1 t11.1 t11.2 g10) ⟨Nat.le_of_ble_eq_true rfl, Nat.le_of_ble_eq_true rfl⟩ h9 hR hS hl.1 rfl rfl (Nat.le_of_ble_eq_true rfl) ⟨Nat.le_of_ble_eq_true rfl, Nat.le_of_ble_eq_true rfl⟩ dX7_match_35 (fun H locs hR hS => ?_)
      refine W.eq (g2 := F0 mt 38 ls [.long t11.1, .long x2]) rfl ?_
      refine r_lc_lt (tgt := 44) X dX7_match_38 dX7_match_39 (by decide) (fun c12 => ?_) (fun c12 => ?_)
      · rw [if_pos c12] at hf
        refine lv_aload_n hx hb dX7_match_44 rfl (lv_at hl 1 rfl) ?_
        obtain ⟨v13, g14, hf⟩ := ob hf
        refine gR_X7_56 X hR g14 dX7_match_45 ?_
        refine lv_lload_n hx hb dX7_match_48 rfl (lv_at hl 3 rfl) ?_
        refine lv_iload hx hb dX7_match_49 (lv_at hl 4 rfl) ?_
        obtain ⟨o15, h16, hf⟩ := obO hf
        obtain ⟨t18, g17, hf⟩ := ob hf
        refine r_callV X kw_X7_192 (ci := 1) rfl (c_X1_elementOf l B D cA t11.2 v13 x2 x4 t18.1 t18.2 g17) ⟨Nat.le_of_ble_eq_true rfl, Nat.le_of_ble_eq_true rfl⟩ h16 hR hS hl.1 rfl rfl (Nat.le_of_ble_eq_true rfl) ⟨Nat.le_of_ble_eq_true rfl, Nat.le_of_ble_eq_true rfl⟩ dX7_match_51 (fun H locs hR hS => ?_)
        refine W.eq (g2 := F0 mt 54 ls [.int t18.1]) rfl ?_
        obtain ⟨rfl, rfl⟩ := Prod.mk.inj (Option.some.inj hf)
        exact r_iret X hr hlocks hR hS rfl dX7_match_54
      · rw [if_neg c12] at hf
        refine lv_iconst (v := -1) hx hb dX7_match_42 (by decide) ?_
        obtain ⟨rfl, rfl⟩ := Prod.mk.inj (Option.some.inj hf)
        exact r_iret X hr hlocks hR hS rfl dX7_match_43
    · rw [if_neg c7] at hf
      refine lv_aload_n hx hb dX7_match_25 rfl (lv_at hl 1 rfl) ?_
      refine lv_iload hx hb dX7_match_26 (lv_at hl 0 rfl) ?_
      obtain ⟨o19, h20, hf⟩ := obO hf
      obtain ⟨t22, g21, hf⟩ := ob hf
      refine r_callV X kw_X7_102 (ci := 7) rfl (c_X7_failed l B D cA m x0 v6 t22.1 t22.2 g21) ⟨Nat.le_of_ble_eq_true rfl, Nat.le_of_ble_eq_true rfl⟩ h20 hR hS hl.1 rfl rfl (Nat.le_of_ble_eq_true rfl) ⟨Nat.le_of_ble_eq_true rfl, Nat.le_of_ble_eq_true rfl⟩ dX7_match_28 (fun H locs hR hS => ?_)
      refine W.eq (g2 := F0 mt 31 ls [.int t22.1]) rfl ?_
      obtain ⟨rfl, rfl⟩ := Prod.mk.inj (Option.some.inj hf)
      exact r_iret X hr hlocks hR hS rfl dX7_match_31
  have hf := hjt1
  clear hjt1
  refine r_lc_lt (tgt := 14) X dX7_match_6 dX7_match_7 (by decide) (fun c2 => ?_) (fun c2 => ?_)
  · rw [if_pos c2] at hf
    refine lv_iconst (v := 0) hx hb dX7_match_14 (by decide) ?_
    obtain rfl := Option.some.inj hf
    exact hJt1 H locs ls hR hS (lv_sub hl [0, 1, 2, 3] rfl)
  · rw [if_neg c2] at hf
    refine lv_iconst (v := 1) hx hb dX7_match_10 (by decide) ?_
    refine lv_goto (tgt := 15) hx hb dX7_match_11 (by decide) ?_
    obtain rfl := Option.some.inj hf
    exact hJt1 H locs ls hR hS (lv_sub hl [0, 1, 2, 3] rfl)
/-! ===== TwigMatches.place(IJ)J ===== -/
theorem dX7_place_0 : decode cX7_place 0 = .ok (.aload_n 0, 1) := by decide +kernel
theorem dX7_place_1 : decode cX7_place 1 = .ok (.iload_n 1, 1) := by decide +kernel
theorem dX7_place_2 : decode cX7_place 2 = .ok (.lload_n 2, 1) := by decide +kernel
theorem dX7_place_3 : decode cX7_place 3 = .ok (.lconst 0, 1) := by decide +kernel
theorem dX7_place_4 : decode cX7_place 4 = .ok (.lcmp, 1) := by decide +kernel
theorem dX7_place_5 : decode cX7_place 5 = .ok (.ifCond .lt 7, 3) := by decide +kernel
theorem dX7_place_8 : decode cX7_place 8 = .ok (.iconst 1, 1) := by decide +kernel
theorem dX7_place_9 : decode cX7_place 9 = .ok (.goto 4, 3) := by decide +kernel
theorem dX7_place_12 : decode cX7_place 12 = .ok (.iconst 0, 1) := by decide +kernel
theorem dX7_place_13 : decode cX7_place 13 = .ok (.invokevirtual 167, 3) := by decide +kernel
theorem dX7_place_16 : decode cX7_place 16 = .ok (.istore 4, 2) := by decide +kernel
theorem dX7_place_18 : decode cX7_place 18 = .ok (.iload 4, 2) := by decide +kernel
theorem dX7_place_20 : decode cX7_place 20 = .ok (.ifCond .eq 11, 3) := by decide +kernel
theorem dX7_place_23 : decode cX7_place 23 = .ok (.aload_n 0, 1) := by decide +kernel
theorem dX7_place_24 : decode cX7_place 24 = .ok (.iload 4, 2) := by decide +kernel
theorem dX7_place_26 : decode cX7_place 26 = .ok (.invokevirtual 102, 3) := by decide +kernel
theorem dX7_place_29 : decode cX7_place 29 = .ok (.i2l, 1) := by decide +kernel
theorem dX7_place_30 : decode cX7_place 30 = .ok (.lreturn, 1) := by decide +kernel
theorem dX7_place_31 : decode cX7_place 31 = .ok (.aload_n 0, 1) := by decide +kernel
theorem dX7_place_32 : decode cX7_place 32 = .ok (.iload_n 1, 1) := by decide +kernel
theorem dX7_place_33 : decode cX7_place 33 = .ok (.invokevirtual 188, 3) := by decide +kernel
theorem dX7_place_36 : decode cX7_place 36 = .ok (.pop2, 1) := by decide +kernel
theorem dX7_place_37 : decode cX7_place 37 = .ok (.aload_n 0, 1) := by decide +kernel
theorem dX7_place_38 : decode cX7_place 38 = .ok (.getfield 56, 3) := by decide +kernel
theorem dX7_place_41 : decode cX7_place 41 = .ok (.lload_n 2, 1) := by decide +kernel
theorem dX7_place_42 : decode cX7_place 42 = .ok (.invokevirtual 196, 3) := by decide +kernel
theorem dX7_place_45 : decode cX7_place 45 = .ok (.lreturn, 1) := by decide +kernel
set_option maxHeartbeats 4000000 in
set_option maxRecDepth 100000 in
theorem c_X7_place (l : Launch) (B : Nat) (D : va_G) (cA : Nat → ClassId) (m : Mm) (x0 : Nat) (x1 : Int32) (x2 : Int64) (rZ : Int64) (mZ : Mm) (hf : f_X7_place m x0 x1 x2 = some (rZ, mZ)) : Mt l B D cA yX7_place cX7_place 5 (some .long) 6 137 0 0 [.ref (B + x0), .int x1, .long x2] m (some (.long rZ)) mZ := by
  refine r_start (by decide) (Nat.le_of_ble_eq_true rfl) ?_
  intro p e s mt args below meth c ls H locs X hr hlocks hnm hR hl hS
  have hx := X.1
  have hb := X.2.1
  have hl : lv_has ls 5 [(0, .ref (B + x0)), (1, .int x1), (2, .long x2)] := hl
  unfold f_X7_place at hf
  refine lv_aload_n hx hb dX7_place_0 rfl (lv_at hl 0 rfl) ?_
  refine lv_iload_n hx hb dX7_place_1 rfl (lv_at hl 1 rfl) ?_
  refine lv_lload_n hx hb dX7_place_2 rfl (lv_at hl 2 rfl) ?_
  refine lv_lconst (v := 0) hx hb dX7_place_3 (by decide) ?_
  obtain ⟨t1, hjt1, hf⟩ := ob hf
  have hJt1 : ∀ (H : Heap) (locs : List Loc) (ls : Array Slot), Rl B D cA m H → va_S (fun q => B ≤ q) s.heap H locs → lv_has ls 5 [(0, .ref (B + x0)), (1, .int x1), (2, .long x2)] → W p l e (rmm 6 0 0 137) s mt args below meth c H locs 0 0 (MQ below (mQ B D cA (some (.long rZ)) mZ) args s 0 0 (fun q => B ≤ q)) (F0 mt 13 ls [.int t1, .int x1, .ref (B + x0)]) := by
    intro H locs ls hR hS hl
    obtain ⟨o3, h4, hf⟩ := obO hf
    obtain ⟨v6, g5, hf⟩ := ob hf
    refine r_callV X kw_X7_167 (ci := 7) rfl (c_X7_twigFault l B D cA m x0 x1 t1 v6 g5) ⟨Nat.le_of_ble_eq_true rfl, Nat.le_of_ble_eq_true rfl⟩ h4 hR hS hl.1 rfl rfl (Nat.le_of_ble_eq_true rfl) ⟨Nat.le_of_ble_eq_true rfl, Nat.le_of_ble_eq_true rfl⟩ dX7_place_13 (fun H locs hR hS => ?_)
    refine W.eq (g2 := F0 mt 16 ls [.int v6]) rfl ?_
    refine lv_istore (lv' := [(4, .int v6), (0, .ref (B + x0)), (1, .int x1), (2, .long x2)]) hx hb dX7_place_16 hl (by decide) rfl (fun ls hl => ?_)
    refine lv_iload hx hb dX7_place_18 (lv_at hl 0 rfl) ?_
    refine lv_if_eq (tgt := 31) hx hb dX7_place_20 (by decide) (fun c7 => ?_) (fun c7 => ?_)
    · rw [if_pos c7] at hf
      refine lv_aload_n hx hb dX7_place_31 rfl (lv_at hl 1 rfl) ?_
      refine lv_iload_n hx hb dX7_place_32 rfl (lv_at hl 2 rfl) ?_
      obtain ⟨o8, h9, hf⟩ := obO hf
      obtain ⟨t11, g10, hf⟩ := ob hf
      refine r_callV X kw_X7_188 (ci := 7) rfl (c_X7_countMatches l B D cA m x0 x1 t11.1 t11.2 g10) ⟨Nat.le_of_ble_eq_true rfl, Nat.le_of_ble_eq_true rfl⟩ h9 hR hS hl.1 rfl rfl (Nat.le_of_ble_eq_true rfl) ⟨Nat.le_of_ble_eq_true rfl, Nat.le_of_ble_eq_true rfl⟩ dX7_place_33 (fun H locs hR hS => ?_)
      refine W.eq (g2 := F0 mt 36 ls [.long t11.1]) rfl ?_
      refine lv_pop2_2 hx hb dX7_place_36 rfl ?_
      refine lv_aload_n hx hb dX7_place_37 rfl (lv_at hl 1 rfl) ?_
      obtain ⟨v12, g13, hf⟩ := ob hf
      refine gR_X7_56 X hR g13 dX7_place_38 ?_
      refine lv_lload_n hx hb dX7_place_41 rfl (lv_at hl 3 rfl) ?_
      obtain ⟨o14, h15, hf⟩ := obO hf
      obtain ⟨t17, g16, hf⟩ := ob hf
      refine r_callV X kw_X7_196 (ci := 1) rfl (c_X1_rankOf l B D cA t11.2 v12 x2 t17.1 t17.2 g16) ⟨Nat.le_of_ble_eq_true rfl, Nat.le_of_ble_eq_true rfl⟩ h15 hR hS hl.1 rfl rfl (Nat.le_of_ble_eq_true rfl) ⟨Nat.le_of_ble_eq_true rfl, Nat.le_of_ble_eq_true rfl⟩ dX7_place_42 (fun H locs hR hS => ?_)
      refine W.eq (g2 := F0 mt 45 ls [.long t17.1]) rfl ?_
      obtain ⟨rfl, rfl⟩ := Prod.mk.inj (Option.some.inj hf)
      exact r_lret X hr hlocks hR hS dX7_place_45
    · rw [if_neg c7] at hf
      refine lv_aload_n hx hb dX7_place_23 rfl (lv_at hl 1 rfl) ?_
      refine lv_iload hx hb dX7_place_24 (lv_at hl 0 rfl) ?_
      obtain ⟨o18, h19, hf⟩ := obO hf
      obtain ⟨t21, g20, hf⟩ := ob hf
      refine r_callV X kw_X7_102 (ci := 7) rfl (c_X7_failed l B D cA m x0 v6 t21.1 t21.2 g20) ⟨Nat.le_of_ble_eq_true rfl, Nat.le_of_ble_eq_true rfl⟩ h19 hR hS hl.1 rfl rfl (Nat.le_of_ble_eq_true rfl) ⟨Nat.le_of_ble_eq_true rfl, Nat.le_of_ble_eq_true rfl⟩ dX7_place_26 (fun H locs hR hS => ?_)
      refine W.eq (g2 := F0 mt 29 ls [.int t21.1]) rfl ?_
      refine lv_i2l (v := t21.1.toInt64) hx hb dX7_place_29 rfl ?_
      obtain ⟨rfl, rfl⟩ := Prod.mk.inj (Option.some.inj hf)
      exact r_lret X hr hlocks hR hS dX7_place_30
  have hf := hjt1
  clear hjt1
  refine r_lc_lt (tgt := 12) X dX7_place_4 dX7_place_5 (by decide) (fun c2 => ?_) (fun c2 => ?_)
  · rw [if_pos c2] at hf
    refine lv_iconst (v := 0) hx hb dX7_place_12 (by decide) ?_
    obtain rfl := Option.some.inj hf
    exact hJt1 H locs ls hR hS (lv_sub hl [0, 1, 2] rfl)
  · rw [if_neg c2] at hf
    refine lv_iconst (v := 1) hx hb dX7_place_8 (by decide) ?_
    refine lv_goto (tgt := 13) hx hb dX7_place_9 (by decide) ?_
    obtain rfl := Option.some.inj hf
    exact hJt1 H locs ls hR hS (lv_sub hl [0, 1, 2] rfl)
/-! ===== TwigMatches.fits(II)I ===== -/
theorem dX7_fits_0 : decode cX7_fits 0 = .ok (.aload_n 0, 1) := by decide +kernel
theorem dX7_fits_1 : decode cX7_fits 1 = .ok (.iload_n 1, 1) := by decide +kernel
theorem dX7_fits_2 : decode cX7_fits 2 = .ok (.iload_n 2, 1) := by decide +kernel
theorem dX7_fits_3 : decode cX7_fits 3 = .ok (.iconst 1, 1) := by decide +kernel
theorem dX7_fits_4 : decode cX7_fits 4 = .ok (.invokevirtual 156, 3) := by decide +kernel
theorem dX7_fits_7 : decode cX7_fits 7 = .ok (.istore_n 3, 1) := by decide +kernel
theorem dX7_fits_8 : decode cX7_fits 8 = .ok (.iload_n 3, 1) := by decide +kernel
theorem dX7_fits_9 : decode cX7_fits 9 = .ok (.ifCond .eq 11, 3) := by decide +kernel
theorem dX7_fits_12 : decode cX7_fits 12 = .ok (.aload_n 0, 1) := by decide +kernel
theorem dX7_fits_13 : decode cX7_fits 13 = .ok (.iload_n 3, 1) := by decide +kernel
theorem dX7_fits_14 : decode cX7_fits 14 = .ok (.invokevirtual 102, 3) := by decide +kernel
theorem dX7_fits_17 : decode cX7_fits 17 = .ok (.pop, 1) := by decide +kernel
theorem dX7_fits_18 : decode cX7_fits 18 = .ok (.iconst 0, 1) := by decide +kernel
theorem dX7_fits_19 : decode cX7_fits 19 = .ok (.ireturn, 1) := by decide +kernel
theorem dX7_fits_20 : decode cX7_fits 20 = .ok (.aload_n 0, 1) := by decide +kernel
theorem dX7_fits_21 : decode cX7_fits 21 = .ok (.getfield 12, 3) := by decide +kernel
theorem dX7_fits_24 : decode cX7_fits 24 = .ok (.getfield 50, 3) := by decide +kernel
theorem dX7_fits_27 : decode cX7_fits 27 = .ok (.aload_n 0, 1) := by decide +kernel
theorem dX7_fits_28 : decode cX7_fits 28 = .ok (.getfield 12, 3) := by decide +kernel
theorem dX7_fits_31 : decode cX7_fits 31 = .ok (.getfield 160, 3) := by decide +kernel
theorem dX7_fits_34 : decode cX7_fits 34 = .ok (.iload_n 1, 1) := by decide +kernel
theorem dX7_fits_35 : decode cX7_fits 35 = .ok (.aaload, 1) := by decide +kernel
theorem dX7_fits_36 : decode cX7_fits 36 = .ok (.iload_n 2, 1) := by decide +kernel
theorem dX7_fits_37 : decode cX7_fits 37 = .ok (.invokestatic 200, 3) := by decide +kernel
theorem dX7_fits_40 : decode cX7_fits 40 = .ok (.ireturn, 1) := by decide +kernel
set_option maxHeartbeats 4000000 in
set_option maxRecDepth 100000 in
theorem c_X7_fits (l : Launch) (B : Nat) (D : va_G) (cA : Nat → ClassId) (m : Mm) (x0 : Nat) (x1 : Int32) (x2 : Int32) (rZ : Int32) (mZ : Mm) (hf : f_X7_fits m x0 x1 x2 = some (rZ, mZ)) : Mt l B D cA yX7_fits cX7_fits 4 (some .int) 2 48 0 0 [.ref (B + x0), .int x1, .int x2] m (some (.int rZ)) mZ := by
  refine r_start (by decide) (Nat.le_of_ble_eq_true rfl) ?_
  intro p e s mt args below meth c ls H locs X hr hlocks hnm hR hl hS
  have hx := X.1
  have hb := X.2.1
  have hl : lv_has ls 4 [(0, .ref (B + x0)), (1, .int x1), (2, .int x2)] := hl
  unfold f_X7_fits at hf
  refine lv_aload_n hx hb dX7_fits_0 rfl (lv_at hl 0 rfl) ?_
  refine lv_iload_n hx hb dX7_fits_1 rfl (lv_at hl 1 rfl) ?_
  refine lv_iload_n hx hb dX7_fits_2 rfl (lv_at hl 2 rfl) ?_
  refine lv_iconst (v := 1) hx hb dX7_fits_3 (by decide) ?_
  obtain ⟨o1, h2, hf⟩ := obO hf
  obtain ⟨v4, g3, hf⟩ := ob hf
  refine r_callV X kw_X7_156 (ci := 7) rfl (c_X7_nodeFault l B D cA m x0 x1 x2 (1 : Int32) v4 g3) ⟨Nat.le_of_ble_eq_true rfl, Nat.le_of_ble_eq_true rfl⟩ h2 hR hS hl.1 rfl rfl (Nat.le_of_ble_eq_true rfl) ⟨Nat.le_of_ble_eq_true rfl, Nat.le_of_ble_eq_true rfl⟩ dX7_fits_4 (fun H locs hR hS => ?_)
  refine W.eq (g2 := F0 mt 7 ls [.int v4]) rfl ?_
  refine lv_istore_n (lv' := [(3, .int v4), (0, .ref (B + x0)), (1, .int x1), (2, .int x2)]) hx hb dX7_fits_7 rfl hl (by decide) rfl (fun ls hl => ?_)
  refine lv_iload_n hx hb dX7_fits_8 rfl (lv_at hl 0 rfl) ?_
  refine lv_if_eq (tgt := 20) hx hb dX7_fits_9 (by decide) (fun c5 => ?_) (fun c5 => ?_)
  · rw [if_pos c5] at hf
    refine lv_aload_n hx hb dX7_fits_20 rfl (lv_at hl 1 rfl) ?_
    obtain ⟨v6, g7, hf⟩ := ob hf
    refine gR_X7_12 X hR g7 dX7_fits_21 ?_
    obtain ⟨v8, g9, hf⟩ := ob hf
    refine gR_X7_50 X hR g9 dX7_fits_24 ?_
    refine lv_aload_n hx hb dX7_fits_27 rfl (lv_at hl 1 rfl) ?_
    obtain ⟨v10, g11, hf⟩ := ob hf
    refine gR_X7_12 X hR g11 dX7_fits_28 ?_
    obtain ⟨v12, g13, hf⟩ := ob hf
    refine gR_X7_160 X hR g13 dX7_fits_31 ?_
    refine lv_iload_n hx hb dX7_fits_34 rfl (lv_at hl 2 rfl) ?_
    obtain ⟨v14, g15, hf⟩ := ob hf
    refine r_lR (k := 3) (ty := .object RX5) X hR rfl rfl g15 dX7_fits_35 ?_
    refine lv_iload_n hx hb dX7_fits_36 rfl (lv_at hl 3 rfl) ?_
    obtain ⟨v17, g16, hf⟩ := ob hf
    refine r_callS X kw_X7_200 (c_X7_fitting l B D cA m v8 v14 x2 v17 g16) ⟨Nat.le_of_ble_eq_true rfl, Nat.le_of_ble_eq_true rfl⟩ hR hS hl.1 rfl rfl (Nat.le_of_ble_eq_true rfl) ⟨Nat.le_of_ble_eq_true rfl, Nat.le_of_ble_eq_true rfl⟩ dX7_fits_37 (fun H locs hR hS => ?_)
    refine W.eq (g2 := F0 mt 40 ls [.int v17]) rfl ?_
    obtain ⟨rfl, rfl⟩ := Prod.mk.inj (Option.some.inj hf)
    exact r_iret X hr hlocks hR hS rfl dX7_fits_40
  · rw [if_neg c5] at hf
    refine lv_aload_n hx hb dX7_fits_12 rfl (lv_at hl 1 rfl) ?_
    refine lv_iload_n hx hb dX7_fits_13 rfl (lv_at hl 0 rfl) ?_
    obtain ⟨o18, h19, hf⟩ := obO hf
    obtain ⟨t21, g20, hf⟩ := ob hf
    refine r_callV X kw_X7_102 (ci := 7) rfl (c_X7_failed l B D cA m x0 v4 t21.1 t21.2 g20) ⟨Nat.le_of_ble_eq_true rfl, Nat.le_of_ble_eq_true rfl⟩ h19 hR hS hl.1 rfl rfl (Nat.le_of_ble_eq_true rfl) ⟨Nat.le_of_ble_eq_true rfl, Nat.le_of_ble_eq_true rfl⟩ dX7_fits_14 (fun H locs hR hS => ?_)
    refine W.eq (g2 := F0 mt 17 ls [.int t21.1]) rfl ?_
    refine lv_pop hx hb dX7_fits_17 rfl ?_
    refine lv_iconst (v := 0) hx hb dX7_fits_18 (by decide) ?_
    obtain ⟨rfl, rfl⟩ := Prod.mk.inj (Option.some.inj hf)
    exact r_iret X hr hlocks hR hS rfl dX7_fits_19
/-! ===== TwigMatches.found(II)I ===== -/
theorem dX7_found_0 : decode cX7_found 0 = .ok (.aload_n 0, 1) := by decide +kernel
theorem dX7_found_1 : decode cX7_found 1 = .ok (.iload_n 1, 1) := by decide +kernel
theorem dX7_found_2 : decode cX7_found 2 = .ok (.iload_n 2, 1) := by decide +kernel
theorem dX7_found_3 : decode cX7_found 3 = .ok (.iconst 1, 1) := by decide +kernel
theorem dX7_found_4 : decode cX7_found 4 = .ok (.invokevirtual 156, 3) := by decide +kernel
theorem dX7_found_7 : decode cX7_found 7 = .ok (.istore_n 3, 1) := by decide +kernel
theorem dX7_found_8 : decode cX7_found 8 = .ok (.iload_n 3, 1) := by decide +kernel
theorem dX7_found_9 : decode cX7_found 9 = .ok (.ifCond .eq 11, 3) := by decide +kernel
theorem dX7_found_12 : decode cX7_found 12 = .ok (.aload_n 0, 1) := by decide +kernel
theorem dX7_found_13 : decode cX7_found 13 = .ok (.iload_n 3, 1) := by decide +kernel
theorem dX7_found_14 : decode cX7_found 14 = .ok (.invokevirtual 102, 3) := by decide +kernel
theorem dX7_found_17 : decode cX7_found 17 = .ok (.pop, 1) := by decide +kernel
theorem dX7_found_18 : decode cX7_found 18 = .ok (.iconst 0, 1) := by decide +kernel
theorem dX7_found_19 : decode cX7_found 19 = .ok (.ireturn, 1) := by decide +kernel
theorem dX7_found_20 : decode cX7_found 20 = .ok (.aload_n 0, 1) := by decide +kernel
theorem dX7_found_21 : decode cX7_found 21 = .ok (.iload_n 1, 1) := by decide +kernel
theorem dX7_found_22 : decode cX7_found 22 = .ok (.invokevirtual 188, 3) := by decide +kernel
theorem dX7_found_25 : decode cX7_found 25 = .ok (.pop2, 1) := by decide +kernel
theorem dX7_found_26 : decode cX7_found 26 = .ok (.aload_n 0, 1) := by decide +kernel
theorem dX7_found_27 : decode cX7_found 27 = .ok (.getfield 56, 3) := by decide +kernel
theorem dX7_found_30 : decode cX7_found 30 = .ok (.iload_n 2, 1) := by decide +kernel
theorem dX7_found_31 : decode cX7_found 31 = .ok (.iconst 1, 1) := by decide +kernel
theorem dX7_found_32 : decode cX7_found 32 = .ok (.invokevirtual 204, 3) := by decide +kernel
theorem dX7_found_35 : decode cX7_found 35 = .ok (.aload_n 0, 1) := by decide +kernel
theorem dX7_found_36 : decode cX7_found 36 = .ok (.getfield 56, 3) := by decide +kernel
theorem dX7_found_39 : decode cX7_found 39 = .ok (.iload_n 2, 1) := by decide +kernel
theorem dX7_found_40 : decode cX7_found 40 = .ok (.invokevirtual 208, 3) := by decide +kernel
theorem dX7_found_43 : decode cX7_found 43 = .ok (.ireturn, 1) := by decide +kernel
set_option maxHeartbeats 4000000 in
set_option maxRecDepth 100000 in
theorem c_X7_found (l : Launch) (B : Nat) (D : va_G) (cA : Nat → ClassId) (m : Mm) (x0 : Nat) (x1 : Int32) (x2 : Int32) (rZ : Int32) (mZ : Mm) (hf : f_X7_found m x0 x1 x2 = some (rZ, mZ)) : Mt l B D cA yX7_found cX7_found 4 (some .int) 6 143 0 0 [.ref (B + x0), .int x1, .int x2] m (some (.int rZ)) mZ := by
  refine r_start (by decide) (Nat.le_of_ble_eq_true rfl) ?_
  intro p e s mt args below meth c ls H locs X hr hlocks hnm hR hl hS
  have hx := X.1
  have hb := X.2.1
  have hl : lv_has ls 4 [(0, .ref (B + x0)), (1, .int x1), (2, .int x2)] := hl
  unfold f_X7_found at hf
  refine lv_aload_n hx hb dX7_found_0 rfl (lv_at hl 0 rfl) ?_
  refine lv_iload_n hx hb dX7_found_1 rfl (lv_at hl 1 rfl) ?_
  refine lv_iload_n hx hb dX7_found_2 rfl (lv_at hl 2 rfl) ?_
  refine lv_iconst (v := 1) hx hb dX7_found_3 (by decide) ?_
  obtain ⟨o1, h2, hf⟩ := obO hf
  obtain ⟨v4, g3, hf⟩ := ob hf
  refine r_callV X kw_X7_156 (ci := 7) rfl (c_X7_nodeFault l B D cA m x0 x1 x2 (1 : Int32) v4 g3) ⟨Nat.le_of_ble_eq_true rfl, Nat.le_of_ble_eq_true rfl⟩ h2 hR hS hl.1 rfl rfl (Nat.le_of_ble_eq_true rfl) ⟨Nat.le_of_ble_eq_true rfl, Nat.le_of_ble_eq_true rfl⟩ dX7_found_4 (fun H locs hR hS => ?_)
  refine W.eq (g2 := F0 mt 7 ls [.int v4]) rfl ?_
  refine lv_istore_n (lv' := [(3, .int v4), (0, .ref (B + x0)), (1, .int x1), (2, .int x2)]) hx hb dX7_found_7 rfl hl (by decide) rfl (fun ls hl => ?_)
  refine lv_iload_n hx hb dX7_found_8 rfl (lv_at hl 0 rfl) ?_
  refine lv_if_eq (tgt := 20) hx hb dX7_found_9 (by decide) (fun c5 => ?_) (fun c5 => ?_)
  · rw [if_pos c5] at hf
    refine lv_aload_n hx hb dX7_found_20 rfl (lv_at hl 1 rfl) ?_
    refine lv_iload_n hx hb dX7_found_21 rfl (lv_at hl 2 rfl) ?_
    obtain ⟨o6, h7, hf⟩ := obO hf
    obtain ⟨t9, g8, hf⟩ := ob hf
    refine r_callV X kw_X7_188 (ci := 7) rfl (c_X7_countMatches l B D cA m x0 x1 t9.1 t9.2 g8) ⟨Nat.le_of_ble_eq_true rfl, Nat.le_of_ble_eq_true rfl⟩ h7 hR hS hl.1 rfl rfl (Nat.le_of_ble_eq_true rfl) ⟨Nat.le_of_ble_eq_true rfl, Nat.le_of_ble_eq_true rfl⟩ dX7_found_22 (fun H locs hR hS => ?_)
    refine W.eq (g2 := F0 mt 25 ls [.long t9.1]) rfl ?_
    refine lv_pop2_2 hx hb dX7_found_25 rfl ?_
    refine lv_aload_n hx hb dX7_found_26 rfl (lv_at hl 1 rfl) ?_
    obtain ⟨v10, g11, hf⟩ := ob hf
    refine gR_X7_56 X hR g11 dX7_found_27 ?_
    refine lv_iload_n hx hb dX7_found_30 rfl (lv_at hl 3 rfl) ?_
    refine lv_iconst (v := 1) hx hb dX7_found_31 (by decide) ?_
    obtain ⟨o12, h13, hf⟩ := obO hf
    obtain ⟨m15, g14, hf⟩ := ob hf
    refine r_callV X kw_X7_204 (ci := 1) rfl (c_X1_walkPaths l B D cA t9.2 v10 x2 (1 : Int32) m15 g14) ⟨Nat.le_of_ble_eq_true rfl, Nat.le_of_ble_eq_true rfl⟩ h13 hR hS hl.1 rfl rfl (Nat.le_of_ble_eq_true rfl) ⟨Nat.le_of_ble_eq_true rfl, Nat.le_of_ble_eq_true rfl⟩ dX7_found_32 (fun H locs hR hS => ?_)
    refine W.eq (g2 := F0 mt 35 ls []) rfl ?_
    refine lv_aload_n hx hb dX7_found_35 rfl (lv_at hl 1 rfl) ?_
    obtain ⟨v16, g17, hf⟩ := ob hf
    refine gR_X7_56 X hR g17 dX7_found_36 ?_
    refine lv_iload_n hx hb dX7_found_39 rfl (lv_at hl 3 rfl) ?_
    obtain ⟨o18, h19, hf⟩ := obO hf
    obtain ⟨v21, g20, hf⟩ := ob hf
    refine r_callV X kw_X7_208 (ci := 1) rfl (c_X1_reached l B D cA m15 v16 x2 v21 g20) ⟨Nat.le_of_ble_eq_true rfl, Nat.le_of_ble_eq_true rfl⟩ h19 hR hS hl.1 rfl rfl (Nat.le_of_ble_eq_true rfl) ⟨Nat.le_of_ble_eq_true rfl, Nat.le_of_ble_eq_true rfl⟩ dX7_found_40 (fun H locs hR hS => ?_)
    refine W.eq (g2 := F0 mt 43 ls [.int v21]) rfl ?_
    obtain ⟨rfl, rfl⟩ := Prod.mk.inj (Option.some.inj hf)
    exact r_iret X hr hlocks hR hS rfl dX7_found_43
  · rw [if_neg c5] at hf
    refine lv_aload_n hx hb dX7_found_12 rfl (lv_at hl 1 rfl) ?_
    refine lv_iload_n hx hb dX7_found_13 rfl (lv_at hl 0 rfl) ?_
    obtain ⟨o22, h23, hf⟩ := obO hf
    obtain ⟨t25, g24, hf⟩ := ob hf
    refine r_callV X kw_X7_102 (ci := 7) rfl (c_X7_failed l B D cA m x0 v4 t25.1 t25.2 g24) ⟨Nat.le_of_ble_eq_true rfl, Nat.le_of_ble_eq_true rfl⟩ h23 hR hS hl.1 rfl rfl (Nat.le_of_ble_eq_true rfl) ⟨Nat.le_of_ble_eq_true rfl, Nat.le_of_ble_eq_true rfl⟩ dX7_found_14 (fun H locs hR hS => ?_)
    refine W.eq (g2 := F0 mt 17 ls [.int t25.1]) rfl ?_
    refine lv_pop hx hb dX7_found_17 rfl ?_
    refine lv_iconst (v := 0) hx hb dX7_found_18 (by decide) ?_
    obtain ⟨rfl, rfl⟩ := Prod.mk.inj (Option.some.inj hf)
    exact r_iret X hr hlocks hR hS rfl dX7_found_19
/-! ===== TwigMatches.part(III)J ===== -/
theorem dX7_part_0 : decode cX7_part 0 = .ok (.aload_n 0, 1) := by decide +kernel
theorem dX7_part_1 : decode cX7_part 1 = .ok (.iload_n 1, 1) := by decide +kernel
theorem dX7_part_2 : decode cX7_part 2 = .ok (.iload_n 2, 1) := by decide +kernel
theorem dX7_part_3 : decode cX7_part 3 = .ok (.aload_n 0, 1) := by decide +kernel
theorem dX7_part_4 : decode cX7_part 4 = .ok (.getfield 12, 3) := by decide +kernel
theorem dX7_part_7 : decode cX7_part 7 = .ok (.getfield 50, 3) := by decide +kernel
theorem dX7_part_10 : decode cX7_part 10 = .ok (.iload_n 3, 1) := by decide +kernel
theorem dX7_part_11 : decode cX7_part 11 = .ok (.invokevirtual 90, 3) := by decide +kernel
theorem dX7_part_14 : decode cX7_part 14 = .ok (.invokevirtual 156, 3) := by decide +kernel
theorem dX7_part_17 : decode cX7_part 17 = .ok (.istore 4, 2) := by decide +kernel
theorem dX7_part_19 : decode cX7_part 19 = .ok (.iload 4, 2) := by decide +kernel
theorem dX7_part_21 : decode cX7_part 21 = .ok (.ifCond .eq 11, 3) := by decide +kernel
theorem dX7_part_24 : decode cX7_part 24 = .ok (.aload_n 0, 1) := by decide +kernel
theorem dX7_part_25 : decode cX7_part 25 = .ok (.iload 4, 2) := by decide +kernel
theorem dX7_part_27 : decode cX7_part 27 = .ok (.invokevirtual 102, 3) := by decide +kernel
theorem dX7_part_30 : decode cX7_part 30 = .ok (.i2l, 1) := by decide +kernel
theorem dX7_part_31 : decode cX7_part 31 = .ok (.lreturn, 1) := by decide +kernel
theorem dX7_part_32 : decode cX7_part 32 = .ok (.aload_n 0, 1) := by decide +kernel
theorem dX7_part_33 : decode cX7_part 33 = .ok (.getfield 56, 3) := by decide +kernel
theorem dX7_part_36 : decode cX7_part 36 = .ok (.aload_n 0, 1) := by decide +kernel
theorem dX7_part_37 : decode cX7_part 37 = .ok (.getfield 12, 3) := by decide +kernel
theorem dX7_part_40 : decode cX7_part 40 = .ok (.getfield 160, 3) := by decide +kernel
theorem dX7_part_43 : decode cX7_part 43 = .ok (.iload_n 1, 1) := by decide +kernel
theorem dX7_part_44 : decode cX7_part 44 = .ok (.aaload, 1) := by decide +kernel
theorem dX7_part_45 : decode cX7_part 45 = .ok (.invokevirtual 211, 3) := by decide +kernel
theorem dX7_part_48 : decode cX7_part 48 = .ok (.aload_n 0, 1) := by decide +kernel
theorem dX7_part_49 : decode cX7_part 49 = .ok (.getfield 56, 3) := by decide +kernel
theorem dX7_part_52 : decode cX7_part 52 = .ok (.iload_n 2, 1) := by decide +kernel
theorem dX7_part_53 : decode cX7_part 53 = .ok (.iload_n 3, 1) := by decide +kernel
theorem dX7_part_54 : decode cX7_part 54 = .ok (.invokevirtual 215, 3) := by decide +kernel
theorem dX7_part_57 : decode cX7_part 57 = .ok (.aload_n 0, 1) := by decide +kernel
theorem dX7_part_58 : decode cX7_part 58 = .ok (.getfield 56, 3) := by decide +kernel
theorem dX7_part_61 : decode cX7_part 61 = .ok (.invokevirtual 218, 3) := by decide +kernel
theorem dX7_part_64 : decode cX7_part 64 = .ok (.lreturn, 1) := by decide +kernel
set_option maxHeartbeats 4000000 in
set_option maxRecDepth 100000 in
theorem c_X7_part (l : Launch) (B : Nat) (D : va_G) (cA : Nat → ClassId) (m : Mm) (x0 : Nat) (x1 : Int32) (x2 : Int32) (x3 : Int32) (rZ : Int64) (mZ : Mm) (hf : f_X7_part m x0 x1 x2 x3 = some (rZ, mZ)) : Mt l B D cA yX7_part cX7_part 5 (some .long) 5 116 0 0 [.ref (B + x0), .int x1, .int x2, .int x3] m (some (.long rZ)) mZ := by
  refine r_start (by decide) (Nat.le_of_ble_eq_true rfl) ?_
  intro p e s mt args below meth c ls H locs X hr hlocks hnm hR hl hS
  have hx := X.1
  have hb := X.2.1
  have hl : lv_has ls 5 [(0, .ref (B + x0)), (1, .int x1), (2, .int x2), (3, .int x3)] := hl
  unfold f_X7_part at hf
  refine lv_aload_n hx hb dX7_part_0 rfl (lv_at hl 0 rfl) ?_
  refine lv_iload_n hx hb dX7_part_1 rfl (lv_at hl 1 rfl) ?_
  refine lv_iload_n hx hb dX7_part_2 rfl (lv_at hl 2 rfl) ?_
  refine lv_aload_n hx hb dX7_part_3 rfl (lv_at hl 0 rfl) ?_
  obtain ⟨v1, g2, hf⟩ := ob hf
  refine gR_X7_12 X hR g2 dX7_part_4 ?_
  obtain ⟨v3, g4, hf⟩ := ob hf
  refine gR_X7_50 X hR g4 dX7_part_7 ?_
  refine lv_iload_n hx hb dX7_part_10 rfl (lv_at hl 3 rfl) ?_
  obtain ⟨o5, h6, hf⟩ := obO hf
  obtain ⟨v8, g7, hf⟩ := ob hf
  refine r_callV X kw_X7_90 (ci := 4) rfl (c_X4_has l B D cA m v3 x3 v8 g7) ⟨Nat.le_of_ble_eq_true rfl, Nat.le_of_ble_eq_true rfl⟩ h6 hR hS hl.1 rfl rfl (Nat.le_of_ble_eq_true rfl) ⟨Nat.le_of_ble_eq_true rfl, Nat.le_of_ble_eq_true rfl⟩ dX7_part_11 (fun H locs hR hS => ?_)
  refine W.eq (g2 := F0 mt 14 ls [.int v8, .int x2, .int x1, .ref (B + x0)]) rfl ?_
  obtain ⟨o9, h10, hf⟩ := obO hf
  obtain ⟨v12, g11, hf⟩ := ob hf
  refine r_callV X kw_X7_156 (ci := 7) rfl (c_X7_nodeFault l B D cA m x0 x1 x2 v8 v12 g11) ⟨Nat.le_of_ble_eq_true rfl, Nat.le_of_ble_eq_true rfl⟩ h10 hR hS hl.1 rfl rfl (Nat.le_of_ble_eq_true rfl) ⟨Nat.le_of_ble_eq_true rfl, Nat.le_of_ble_eq_true rfl⟩ dX7_part_14 (fun H locs hR hS => ?_)
  refine W.eq (g2 := F0 mt 17 ls [.int v12]) rfl ?_
  refine lv_istore (lv' := [(4, .int v12), (0, .ref (B + x0)), (1, .int x1), (2, .int x2), (3, .int x3)]) hx hb dX7_part_17 hl (by decide) rfl (fun ls hl => ?_)
  refine lv_iload hx hb dX7_part_19 (lv_at hl 0 rfl) ?_
  refine lv_if_eq (tgt := 32) hx hb dX7_part_21 (by decide) (fun c13 => ?_) (fun c13 => ?_)
  · rw [if_pos c13] at hf
    refine lv_aload_n hx hb dX7_part_32 rfl (lv_at hl 1 rfl) ?_
    obtain ⟨v14, g15, hf⟩ := ob hf
    refine gR_X7_56 X hR g15 dX7_part_33 ?_
    refine lv_aload_n hx hb dX7_part_36 rfl (lv_at hl 1 rfl) ?_
    obtain ⟨v16, g17, hf⟩ := ob hf
    refine gR_X7_12 X hR g17 dX7_part_37 ?_
    obtain ⟨v18, g19, hf⟩ := ob hf
    refine gR_X7_160 X hR g19 dX7_part_40 ?_
    refine lv_iload_n hx hb dX7_part_43 rfl (lv_at hl 2 rfl) ?_
    obtain ⟨v20, g21, hf⟩ := ob hf
    refine r_lR (k := 3) (ty := .object RX5) X hR rfl rfl g21 dX7_part_44 ?_
    obtain ⟨o22, h23, hf⟩ := obO hf
    obtain ⟨m25, g24, hf⟩ := ob hf
    refine r_callV X kw_X7_211 (ci := 1) rfl (c_X1_open l B D cA m v14 v20 m25 g24) ⟨Nat.le_of_ble_eq_true rfl, Nat.le_of_ble_eq_true rfl⟩ h23 hR hS hl.1 rfl rfl (Nat.le_of_ble_eq_true rfl) ⟨Nat.le_of_ble_eq_true rfl, Nat.le_of_ble_eq_true rfl⟩ dX7_part_45 (fun H locs hR hS => ?_)
    refine W.eq (g2 := F0 mt 48 ls []) rfl ?_
    refine lv_aload_n hx hb dX7_part_48 rfl (lv_at hl 1 rfl) ?_
    obtain ⟨v26, g27, hf⟩ := ob hf
    refine gR_X7_56 X hR g27 dX7_part_49 ?_
    refine lv_iload_n hx hb dX7_part_52 rfl (lv_at hl 3 rfl) ?_
    refine lv_iload_n hx hb dX7_part_53 rfl (lv_at hl 4 rfl) ?_
    obtain ⟨o28, h29, hf⟩ := obO hf
    obtain ⟨m31, g30, hf⟩ := ob hf
    refine r_callV X kw_X7_215 (ci := 1) rfl (c_X1_pin l B D cA m25 v26 x2 x3 m31 g30) ⟨Nat.le_of_ble_eq_true rfl, Nat.le_of_ble_eq_true rfl⟩ h29 hR hS hl.1 rfl rfl (Nat.le_of_ble_eq_true rfl) ⟨Nat.le_of_ble_eq_true rfl, Nat.le_of_ble_eq_true rfl⟩ dX7_part_54 (fun H locs hR hS => ?_)
    refine W.eq (g2 := F0 mt 57 ls []) rfl ?_
    refine lv_aload_n hx hb dX7_part_57 rfl (lv_at hl 1 rfl) ?_
    obtain ⟨v32, g33, hf⟩ := ob hf
    refine gR_X7_56 X hR g33 dX7_part_58 ?_
    obtain ⟨o34, h35, hf⟩ := obO hf
    obtain ⟨t37, g36, hf⟩ := ob hf
    refine r_callV X kw_X7_218 (ci := 1) rfl (c_X1_solve l B D cA m31 v32 t37.1 t37.2 g36) ⟨Nat.le_of_ble_eq_true rfl, Nat.le_of_ble_eq_true rfl⟩ h35 hR hS hl.1 rfl rfl (Nat.le_of_ble_eq_true rfl) ⟨Nat.le_of_ble_eq_true rfl, Nat.le_of_ble_eq_true rfl⟩ dX7_part_61 (fun H locs hR hS => ?_)
    refine W.eq (g2 := F0 mt 64 ls [.long t37.1]) rfl ?_
    obtain ⟨rfl, rfl⟩ := Prod.mk.inj (Option.some.inj hf)
    exact r_lret X hr hlocks hR hS dX7_part_64
  · rw [if_neg c13] at hf
    refine lv_aload_n hx hb dX7_part_24 rfl (lv_at hl 1 rfl) ?_
    refine lv_iload hx hb dX7_part_25 (lv_at hl 0 rfl) ?_
    obtain ⟨o38, h39, hf⟩ := obO hf
    obtain ⟨t41, g40, hf⟩ := ob hf
    refine r_callV X kw_X7_102 (ci := 7) rfl (c_X7_failed l B D cA m x0 v12 t41.1 t41.2 g40) ⟨Nat.le_of_ble_eq_true rfl, Nat.le_of_ble_eq_true rfl⟩ h39 hR hS hl.1 rfl rfl (Nat.le_of_ble_eq_true rfl) ⟨Nat.le_of_ble_eq_true rfl, Nat.le_of_ble_eq_true rfl⟩ dX7_part_27 (fun H locs hR hS => ?_)
    refine W.eq (g2 := F0 mt 30 ls [.int t41.1]) rfl ?_
    refine lv_i2l (v := t41.1.toInt64) hx hb dX7_part_30 rfl ?_
    obtain ⟨rfl, rfl⟩ := Prod.mk.inj (Option.some.inj hf)
    exact r_lret X hr hlocks hR hS dX7_part_31
/-! ===== TwigMatches.ways(III)J ===== -/
theorem dX7_ways_0 : decode cX7_ways 0 = .ok (.aload_n 0, 1) := by decide +kernel
theorem dX7_ways_1 : decode cX7_ways 1 = .ok (.iload_n 1, 1) := by decide +kernel
theorem dX7_ways_2 : decode cX7_ways 2 = .ok (.iload_n 2, 1) := by decide +kernel
theorem dX7_ways_3 : decode cX7_ways 3 = .ok (.iload_n 3, 1) := by decide +kernel
theorem dX7_ways_4 : decode cX7_ways 4 = .ok (.ifCond .eq 8, 3) := by decide +kernel
theorem dX7_ways_7 : decode cX7_ways 7 = .ok (.iload_n 3, 1) := by decide +kernel
theorem dX7_ways_8 : decode cX7_ways 8 = .ok (.iconst 1, 1) := by decide +kernel
theorem dX7_ways_9 : decode cX7_ways 9 = .ok (.if_icmp .ne 7, 3) := by decide +kernel
theorem dX7_ways_12 : decode cX7_ways 12 = .ok (.iconst 1, 1) := by decide +kernel
theorem dX7_ways_13 : decode cX7_ways 13 = .ok (.goto 4, 3) := by decide +kernel
theorem dX7_ways_16 : decode cX7_ways 16 = .ok (.iconst 0, 1) := by decide +kernel
theorem dX7_ways_17 : decode cX7_ways 17 = .ok (.invokevirtual 156, 3) := by decide +kernel
theorem dX7_ways_20 : decode cX7_ways 20 = .ok (.istore 4, 2) := by decide +kernel
theorem dX7_ways_22 : decode cX7_ways 22 = .ok (.iload 4, 2) := by decide +kernel
theorem dX7_ways_24 : decode cX7_ways 24 = .ok (.ifCond .eq 11, 3) := by decide +kernel
theorem dX7_ways_27 : decode cX7_ways 27 = .ok (.aload_n 0, 1) := by decide +kernel
theorem dX7_ways_28 : decode cX7_ways 28 = .ok (.iload 4, 2) := by decide +kernel
theorem dX7_ways_30 : decode cX7_ways 30 = .ok (.invokevirtual 102, 3) := by decide +kernel
theorem dX7_ways_33 : decode cX7_ways 33 = .ok (.i2l, 1) := by decide +kernel
theorem dX7_ways_34 : decode cX7_ways 34 = .ok (.lreturn, 1) := by decide +kernel
theorem dX7_ways_35 : decode cX7_ways 35 = .ok (.aload_n 0, 1) := by decide +kernel
theorem dX7_ways_36 : decode cX7_ways 36 = .ok (.iload_n 1, 1) := by decide +kernel
theorem dX7_ways_37 : decode cX7_ways 37 = .ok (.invokevirtual 188, 3) := by decide +kernel
theorem dX7_ways_40 : decode cX7_ways 40 = .ok (.pop2, 1) := by decide +kernel
theorem dX7_ways_41 : decode cX7_ways 41 = .ok (.aload_n 0, 1) := by decide +kernel
theorem dX7_ways_42 : decode cX7_ways 42 = .ok (.getfield 56, 3) := by decide +kernel
theorem dX7_ways_45 : decode cX7_ways 45 = .ok (.iload_n 2, 1) := by decide +kernel
theorem dX7_ways_46 : decode cX7_ways 46 = .ok (.iload_n 3, 1) := by decide +kernel
theorem dX7_ways_47 : decode cX7_ways 47 = .ok (.iconst 1, 1) := by decide +kernel
theorem dX7_ways_48 : decode cX7_ways 48 = .ok (.if_icmp .ne 7, 3) := by decide +kernel
theorem dX7_ways_51 : decode cX7_ways 51 = .ok (.iconst 1, 1) := by decide +kernel
theorem dX7_ways_52 : decode cX7_ways 52 = .ok (.goto 4, 3) := by decide +kernel
theorem dX7_ways_55 : decode cX7_ways 55 = .ok (.iconst 0, 1) := by decide +kernel
theorem dX7_ways_56 : decode cX7_ways 56 = .ok (.invokevirtual 204, 3) := by decide +kernel
theorem dX7_ways_59 : decode cX7_ways 59 = .ok (.aload_n 0, 1) := by decide +kernel
theorem dX7_ways_60 : decode cX7_ways 60 = .ok (.getfield 56, 3) := by decide +kernel
theorem dX7_ways_63 : decode cX7_ways 63 = .ok (.iload_n 2, 1) := by decide +kernel
theorem dX7_ways_64 : decode cX7_ways 64 = .ok (.invokevirtual 222, 3) := by decide +kernel
theorem dX7_ways_67 : decode cX7_ways 67 = .ok (.lreturn, 1) := by decide +kernel
set_option maxHeartbeats 4000000 in
set_option maxRecDepth 100000 in
theorem c_X7_ways (l : Launch) (B : Nat) (D : va_G) (cA : Nat → ClassId) (m : Mm) (x0 : Nat) (x1 : Int32) (x2 : Int32) (x3 : Int32) (rZ : Int64) (mZ : Mm) (hf : f_X7_ways m x0 x1 x2 x3 = some (rZ, mZ)) : Mt l B D cA yX7_ways cX7_ways 5 (some .long) 6 143 0 0 [.ref (B + x0), .int x1, .int x2, .int x3] m (some (.long rZ)) mZ := by
  refine r_start (by decide) (Nat.le_of_ble_eq_true rfl) ?_
  intro p e s mt args below meth c ls H locs X hr hlocks hnm hR hl hS
  have hx := X.1
  have hb := X.2.1
  have hl : lv_has ls 5 [(0, .ref (B + x0)), (1, .int x1), (2, .int x2), (3, .int x3)] := hl
  unfold f_X7_ways at hf
  refine lv_aload_n hx hb dX7_ways_0 rfl (lv_at hl 0 rfl) ?_
  refine lv_iload_n hx hb dX7_ways_1 rfl (lv_at hl 1 rfl) ?_
  refine lv_iload_n hx hb dX7_ways_2 rfl (lv_at hl 2 rfl) ?_
  refine lv_iload_n hx hb dX7_ways_3 rfl (lv_at hl 3 rfl) ?_
  obtain ⟨t1, hjt1, hf⟩ := ob hf
  have hJt1 : ∀ (H : Heap) (locs : List Loc) (ls : Array Slot), Rl B D cA m H → va_S (fun q => B ≤ q) s.heap H locs → lv_has ls 5 [(0, .ref (B + x0)), (1, .int x1), (2, .int x2), (3, .int x3)] → W p l e (rmm 6 0 0 143) s mt args below meth c H locs 0 0 (MQ below (mQ B D cA (some (.long rZ)) mZ) args s 0 0 (fun q => B ≤ q)) (F0 mt 17 ls [.int t1, .int x2, .int x1, .ref (B + x0)]) := by
    intro H locs ls hR hS hl
    obtain ⟨o4, h5, hf⟩ := obO hf
    obtain ⟨v7, g6, hf⟩ := ob hf
    refine r_callV X kw_X7_156 (ci := 7) rfl (c_X7_nodeFault l B D cA m x0 x1 x2 t1 v7 g6) ⟨Nat.le_of_ble_eq_true rfl, Nat.le_of_ble_eq_true rfl⟩ h5 hR hS hl.1 rfl rfl (Nat.le_of_ble_eq_true rfl) ⟨Nat.le_of_ble_eq_true rfl, Nat.le_of_ble_eq_true rfl⟩ dX7_ways_17 (fun H locs hR hS => ?_)
    refine W.eq (g2 := F0 mt 20 ls [.int v7]) rfl ?_
    refine lv_istore (lv' := [(4, .int v7), (0, .ref (B + x0)), (1, .int x1), (2, .int x2), (3, .int x3)]) hx hb dX7_ways_20 hl (by decide) rfl (fun ls hl => ?_)
    refine lv_iload hx hb dX7_ways_22 (lv_at hl 0 rfl) ?_
    refine lv_if_eq (tgt := 35) hx hb dX7_ways_24 (by decide) (fun c8 => ?_) (fun c8 => ?_)
    · rw [if_pos c8] at hf
      refine lv_aload_n hx hb dX7_ways_35 rfl (lv_at hl 1 rfl) ?_
      refine lv_iload_n hx hb dX7_ways_36 rfl (lv_at hl 2 rfl) ?_
      obtain ⟨o9, h10, hf⟩ := obO hf
      obtain ⟨t12, g11, hf⟩ := ob hf
      refine r_callV X kw_X7_188 (ci := 7) rfl (c_X7_countMatches l B D cA m x0 x1 t12.1 t12.2 g11) ⟨Nat.le_of_ble_eq_true rfl, Nat.le_of_ble_eq_true rfl⟩ h10 hR hS hl.1 rfl rfl (Nat.le_of_ble_eq_true rfl) ⟨Nat.le_of_ble_eq_true rfl, Nat.le_of_ble_eq_true rfl⟩ dX7_ways_37 (fun H locs hR hS => ?_)
      refine W.eq (g2 := F0 mt 40 ls [.long t12.1]) rfl ?_
      refine lv_pop2_2 hx hb dX7_ways_40 rfl ?_
      refine lv_aload_n hx hb dX7_ways_41 rfl (lv_at hl 1 rfl) ?_
      obtain ⟨v13, g14, hf⟩ := ob hf
      refine gR_X7_56 X hR g14 dX7_ways_42 ?_
      refine lv_iload_n hx hb dX7_ways_45 rfl (lv_at hl 3 rfl) ?_
      refine lv_iload_n hx hb dX7_ways_46 rfl (lv_at hl 4 rfl) ?_
      refine lv_iconst (v := 1) hx hb dX7_ways_47 (by decide) ?_
      obtain ⟨t15, hjt15, hf⟩ := ob hf
      have hJt15 : ∀ (H : Heap) (locs : List Loc) (ls : Array Slot), Rl B D cA t12.2 H → va_S (fun q => B ≤ q) s.heap H locs → lv_has ls 5 [(0, .ref (B + x0)), (2, .int x2)] → W p l e (rmm 6 0 0 143) s mt args below meth c H locs 0 0 (MQ below (mQ B D cA (some (.long rZ)) mZ) args s 0 0 (fun q => B ≤ q)) (F0 mt 56 ls [.int t15, .int x2, .ref (B + v13)]) := by
        intro H locs ls hR hS hl
        obtain ⟨o17, h18, hf⟩ := obO hf
        obtain ⟨m20, g19, hf⟩ := ob hf
        refine r_callV X kw_X7_204 (ci := 1) rfl (c_X1_walkPaths l B D cA t12.2 v13 x2 t15 m20 g19) ⟨Nat.le_of_ble_eq_true rfl, Nat.le_of_ble_eq_true rfl⟩ h18 hR hS hl.1 rfl rfl (Nat.le_of_ble_eq_true rfl) ⟨Nat.le_of_ble_eq_true rfl, Nat.le_of_ble_eq_true rfl⟩ dX7_ways_56 (fun H locs hR hS => ?_)
        refine W.eq (g2 := F0 mt 59 ls []) rfl ?_
        refine lv_aload_n hx hb dX7_ways_59 rfl (lv_at hl 0 rfl) ?_
        obtain ⟨v21, g22, hf⟩ := ob hf
        refine gR_X7_56 X hR g22 dX7_ways_60 ?_
        refine lv_iload_n hx hb dX7_ways_63 rfl (lv_at hl 1 rfl) ?_
        obtain ⟨o23, h24, hf⟩ := obO hf
        obtain ⟨v26, g25, hf⟩ := ob hf
        refine r_callV X kw_X7_222 (ci := 1) rfl (c_X1_pathsTo l B D cA m20 v21 x2 v26 g25) ⟨Nat.le_of_ble_eq_true rfl, Nat.le_of_ble_eq_true rfl⟩ h24 hR hS hl.1 rfl rfl (Nat.le_of_ble_eq_true rfl) ⟨Nat.le_of_ble_eq_true rfl, Nat.le_of_ble_eq_true rfl⟩ dX7_ways_64 (fun H locs hR hS => ?_)
        refine W.eq (g2 := F0 mt 67 ls [.long v26]) rfl ?_
        obtain ⟨rfl, rfl⟩ := Prod.mk.inj (Option.some.inj hf)
        exact r_lret X hr hlocks hR hS dX7_ways_67
      have hf := hjt15
      clear hjt15
      refine lv_icmp_ne (tgt := 55) hx hb dX7_ways_48 (by decide) (fun c16 => ?_) (fun c16 => ?_)
      · rw [if_neg c16] at hf
        refine lv_iconst (v := 0) hx hb dX7_ways_55 (by decide) ?_
        obtain rfl := Option.some.inj hf
        exact hJt15 H locs ls hR hS (lv_sub hl [1, 3] rfl)
      · rw [if_pos c16] at hf
        refine lv_iconst (v := 1) hx hb dX7_ways_51 (by decide) ?_
        refine lv_goto (tgt := 56) hx hb dX7_ways_52 (by decide) ?_
        obtain rfl := Option.some.inj hf
        exact hJt15 H locs ls hR hS (lv_sub hl [1, 3] rfl)
    · rw [if_neg c8] at hf
      refine lv_aload_n hx hb dX7_ways_27 rfl (lv_at hl 1 rfl) ?_
      refine lv_iload hx hb dX7_ways_28 (lv_at hl 0 rfl) ?_
      obtain ⟨o27, h28, hf⟩ := obO hf
      obtain ⟨t30, g29, hf⟩ := ob hf
      refine r_callV X kw_X7_102 (ci := 7) rfl (c_X7_failed l B D cA m x0 v7 t30.1 t30.2 g29) ⟨Nat.le_of_ble_eq_true rfl, Nat.le_of_ble_eq_true rfl⟩ h28 hR hS hl.1 rfl rfl (Nat.le_of_ble_eq_true rfl) ⟨Nat.le_of_ble_eq_true rfl, Nat.le_of_ble_eq_true rfl⟩ dX7_ways_30 (fun H locs hR hS => ?_)
      refine W.eq (g2 := F0 mt 33 ls [.int t30.1]) rfl ?_
      refine lv_i2l (v := t30.1.toInt64) hx hb dX7_ways_33 rfl ?_
      obtain ⟨rfl, rfl⟩ := Prod.mk.inj (Option.some.inj hf)
      exact r_lret X hr hlocks hR hS dX7_ways_34
  have hf := hjt1
  clear hjt1
  refine lv_if_eq (tgt := 12) hx hb dX7_ways_4 (by decide) (fun c2 => ?_) (fun c2 => ?_)
  · rw [if_pos c2] at hf
    refine lv_iconst (v := 1) hx hb dX7_ways_12 (by decide) ?_
    refine lv_goto (tgt := 17) hx hb dX7_ways_13 (by decide) ?_
    obtain rfl := Option.some.inj hf
    exact hJt1 H locs ls hR hS (lv_sub hl [0, 1, 2, 3] rfl)
  · rw [if_neg c2] at hf
    refine lv_iload_n hx hb dX7_ways_7 rfl (lv_at hl 3 rfl) ?_
    refine lv_iconst (v := 1) hx hb dX7_ways_8 (by decide) ?_
    refine lv_icmp_ne (tgt := 16) hx hb dX7_ways_9 (by decide) (fun c3 => ?_) (fun c3 => ?_)
    · rw [if_neg c3] at hf
      refine lv_iconst (v := 0) hx hb dX7_ways_16 (by decide) ?_
      obtain rfl := Option.some.inj hf
      exact hJt1 H locs ls hR hS (lv_sub hl [0, 1, 2, 3] rfl)
    · rw [if_pos c3] at hf
      refine lv_iconst (v := 1) hx hb dX7_ways_12 (by decide) ?_
      refine lv_goto (tgt := 17) hx hb dX7_ways_13 (by decide) ?_
      obtain rfl := Option.some.inj hf
      exact hJt1 H locs ls hR hS (lv_sub hl [0, 1, 2, 3] rfl)
/-! ===== TwigMatches.less(II)J ===== -/
theorem dX7_less_0 : decode cX7_less 0 = .ok (.aload_n 0, 1) := by decide +kernel
theorem dX7_less_1 : decode cX7_less 1 = .ok (.iload_n 1, 1) := by decide +kernel
theorem dX7_less_2 : decode cX7_less 2 = .ok (.aload_n 0, 1) := by decide +kernel
theorem dX7_less_3 : decode cX7_less 3 = .ok (.getfield 12, 3) := by decide +kernel
theorem dX7_less_6 : decode cX7_less 6 = .ok (.getfield 50, 3) := by decide +kernel
theorem dX7_less_9 : decode cX7_less 9 = .ok (.iload_n 2, 1) := by decide +kernel
theorem dX7_less_10 : decode cX7_less 10 = .ok (.invokevirtual 90, 3) := by decide +kernel
theorem dX7_less_13 : decode cX7_less 13 = .ok (.invokevirtual 167, 3) := by decide +kernel
theorem dX7_less_16 : decode cX7_less 16 = .ok (.istore_n 3, 1) := by decide +kernel
theorem dX7_less_17 : decode cX7_less 17 = .ok (.iload_n 3, 1) := by decide +kernel
theorem dX7_less_18 : decode cX7_less 18 = .ok (.ifCond .eq 10, 3) := by decide +kernel
theorem dX7_less_21 : decode cX7_less 21 = .ok (.aload_n 0, 1) := by decide +kernel
theorem dX7_less_22 : decode cX7_less 22 = .ok (.iload_n 3, 1) := by decide +kernel
theorem dX7_less_23 : decode cX7_less 23 = .ok (.invokevirtual 102, 3) := by decide +kernel
theorem dX7_less_26 : decode cX7_less 26 = .ok (.i2l, 1) := by decide +kernel
theorem dX7_less_27 : decode cX7_less 27 = .ok (.lreturn, 1) := by decide +kernel
theorem dX7_less_28 : decode cX7_less 28 = .ok (.iload_n 2, 1) := by decide +kernel
theorem dX7_less_29 : decode cX7_less 29 = .ok (.ifCond .ne 11, 3) := by decide +kernel
theorem dX7_less_32 : decode cX7_less 32 = .ok (.aload_n 0, 1) := by decide +kernel
theorem dX7_less_33 : decode cX7_less 33 = .ok (.bipush (-3), 2) := by decide +kernel
theorem dX7_less_35 : decode cX7_less 35 = .ok (.invokevirtual 102, 3) := by decide +kernel
theorem dX7_less_38 : decode cX7_less 38 = .ok (.i2l, 1) := by decide +kernel
theorem dX7_less_39 : decode cX7_less 39 = .ok (.lreturn, 1) := by decide +kernel
theorem dX7_less_40 : decode cX7_less 40 = .ok (.aload_n 0, 1) := by decide +kernel
theorem dX7_less_41 : decode cX7_less 41 = .ok (.iload_n 1, 1) := by decide +kernel
theorem dX7_less_42 : decode cX7_less 42 = .ok (.invokevirtual 188, 3) := by decide +kernel
theorem dX7_less_45 : decode cX7_less 45 = .ok (.lstore 4, 2) := by decide +kernel
theorem dX7_less_47 : decode cX7_less 47 = .ok (.aload_n 0, 1) := by decide +kernel
theorem dX7_less_48 : decode cX7_less 48 = .ok (.getfield 56, 3) := by decide +kernel
theorem dX7_less_51 : decode cX7_less 51 = .ok (.iload_n 2, 1) := by decide +kernel
theorem dX7_less_52 : decode cX7_less 52 = .ok (.aload_n 0, 1) := by decide +kernel
theorem dX7_less_53 : decode cX7_less 53 = .ok (.getfield 12, 3) := by decide +kernel
theorem dX7_less_56 : decode cX7_less 56 = .ok (.getfield 50, 3) := by decide +kernel
theorem dX7_less_59 : decode cX7_less 59 = .ok (.getfield 124, 3) := by decide +kernel
theorem dX7_less_62 : decode cX7_less 62 = .ok (.iload_n 2, 1) := by decide +kernel
theorem dX7_less_63 : decode cX7_less 63 = .ok (.iaload, 1) := by decide +kernel
theorem dX7_less_64 : decode cX7_less 64 = .ok (.invokestatic 185, 3) := by decide +kernel
theorem dX7_less_67 : decode cX7_less 67 = .ok (.invokevirtual 225, 3) := by decide +kernel
theorem dX7_less_70 : decode cX7_less 70 = .ok (.aload_n 0, 1) := by decide +kernel
theorem dX7_less_71 : decode cX7_less 71 = .ok (.getfield 56, 3) := by decide +kernel
theorem dX7_less_74 : decode cX7_less 74 = .ok (.invokevirtual 218, 3) := by decide +kernel
theorem dX7_less_77 : decode cX7_less 77 = .ok (.lload 4, 2) := by decide +kernel
theorem dX7_less_79 : decode cX7_less 79 = .ok (.lsub, 1) := by decide +kernel
theorem dX7_less_80 : decode cX7_less 80 = .ok (.lreturn, 1) := by decide +kernel
set_option maxHeartbeats 4000000 in
set_option maxRecDepth 100000 in
theorem c_X7_less (l : Launch) (B : Nat) (D : va_G) (cA : Nat → ClassId) (m : Mm) (x0 : Nat) (x1 : Int32) (x2 : Int32) (rZ : Int64) (mZ : Mm) (hf : f_X7_less m x0 x1 x2 = some (rZ, mZ)) : Mt l B D cA yX7_less cX7_less 6 (some .long) 6 137 0 0 [.ref (B + x0), .int x1, .int x2] m (some (.long rZ)) mZ := by
  refine r_start (by decide) (Nat.le_of_ble_eq_true rfl) ?_
  intro p e s mt args below meth c ls H locs X hr hlocks hnm hR hl hS
  have hx := X.1
  have hb := X.2.1
  have hl : lv_has ls 6 [(0, .ref (B + x0)), (1, .int x1), (2, .int x2)] := hl
  unfold f_X7_less at hf
  refine lv_aload_n hx hb dX7_less_0 rfl (lv_at hl 0 rfl) ?_
  refine lv_iload_n hx hb dX7_less_1 rfl (lv_at hl 1 rfl) ?_
  refine lv_aload_n hx hb dX7_less_2 rfl (lv_at hl 0 rfl) ?_
  obtain ⟨v1, g2, hf⟩ := ob hf
  refine gR_X7_12 X hR g2 dX7_less_3 ?_
  obtain ⟨v3, g4, hf⟩ := ob hf
  refine gR_X7_50 X hR g4 dX7_less_6 ?_
  refine lv_iload_n hx hb dX7_less_9 rfl (lv_at hl 2 rfl) ?_
  obtain ⟨o5, h6, hf⟩ := obO hf
  obtain ⟨v8, g7, hf⟩ := ob hf
  refine r_callV X kw_X7_90 (ci := 4) rfl (c_X4_has l B D cA m v3 x2 v8 g7) ⟨Nat.le_of_ble_eq_true rfl, Nat.le_of_ble_eq_true rfl⟩ h6 hR hS hl.1 rfl rfl (Nat.le_of_ble_eq_true rfl) ⟨Nat.le_of_ble_eq_true rfl, Nat.le_of_ble_eq_true rfl⟩ dX7_less_10 (fun H locs hR hS => ?_)
  refine W.eq (g2 := F0 mt 13 ls [.int v8, .int x1, .ref (B + x0)]) rfl ?_
  obtain ⟨o9, h10, hf⟩ := obO hf
  obtain ⟨v12, g11, hf⟩ := ob hf
  refine r_callV X kw_X7_167 (ci := 7) rfl (c_X7_twigFault l B D cA m x0 x1 v8 v12 g11) ⟨Nat.le_of_ble_eq_true rfl, Nat.le_of_ble_eq_true rfl⟩ h10 hR hS hl.1 rfl rfl (Nat.le_of_ble_eq_true rfl) ⟨Nat.le_of_ble_eq_true rfl, Nat.le_of_ble_eq_true rfl⟩ dX7_less_13 (fun H locs hR hS => ?_)
  refine W.eq (g2 := F0 mt 16 ls [.int v12]) rfl ?_
  refine lv_istore_n (lv' := [(3, .int v12), (0, .ref (B + x0)), (1, .int x1), (2, .int x2)]) hx hb dX7_less_16 rfl hl (by decide) rfl (fun ls hl => ?_)
  refine lv_iload_n hx hb dX7_less_17 rfl (lv_at hl 0 rfl) ?_
  refine lv_if_eq (tgt := 28) hx hb dX7_less_18 (by decide) (fun c13 => ?_) (fun c13 => ?_)
  · rw [if_pos c13] at hf
    refine lv_iload_n hx hb dX7_less_28 rfl (lv_at hl 3 rfl) ?_
    refine lv_if_ne (tgt := 40) hx hb dX7_less_29 (by decide) (fun c14 => ?_) (fun c14 => ?_)
    · rw [if_neg c14] at hf
      refine lv_aload_n hx hb dX7_less_40 rfl (lv_at hl 1 rfl) ?_
      refine lv_iload_n hx hb dX7_less_41 rfl (lv_at hl 2 rfl) ?_
      obtain ⟨o15, h16, hf⟩ := obO hf
      obtain ⟨t18, g17, hf⟩ := ob hf
      refine r_callV X kw_X7_188 (ci := 7) rfl (c_X7_countMatches l B D cA m x0 x1 t18.1 t18.2 g17) ⟨Nat.le_of_ble_eq_true rfl, Nat.le_of_ble_eq_true rfl⟩ h16 hR hS hl.1 rfl rfl (Nat.le_of_ble_eq_true rfl) ⟨Nat.le_of_ble_eq_true rfl, Nat.le_of_ble_eq_true rfl⟩ dX7_less_42 (fun H locs hR hS => ?_)
      refine W.eq (g2 := F0 mt 45 ls [.long t18.1]) rfl ?_
      refine lv_lstore (lv' := [(4, .long t18.1), (3, .int v12), (0, .ref (B + x0)), (1, .int x1), (2, .int x2)]) hx hb dX7_less_45 hl (by decide) rfl (fun ls hl => ?_)
      refine lv_aload_n hx hb dX7_less_47 rfl (lv_at hl 2 rfl) ?_
      obtain ⟨v19, g20, hf⟩ := ob hf
      refine gR_X7_56 X hR g20 dX7_less_48 ?_
      refine lv_iload_n hx hb dX7_less_51 rfl (lv_at hl 4 rfl) ?_
      refine lv_aload_n hx hb dX7_less_52 rfl (lv_at hl 2 rfl) ?_
      obtain ⟨v21, g22, hf⟩ := ob hf
      refine gR_X7_12 X hR g22 dX7_less_53 ?_
      obtain ⟨v23, g24, hf⟩ := ob hf
      refine gR_X7_50 X hR g24 dX7_less_56 ?_
      obtain ⟨v25, g26, hf⟩ := ob hf
      refine gR_X7_124 X hR g26 dX7_less_59 ?_
      refine lv_iload_n hx hb dX7_less_62 rfl (lv_at hl 4 rfl) ?_
      obtain ⟨v27, g28, hf⟩ := ob hf
      refine r_lI X hR g28 dX7_less_63 ?_
      obtain ⟨v30, g29, hf⟩ := ob hf
      refine r_callS X kw_X7_185 (c_X7_span l B D cA t18.2 x2 v27 v30 g29) ⟨Nat.le_of_ble_eq_true rfl, Nat.le_of_ble_eq_true rfl⟩ hR hS hl.1 rfl rfl (Nat.le_of_ble_eq_true rfl) ⟨Nat.le_of_ble_eq_true rfl, Nat.le_of_ble_eq_true rfl⟩ dX7_less_64 (fun H locs hR hS => ?_)
      refine W.eq (g2 := F0 mt 67 ls [.int v30, .ref (B + v19)]) rfl ?_
      obtain ⟨o31, h32, hf⟩ := obO hf
      obtain ⟨m34, g33, hf⟩ := ob hf
      refine r_callV X kw_X7_225 (ci := 1) rfl (c_X1_hide l B D cA t18.2 v19 v30 m34 g33) ⟨Nat.le_of_ble_eq_true rfl, Nat.le_of_ble_eq_true rfl⟩ h32 hR hS hl.1 rfl rfl (Nat.le_of_ble_eq_true rfl) ⟨Nat.le_of_ble_eq_true rfl, Nat.le_of_ble_eq_true rfl⟩ dX7_less_67 (fun H locs hR hS => ?_)
      refine W.eq (g2 := F0 mt 70 ls []) rfl ?_
      refine lv_aload_n hx hb dX7_less_70 rfl (lv_at hl 2 rfl) ?_
      obtain ⟨v35, g36, hf⟩ := ob hf
      refine gR_X7_56 X hR g36 dX7_less_71 ?_
      obtain ⟨o37, h38, hf⟩ := obO hf
      obtain ⟨t40, g39, hf⟩ := ob hf
      refine r_callV X kw_X7_218 (ci := 1) rfl (c_X1_solve l B D cA m34 v35 t40.1 t40.2 g39) ⟨Nat.le_of_ble_eq_true rfl, Nat.le_of_ble_eq_true rfl⟩ h38 hR hS hl.1 rfl rfl (Nat.le_of_ble_eq_true rfl) ⟨Nat.le_of_ble_eq_true rfl, Nat.le_of_ble_eq_true rfl⟩ dX7_less_74 (fun H locs hR hS => ?_)
      refine W.eq (g2 := F0 mt 77 ls [.long t40.1]) rfl ?_
      refine lv_lload hx hb dX7_less_77 (lv_at hl 0 rfl) ?_
      refine lv_lsub hx hb dX7_less_79 ?_
      obtain ⟨rfl, rfl⟩ := Prod.mk.inj (Option.some.inj hf)
      exact r_lret X hr hlocks hR hS dX7_less_80
    · rw [if_pos c14] at hf
      refine lv_aload_n hx hb dX7_less_32 rfl (lv_at hl 1 rfl) ?_
      refine lv_bipush (v := -3) hx hb dX7_less_33 (by decide) ?_
      obtain ⟨o41, h42, hf⟩ := obO hf
      obtain ⟨t44, g43, hf⟩ := ob hf
      refine r_callV X kw_X7_102 (ci := 7) rfl (c_X7_failed l B D cA m x0 (-3 : Int32) t44.1 t44.2 g43) ⟨Nat.le_of_ble_eq_true rfl, Nat.le_of_ble_eq_true rfl⟩ h42 hR hS hl.1 rfl rfl (Nat.le_of_ble_eq_true rfl) ⟨Nat.le_of_ble_eq_true rfl, Nat.le_of_ble_eq_true rfl⟩ dX7_less_35 (fun H locs hR hS => ?_)
      refine W.eq (g2 := F0 mt 38 ls [.int t44.1]) rfl ?_
      refine lv_i2l (v := t44.1.toInt64) hx hb dX7_less_38 rfl ?_
      obtain ⟨rfl, rfl⟩ := Prod.mk.inj (Option.some.inj hf)
      exact r_lret X hr hlocks hR hS dX7_less_39
  · rw [if_neg c13] at hf
    refine lv_aload_n hx hb dX7_less_21 rfl (lv_at hl 1 rfl) ?_
    refine lv_iload_n hx hb dX7_less_22 rfl (lv_at hl 0 rfl) ?_
    obtain ⟨o45, h46, hf⟩ := obO hf
    obtain ⟨t48, g47, hf⟩ := ob hf
    refine r_callV X kw_X7_102 (ci := 7) rfl (c_X7_failed l B D cA m x0 v12 t48.1 t48.2 g47) ⟨Nat.le_of_ble_eq_true rfl, Nat.le_of_ble_eq_true rfl⟩ h46 hR hS hl.1 rfl rfl (Nat.le_of_ble_eq_true rfl) ⟨Nat.le_of_ble_eq_true rfl, Nat.le_of_ble_eq_true rfl⟩ dX7_less_23 (fun H locs hR hS => ?_)
    refine W.eq (g2 := F0 mt 26 ls [.int t48.1]) rfl ?_
    refine lv_i2l (v := t48.1.toInt64) hx hb dX7_less_26 rfl ?_
    obtain ⟨rfl, rfl⟩ := Prod.mk.inj (Option.some.inj hf)
    exact r_lret X hr hlocks hR hS dX7_less_27
/-! ===== TwigMatches.type(I)I ===== -/
theorem dX7_type_0 : decode cX7_type 0 = .ok (.iload_n 1, 1) := by decide +kernel
theorem dX7_type_1 : decode cX7_type 1 = .ok (.ifCond .lt 9, 3) := by decide +kernel
theorem dX7_type_4 : decode cX7_type 4 = .ok (.iload_n 1, 1) := by decide +kernel
theorem dX7_type_5 : decode cX7_type 5 = .ok (.bipush 127, 2) := by decide +kernel
theorem dX7_type_7 : decode cX7_type 7 = .ok (.if_icmp .le 10, 3) := by decide +kernel
theorem dX7_type_10 : decode cX7_type 10 = .ok (.aload_n 0, 1) := by decide +kernel
theorem dX7_type_11 : decode cX7_type 11 = .ok (.bipush (-2), 2) := by decide +kernel
theorem dX7_type_13 : decode cX7_type 13 = .ok (.invokevirtual 102, 3) := by decide +kernel
theorem dX7_type_16 : decode cX7_type 16 = .ok (.ireturn, 1) := by decide +kernel
theorem dX7_type_17 : decode cX7_type 17 = .ok (.aload_n 0, 1) := by decide +kernel
theorem dX7_type_18 : decode cX7_type 18 = .ok (.getfield 30, 3) := by decide +kernel
theorem dX7_type_21 : decode cX7_type 21 = .ok (.getfield 229, 3) := by decide +kernel
theorem dX7_type_24 : decode cX7_type 24 = .ok (.bipush 120, 2) := by decide +kernel
theorem dX7_type_26 : decode cX7_type 26 = .ok (.if_icmp .lt 10, 3) := by decide +kernel
theorem dX7_type_29 : decode cX7_type 29 = .ok (.aload_n 0, 1) := by decide +kernel
theorem dX7_type_30 : decode cX7_type 30 = .ok (.bipush (-4), 2) := by decide +kernel
theorem dX7_type_32 : decode cX7_type 32 = .ok (.invokevirtual 102, 3) := by decide +kernel
theorem dX7_type_35 : decode cX7_type 35 = .ok (.ireturn, 1) := by decide +kernel
theorem dX7_type_36 : decode cX7_type 36 = .ok (.aload_n 0, 1) := by decide +kernel
theorem dX7_type_37 : decode cX7_type 37 = .ok (.getfield 30, 3) := by decide +kernel
theorem dX7_type_40 : decode cX7_type 40 = .ok (.getfield 232, 3) := by decide +kernel
theorem dX7_type_43 : decode cX7_type 43 = .ok (.aload_n 0, 1) := by decide +kernel
theorem dX7_type_44 : decode cX7_type 44 = .ok (.getfield 30, 3) := by decide +kernel
theorem dX7_type_47 : decode cX7_type 47 = .ok (.getfield 229, 3) := by decide +kernel
theorem dX7_type_50 : decode cX7_type 50 = .ok (.iload_n 1, 1) := by decide +kernel
theorem dX7_type_51 : decode cX7_type 51 = .ok (.iastore, 1) := by decide +kernel
theorem dX7_type_52 : decode cX7_type 52 = .ok (.aload_n 0, 1) := by decide +kernel
theorem dX7_type_53 : decode cX7_type 53 = .ok (.getfield 30, 3) := by decide +kernel
theorem dX7_type_56 : decode cX7_type 56 = .ok (.dup, 1) := by decide +kernel
theorem dX7_type_57 : decode cX7_type 57 = .ok (.getfield 229, 3) := by decide +kernel
theorem dX7_type_60 : decode cX7_type 60 = .ok (.iconst 1, 1) := by decide +kernel
theorem dX7_type_61 : decode cX7_type 61 = .ok (.iadd, 1) := by decide +kernel
theorem dX7_type_62 : decode cX7_type 62 = .ok (.putfield 229, 3) := by decide +kernel
theorem dX7_type_65 : decode cX7_type 65 = .ok (.aload_n 0, 1) := by decide +kernel
theorem dX7_type_66 : decode cX7_type 66 = .ok (.getfield 30, 3) := by decide +kernel
theorem dX7_type_69 : decode cX7_type 69 = .ok (.getfield 229, 3) := by decide +kernel
theorem dX7_type_72 : decode cX7_type 72 = .ok (.ireturn, 1) := by decide +kernel
set_option maxHeartbeats 4000000 in
set_option maxRecDepth 100000 in
theorem c_X7_type (l : Launch) (B : Nat) (D : va_G) (cA : Nat → ClassId) (m : Mm) (x0 : Nat) (x1 : Int32) (rZ : Int32) (mZ : Mm) (hf : f_X7_type m x0 x1 = some (rZ, mZ)) : Mt l B D cA yX7_type cX7_type 2 (some .int) 1 21 0 0 [.ref (B + x0), .int x1] m (some (.int rZ)) mZ := by
  refine r_start (by decide) (Nat.le_of_ble_eq_true rfl) ?_
  intro p e s mt args below meth c ls H locs X hr hlocks hnm hR hl hS
  have hx := X.1
  have hb := X.2.1
  have hl : lv_has ls 2 [(0, .ref (B + x0)), (1, .int x1)] := hl
  unfold f_X7_type at hf
  refine lv_iload_n hx hb dX7_type_0 rfl (lv_at hl 1 rfl) ?_
  refine lv_if_lt (tgt := 10) hx hb dX7_type_1 (by decide) (fun c1 => ?_) (fun c1 => ?_)
  · rw [if_pos c1] at hf
    refine lv_aload_n hx hb dX7_type_10 rfl (lv_at hl 0 rfl) ?_
    refine lv_bipush (v := -2) hx hb dX7_type_11 (by decide) ?_
    obtain ⟨o2, h3, hf⟩ := obO hf
    obtain ⟨t5, g4, hf⟩ := ob hf
    refine r_callV X kw_X7_102 (ci := 7) rfl (c_X7_failed l B D cA m x0 (-2 : Int32) t5.1 t5.2 g4) ⟨Nat.le_of_ble_eq_true rfl, Nat.le_of_ble_eq_true rfl⟩ h3 hR hS hl.1 rfl rfl (Nat.le_of_ble_eq_true rfl) ⟨Nat.le_of_ble_eq_true rfl, Nat.le_of_ble_eq_true rfl⟩ dX7_type_13 (fun H locs hR hS => ?_)
    refine W.eq (g2 := F0 mt 16 ls [.int t5.1]) rfl ?_
    obtain ⟨rfl, rfl⟩ := Prod.mk.inj (Option.some.inj hf)
    exact r_iret X hr hlocks hR hS rfl dX7_type_16
  · rw [if_neg c1] at hf
    refine lv_iload_n hx hb dX7_type_4 rfl (lv_at hl 1 rfl) ?_
    refine lv_bipush (v := 127) hx hb dX7_type_5 (by decide) ?_
    refine lv_icmp_le (tgt := 17) hx hb dX7_type_7 (by decide) (fun c6 => ?_) (fun c6 => ?_)
    · rw [if_pos c6] at hf
      refine lv_aload_n hx hb dX7_type_17 rfl (lv_at hl 0 rfl) ?_
      obtain ⟨v7, g8, hf⟩ := ob hf
      refine gR_X7_30 X hR g8 dX7_type_18 ?_
      obtain ⟨v9, g10, hf⟩ := ob hf
      refine gI_X7_229 X hR g10 dX7_type_21 ?_
      refine lv_bipush (v := 120) hx hb dX7_type_24 (by decide) ?_
      refine lv_icmp_lt (tgt := 36) hx hb dX7_type_26 (by decide) (fun c11 => ?_) (fun c11 => ?_)
      · rw [if_pos c11] at hf
        refine lv_aload_n hx hb dX7_type_36 rfl (lv_at hl 0 rfl) ?_
        obtain ⟨v12, g13, hf⟩ := ob hf
        refine gR_X7_30 X hR g13 dX7_type_37 ?_
        obtain ⟨v14, g15, hf⟩ := ob hf
        refine gR_X7_232 X hR g15 dX7_type_40 ?_
        refine lv_aload_n hx hb dX7_type_43 rfl (lv_at hl 0 rfl) ?_
        obtain ⟨v16, g17, hf⟩ := ob hf
        refine gR_X7_30 X hR g17 dX7_type_44 ?_
        obtain ⟨v18, g19, hf⟩ := ob hf
        refine gI_X7_229 X hR g19 dX7_type_47 ?_
        refine lv_iload_n hx hb dX7_type_50 rfl (lv_at hl 1 rfl) ?_
        obtain ⟨m20, g21, hf⟩ := ob hf
        refine r_sI X hR hS g21 dX7_type_51 (fun H locs hR hS => ?_)
        refine lv_aload_n hx hb dX7_type_52 rfl (lv_at hl 0 rfl) ?_
        obtain ⟨v22, g23, hf⟩ := ob hf
        refine gR_X7_30 X hR g23 dX7_type_53 ?_
        refine lv_dup hx hb dX7_type_56 rfl ?_
        obtain ⟨v24, g25, hf⟩ := ob hf
        refine gI_X7_229 X hR g25 dX7_type_57 ?_
        refine lv_iconst (v := 1) hx hb dX7_type_60 (by decide) ?_
        refine lv_iadd hx hb dX7_type_61 ?_
        obtain ⟨m26, g27, hf⟩ := ob hf
        refine pI_X7_229 X hR hS g27 dX7_type_62 (fun H locs hR hS => ?_)
        refine lv_aload_n hx hb dX7_type_65 rfl (lv_at hl 0 rfl) ?_
        obtain ⟨v28, g29, hf⟩ := ob hf
        refine gR_X7_30 X hR g29 dX7_type_66 ?_
        obtain ⟨v30, g31, hf⟩ := ob hf
        refine gI_X7_229 X hR g31 dX7_type_69 ?_
        obtain ⟨rfl, rfl⟩ := Prod.mk.inj (Option.some.inj hf)
        exact r_iret X hr hlocks hR hS rfl dX7_type_72
      · rw [if_neg c11] at hf
        refine lv_aload_n hx hb dX7_type_29 rfl (lv_at hl 0 rfl) ?_
        refine lv_bipush (v := -4) hx hb dX7_type_30 (by decide) ?_
        obtain ⟨o32, h33, hf⟩ := obO hf
        obtain ⟨t35, g34, hf⟩ := ob hf
        refine r_callV X kw_X7_102 (ci := 7) rfl (c_X7_failed l B D cA m x0 (-4 : Int32) t35.1 t35.2 g34) ⟨Nat.le_of_ble_eq_true rfl, Nat.le_of_ble_eq_true rfl⟩ h33 hR hS hl.1 rfl rfl (Nat.le_of_ble_eq_true rfl) ⟨Nat.le_of_ble_eq_true rfl, Nat.le_of_ble_eq_true rfl⟩ dX7_type_32 (fun H locs hR hS => ?_)
        refine W.eq (g2 := F0 mt 35 ls [.int t35.1]) rfl ?_
        obtain ⟨rfl, rfl⟩ := Prod.mk.inj (Option.some.inj hf)
        exact r_iret X hr hlocks hR hS rfl dX7_type_35
    · rw [if_neg c6] at hf
      refine lv_aload_n hx hb dX7_type_10 rfl (lv_at hl 0 rfl) ?_
      refine lv_bipush (v := -2) hx hb dX7_type_11 (by decide) ?_
      obtain ⟨o36, h37, hf⟩ := obO hf
      obtain ⟨t39, g38, hf⟩ := ob hf
      refine r_callV X kw_X7_102 (ci := 7) rfl (c_X7_failed l B D cA m x0 (-2 : Int32) t39.1 t39.2 g38) ⟨Nat.le_of_ble_eq_true rfl, Nat.le_of_ble_eq_true rfl⟩ h37 hR hS hl.1 rfl rfl (Nat.le_of_ble_eq_true rfl) ⟨Nat.le_of_ble_eq_true rfl, Nat.le_of_ble_eq_true rfl⟩ dX7_type_13 (fun H locs hR hS => ?_)
      refine W.eq (g2 := F0 mt 16 ls [.int t39.1]) rfl ?_
      obtain ⟨rfl, rfl⟩ := Prod.mk.inj (Option.some.inj hf)
      exact r_iret X hr hlocks hR hS rfl dX7_type_16
/-! ===== TwigMatches.clear()I ===== -/
theorem dX7_clear_0 : decode cX7_clear 0 = .ok (.aload_n 0, 1) := by decide +kernel
theorem dX7_clear_1 : decode cX7_clear 1 = .ok (.getfield 30, 3) := by decide +kernel
theorem dX7_clear_4 : decode cX7_clear 4 = .ok (.getfield 229, 3) := by decide +kernel
theorem dX7_clear_7 : decode cX7_clear 7 = .ok (.istore_n 1, 1) := by decide +kernel
theorem dX7_clear_8 : decode cX7_clear 8 = .ok (.aload_n 0, 1) := by decide +kernel
theorem dX7_clear_9 : decode cX7_clear 9 = .ok (.getfield 30, 3) := by decide +kernel
theorem dX7_clear_12 : decode cX7_clear 12 = .ok (.iconst 0, 1) := by decide +kernel
theorem dX7_clear_13 : decode cX7_clear 13 = .ok (.putfield 229, 3) := by decide +kernel
theorem dX7_clear_16 : decode cX7_clear 16 = .ok (.iload_n 1, 1) := by decide +kernel
theorem dX7_clear_17 : decode cX7_clear 17 = .ok (.ireturn, 1) := by decide +kernel
set_option maxHeartbeats 4000000 in
set_option maxRecDepth 100000 in
theorem c_X7_clear (l : Launch) (B : Nat) (D : va_G) (cA : Nat → ClassId) (m : Mm) (x0 : Nat) (rZ : Int32) (mZ : Mm) (hf : f_X7_clear m x0 = some (rZ, mZ)) : Mt l B D cA yX7_clear cX7_clear 2 (some .int) 0 0 0 0 [.ref (B + x0)] m (some (.int rZ)) mZ := by
  refine r_start (by decide) (Nat.le_of_ble_eq_true rfl) ?_
  intro p e s mt args below meth c ls H locs X hr hlocks hnm hR hl hS
  have hx := X.1
  have hb := X.2.1
  have hl : lv_has ls 2 [(0, .ref (B + x0))] := hl
  unfold f_X7_clear at hf
  refine lv_aload_n hx hb dX7_clear_0 rfl (lv_at hl 0 rfl) ?_
  obtain ⟨v1, g2, hf⟩ := ob hf
  refine gR_X7_30 X hR g2 dX7_clear_1 ?_
  obtain ⟨v3, g4, hf⟩ := ob hf
  refine gI_X7_229 X hR g4 dX7_clear_4 ?_
  refine lv_istore_n (lv' := [(1, .int v3), (0, .ref (B + x0))]) hx hb dX7_clear_7 rfl hl (by decide) rfl (fun ls hl => ?_)
  refine lv_aload_n hx hb dX7_clear_8 rfl (lv_at hl 1 rfl) ?_
  obtain ⟨v5, g6, hf⟩ := ob hf
  refine gR_X7_30 X hR g6 dX7_clear_9 ?_
  refine lv_iconst (v := 0) hx hb dX7_clear_12 (by decide) ?_
  obtain ⟨m7, g8, hf⟩ := ob hf
  refine pI_X7_229 X hR hS g8 dX7_clear_13 (fun H locs hR hS => ?_)
  refine lv_iload_n hx hb dX7_clear_16 rfl (lv_at hl 0 rfl) ?_
  obtain ⟨rfl, rfl⟩ := Prod.mk.inj (Option.some.inj hf)
  exact r_iret X hr hlocks hR hS rfl dX7_clear_17
/-! ===== TwigMatches.builds()I ===== -/
theorem dX7_builds_0 : decode cX7_builds 0 = .ok (.aload_n 0, 1) := by decide +kernel
theorem dX7_builds_1 : decode cX7_builds 1 = .ok (.getfield 30, 3) := by decide +kernel
theorem dX7_builds_4 : decode cX7_builds 4 = .ok (.aload_n 0, 1) := by decide +kernel
theorem dX7_builds_5 : decode cX7_builds 5 = .ok (.getfield 37, 3) := by decide +kernel
theorem dX7_builds_8 : decode cX7_builds 8 = .ok (.invokevirtual 235, 3) := by decide +kernel
theorem dX7_builds_11 : decode cX7_builds 11 = .ok (.istore_n 1, 1) := by decide +kernel
theorem dX7_builds_12 : decode cX7_builds 12 = .ok (.iload_n 1, 1) := by decide +kernel
theorem dX7_builds_13 : decode cX7_builds 13 = .ok (.iconst (-1), 1) := by decide +kernel
theorem dX7_builds_14 : decode cX7_builds 14 = .ok (.if_icmp .eq 8, 3) := by decide +kernel
theorem dX7_builds_17 : decode cX7_builds 17 = .ok (.bipush (-10), 2) := by decide +kernel
theorem dX7_builds_19 : decode cX7_builds 19 = .ok (.iload_n 1, 1) := by decide +kernel
theorem dX7_builds_20 : decode cX7_builds 20 = .ok (.isub, 1) := by decide +kernel
theorem dX7_builds_21 : decode cX7_builds 21 = .ok (.ireturn, 1) := by decide +kernel
theorem dX7_builds_22 : decode cX7_builds 22 = .ok (.aload_n 0, 1) := by decide +kernel
theorem dX7_builds_23 : decode cX7_builds 23 = .ok (.invokevirtual 113, 3) := by decide +kernel
theorem dX7_builds_26 : decode cX7_builds 26 = .ok (.aload_n 0, 1) := by decide +kernel
theorem dX7_builds_27 : decode cX7_builds 27 = .ok (.getfield 37, 3) := by decide +kernel
theorem dX7_builds_30 : decode cX7_builds 30 = .ok (.invokevirtual 87, 3) := by decide +kernel
theorem dX7_builds_33 : decode cX7_builds 33 = .ok (.aload_n 0, 1) := by decide +kernel
theorem dX7_builds_34 : decode cX7_builds 34 = .ok (.getfield 12, 3) := by decide +kernel
theorem dX7_builds_37 : decode cX7_builds 37 = .ok (.getfield 50, 3) := by decide +kernel
theorem dX7_builds_40 : decode cX7_builds 40 = .ok (.aload_n 0, 1) := by decide +kernel
theorem dX7_builds_41 : decode cX7_builds 41 = .ok (.getfield 37, 3) := by decide +kernel
theorem dX7_builds_44 : decode cX7_builds 44 = .ok (.invokevirtual 139, 3) := by decide +kernel
theorem dX7_builds_47 : decode cX7_builds 47 = .ok (.aload_n 0, 1) := by decide +kernel
theorem dX7_builds_48 : decode cX7_builds 48 = .ok (.getfield 12, 3) := by decide +kernel
theorem dX7_builds_51 : decode cX7_builds 51 = .ok (.getfield 50, 3) := by decide +kernel
theorem dX7_builds_54 : decode cX7_builds 54 = .ok (.getfield 110, 3) := by decide +kernel
theorem dX7_builds_57 : decode cX7_builds 57 = .ok (.ireturn, 1) := by decide +kernel
set_option maxHeartbeats 4000000 in
set_option maxRecDepth 100000 in
theorem c_X7_builds (l : Launch) (B : Nat) (D : va_G) (cA : Nat → ClassId) (m : Mm) (x0 : Nat) (rZ : Int32) (mZ : Mm) (hf : f_X7_builds m x0 = some (rZ, mZ)) : Mt l B D cA yX7_builds cX7_builds 2 (some .int) 4 103 0 0 [.ref (B + x0)] m (some (.int rZ)) mZ := by
  refine r_start (by decide) (Nat.le_of_ble_eq_true rfl) ?_
  intro p e s mt args below meth c ls H locs X hr hlocks hnm hR hl hS
  have hx := X.1
  have hb := X.2.1
  have hl : lv_has ls 2 [(0, .ref (B + x0))] := hl
  unfold f_X7_builds at hf
  refine lv_aload_n hx hb dX7_builds_0 rfl (lv_at hl 0 rfl) ?_
  obtain ⟨v1, g2, hf⟩ := ob hf
  refine gR_X7_30 X hR g2 dX7_builds_1 ?_
  refine lv_aload_n hx hb dX7_builds_4 rfl (lv_at hl 0 rfl) ?_
  obtain ⟨v3, g4, hf⟩ := ob hf
  refine gR_X7_37 X hR g4 dX7_builds_5 ?_
  obtain ⟨o5, h6, hf⟩ := obO hf
  obtain ⟨t8, g7, hf⟩ := ob hf
  refine r_callV X kw_X7_235 (ci := 3) rfl (c_X3_readDocument l B D cA m v1 v3 t8.1 t8.2 g7) ⟨Nat.le_of_ble_eq_true rfl, Nat.le_of_ble_eq_true rfl⟩ h6 hR hS hl.1 rfl rfl (Nat.le_of_ble_eq_true rfl) ⟨Nat.le_of_ble_eq_true rfl, Nat.le_of_ble_eq_true rfl⟩ dX7_builds_8 (fun H locs hR hS => ?_)
  refine W.eq (g2 := F0 mt 11 ls [.int t8.1]) rfl ?_
  refine lv_istore_n (lv' := [(1, .int t8.1), (0, .ref (B + x0))]) hx hb dX7_builds_11 rfl hl (by decide) rfl (fun ls hl => ?_)
  refine lv_iload_n hx hb dX7_builds_12 rfl (lv_at hl 0 rfl) ?_
  refine lv_iconst (v := -1) hx hb dX7_builds_13 (by decide) ?_
  refine lv_icmp_eq (tgt := 22) hx hb dX7_builds_14 (by decide) (fun c9 => ?_) (fun c9 => ?_)
  · rw [if_pos c9] at hf
    refine lv_aload_n hx hb dX7_builds_22 rfl (lv_at hl 1 rfl) ?_
    obtain ⟨o10, h11, hf⟩ := obO hf
    obtain ⟨m13, g12, hf⟩ := ob hf
    refine r_callV X kw_X7_113 (ci := 7) rfl (c_X7_keep l B D cA t8.2 x0 m13 g12) ⟨Nat.le_of_ble_eq_true rfl, Nat.le_of_ble_eq_true rfl⟩ h11 hR hS hl.1 rfl rfl (Nat.le_of_ble_eq_true rfl) ⟨Nat.le_of_ble_eq_true rfl, Nat.le_of_ble_eq_true rfl⟩ dX7_builds_23 (fun H locs hR hS => ?_)
    refine W.eq (g2 := F0 mt 26 ls []) rfl ?_
    refine lv_aload_n hx hb dX7_builds_26 rfl (lv_at hl 1 rfl) ?_
    obtain ⟨v14, g15, hf⟩ := ob hf
    refine gR_X7_37 X hR g15 dX7_builds_27 ?_
    obtain ⟨o16, h17, hf⟩ := obO hf
    obtain ⟨m19, g18, hf⟩ := ob hf
    refine r_callV X kw_X7_87 (ci := 4) rfl (c_X4_link l B D cA m13 v14 m19 g18) ⟨Nat.le_of_ble_eq_true rfl, Nat.le_of_ble_eq_true rfl⟩ h17 hR hS hl.1 rfl rfl (Nat.le_of_ble_eq_true rfl) ⟨Nat.le_of_ble_eq_true rfl, Nat.le_of_ble_eq_true rfl⟩ dX7_builds_30 (fun H locs hR hS => ?_)
    refine W.eq (g2 := F0 mt 33 ls []) rfl ?_
    refine lv_aload_n hx hb dX7_builds_33 rfl (lv_at hl 1 rfl) ?_
    obtain ⟨v20, g21, hf⟩ := ob hf
    refine gR_X7_12 X hR g21 dX7_builds_34 ?_
    obtain ⟨v22, g23, hf⟩ := ob hf
    refine gR_X7_50 X hR g23 dX7_builds_37 ?_
    refine lv_aload_n hx hb dX7_builds_40 rfl (lv_at hl 1 rfl) ?_
    obtain ⟨v24, g25, hf⟩ := ob hf
    refine gR_X7_37 X hR g25 dX7_builds_41 ?_
    obtain ⟨o26, h27, hf⟩ := obO hf
    obtain ⟨m29, g28, hf⟩ := ob hf
    refine r_callV X kw_X7_139 (ci := 4) rfl (c_X4_copyFrom l B D cA m19 v22 v24 m29 g28) ⟨Nat.le_of_ble_eq_true rfl, Nat.le_of_ble_eq_true rfl⟩ h27 hR hS hl.1 rfl rfl (Nat.le_of_ble_eq_true rfl) ⟨Nat.le_of_ble_eq_true rfl, Nat.le_of_ble_eq_true rfl⟩ dX7_builds_44 (fun H locs hR hS => ?_)
    refine W.eq (g2 := F0 mt 47 ls []) rfl ?_
    refine lv_aload_n hx hb dX7_builds_47 rfl (lv_at hl 1 rfl) ?_
    obtain ⟨v30, g31, hf⟩ := ob hf
    refine gR_X7_12 X hR g31 dX7_builds_48 ?_
    obtain ⟨v32, g33, hf⟩ := ob hf
    refine gR_X7_50 X hR g33 dX7_builds_51 ?_
    obtain ⟨v34, g35, hf⟩ := ob hf
    refine gI_X7_110 X hR g35 dX7_builds_54 ?_
    obtain ⟨rfl, rfl⟩ := Prod.mk.inj (Option.some.inj hf)
    exact r_iret X hr hlocks hR hS rfl dX7_builds_57
  · rw [if_neg c9] at hf
    refine lv_bipush (v := -10) hx hb dX7_builds_17 (by decide) ?_
    refine lv_iload_n hx hb dX7_builds_19 rfl (lv_at hl 0 rfl) ?_
    refine lv_isub hx hb dX7_builds_20 ?_
    obtain ⟨rfl, rfl⟩ := Prod.mk.inj (Option.some.inj hf)
    exact r_iret X hr hlocks hR hS rfl dX7_builds_21
/-! ===== TwigMatches.twigs(I)I ===== -/
theorem dX7_twigs_0 : decode cX7_twigs 0 = .ok (.iload_n 1, 1) := by decide +kernel
theorem dX7_twigs_1 : decode cX7_twigs 1 = .ok (.invokestatic 172, 3) := by decide +kernel
theorem dX7_twigs_4 : decode cX7_twigs 4 = .ok (.ifCond .ne 10, 3) := by decide +kernel
theorem dX7_twigs_7 : decode cX7_twigs 7 = .ok (.aload_n 0, 1) := by decide +kernel
theorem dX7_twigs_8 : decode cX7_twigs 8 = .ok (.bipush (-2), 2) := by decide +kernel
theorem dX7_twigs_10 : decode cX7_twigs 10 = .ok (.invokevirtual 102, 3) := by decide +kernel
theorem dX7_twigs_13 : decode cX7_twigs 13 = .ok (.ireturn, 1) := by decide +kernel
theorem dX7_twigs_14 : decode cX7_twigs 14 = .ok (.aload_n 0, 1) := by decide +kernel
theorem dX7_twigs_15 : decode cX7_twigs 15 = .ok (.getfield 30, 3) := by decide +kernel
theorem dX7_twigs_18 : decode cX7_twigs 18 = .ok (.aload_n 0, 1) := by decide +kernel
theorem dX7_twigs_19 : decode cX7_twigs 19 = .ok (.getfield 44, 3) := by decide +kernel
theorem dX7_twigs_22 : decode cX7_twigs 22 = .ok (.invokevirtual 239, 3) := by decide +kernel
theorem dX7_twigs_25 : decode cX7_twigs 25 = .ok (.istore_n 2, 1) := by decide +kernel
theorem dX7_twigs_26 : decode cX7_twigs 26 = .ok (.iload_n 2, 1) := by decide +kernel
theorem dX7_twigs_27 : decode cX7_twigs 27 = .ok (.iconst (-1), 1) := by decide +kernel
theorem dX7_twigs_28 : decode cX7_twigs 28 = .ok (.if_icmp .eq 8, 3) := by decide +kernel
theorem dX7_twigs_31 : decode cX7_twigs 31 = .ok (.bipush (-10), 2) := by decide +kernel
theorem dX7_twigs_33 : decode cX7_twigs 33 = .ok (.iload_n 2, 1) := by decide +kernel
theorem dX7_twigs_34 : decode cX7_twigs 34 = .ok (.isub, 1) := by decide +kernel
theorem dX7_twigs_35 : decode cX7_twigs 35 = .ok (.ireturn, 1) := by decide +kernel
theorem dX7_twigs_36 : decode cX7_twigs 36 = .ok (.aload_n 0, 1) := by decide +kernel
theorem dX7_twigs_37 : decode cX7_twigs 37 = .ok (.invokevirtual 113, 3) := by decide +kernel
theorem dX7_twigs_40 : decode cX7_twigs 40 = .ok (.aload_n 0, 1) := by decide +kernel
theorem dX7_twigs_41 : decode cX7_twigs 41 = .ok (.getfield 12, 3) := by decide +kernel
theorem dX7_twigs_44 : decode cX7_twigs 44 = .ok (.getfield 160, 3) := by decide +kernel
theorem dX7_twigs_47 : decode cX7_twigs 47 = .ok (.iload_n 1, 1) := by decide +kernel
theorem dX7_twigs_48 : decode cX7_twigs 48 = .ok (.aaload, 1) := by decide +kernel
theorem dX7_twigs_49 : decode cX7_twigs 49 = .ok (.aload_n 0, 1) := by decide +kernel
theorem dX7_twigs_50 : decode cX7_twigs 50 = .ok (.getfield 44, 3) := by decide +kernel
theorem dX7_twigs_53 : decode cX7_twigs 53 = .ok (.invokevirtual 243, 3) := by decide +kernel
theorem dX7_twigs_56 : decode cX7_twigs 56 = .ok (.aload_n 0, 1) := by decide +kernel
theorem dX7_twigs_57 : decode cX7_twigs 57 = .ok (.getfield 44, 3) := by decide +kernel
theorem dX7_twigs_60 : decode cX7_twigs 60 = .ok (.getfield 171, 3) := by decide +kernel
theorem dX7_twigs_63 : decode cX7_twigs 63 = .ok (.ireturn, 1) := by decide +kernel
set_option maxHeartbeats 4000000 in
set_option maxRecDepth 100000 in
theorem c_X7_twigs (l : Launch) (B : Nat) (D : va_G) (cA : Nat → ClassId) (m : Mm) (x0 : Nat) (x1 : Int32) (rZ : Int32) (mZ : Mm) (hf : f_X7_twigs m x0 x1 = some (rZ, mZ)) : Mt l B D cA yX7_twigs cX7_twigs 3 (some .int) 4 103 0 0 [.ref (B + x0), .int x1] m (some (.int rZ)) mZ := by
  refine r_start (by decide) (Nat.le_of_ble_eq_true rfl) ?_
  intro p e s mt args below meth c ls H locs X hr hlocks hnm hR hl hS
  have hx := X.1
  have hb := X.2.1
  have hl : lv_has ls 3 [(0, .ref (B + x0)), (1, .int x1)] := hl
  unfold f_X7_twigs at hf
  refine lv_iload_n hx hb dX7_twigs_0 rfl (lv_at hl 1 rfl) ?_
  obtain ⟨v2, g1, hf⟩ := ob hf
  refine r_callS X kw_X7_172 (c_X7_isTwigNumber l B D cA m x1 v2 g1) ⟨Nat.le_of_ble_eq_true rfl, Nat.le_of_ble_eq_true rfl⟩ hR hS hl.1 rfl rfl (Nat.le_of_ble_eq_true rfl) ⟨Nat.le_of_ble_eq_true rfl, Nat.le_of_ble_eq_true rfl⟩ dX7_twigs_1 (fun H locs hR hS => ?_)
  refine W.eq (g2 := F0 mt 4 ls [.int v2]) rfl ?_
  refine lv_if_ne (tgt := 14) hx hb dX7_twigs_4 (by decide) (fun c3 => ?_) (fun c3 => ?_)
  · rw [if_neg c3] at hf
    refine lv_aload_n hx hb dX7_twigs_14 rfl (lv_at hl 0 rfl) ?_
    obtain ⟨v4, g5, hf⟩ := ob hf
    refine gR_X7_30 X hR g5 dX7_twigs_15 ?_
    refine lv_aload_n hx hb dX7_twigs_18 rfl (lv_at hl 0 rfl) ?_
    obtain ⟨v6, g7, hf⟩ := ob hf
    refine gR_X7_44 X hR g7 dX7_twigs_19 ?_
    obtain ⟨o8, h9, hf⟩ := obO hf
    obtain ⟨t11, g10, hf⟩ := ob hf
    refine r_callV X kw_X7_239 (ci := 3) rfl (c_X3_readTwig l B D cA m v4 v6 t11.1 t11.2 g10) ⟨Nat.le_of_ble_eq_true rfl, Nat.le_of_ble_eq_true rfl⟩ h9 hR hS hl.1 rfl rfl (Nat.le_of_ble_eq_true rfl) ⟨Nat.le_of_ble_eq_true rfl, Nat.le_of_ble_eq_true rfl⟩ dX7_twigs_22 (fun H locs hR hS => ?_)
    refine W.eq (g2 := F0 mt 25 ls [.int t11.1]) rfl ?_
    refine lv_istore_n (lv' := [(2, .int t11.1), (0, .ref (B + x0)), (1, .int x1)]) hx hb dX7_twigs_25 rfl hl (by decide) rfl (fun ls hl => ?_)
    refine lv_iload_n hx hb dX7_twigs_26 rfl (lv_at hl 0 rfl) ?_
    refine lv_iconst (v := -1) hx hb dX7_twigs_27 (by decide) ?_
    refine lv_icmp_eq (tgt := 36) hx hb dX7_twigs_28 (by decide) (fun c12 => ?_) (fun c12 => ?_)
    · rw [if_pos c12] at hf
      refine lv_aload_n hx hb dX7_twigs_36 rfl (lv_at hl 1 rfl) ?_
      obtain ⟨o13, h14, hf⟩ := obO hf
      obtain ⟨m16, g15, hf⟩ := ob hf
      refine r_callV X kw_X7_113 (ci := 7) rfl (c_X7_keep l B D cA t11.2 x0 m16 g15) ⟨Nat.le_of_ble_eq_true rfl, Nat.le_of_ble_eq_true rfl⟩ h14 hR hS hl.1 rfl rfl (Nat.le_of_ble_eq_true rfl) ⟨Nat.le_of_ble_eq_true rfl, Nat.le_of_ble_eq_true rfl⟩ dX7_twigs_37 (fun H locs hR hS => ?_)
      refine W.eq (g2 := F0 mt 40 ls []) rfl ?_
      refine lv_aload_n hx hb dX7_twigs_40 rfl (lv_at hl 1 rfl) ?_
      obtain ⟨v17, g18, hf⟩ := ob hf
      refine gR_X7_12 X hR g18 dX7_twigs_41 ?_
      obtain ⟨v19, g20, hf⟩ := ob hf
      refine gR_X7_160 X hR g20 dX7_twigs_44 ?_
      refine lv_iload_n hx hb dX7_twigs_47 rfl (lv_at hl 2 rfl) ?_
      obtain ⟨v21, g22, hf⟩ := ob hf
      refine r_lR (k := 3) (ty := .object RX5) X hR rfl rfl g22 dX7_twigs_48 ?_
      refine lv_aload_n hx hb dX7_twigs_49 rfl (lv_at hl 1 rfl) ?_
      obtain ⟨v23, g24, hf⟩ := ob hf
      refine gR_X7_44 X hR g24 dX7_twigs_50 ?_
      obtain ⟨o25, h26, hf⟩ := obO hf
      obtain ⟨m28, g27, hf⟩ := ob hf
      refine r_callV X kw_X7_243 (ci := 5) rfl (c_X5_copyFrom l B D cA m16 v21 v23 m28 g27) ⟨Nat.le_of_ble_eq_true rfl, Nat.le_of_ble_eq_true rfl⟩ h26 hR hS hl.1 rfl rfl (Nat.le_of_ble_eq_true rfl) ⟨Nat.le_of_ble_eq_true rfl, Nat.le_of_ble_eq_true rfl⟩ dX7_twigs_53 (fun H locs hR hS => ?_)
      refine W.eq (g2 := F0 mt 56 ls []) rfl ?_
      refine lv_aload_n hx hb dX7_twigs_56 rfl (lv_at hl 1 rfl) ?_
      obtain ⟨v29, g30, hf⟩ := ob hf
      refine gR_X7_44 X hR g30 dX7_twigs_57 ?_
      obtain ⟨v31, g32, hf⟩ := ob hf
      refine gI_X7_171 X hR g32 dX7_twigs_60 ?_
      obtain ⟨rfl, rfl⟩ := Prod.mk.inj (Option.some.inj hf)
      exact r_iret X hr hlocks hR hS rfl dX7_twigs_63
    · rw [if_neg c12] at hf
      refine lv_bipush (v := -10) hx hb dX7_twigs_31 (by decide) ?_
      refine lv_iload_n hx hb dX7_twigs_33 rfl (lv_at hl 0 rfl) ?_
      refine lv_isub hx hb dX7_twigs_34 ?_
      obtain ⟨rfl, rfl⟩ := Prod.mk.inj (Option.some.inj hf)
      exact r_iret X hr hlocks hR hS rfl dX7_twigs_35
  · rw [if_pos c3] at hf
    refine lv_aload_n hx hb dX7_twigs_7 rfl (lv_at hl 0 rfl) ?_
    refine lv_bipush (v := -2) hx hb dX7_twigs_8 (by decide) ?_
    obtain ⟨o33, h34, hf⟩ := obO hf
    obtain ⟨t36, g35, hf⟩ := ob hf
    refine r_callV X kw_X7_102 (ci := 7) rfl (c_X7_failed l B D cA m x0 (-2 : Int32) t36.1 t36.2 g35) ⟨Nat.le_of_ble_eq_true rfl, Nat.le_of_ble_eq_true rfl⟩ h34 hR hS hl.1 rfl rfl (Nat.le_of_ble_eq_true rfl) ⟨Nat.le_of_ble_eq_true rfl, Nat.le_of_ble_eq_true rfl⟩ dX7_twigs_10 (fun H locs hR hS => ?_)
    refine W.eq (g2 := F0 mt 13 ls [.int t36.1]) rfl ?_
    obtain ⟨rfl, rfl⟩ := Prod.mk.inj (Option.some.inj hf)
    exact r_iret X hr hlocks hR hS rfl dX7_twigs_13
/-! ===== TwigMatches.why()I ===== -/
theorem dX7_why_0 : decode cX7_why 0 = .ok (.aload_n 0, 1) := by decide +kernel
theorem dX7_why_1 : decode cX7_why 1 = .ok (.getfield 30, 3) := by decide +kernel
theorem dX7_why_4 : decode cX7_why 4 = .ok (.getfield 245, 3) := by decide +kernel
theorem dX7_why_7 : decode cX7_why 7 = .ok (.ireturn, 1) := by decide +kernel
set_option maxHeartbeats 4000000 in
set_option maxRecDepth 100000 in
theorem c_X7_why (l : Launch) (B : Nat) (D : va_G) (cA : Nat → ClassId) (m : Mm) (x0 : Nat) (rZ : Int32) (hf : f_X7_why m x0 = some rZ) : Mt l B D cA yX7_why cX7_why 1 (some .int) 0 0 0 0 [.ref (B + x0)] m (some (.int rZ)) m := by
  refine r_start (by decide) (Nat.le_of_ble_eq_true rfl) ?_
  intro p e s mt args below meth c ls H locs X hr hlocks hnm hR hl hS
  have hx := X.1
  have hb := X.2.1
  have hl : lv_has ls 1 [(0, .ref (B + x0))] := hl
  unfold f_X7_why at hf
  refine lv_aload_n hx hb dX7_why_0 rfl (lv_at hl 0 rfl) ?_
  obtain ⟨v1, g2, hf⟩ := ob hf
  refine gR_X7_30 X hR g2 dX7_why_1 ?_
  obtain ⟨v3, g4, hf⟩ := ob hf
  refine gI_X7_245 X hR g4 dX7_why_4 ?_
  obtain rfl := Option.some.inj hf
  exact r_iret X hr hlocks hR hS rfl dX7_why_7
/-! ===== TwigMatches.shown(II)I ===== -/
theorem dX7_shown_0 : decode cX7_shown 0 = .ok (.iload_n 1, 1) := by decide +kernel
theorem dX7_shown_1 : decode cX7_shown 1 = .ok (.iconst (-1), 1) := by decide +kernel
theorem dX7_shown_2 : decode cX7_shown 2 = .ok (.if_icmp .ne 16, 3) := by decide +kernel
theorem dX7_shown_5 : decode cX7_shown 5 = .ok (.iload_n 2, 1) := by decide +kernel
theorem dX7_shown_6 : decode cX7_shown 6 = .ok (.ifCond .lt 7, 3) := by decide +kernel
theorem dX7_shown_9 : decode cX7_shown 9 = .ok (.iconst 0, 1) := by decide +kernel
theorem dX7_shown_10 : decode cX7_shown 10 = .ok (.goto 22, 3) := by decide +kernel
theorem dX7_shown_13 : decode cX7_shown 13 = .ok (.bipush (-2), 2) := by decide +kernel
theorem dX7_shown_15 : decode cX7_shown 15 = .ok (.goto 17, 3) := by decide +kernel
theorem dX7_shown_18 : decode cX7_shown 18 = .ok (.aload_n 0, 1) := by decide +kernel
theorem dX7_shown_19 : decode cX7_shown 19 = .ok (.iload_n 1, 1) := by decide +kernel
theorem dX7_shown_20 : decode cX7_shown 20 = .ok (.iload_n 2, 1) := by decide +kernel
theorem dX7_shown_21 : decode cX7_shown 21 = .ok (.ifCond .lt 7, 3) := by decide +kernel
theorem dX7_shown_24 : decode cX7_shown 24 = .ok (.iconst 1, 1) := by decide +kernel
theorem dX7_shown_25 : decode cX7_shown 25 = .ok (.goto 4, 3) := by decide +kernel
theorem dX7_shown_28 : decode cX7_shown 28 = .ok (.iconst 0, 1) := by decide +kernel
theorem dX7_shown_29 : decode cX7_shown 29 = .ok (.invokevirtual 167, 3) := by decide +kernel
theorem dX7_shown_32 : decode cX7_shown 32 = .ok (.istore_n 3, 1) := by decide +kernel
theorem dX7_shown_33 : decode cX7_shown 33 = .ok (.iload_n 3, 1) := by decide +kernel
theorem dX7_shown_34 : decode cX7_shown 34 = .ok (.ifCond .eq 9, 3) := by decide +kernel
theorem dX7_shown_37 : decode cX7_shown 37 = .ok (.aload_n 0, 1) := by decide +kernel
theorem dX7_shown_38 : decode cX7_shown 38 = .ok (.iload_n 3, 1) := by decide +kernel
theorem dX7_shown_39 : decode cX7_shown 39 = .ok (.invokevirtual 102, 3) := by decide +kernel
theorem dX7_shown_42 : decode cX7_shown 42 = .ok (.ireturn, 1) := by decide +kernel
theorem dX7_shown_43 : decode cX7_shown 43 = .ok (.aload_n 0, 1) := by decide +kernel
theorem dX7_shown_44 : decode cX7_shown 44 = .ok (.getfield 70, 3) := by decide +kernel
theorem dX7_shown_47 : decode cX7_shown 47 = .ok (.iload_n 2, 1) := by decide +kernel
theorem dX7_shown_48 : decode cX7_shown 48 = .ok (.invokevirtual 248, 3) := by decide +kernel
theorem dX7_shown_51 : decode cX7_shown 51 = .ok (.iload_n 1, 1) := by decide +kernel
theorem dX7_shown_52 : decode cX7_shown 52 = .ok (.iconst (-1), 1) := by decide +kernel
theorem dX7_shown_53 : decode cX7_shown 53 = .ok (.if_icmp .ne 20, 3) := by decide +kernel
theorem dX7_shown_56 : decode cX7_shown 56 = .ok (.aload_n 0, 1) := by decide +kernel
theorem dX7_shown_57 : decode cX7_shown 57 = .ok (.getfield 70, 3) := by decide +kernel
theorem dX7_shown_60 : decode cX7_shown 60 = .ok (.aload_n 0, 1) := by decide +kernel
theorem dX7_shown_61 : decode cX7_shown 61 = .ok (.getfield 12, 3) := by decide +kernel
theorem dX7_shown_64 : decode cX7_shown 64 = .ok (.getfield 50, 3) := by decide +kernel
theorem dX7_shown_67 : decode cX7_shown 67 = .ok (.invokevirtual 250, 3) := by decide +kernel
theorem dX7_shown_70 : decode cX7_shown 70 = .ok (.goto 19, 3) := by decide +kernel
theorem dX7_shown_73 : decode cX7_shown 73 = .ok (.aload_n 0, 1) := by decide +kernel
theorem dX7_shown_74 : decode cX7_shown 74 = .ok (.getfield 70, 3) := by decide +kernel
theorem dX7_shown_77 : decode cX7_shown 77 = .ok (.aload_n 0, 1) := by decide +kernel
theorem dX7_shown_78 : decode cX7_shown 78 = .ok (.getfield 12, 3) := by decide +kernel
theorem dX7_shown_81 : decode cX7_shown 81 = .ok (.getfield 160, 3) := by decide +kernel
theorem dX7_shown_84 : decode cX7_shown 84 = .ok (.iload_n 1, 1) := by decide +kernel
theorem dX7_shown_85 : decode cX7_shown 85 = .ok (.aaload, 1) := by decide +kernel
theorem dX7_shown_86 : decode cX7_shown 86 = .ok (.invokevirtual 253, 3) := by decide +kernel
theorem dX7_shown_89 : decode cX7_shown 89 = .ok (.aload_n 0, 1) := by decide +kernel
theorem dX7_shown_90 : decode cX7_shown 90 = .ok (.getfield 70, 3) := by decide +kernel
theorem dX7_shown_93 : decode cX7_shown 93 = .ok (.getfield 256, 3) := by decide +kernel
theorem dX7_shown_96 : decode cX7_shown 96 = .ok (.ireturn, 1) := by decide +kernel
set_option maxHeartbeats 4000000 in
set_option maxRecDepth 100000 in
theorem c_X7_shown (l : Launch) (B : Nat) (D : va_G) (cA : Nat → ClassId) (m : Mm) (x0 : Nat) (x1 : Int32) (x2 : Int32) (rZ : Int32) (mZ : Mm) (hf : f_X7_shown m x0 x1 x2 = some (rZ, mZ)) : Mt l B D cA yX7_shown cX7_shown 4 (some .int) 3 68 0 0 [.ref (B + x0), .int x1, .int x2] m (some (.int rZ)) mZ := by
  refine r_start (by decide) (Nat.le_of_ble_eq_true rfl) ?_
  intro p e s mt args below meth c ls H locs X hr hlocks hnm hR hl hS
  have hx := X.1
  have hb := X.2.1
  have hl : lv_has ls 4 [(0, .ref (B + x0)), (1, .int x1), (2, .int x2)] := hl
  unfold f_X7_shown at hf
  refine lv_iload_n hx hb dX7_shown_0 rfl (lv_at hl 1 rfl) ?_
  refine lv_iconst (v := -1) hx hb dX7_shown_1 (by decide) ?_
  obtain ⟨t1, hjt1, hf⟩ := ob hf
  have hJt1 : ∀ (H : Heap) (locs : List Loc) (ls : Array Slot), Rl B D cA m H → va_S (fun q => B ≤ q) s.heap H locs → lv_has ls 4 [(0, .ref (B + x0)), (1, .int x1), (2, .int x2)] → W p l e (rmm 3 0 0 68) s mt args below meth c H locs 0 0 (MQ below (mQ B D cA (some (.int rZ)) mZ) args s 0 0 (fun q => B ≤ q)) (F0 mt 32 ls [.int t1]) := by
    intro H locs ls hR hS hl
    refine lv_istore_n (lv' := [(3, .int t1), (0, .ref (B + x0)), (1, .int x1), (2, .int x2)]) hx hb dX7_shown_32 rfl hl (by decide) rfl (fun ls hl => ?_)
    refine lv_iload_n hx hb dX7_shown_33 rfl (lv_at hl 0 rfl) ?_
    refine lv_if_eq (tgt := 43) hx hb dX7_shown_34 (by decide) (fun c13 => ?_) (fun c13 => ?_)
    · rw [if_pos c13] at hf
      refine lv_aload_n hx hb dX7_shown_43 rfl (lv_at hl 1 rfl) ?_
      obtain ⟨v14, g15, hf⟩ := ob hf
      refine gR_X7_70 X hR g15 dX7_shown_44 ?_
      refine lv_iload_n hx hb dX7_shown_47 rfl (lv_at hl 3 rfl) ?_
      obtain ⟨o16, h17, hf⟩ := obO hf
      obtain ⟨m19, g18, hf⟩ := ob hf
      refine r_callV X kw_X7_248 (ci := 6) rfl (c_X6_start l B D cA m v14 x2 m19 g18) ⟨Nat.le_of_ble_eq_true rfl, Nat.le_of_ble_eq_true rfl⟩ h17 hR hS hl.1 rfl rfl (Nat.le_of_ble_eq_true rfl) ⟨Nat.le_of_ble_eq_true rfl, Nat.le_of_ble_eq_true rfl⟩ dX7_shown_48 (fun H locs hR hS => ?_)
      refine W.eq (g2 := F0 mt 51 ls []) rfl ?_
      refine lv_iload_n hx hb dX7_shown_51 rfl (lv_at hl 2 rfl) ?_
      refine lv_iconst (v := -1) hx hb dX7_shown_52 (by decide) ?_
      refine lv_icmp_ne (tgt := 73) hx hb dX7_shown_53 (by decide) (fun c20 => ?_) (fun c20 => ?_)
      · rw [if_neg c20] at hf
        refine lv_aload_n hx hb dX7_shown_73 rfl (lv_at hl 1 rfl) ?_
        obtain ⟨v21, g22, hf⟩ := ob hf
        refine gR_X7_70 X hR g22 dX7_shown_74 ?_
        refine lv_aload_n hx hb dX7_shown_77 rfl (lv_at hl 1 rfl) ?_
        obtain ⟨v23, g24, hf⟩ := ob hf
        refine gR_X7_12 X hR g24 dX7_shown_78 ?_
        obtain ⟨v25, g26, hf⟩ := ob hf
        refine gR_X7_160 X hR g26 dX7_shown_81 ?_
        refine lv_iload_n hx hb dX7_shown_84 rfl (lv_at hl 2 rfl) ?_
        obtain ⟨v27, g28, hf⟩ := ob hf
        refine r_lR (k := 3) (ty := .object RX5) X hR rfl rfl g28 dX7_shown_85 ?_
        obtain ⟨o29, h30, hf⟩ := obO hf
        obtain ⟨m32, g31, hf⟩ := ob hf
        refine r_callV X kw_X7_253 (ci := 6) rfl (c_X6_writeTwig l B D cA m19 v21 v27 m32 g31) ⟨Nat.le_of_ble_eq_true rfl, Nat.le_of_ble_eq_true rfl⟩ h30 hR hS hl.1 rfl rfl (Nat.le_of_ble_eq_true rfl) ⟨Nat.le_of_ble_eq_true rfl, Nat.le_of_ble_eq_true rfl⟩ dX7_shown_86 (fun H locs hR hS => ?_)
        refine W.eq (g2 := F0 mt 89 ls []) rfl ?_
        refine lv_aload_n hx hb dX7_shown_89 rfl (lv_at hl 1 rfl) ?_
        obtain ⟨v33, g34, hf⟩ := ob hf
        refine gR_X7_70 X hR g34 dX7_shown_90 ?_
        obtain ⟨v35, g36, hf⟩ := ob hf
        refine gI_X7_256 X hR g36 dX7_shown_93 ?_
        obtain ⟨rfl, rfl⟩ := Prod.mk.inj (Option.some.inj hf)
        exact r_iret X hr hlocks hR hS rfl dX7_shown_96
      · rw [if_pos c20] at hf
        refine lv_aload_n hx hb dX7_shown_56 rfl (lv_at hl 1 rfl) ?_
        obtain ⟨v37, g38, hf⟩ := ob hf
        refine gR_X7_70 X hR g38 dX7_shown_57 ?_
        refine lv_aload_n hx hb dX7_shown_60 rfl (lv_at hl 1 rfl) ?_
        obtain ⟨v39, g40, hf⟩ := ob hf
        refine gR_X7_12 X hR g40 dX7_shown_61 ?_
        obtain ⟨v41, g42, hf⟩ := ob hf
        refine gR_X7_50 X hR g42 dX7_shown_64 ?_
        obtain ⟨o43, h44, hf⟩ := obO hf
        obtain ⟨m46, g45, hf⟩ := ob hf
        refine r_callV X kw_X7_250 (ci := 6) rfl (c_X6_writeTree l B D cA m19 v37 v41 m46 g45) ⟨Nat.le_of_ble_eq_true rfl, Nat.le_of_ble_eq_true rfl⟩ h44 hR hS hl.1 rfl rfl (Nat.le_of_ble_eq_true rfl) ⟨Nat.le_of_ble_eq_true rfl, Nat.le_of_ble_eq_true rfl⟩ dX7_shown_67 (fun H locs hR hS => ?_)
        refine W.eq (g2 := F0 mt 70 ls []) rfl ?_
        refine lv_goto (tgt := 89) hx hb dX7_shown_70 (by decide) ?_
        refine lv_aload_n hx hb dX7_shown_89 rfl (lv_at hl 1 rfl) ?_
        obtain ⟨v47, g48, hf⟩ := ob hf
        refine gR_X7_70 X hR g48 dX7_shown_90 ?_
        obtain ⟨v49, g50, hf⟩ := ob hf
        refine gI_X7_256 X hR g50 dX7_shown_93 ?_
        obtain ⟨rfl, rfl⟩ := Prod.mk.inj (Option.some.inj hf)
        exact r_iret X hr hlocks hR hS rfl dX7_shown_96
    · rw [if_neg c13] at hf
      refine lv_aload_n hx hb dX7_shown_37 rfl (lv_at hl 1 rfl) ?_
      refine lv_iload_n hx hb dX7_shown_38 rfl (lv_at hl 0 rfl) ?_
      obtain ⟨o51, h52, hf⟩ := obO hf
      obtain ⟨t54, g53, hf⟩ := ob hf
      refine r_callV X kw_X7_102 (ci := 7) rfl (c_X7_failed l B D cA m x0 t1 t54.1 t54.2 g53) ⟨Nat.le_of_ble_eq_true rfl, Nat.le_of_ble_eq_true rfl⟩ h52 hR hS hl.1 rfl rfl (Nat.le_of_ble_eq_true rfl) ⟨Nat.le_of_ble_eq_true rfl, Nat.le_of_ble_eq_true rfl⟩ dX7_shown_39 (fun H locs hR hS => ?_)
      refine W.eq (g2 := F0 mt 42 ls [.int t54.1]) rfl ?_
      obtain ⟨rfl, rfl⟩ := Prod.mk.inj (Option.some.inj hf)
      exact r_iret X hr hlocks hR hS rfl dX7_shown_42
  have hf := hjt1
  clear hjt1
  refine lv_icmp_ne (tgt := 18) hx hb dX7_shown_2 (by decide) (fun c2 => ?_) (fun c2 => ?_)
  · rw [if_neg c2] at hf
    refine lv_aload_n hx hb dX7_shown_18 rfl (lv_at hl 0 rfl) ?_
    refine lv_iload_n hx hb dX7_shown_19 rfl (lv_at hl 1 rfl) ?_
    refine lv_iload_n hx hb dX7_shown_20 rfl (lv_at hl 2 rfl) ?_
    refine lv_if_lt (tgt := 28) hx hb dX7_shown_21 (by decide) (fun c3 => ?_) (fun c3 => ?_)
    · rw [if_pos c3] at hf
      refine lv_iconst (v := 0) hx hb dX7_shown_28 (by decide) ?_
      obtain ⟨o4, h5, hf⟩ := obO hf
      obtain ⟨v7, g6, hf⟩ := ob hf
      refine r_callV X kw_X7_167 (ci := 7) rfl (c_X7_twigFault l B D cA m x0 x1 (0 : Int32) v7 g6) ⟨Nat.le_of_ble_eq_true rfl, Nat.le_of_ble_eq_true rfl⟩ h5 hR hS hl.1 rfl rfl (Nat.le_of_ble_eq_true rfl) ⟨Nat.le_of_ble_eq_true rfl, Nat.le_of_ble_eq_true rfl⟩ dX7_shown_29 (fun H locs hR hS => ?_)
      refine W.eq (g2 := F0 mt 32 ls [.int v7]) rfl ?_
      obtain rfl := Option.some.inj hf
      exact hJt1 H locs ls hR hS (lv_sub hl [0, 1, 2] rfl)
    · rw [if_neg c3] at hf
      refine lv_iconst (v := 1) hx hb dX7_shown_24 (by decide) ?_
      refine lv_goto (tgt := 29) hx hb dX7_shown_25 (by decide) ?_
      obtain ⟨o8, h9, hf⟩ := obO hf
      obtain ⟨v11, g10, hf⟩ := ob hf
      refine r_callV X kw_X7_167 (ci := 7) rfl (c_X7_twigFault l B D cA m x0 x1 (1 : Int32) v11 g10) ⟨Nat.le_of_ble_eq_true rfl, Nat.le_of_ble_eq_true rfl⟩ h9 hR hS hl.1 rfl rfl (Nat.le_of_ble_eq_true rfl) ⟨Nat.le_of_ble_eq_true rfl, Nat.le_of_ble_eq_true rfl⟩ dX7_shown_29 (fun H locs hR hS => ?_)
      refine W.eq (g2 := F0 mt 32 ls [.int v11]) rfl ?_
      obtain rfl := Option.some.inj hf
      exact hJt1 H locs ls hR hS (lv_sub hl [0, 1, 2] rfl)
  · rw [if_pos c2] at hf
    refine lv_iload_n hx hb dX7_shown_5 rfl (lv_at hl 2 rfl) ?_
    refine lv_if_lt (tgt := 13) hx hb dX7_shown_6 (by decide) (fun c12 => ?_) (fun c12 => ?_)
    · rw [if_pos c12] at hf
      refine lv_bipush (v := -2) hx hb dX7_shown_13 (by decide) ?_
      refine lv_goto (tgt := 32) hx hb dX7_shown_15 (by decide) ?_
      obtain rfl := Option.some.inj hf
      exact hJt1 H locs ls hR hS (lv_sub hl [0, 1, 2] rfl)
    · rw [if_neg c12] at hf
      refine lv_iconst (v := 0) hx hb dX7_shown_9 (by decide) ?_
      refine lv_goto (tgt := 32) hx hb dX7_shown_10 (by decide) ?_
      obtain rfl := Option.some.inj hf
      exact hJt1 H locs ls hR hS (lv_sub hl [0, 1, 2] rfl)
/-! ===== TwigMatches.back()I ===== -/
theorem dX7_back_0 : decode cX7_back 0 = .ok (.aload_n 0, 1) := by decide +kernel
theorem dX7_back_1 : decode cX7_back 1 = .ok (.getfield 24, 3) := by decide +kernel
theorem dX7_back_4 : decode cX7_back 4 = .ok (.ifCond .ne 10, 3) := by decide +kernel
theorem dX7_back_7 : decode cX7_back 7 = .ok (.aload_n 0, 1) := by decide +kernel
theorem dX7_back_8 : decode cX7_back 8 = .ok (.bipush (-3), 2) := by decide +kernel
theorem dX7_back_10 : decode cX7_back 10 = .ok (.invokevirtual 102, 3) := by decide +kernel
theorem dX7_back_13 : decode cX7_back 13 = .ok (.ireturn, 1) := by decide +kernel
theorem dX7_back_14 : decode cX7_back 14 = .ok (.aload_n 0, 1) := by decide +kernel
theorem dX7_back_15 : decode cX7_back 15 = .ok (.dup, 1) := by decide +kernel
theorem dX7_back_16 : decode cX7_back 16 = .ok (.getfield 24, 3) := by decide +kernel
theorem dX7_back_19 : decode cX7_back 19 = .ok (.iconst 1, 1) := by decide +kernel
theorem dX7_back_20 : decode cX7_back 20 = .ok (.isub, 1) := by decide +kernel
theorem dX7_back_21 : decode cX7_back 21 = .ok (.putfield 24, 3) := by decide +kernel
theorem dX7_back_24 : decode cX7_back 24 = .ok (.aload_n 0, 1) := by decide +kernel
theorem dX7_back_25 : decode cX7_back 25 = .ok (.getfield 12, 3) := by decide +kernel
theorem dX7_back_28 : decode cX7_back 28 = .ok (.aload_n 0, 1) := by decide +kernel
theorem dX7_back_29 : decode cX7_back 29 = .ok (.getfield 16, 3) := by decide +kernel
theorem dX7_back_32 : decode cX7_back 32 = .ok (.aload_n 0, 1) := by decide +kernel
theorem dX7_back_33 : decode cX7_back 33 = .ok (.getfield 20, 3) := by decide +kernel
theorem dX7_back_36 : decode cX7_back 36 = .ok (.aload_n 0, 1) := by decide +kernel
theorem dX7_back_37 : decode cX7_back 37 = .ok (.getfield 24, 3) := by decide +kernel
theorem dX7_back_40 : decode cX7_back 40 = .ok (.iadd, 1) := by decide +kernel
theorem dX7_back_41 : decode cX7_back 41 = .ok (.bipush 8, 2) := by decide +kernel
theorem dX7_back_43 : decode cX7_back 43 = .ok (.irem, 1) := by decide +kernel
theorem dX7_back_44 : decode cX7_back 44 = .ok (.aaload, 1) := by decide +kernel
theorem dX7_back_45 : decode cX7_back 45 = .ok (.invokevirtual 259, 3) := by decide +kernel
theorem dX7_back_48 : decode cX7_back 48 = .ok (.aload_n 0, 1) := by decide +kernel
theorem dX7_back_49 : decode cX7_back 49 = .ok (.getfield 24, 3) := by decide +kernel
theorem dX7_back_52 : decode cX7_back 52 = .ok (.ireturn, 1) := by decide +kernel
set_option maxHeartbeats 4000000 in
set_option maxRecDepth 100000 in
theorem c_X7_back (l : Launch) (B : Nat) (D : va_G) (cA : Nat → ClassId) (m : Mm) (x0 : Nat) (rZ : Int32) (mZ : Mm) (hf : f_X7_back m x0 = some (rZ, mZ)) : Mt l B D cA yX7_back cX7_back 1 (some .int) 3 83 0 0 [.ref (B + x0)] m (some (.int rZ)) mZ := by
  refine r_start (by decide) (Nat.le_of_ble_eq_true rfl) ?_
  intro p e s mt args below meth c ls H locs X hr hlocks hnm hR hl hS
  have hx := X.1
  have hb := X.2.1
  have hl : lv_has ls 1 [(0, .ref (B + x0))] := hl
  unfold f_X7_back at hf
  refine lv_aload_n hx hb dX7_back_0 rfl (lv_at hl 0 rfl) ?_
  obtain ⟨v1, g2, hf⟩ := ob hf
  refine gI_X7_24 X hR g2 dX7_back_1 ?_
  refine lv_if_ne (tgt := 14) hx hb dX7_back_4 (by decide) (fun c3 => ?_) (fun c3 => ?_)
  · rw [if_neg c3] at hf
    refine lv_aload_n hx hb dX7_back_14 rfl (lv_at hl 0 rfl) ?_
    refine lv_dup hx hb dX7_back_15 rfl ?_
    obtain ⟨v4, g5, hf⟩ := ob hf
    refine gI_X7_24 X hR g5 dX7_back_16 ?_
    refine lv_iconst (v := 1) hx hb dX7_back_19 (by decide) ?_
    refine lv_isub hx hb dX7_back_20 ?_
    obtain ⟨m6, g7, hf⟩ := ob hf
    refine pI_X7_24 X hR hS g7 dX7_back_21 (fun H locs hR hS => ?_)
    refine lv_aload_n hx hb dX7_back_24 rfl (lv_at hl 0 rfl) ?_
    obtain ⟨v8, g9, hf⟩ := ob hf
    refine gR_X7_12 X hR g9 dX7_back_25 ?_
    refine lv_aload_n hx hb dX7_back_28 rfl (lv_at hl 0 rfl) ?_
    obtain ⟨v10, g11, hf⟩ := ob hf
    refine gR_X7_16 X hR g11 dX7_back_29 ?_
    refine lv_aload_n hx hb dX7_back_32 rfl (lv_at hl 0 rfl) ?_
    obtain ⟨v12, g13, hf⟩ := ob hf
    refine gI_X7_20 X hR g13 dX7_back_33 ?_
    refine lv_aload_n hx hb dX7_back_36 rfl (lv_at hl 0 rfl) ?_
    obtain ⟨v14, g15, hf⟩ := ob hf
    refine gI_X7_24 X hR g15 dX7_back_37 ?_
    refine lv_iadd hx hb dX7_back_40 ?_
    refine lv_bipush (v := 8) hx hb dX7_back_41 (by decide) ?_
    refine lv_irem hx hb dX7_back_43 (by decide) ?_
    obtain ⟨v16, g17, hf⟩ := ob hf
    refine r_lR (k := 2) (ty := .object RX2) X hR rfl rfl g17 dX7_back_44 ?_
    obtain ⟨o18, h19, hf⟩ := obO hf
    obtain ⟨m21, g20, hf⟩ := ob hf
    refine r_callV X kw_X7_259 (ci := 2) rfl (c_X2_copyFrom l B D cA m6 v8 v16 m21 g20) ⟨Nat.le_of_ble_eq_true rfl, Nat.le_of_ble_eq_true rfl⟩ h19 hR hS hl.1 rfl rfl (Nat.le_of_ble_eq_true rfl) ⟨Nat.le_of_ble_eq_true rfl, Nat.le_of_ble_eq_true rfl⟩ dX7_back_45 (fun H locs hR hS => ?_)
    refine W.eq (g2 := F0 mt 48 ls []) rfl ?_
    refine lv_aload_n hx hb dX7_back_48 rfl (lv_at hl 0 rfl) ?_
    obtain ⟨v22, g23, hf⟩ := ob hf
    refine gI_X7_24 X hR g23 dX7_back_49 ?_
    obtain ⟨rfl, rfl⟩ := Prod.mk.inj (Option.some.inj hf)
    exact r_iret X hr hlocks hR hS rfl dX7_back_52
  · rw [if_pos c3] at hf
    refine lv_aload_n hx hb dX7_back_7 rfl (lv_at hl 0 rfl) ?_
    refine lv_bipush (v := -3) hx hb dX7_back_8 (by decide) ?_
    obtain ⟨o24, h25, hf⟩ := obO hf
    obtain ⟨t27, g26, hf⟩ := ob hf
    refine r_callV X kw_X7_102 (ci := 7) rfl (c_X7_failed l B D cA m x0 (-3 : Int32) t27.1 t27.2 g26) ⟨Nat.le_of_ble_eq_true rfl, Nat.le_of_ble_eq_true rfl⟩ h25 hR hS hl.1 rfl rfl (Nat.le_of_ble_eq_true rfl) ⟨Nat.le_of_ble_eq_true rfl, Nat.le_of_ble_eq_true rfl⟩ dX7_back_10 (fun H locs hR hS => ?_)
    refine W.eq (g2 := F0 mt 13 ls [.int t27.1]) rfl ?_
    obtain ⟨rfl, rfl⟩ := Prod.mk.inj (Option.some.inj hf)
    exact r_iret X hr hlocks hR hS rfl dX7_back_13
/-! ===== TwigMatches.tally(I)I ===== -/
theorem dX7_tally_0 : decode cX7_tally 0 = .ok (.iload_n 1, 1) := by decide +kernel
theorem dX7_tally_1 : decode cX7_tally 1 = .ok (.tableswitch 81 0 5 #[39, 44, 49, 54, 65, 73], 39) := by decide +kernel
theorem dX7_tally_40 : decode cX7_tally 40 = .ok (.aload_n 0, 1) := by decide +kernel
theorem dX7_tally_41 : decode cX7_tally 41 = .ok (.getfield 74, 3) := by decide +kernel
theorem dX7_tally_44 : decode cX7_tally 44 = .ok (.ireturn, 1) := by decide +kernel
theorem dX7_tally_45 : decode cX7_tally 45 = .ok (.aload_n 0, 1) := by decide +kernel
theorem dX7_tally_46 : decode cX7_tally 46 = .ok (.getfield 77, 3) := by decide +kernel
theorem dX7_tally_49 : decode cX7_tally 49 = .ok (.ireturn, 1) := by decide +kernel
theorem dX7_tally_50 : decode cX7_tally 50 = .ok (.aload_n 0, 1) := by decide +kernel
theorem dX7_tally_51 : decode cX7_tally 51 = .ok (.getfield 80, 3) := by decide +kernel
theorem dX7_tally_54 : decode cX7_tally 54 = .ok (.ireturn, 1) := by decide +kernel
theorem dX7_tally_55 : decode cX7_tally 55 = .ok (.aload_n 0, 1) := by decide +kernel
theorem dX7_tally_56 : decode cX7_tally 56 = .ok (.getfield 12, 3) := by decide +kernel
theorem dX7_tally_59 : decode cX7_tally 59 = .ok (.getfield 50, 3) := by decide +kernel
theorem dX7_tally_62 : decode cX7_tally 62 = .ok (.getfield 110, 3) := by decide +kernel
theorem dX7_tally_65 : decode cX7_tally 65 = .ok (.ireturn, 1) := by decide +kernel
theorem dX7_tally_66 : decode cX7_tally 66 = .ok (.aload_n 0, 1) := by decide +kernel
theorem dX7_tally_67 : decode cX7_tally 67 = .ok (.getfield 12, 3) := by decide +kernel
theorem dX7_tally_70 : decode cX7_tally 70 = .ok (.invokevirtual 273, 3) := by decide +kernel
theorem dX7_tally_73 : decode cX7_tally 73 = .ok (.ireturn, 1) := by decide +kernel
theorem dX7_tally_74 : decode cX7_tally 74 = .ok (.aload_n 0, 1) := by decide +kernel
theorem dX7_tally_75 : decode cX7_tally 75 = .ok (.getfield 30, 3) := by decide +kernel
theorem dX7_tally_78 : decode cX7_tally 78 = .ok (.getfield 229, 3) := by decide +kernel
theorem dX7_tally_81 : decode cX7_tally 81 = .ok (.ireturn, 1) := by decide +kernel
theorem dX7_tally_82 : decode cX7_tally 82 = .ok (.aload_n 0, 1) := by decide +kernel
theorem dX7_tally_83 : decode cX7_tally 83 = .ok (.getfield 24, 3) := by decide +kernel
theorem dX7_tally_86 : decode cX7_tally 86 = .ok (.ireturn, 1) := by decide +kernel
set_option maxHeartbeats 4000000 in
set_option maxRecDepth 100000 in
theorem c_X7_tally (l : Launch) (B : Nat) (D : va_G) (cA : Nat → ClassId) (m : Mm) (x0 : Nat) (x1 : Int32) (rZ : Int32) (hf : f_X7_tally m x0 x1 = some rZ) : Mt l B D cA yX7_tally cX7_tally 2 (some .int) 1 22 0 0 [.ref (B + x0), .int x1] m (some (.int rZ)) m := by
  refine r_start (by decide) (Nat.le_of_ble_eq_true rfl) ?_
  intro p e s mt args below meth c ls H locs X hr hlocks hnm hR hl hS
  have hx := X.1
  have hb := X.2.1
  have hl : lv_has ls 2 [(0, .ref (B + x0)), (1, .int x1)] := hl
  unfold f_X7_tally at hf
  refine lv_iload_n hx hb dX7_tally_0 rfl (lv_at hl 1 rfl) ?_
  by_cases c1 : x1 = (0 : Int32)
  · rw [if_pos c1] at hf
    refine lv_tableIn (tgt := 40) (off := 39) hx hb dX7_tally_1 (by rw [c1]; decide) (by rw [c1]; decide) (by rw [c1]; rfl) (by decide) ?_
    refine lv_aload_n hx hb dX7_tally_40 rfl (lv_at hl 0 rfl) ?_
    obtain ⟨v2, g3, hf⟩ := ob hf
    refine gI_X7_74 X hR g3 dX7_tally_41 ?_
    obtain rfl := Option.some.inj hf
    exact r_iret X hr hlocks hR hS rfl dX7_tally_44
  rw [if_neg c1] at hf
  by_cases c4 : x1 = (1 : Int32)
  · rw [if_pos c4] at hf
    refine lv_tableIn (tgt := 45) (off := 44) hx hb dX7_tally_1 (by rw [c4]; decide) (by rw [c4]; decide) (by rw [c4]; rfl) (by decide) ?_
    refine lv_aload_n hx hb dX7_tally_45 rfl (lv_at hl 0 rfl) ?_
    obtain ⟨v5, g6, hf⟩ := ob hf
    refine gI_X7_77 X hR g6 dX7_tally_46 ?_
    obtain rfl := Option.some.inj hf
    exact r_iret X hr hlocks hR hS rfl dX7_tally_49
  rw [if_neg c4] at hf
  by_cases c7 : x1 = (2 : Int32)
  · rw [if_pos c7] at hf
    refine lv_tableIn (tgt := 50) (off := 49) hx hb dX7_tally_1 (by rw [c7]; decide) (by rw [c7]; decide) (by rw [c7]; rfl) (by decide) ?_
    refine lv_aload_n hx hb dX7_tally_50 rfl (lv_at hl 0 rfl) ?_
    obtain ⟨v8, g9, hf⟩ := ob hf
    refine gI_X7_80 X hR g9 dX7_tally_51 ?_
    obtain rfl := Option.some.inj hf
    exact r_iret X hr hlocks hR hS rfl dX7_tally_54
  rw [if_neg c7] at hf
  by_cases c10 : x1 = (3 : Int32)
  · rw [if_pos c10] at hf
    refine lv_tableIn (tgt := 55) (off := 54) hx hb dX7_tally_1 (by rw [c10]; decide) (by rw [c10]; decide) (by rw [c10]; rfl) (by decide) ?_
    refine lv_aload_n hx hb dX7_tally_55 rfl (lv_at hl 0 rfl) ?_
    obtain ⟨v11, g12, hf⟩ := ob hf
    refine gR_X7_12 X hR g12 dX7_tally_56 ?_
    obtain ⟨v13, g14, hf⟩ := ob hf
    refine gR_X7_50 X hR g14 dX7_tally_59 ?_
    obtain ⟨v15, g16, hf⟩ := ob hf
    refine gI_X7_110 X hR g16 dX7_tally_62 ?_
    obtain rfl := Option.some.inj hf
    exact r_iret X hr hlocks hR hS rfl dX7_tally_65
  rw [if_neg c10] at hf
  by_cases c17 : x1 = (4 : Int32)
  · rw [if_pos c17] at hf
    refine lv_tableIn (tgt := 66) (off := 65) hx hb dX7_tally_1 (by rw [c17]; decide) (by rw [c17]; decide) (by rw [c17]; rfl) (by decide) ?_
    refine lv_aload_n hx hb dX7_tally_66 rfl (lv_at hl 0 rfl) ?_
    obtain ⟨v18, g19, hf⟩ := ob hf
    refine gR_X7_12 X hR g19 dX7_tally_67 ?_
    obtain ⟨o20, h21, hf⟩ := obO hf
    obtain ⟨v23, g22, hf⟩ := ob hf
    refine r_callV X kw_X7_273 (ci := 2) rfl (c_X2_existing l B D cA m v18 v23 g22) ⟨Nat.le_of_ble_eq_true rfl, Nat.le_of_ble_eq_true rfl⟩ h21 hR hS hl.1 rfl rfl (Nat.le_of_ble_eq_true rfl) ⟨Nat.le_of_ble_eq_true rfl, Nat.le_of_ble_eq_true rfl⟩ dX7_tally_70 (fun H locs hR hS => ?_)
    refine W.eq (g2 := F0 mt 73 ls [.int v23]) rfl ?_
    obtain rfl := Option.some.inj hf
    exact r_iret X hr hlocks hR hS rfl dX7_tally_73
  rw [if_neg c17] at hf
  by_cases c24 : x1 = (5 : Int32)
  · rw [if_pos c24] at hf
    refine lv_tableIn (tgt := 74) (off := 73) hx hb dX7_tally_1 (by rw [c24]; decide) (by rw [c24]; decide) (by rw [c24]; rfl) (by decide) ?_
    refine lv_aload_n hx hb dX7_tally_74 rfl (lv_at hl 0 rfl) ?_
    obtain ⟨v25, g26, hf⟩ := ob hf
    refine gR_X7_30 X hR g26 dX7_tally_75 ?_
    obtain ⟨v27, g28, hf⟩ := ob hf
    refine gI_X7_229 X hR g28 dX7_tally_78 ?_
    obtain rfl := Option.some.inj hf
    exact r_iret X hr hlocks hR hS rfl dX7_tally_81
  rw [if_neg c24] at hf
  refine lv_tableOut (tgt := 82) hx hb dX7_tally_1 (by have zc1 := sw_ne (k := 0) c1; have zc4 := sw_ne (k := 1) c4; have zc7 := sw_ne (k := 2) c7; have zc10 := sw_ne (k := 3) c10; have zc17 := sw_ne (k := 4) c17; have zc24 := sw_ne (k := 5) c24; omega) (by decide) ?_
  refine lv_aload_n hx hb dX7_tally_82 rfl (lv_at hl 0 rfl) ?_
  obtain ⟨v29, g30, hf⟩ := ob hf
  refine gI_X7_24 X hR g30 dX7_tally_83 ?_
  obtain rfl := Option.some.inj hf
  exact r_iret X hr hlocks hR hS rfl dX7_tally_86
