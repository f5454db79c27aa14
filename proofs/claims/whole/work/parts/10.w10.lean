/-! ===== TwigMatches.holds(II)Z ===== -/
theorem dX7_holds_0 : decode cX7_holds 0 = .ok (.iload_n 0, 1) := by decide +kernel
theorem dX7_holds_1 : decode cX7_holds 1 = .ok (.iload_n 1, 1) := by decide +kernel
theorem dX7_holds_2 : decode cX7_holds 2 = .ok (.iushr, 1) := by decide +kernel
theorem dX7_holds_3 : decode cX7_holds 3 = .ok (.iconst 1, 1) := by decide +kernel
theorem dX7_holds_4 : decode cX7_holds 4 = .ok (.iand, 1) := by decide +kernel
theorem dX7_holds_5 : decode cX7_holds 5 = .ok (.ifCond .eq 7, 3) := by decide +kernel
theorem dX7_holds_8 : decode cX7_holds 8 = .ok (.iconst 1, 1) := by decide +kernel
theorem dX7_holds_9 : decode cX7_holds 9 = .ok (.goto 4, 3) := by decide +kernel
theorem dX7_holds_12 : decode cX7_holds 12 = .ok (.iconst 0, 1) := by decide +kernel
theorem dX7_holds_13 : decode cX7_holds 13 = .ok (.ireturn, 1) := by decide +kernel
set_option maxHeartbeats 4000000 in
set_option maxRecDepth 100000 in
theorem c_X7_holds (l : Launch) (B : Nat) (D : va_G) (cA : Nat → ClassId) (m : Mm) (x0 : Int32) (x1 : Int32) (rZ : Int32) (hf : f_X7_holds m x0 x1 = some rZ) : Mt l B D cA yX7_holds cX7_holds 2 (some .boolean) 0 0 0 0 [.int x0, .int x1] m (some (.int rZ)) m := by
  refine r_start (by decide) (Nat.le_of_ble_eq_true rfl) ?_
  intro p e s mt args below meth c ls H locs X hr hlocks hnm hR hl hS
  have hx := X.1
  have hb := X.2.1
  have hl : lv_has ls 2 [(0, .int x0), (1, .int x1)] := hl
  unfold f_X7_holds at hf
  refine lv_iload_n hx hb dX7_holds_0 rfl (lv_at hl 0 rfl) ?_
  refine lv_iload_n hx hb dX7_holds_1 rfl (lv_at hl 1 rfl) ?_
  refine lv_iushr (v := (iushrJ x0 x1)) hx hb dX7_holds_2 rfl ?_
  refine lv_iconst (v := 1) hx hb dX7_holds_3 (by decide) ?_
  refine lv_iand hx hb dX7_holds_4 ?_
  refine lv_if_eq (tgt := 12) hx hb dX7_holds_5 (by decide) (fun c1 => ?_) (fun c1 => ?_)
  · rw [if_pos c1] at hf
    refine lv_iconst (v := 0) hx hb dX7_holds_12 (by decide) ?_
    obtain rfl := Option.some.inj hf
    exact r_iret X hr hlocks hR hS rfl dX7_holds_13
  · rw [if_neg c1] at hf
    refine lv_iconst (v := 1) hx hb dX7_holds_8 (by decide) ?_
    refine lv_goto (tgt := 13) hx hb dX7_holds_9 (by decide) ?_
    obtain rfl := Option.some.inj hf
    exact r_iret X hr hlocks hR hS rfl dX7_holds_13
/-! ===== TwigMatches$Twig.passing(I)I ===== -/
theorem dX5_passing_0 : decode cX5_passing 0 = .ok (.iconst 1, 1) := by decide +kernel
theorem dX5_passing_1 : decode cX5_passing 1 = .ok (.aload_n 0, 1) := by decide +kernel
theorem dX5_passing_2 : decode cX5_passing 2 = .ok (.getfield 22, 3) := by decide +kernel
theorem dX5_passing_5 : decode cX5_passing 5 = .ok (.iload_n 1, 1) := by decide +kernel
theorem dX5_passing_6 : decode cX5_passing 6 = .ok (.iaload, 1) := by decide +kernel
theorem dX5_passing_7 : decode cX5_passing 7 = .ok (.ishl, 1) := by decide +kernel
theorem dX5_passing_8 : decode cX5_passing 8 = .ok (.istore_n 2, 1) := by decide +kernel
theorem dX5_passing_9 : decode cX5_passing 9 = .ok (.aload_n 0, 1) := by decide +kernel
theorem dX5_passing_10 : decode cX5_passing 10 = .ok (.getfield 19, 3) := by decide +kernel
theorem dX5_passing_13 : decode cX5_passing 13 = .ok (.iload_n 1, 1) := by decide +kernel
theorem dX5_passing_14 : decode cX5_passing 14 = .ok (.iaload, 1) := by decide +kernel
theorem dX5_passing_15 : decode cX5_passing 15 = .ok (.tableswitch 43 60 62 #[27, 25, 31], 25) := by decide +kernel
theorem dX5_passing_40 : decode cX5_passing 40 = .ok (.iload_n 2, 1) := by decide +kernel
theorem dX5_passing_41 : decode cX5_passing 41 = .ok (.ireturn, 1) := by decide +kernel
theorem dX5_passing_42 : decode cX5_passing 42 = .ok (.iload_n 2, 1) := by decide +kernel
theorem dX5_passing_43 : decode cX5_passing 43 = .ok (.iconst 1, 1) := by decide +kernel
theorem dX5_passing_44 : decode cX5_passing 44 = .ok (.isub, 1) := by decide +kernel
theorem dX5_passing_45 : decode cX5_passing 45 = .ok (.ireturn, 1) := by decide +kernel
theorem dX5_passing_46 : decode cX5_passing 46 = .ok (.sipush 1023, 3) := by decide +kernel
theorem dX5_passing_49 : decode cX5_passing 49 = .ok (.iload_n 2, 1) := by decide +kernel
theorem dX5_passing_50 : decode cX5_passing 50 = .ok (.iload_n 2, 1) := by decide +kernel
theorem dX5_passing_51 : decode cX5_passing 51 = .ok (.iconst 1, 1) := by decide +kernel
theorem dX5_passing_52 : decode cX5_passing 52 = .ok (.isub, 1) := by decide +kernel
theorem dX5_passing_53 : decode cX5_passing 53 = .ok (.ior, 1) := by decide +kernel
theorem dX5_passing_54 : decode cX5_passing 54 = .ok (.iconst (-1), 1) := by decide +kernel
theorem dX5_passing_55 : decode cX5_passing 55 = .ok (.ixor, 1) := by decide +kernel
theorem dX5_passing_56 : decode cX5_passing 56 = .ok (.iand, 1) := by decide +kernel
theorem dX5_passing_57 : decode cX5_passing 57 = .ok (.ireturn, 1) := by decide +kernel
theorem dX5_passing_58 : decode cX5_passing 58 = .ok (.sipush 1023, 3) := by decide +kernel
theorem dX5_passing_61 : decode cX5_passing 61 = .ok (.ireturn, 1) := by decide +kernel
set_option maxHeartbeats 4000000 in
set_option maxRecDepth 100000 in
theorem c_X5_passing (l : Launch) (B : Nat) (D : va_G) (cA : Nat → ClassId) (m : Mm) (x0 : Nat) (x1 : Int32) (rZ : Int32) (hf : f_X5_passing m x0 x1 = some rZ) : Mt l B D cA yX5_passing cX5_passing 3 (some .int) 0 0 0 0 [.ref (B + x0), .int x1] m (some (.int rZ)) m := by
  refine r_start (by decide) (Nat.le_of_ble_eq_true rfl) ?_
  intro p e s mt args below meth c ls H locs X hr hlocks hnm hR hl hS
  have hx := X.1
  have hb := X.2.1
  have hl : lv_has ls 3 [(0, .ref (B + x0)), (1, .int x1)] := hl
  unfold f_X5_passing at hf
  refine lv_iconst (v := 1) hx hb dX5_passing_0 (by decide) ?_
  refine lv_aload_n hx hb dX5_passing_1 rfl (lv_at hl 0 rfl) ?_
  obtain ⟨v1, g2, hf⟩ := ob hf
  refine gR_X5_22 X hR g2 dX5_passing_2 ?_
  refine lv_iload_n hx hb dX5_passing_5 rfl (lv_at hl 1 rfl) ?_
  obtain ⟨v3, g4, hf⟩ := ob hf
  refine r_lI X hR g4 dX5_passing_6 ?_
  refine lv_ishl hx hb dX5_passing_7 ?_
  refine lv_istore_n (lv' := [(2, .int ((1 : Int32) <<< (v3 &&& 31))), (0, .ref (B + x0)), (1, .int x1)]) hx hb dX5_passing_8 rfl hl (by decide) rfl (fun ls hl => ?_)
  refine lv_aload_n hx hb dX5_passing_9 rfl (lv_at hl 1 rfl) ?_
  obtain ⟨v5, g6, hf⟩ := ob hf
  refine gR_X5_19 X hR g6 dX5_passing_10 ?_
  refine lv_iload_n hx hb dX5_passing_13 rfl (lv_at hl 2 rfl) ?_
  obtain ⟨v7, g8, hf⟩ := ob hf
  refine r_lI X hR g8 dX5_passing_14 ?_
  by_cases c9 : v7 = (60 : Int32)
  · rw [if_pos c9] at hf
    refine lv_tableIn (tgt := 42) (off := 27) hx hb dX5_passing_15 (by rw [c9]; decide) (by rw [c9]; decide) (by rw [c9]; rfl) (by decide) ?_
    refine lv_iload_n hx hb dX5_passing_42 rfl (lv_at hl 0 rfl) ?_
    refine lv_iconst (v := 1) hx hb dX5_passing_43 (by decide) ?_
    refine lv_isub hx hb dX5_passing_44 ?_
    obtain rfl := Option.some.inj hf
    exact r_iret X hr hlocks hR hS rfl dX5_passing_45
  rw [if_neg c9] at hf
  by_cases c10 : v7 = (61 : Int32)
  · rw [if_pos c10] at hf
    refine lv_tableIn (tgt := 40) (off := 25) hx hb dX5_passing_15 (by rw [c10]; decide) (by rw [c10]; decide) (by rw [c10]; rfl) (by decide) ?_
    refine lv_iload_n hx hb dX5_passing_40 rfl (lv_at hl 0 rfl) ?_
    obtain rfl := Option.some.inj hf
    exact r_iret X hr hlocks hR hS rfl dX5_passing_41
  rw [if_neg c10] at hf
  by_cases c11 : v7 = (62 : Int32)
  · rw [if_pos c11] at hf
    refine lv_tableIn (tgt := 46) (off := 31) hx hb dX5_passing_15 (by rw [c11]; decide) (by rw [c11]; decide) (by rw [c11]; rfl) (by decide) ?_
    refine lv_sipush (v := 1023) hx hb dX5_passing_46 (by decide) ?_
    refine lv_iload_n hx hb dX5_passing_49 rfl (lv_at hl 0 rfl) ?_
    refine lv_iload_n hx hb dX5_passing_50 rfl (lv_at hl 0 rfl) ?_
    refine lv_iconst (v := 1) hx hb dX5_passing_51 (by decide) ?_
    refine lv_isub hx hb dX5_passing_52 ?_
    refine lv_ior hx hb dX5_passing_53 ?_
    refine lv_iconst (v := -1) hx hb dX5_passing_54 (by decide) ?_
    refine lv_ixor hx hb dX5_passing_55 ?_
    refine lv_iand hx hb dX5_passing_56 ?_
    obtain rfl := Option.some.inj hf
    exact r_iret X hr hlocks hR hS rfl dX5_passing_57
  rw [if_neg c11] at hf
  refine lv_tableOut (tgt := 58) hx hb dX5_passing_15 (by have zc9 := sw_ne (k := 60) c9; have zc10 := sw_ne (k := 61) c10; have zc11 := sw_ne (k := 62) c11; omega) (by decide) ?_
  refine lv_sipush (v := 1023) hx hb dX5_passing_58 (by decide) ?_
  obtain rfl := Option.some.inj hf
  exact r_iret X hr hlocks hR hS rfl dX5_passing_61
/-! ===== TwigMatches$Mapping.covers(LTwigMatches$Twig;ILTwigMatches$Twig;I)Z ===== -/
theorem dX0_covers_0 : decode cX0_covers 0 = .ok (.aload_n 1, 1) := by decide +kernel
theorem dX0_covers_1 : decode cX0_covers 1 = .ok (.getfield 32, 3) := by decide +kernel
theorem dX0_covers_4 : decode cX0_covers 4 = .ok (.iload_n 2, 1) := by decide +kernel
theorem dX0_covers_5 : decode cX0_covers 5 = .ok (.iaload, 1) := by decide +kernel
theorem dX0_covers_6 : decode cX0_covers 6 = .ok (.bipush 6, 2) := by decide +kernel
theorem dX0_covers_8 : decode cX0_covers 8 = .ok (.if_icmp .eq 19, 3) := by decide +kernel
theorem dX0_covers_11 : decode cX0_covers 11 = .ok (.aload_n 1, 1) := by decide +kernel
theorem dX0_covers_12 : decode cX0_covers 12 = .ok (.getfield 32, 3) := by decide +kernel
theorem dX0_covers_15 : decode cX0_covers 15 = .ok (.iload_n 2, 1) := by decide +kernel
theorem dX0_covers_16 : decode cX0_covers 16 = .ok (.iaload, 1) := by decide +kernel
theorem dX0_covers_17 : decode cX0_covers 17 = .ok (.aload_n 3, 1) := by decide +kernel
theorem dX0_covers_18 : decode cX0_covers 18 = .ok (.getfield 32, 3) := by decide +kernel
theorem dX0_covers_21 : decode cX0_covers 21 = .ok (.iload 4, 2) := by decide +kernel
theorem dX0_covers_23 : decode cX0_covers 23 = .ok (.iaload, 1) := by decide +kernel
theorem dX0_covers_24 : decode cX0_covers 24 = .ok (.if_icmp .ne 7, 3) := by decide +kernel
theorem dX0_covers_27 : decode cX0_covers 27 = .ok (.iconst 1, 1) := by decide +kernel
theorem dX0_covers_28 : decode cX0_covers 28 = .ok (.goto 4, 3) := by decide +kernel
theorem dX0_covers_31 : decode cX0_covers 31 = .ok (.iconst 0, 1) := by decide +kernel
theorem dX0_covers_32 : decode cX0_covers 32 = .ok (.istore 5, 2) := by decide +kernel
theorem dX0_covers_34 : decode cX0_covers 34 = .ok (.iload 5, 2) := by decide +kernel
theorem dX0_covers_36 : decode cX0_covers 36 = .ok (.ifCond .eq 24, 3) := by decide +kernel
theorem dX0_covers_39 : decode cX0_covers 39 = .ok (.aload_n 3, 1) := by decide +kernel
theorem dX0_covers_40 : decode cX0_covers 40 = .ok (.iload 4, 2) := by decide +kernel
theorem dX0_covers_42 : decode cX0_covers 42 = .ok (.invokevirtual 35, 3) := by decide +kernel
theorem dX0_covers_45 : decode cX0_covers 45 = .ok (.aload_n 1, 1) := by decide +kernel
theorem dX0_covers_46 : decode cX0_covers 46 = .ok (.iload_n 2, 1) := by decide +kernel
theorem dX0_covers_47 : decode cX0_covers 47 = .ok (.invokevirtual 35, 3) := by decide +kernel
theorem dX0_covers_50 : decode cX0_covers 50 = .ok (.iconst (-1), 1) := by decide +kernel
theorem dX0_covers_51 : decode cX0_covers 51 = .ok (.ixor, 1) := by decide +kernel
theorem dX0_covers_52 : decode cX0_covers 52 = .ok (.iand, 1) := by decide +kernel
theorem dX0_covers_53 : decode cX0_covers 53 = .ok (.ifCond .ne 7, 3) := by decide +kernel
theorem dX0_covers_56 : decode cX0_covers 56 = .ok (.iconst 1, 1) := by decide +kernel
theorem dX0_covers_57 : decode cX0_covers 57 = .ok (.goto 4, 3) := by decide +kernel
theorem dX0_covers_60 : decode cX0_covers 60 = .ok (.iconst 0, 1) := by decide +kernel
theorem dX0_covers_61 : decode cX0_covers 61 = .ok (.ireturn, 1) := by decide +kernel
set_option maxHeartbeats 4000000 in
set_option maxRecDepth 100000 in
theorem c_X0_covers (l : Launch) (B : Nat) (D : va_G) (cA : Nat → ClassId) (m : Mm) (x0 : Nat) (x1 : Nat) (x2 : Int32) (x3 : Nat) (x4 : Int32) (rZ : Int32) (hf : f_X0_covers m x0 x1 x2 x3 x4 = some rZ) : Mt l B D cA yX0_covers cX0_covers 6 (some .boolean) 1 22 0 0 [.ref (B + x0), .ref (B + x1), .int x2, .ref (B + x3), .int x4] m (some (.int rZ)) m := by
  refine r_start (by decide) (Nat.le_of_ble_eq_true rfl) ?_
  intro p e s mt args below meth c ls H locs X hr hlocks hnm hR hl hS
  have hx := X.1
  have hb := X.2.1
  have hl : lv_has ls 6 [(0, .ref (B + x0)), (1, .ref (B + x1)), (2, .int x2), (3, .ref (B + x3)), (4, .int x4)] := hl
  unfold f_X0_covers at hf
  refine lv_aload_n hx hb dX0_covers_0 rfl (lv_at hl 1 rfl) ?_
  obtain ⟨v1, g2, hf⟩ := ob hf
  refine gR_X0_32 X hR g2 dX0_covers_1 ?_
  refine lv_iload_n hx hb dX0_covers_4 rfl (lv_at hl 2 rfl) ?_
  obtain ⟨v3, g4, hf⟩ := ob hf
  refine r_lI X hR g4 dX0_covers_5 ?_
  refine lv_bipush (v := 6) hx hb dX0_covers_6 (by decide) ?_
  obtain ⟨t5, hjt5, hf⟩ := ob hf
  have hJt5 : ∀ (H : Heap) (locs : List Loc) (ls : Array Slot), Rl B D cA m H → va_S (fun q => B ≤ q) s.heap H locs → lv_has ls 6 [(1, .ref (B + x1)), (2, .int x2), (3, .ref (B + x3)), (4, .int x4)] → W p l e (rmm 1 0 0 22) s mt args below meth c H locs 0 0 (MQ below (mQ B D cA (some (.int rZ)) m) args s 0 0 (fun q => B ≤ q)) (F0 mt 32 ls [.int t5]) := by
    intro H locs ls hR hS hl
    refine lv_istore (lv' := [(5, .int t5), (1, .ref (B + x1)), (2, .int x2), (3, .ref (B + x3)), (4, .int x4)]) hx hb dX0_covers_32 hl (by decide) rfl (fun ls hl => ?_)
    refine lv_iload hx hb dX0_covers_34 (lv_at hl 0 rfl) ?_
    refine lv_if_eq (tgt := 60) hx hb dX0_covers_36 (by decide) (fun c16 => ?_) (fun c16 => ?_)
    · rw [if_pos c16] at hf
      refine lv_iconst (v := 0) hx hb dX0_covers_60 (by decide) ?_
      obtain rfl := Option.some.inj hf
      exact r_iret X hr hlocks hR hS rfl dX0_covers_61
    · rw [if_neg c16] at hf
      refine lv_aload_n hx hb dX0_covers_39 rfl (lv_at hl 3 rfl) ?_
      refine lv_iload hx hb dX0_covers_40 (lv_at hl 4 rfl) ?_
      obtain ⟨o17, h18, hf⟩ := obO hf
      obtain ⟨v20, g19, hf⟩ := ob hf
      refine r_callV X kw_X0_35 (ci := 5) rfl (c_X5_passing l B D cA m x3 x4 v20 g19) ⟨Nat.le_of_ble_eq_true rfl, Nat.le_of_ble_eq_true rfl⟩ h18 hR hS hl.1 rfl rfl (Nat.le_of_ble_eq_true rfl) ⟨Nat.le_of_ble_eq_true rfl, Nat.le_of_ble_eq_true rfl⟩ dX0_covers_42 (fun H locs hR hS => ?_)
      refine W.eq (g2 := F0 mt 45 ls [.int v20]) rfl ?_
      refine lv_aload_n hx hb dX0_covers_45 rfl (lv_at hl 1 rfl) ?_
      refine lv_iload_n hx hb dX0_covers_46 rfl (lv_at hl 2 rfl) ?_
      obtain ⟨o21, h22, hf⟩ := obO hf
      obtain ⟨v24, g23, hf⟩ := ob hf
      refine r_callV X kw_X0_35 (ci := 5) rfl (c_X5_passing l B D cA m x1 x2 v24 g23) ⟨Nat.le_of_ble_eq_true rfl, Nat.le_of_ble_eq_true rfl⟩ h22 hR hS hl.1 rfl rfl (Nat.le_of_ble_eq_true rfl) ⟨Nat.le_of_ble_eq_true rfl, Nat.le_of_ble_eq_true rfl⟩ dX0_covers_47 (fun H locs hR hS => ?_)
      refine W.eq (g2 := F0 mt 50 ls [.int v24, .int v20]) rfl ?_
      refine lv_iconst (v := -1) hx hb dX0_covers_50 (by decide) ?_
      refine lv_ixor hx hb dX0_covers_51 ?_
      refine lv_iand hx hb dX0_covers_52 ?_
      refine lv_if_ne (tgt := 60) hx hb dX0_covers_53 (by decide) (fun c25 => ?_) (fun c25 => ?_)
      · rw [if_neg c25] at hf
        refine lv_iconst (v := 0) hx hb dX0_covers_60 (by decide) ?_
        obtain rfl := Option.some.inj hf
        exact r_iret X hr hlocks hR hS rfl dX0_covers_61
      · rw [if_pos c25] at hf
        refine lv_iconst (v := 1) hx hb dX0_covers_56 (by decide) ?_
        refine lv_goto (tgt := 61) hx hb dX0_covers_57 (by decide) ?_
        obtain rfl := Option.some.inj hf
        exact r_iret X hr hlocks hR hS rfl dX0_covers_61
  have hf := hjt5
  clear hjt5
  refine lv_icmp_eq (tgt := 27) hx hb dX0_covers_8 (by decide) (fun c6 => ?_) (fun c6 => ?_)
  · rw [if_pos c6] at hf
    refine lv_iconst (v := 1) hx hb dX0_covers_27 (by decide) ?_
    refine lv_goto (tgt := 32) hx hb dX0_covers_28 (by decide) ?_
    obtain rfl := Option.some.inj hf
    exact hJt5 H locs ls hR hS (lv_sub hl [1, 2, 3, 4] rfl)
  · rw [if_neg c6] at hf
    refine lv_aload_n hx hb dX0_covers_11 rfl (lv_at hl 1 rfl) ?_
    obtain ⟨v7, g8, hf⟩ := ob hf
    refine gR_X0_32 X hR g8 dX0_covers_12 ?_
    refine lv_iload_n hx hb dX0_covers_15 rfl (lv_at hl 2 rfl) ?_
    obtain ⟨v9, g10, hf⟩ := ob hf
    refine r_lI X hR g10 dX0_covers_16 ?_
    refine lv_aload_n hx hb dX0_covers_17 rfl (lv_at hl 3 rfl) ?_
    obtain ⟨v11, g12, hf⟩ := ob hf
    refine gR_X0_32 X hR g12 dX0_covers_18 ?_
    refine lv_iload hx hb dX0_covers_21 (lv_at hl 4 rfl) ?_
    obtain ⟨v13, g14, hf⟩ := ob hf
    refine r_lI X hR g14 dX0_covers_23 ?_
    refine lv_icmp_ne (tgt := 31) hx hb dX0_covers_24 (by decide) (fun c15 => ?_) (fun c15 => ?_)
    · rw [if_neg c15] at hf
      refine lv_iconst (v := 0) hx hb dX0_covers_31 (by decide) ?_
      obtain rfl := Option.some.inj hf
      exact hJt5 H locs ls hR hS (lv_sub hl [1, 2, 3, 4] rfl)
    · rw [if_pos c15] at hf
      refine lv_iconst (v := 1) hx hb dX0_covers_27 (by decide) ?_
      refine lv_goto (tgt := 32) hx hb dX0_covers_28 (by decide) ?_
      obtain rfl := Option.some.inj hf
      exact hJt5 H locs ls hR hS (lv_sub hl [1, 2, 3, 4] rfl)
/-! ===== TwigMatches$Twig.last(I)I ===== -/
theorem dX5_last_0 : decode cX5_last 0 = .ok (.iload_n 1, 1) := by decide +kernel
theorem dX5_last_1 : decode cX5_last 1 = .ok (.istore_n 2, 1) := by decide +kernel
theorem dX5_last_2 : decode cX5_last 2 = .ok (.iload_n 1, 1) := by decide +kernel
theorem dX5_last_3 : decode cX5_last 3 = .ok (.iconst 1, 1) := by decide +kernel
theorem dX5_last_4 : decode cX5_last 4 = .ok (.iadd, 1) := by decide +kernel
theorem dX5_last_5 : decode cX5_last 5 = .ok (.istore_n 3, 1) := by decide +kernel
theorem dX5_last_6 : decode cX5_last 6 = .ok (.iload_n 3, 1) := by decide +kernel
theorem dX5_last_7 : decode cX5_last 7 = .ok (.aload_n 0, 1) := by decide +kernel
theorem dX5_last_8 : decode cX5_last 8 = .ok (.getfield 9, 3) := by decide +kernel
theorem dX5_last_11 : decode cX5_last 11 = .ok (.if_icmp .ge 21, 3) := by decide +kernel
theorem dX5_last_14 : decode cX5_last 14 = .ok (.aload_n 0, 1) := by decide +kernel
theorem dX5_last_15 : decode cX5_last 15 = .ok (.getfield 31, 3) := by decide +kernel
theorem dX5_last_18 : decode cX5_last 18 = .ok (.iload_n 3, 1) := by decide +kernel
theorem dX5_last_19 : decode cX5_last 19 = .ok (.iaload, 1) := by decide +kernel
theorem dX5_last_20 : decode cX5_last 20 = .ok (.iload_n 1, 1) := by decide +kernel
theorem dX5_last_21 : decode cX5_last 21 = .ok (.if_icmp .lt 11, 3) := by decide +kernel
theorem dX5_last_24 : decode cX5_last 24 = .ok (.iload_n 3, 1) := by decide +kernel
theorem dX5_last_25 : decode cX5_last 25 = .ok (.istore_n 2, 1) := by decide +kernel
theorem dX5_last_26 : decode cX5_last 26 = .ok (.iinc 3 1, 3) := by decide +kernel
theorem dX5_last_29 : decode cX5_last 29 = .ok (.goto (-23), 3) := by decide +kernel
theorem dX5_last_32 : decode cX5_last 32 = .ok (.iload_n 2, 1) := by decide +kernel
theorem dX5_last_33 : decode cX5_last 33 = .ok (.ireturn, 1) := by decide +kernel
set_option maxHeartbeats 4000000 in
set_option maxRecDepth 100000 in
theorem c_X5_last (l : Launch) (B : Nat) (D : va_G) (cA : Nat → ClassId) (m : Mm) (x0 : Nat) (x1 : Int32) (rZ : Int32) (hf : f_X5_last m x0 x1 = some rZ) : Mt l B D cA yX5_last cX5_last 4 (some .int) 0 0 0 0 [.ref (B + x0), .int x1] m (some (.int rZ)) m := by
  refine r_start (by decide) (Nat.le_of_ble_eq_true rfl) ?_
  intro p e s mt args below meth c ls H locs X hr hlocks hnm hR hl hS
  have hx := X.1
  have hb := X.2.1
  have hl : lv_has ls 4 [(0, .ref (B + x0)), (1, .int x1)] := hl
  unfold f_X5_last at hf
  refine lv_iload_n hx hb dX5_last_0 rfl (lv_at hl 1 rfl) ?_
  refine lv_istore_n (lv' := [(2, .int x1), (0, .ref (B + x0)), (1, .int x1)]) hx hb dX5_last_1 rfl hl (by decide) rfl (fun ls hl => ?_)
  refine lv_iload_n hx hb dX5_last_2 rfl (lv_at hl 2 rfl) ?_
  refine lv_iconst (v := 1) hx hb dX5_last_3 (by decide) ?_
  refine lv_iadd hx hb dX5_last_4 ?_
  refine lv_istore_n (lv' := [(3, .int (x1 + (1 : Int32))), (2, .int x1), (0, .ref (B + x0)), (1, .int x1)]) hx hb dX5_last_5 rfl hl (by decide) rfl (fun ls hl => ?_)
  obtain ⟨e2, hwe2, hf⟩ := ob hf
  refine whl_rule (P := (fun t1 => ∀ (H : Heap) (locs : List Loc) (ls : Array Slot), Rl B D cA m H → va_S (fun q => B ≤ q) s.heap H locs → lv_has ls 4 [(0, .ref (B + x0)), (1, .int x1), (2, .int t1.1), (3, .int t1.2)] → W p l e (rmm 0 0 0 0) s mt args below meth c H locs 0 0 (MQ below (mQ B D cA (some (.int rZ)) m) args s 0 0 (fun q => B ≤ q)) (F0 mt 6 ls []))) (Qx := (fun e2 => ∀ (H : Heap) (locs : List Loc) (ls : Array Slot), Rl B D cA m H → va_S (fun q => B ≤ q) s.heap H locs → lv_has ls 4 [(2, .int e2)] → W p l e (rmm 0 0 0 0) s mt args below meth c H locs 0 0 (MQ below (mQ B D cA (some (.int rZ)) m) args s 0 0 (fun q => B ≤ q)) (F0 mt 32 ls []))) ?_ FU _ e2 hwe2 ?_ H locs ls hR hS (lv_sub hl [2, 3, 1, 0] rfl)
  · clear hwe2 hf
    intro t1 q3 hf hxlq3 hxrq3 H locs ls hR hS hl
    obtain ⟨z4, z5⟩ := t1
    have hf : f_X5_last_L6 m x0 x1 z4 z5 = some q3 := hf
    have hR : Rl B D cA m H := hR
    have hl : lv_has ls 4 [(0, .ref (B + x0)), (1, .int x1), (2, .int z4), (3, .int z5)] := hl
    unfold f_X5_last_L6 at hf
    refine lv_iload_n hx hb dX5_last_6 rfl (lv_at hl 3 rfl) ?_
    refine lv_aload_n hx hb dX5_last_7 rfl (lv_at hl 0 rfl) ?_
    obtain ⟨v6, g7, hf⟩ := ob hf
    refine gI_X5_9 X hR g7 dX5_last_8 ?_
    refine lv_icmp_ge (tgt := 32) hx hb dX5_last_11 (by decide) (fun c8 => ?_) (fun c8 => ?_)
    · rw [if_pos c8] at hf
      obtain rfl := Option.some.inj hf
      exact hxrq3 _ rfl H locs ls hR hS (lv_sub hl [2] rfl)
    · rw [if_neg c8] at hf
      refine lv_aload_n hx hb dX5_last_14 rfl (lv_at hl 0 rfl) ?_
      obtain ⟨v9, g10, hf⟩ := ob hf
      refine gR_X5_31 X hR g10 dX5_last_15 ?_
      refine lv_iload_n hx hb dX5_last_18 rfl (lv_at hl 3 rfl) ?_
      obtain ⟨v11, g12, hf⟩ := ob hf
      refine r_lI X hR g12 dX5_last_19 ?_
      refine lv_iload_n hx hb dX5_last_20 rfl (lv_at hl 1 rfl) ?_
      refine lv_icmp_lt (tgt := 32) hx hb dX5_last_21 (by decide) (fun c13 => ?_) (fun c13 => ?_)
      · rw [if_pos c13] at hf
        obtain rfl := Option.some.inj hf
        exact hxrq3 _ rfl H locs ls hR hS (lv_sub hl [2] rfl)
      · rw [if_neg c13] at hf
        refine lv_iload_n hx hb dX5_last_24 rfl (lv_at hl 3 rfl) ?_
        refine lv_istore_n (lv' := [(2, .int z5), (0, .ref (B + x0)), (1, .int x1), (3, .int z5)]) hx hb dX5_last_25 rfl hl (by decide) rfl (fun ls hl => ?_)
        refine lv_iinc (v := (z5 + 1)) (lv' := [(3, .int (z5 + 1)), (2, .int z5), (0, .ref (B + x0)), (1, .int x1)]) hx hb dX5_last_26 hl (k := 3) rfl (congrArg (fun z => z5 + z) (by decide)) (by decide) rfl (fun ls hl => ?_)
        refine lv_goto (tgt := 6) hx hb dX5_last_29 (by decide) ?_
        obtain rfl := Option.some.inj hf
        exact hxlq3 _ rfl H locs ls hR hS (lv_sub hl [2, 3, 1, 0] rfl)
  · intro H locs ls hR hS hl
    refine lv_iload_n hx hb dX5_last_32 rfl (lv_at hl 0 rfl) ?_
    obtain rfl := Option.some.inj hf
    exact r_iret X hr hlocks hR hS rfl dX5_last_33
/-! ===== TwigMatches$Mapping.placesBelow(ILTwigMatches$Twig;I)I ===== -/
theorem dX0_placesBelow_0 : decode cX0_placesBelow 0 = .ok (.iconst 0, 1) := by decide +kernel
theorem dX0_placesBelow_1 : decode cX0_placesBelow 1 = .ok (.istore 4, 2) := by decide +kernel
theorem dX0_placesBelow_3 : decode cX0_placesBelow 3 = .ok (.aload_n 2, 1) := by decide +kernel
theorem dX0_placesBelow_4 : decode cX0_placesBelow 4 = .ok (.iload_n 3, 1) := by decide +kernel
theorem dX0_placesBelow_5 : decode cX0_placesBelow 5 = .ok (.invokevirtual 49, 3) := by decide +kernel
theorem dX0_placesBelow_8 : decode cX0_placesBelow 8 = .ok (.istore 5, 2) := by decide +kernel
theorem dX0_placesBelow_10 : decode cX0_placesBelow 10 = .ok (.iload_n 3, 1) := by decide +kernel
theorem dX0_placesBelow_11 : decode cX0_placesBelow 11 = .ok (.iconst 1, 1) := by decide +kernel
theorem dX0_placesBelow_12 : decode cX0_placesBelow 12 = .ok (.iadd, 1) := by decide +kernel
theorem dX0_placesBelow_13 : decode cX0_placesBelow 13 = .ok (.istore 6, 2) := by decide +kernel
theorem dX0_placesBelow_15 : decode cX0_placesBelow 15 = .ok (.iload 6, 2) := by decide +kernel
theorem dX0_placesBelow_17 : decode cX0_placesBelow 17 = .ok (.iload 5, 2) := by decide +kernel
theorem dX0_placesBelow_19 : decode cX0_placesBelow 19 = .ok (.if_icmp .gt 45, 3) := by decide +kernel
theorem dX0_placesBelow_22 : decode cX0_placesBelow 22 = .ok (.iload_n 1, 1) := by decide +kernel
theorem dX0_placesBelow_23 : decode cX0_placesBelow 23 = .ok (.iconst 2, 1) := by decide +kernel
theorem dX0_placesBelow_24 : decode cX0_placesBelow 24 = .ok (.if_icmp .eq 25, 3) := by decide +kernel
theorem dX0_placesBelow_27 : decode cX0_placesBelow 27 = .ok (.aload_n 2, 1) := by decide +kernel
theorem dX0_placesBelow_28 : decode cX0_placesBelow 28 = .ok (.getfield 39, 3) := by decide +kernel
theorem dX0_placesBelow_31 : decode cX0_placesBelow 31 = .ok (.iload 6, 2) := by decide +kernel
theorem dX0_placesBelow_33 : decode cX0_placesBelow 33 = .ok (.iaload, 1) := by decide +kernel
theorem dX0_placesBelow_34 : decode cX0_placesBelow 34 = .ok (.iload_n 3, 1) := by decide +kernel
theorem dX0_placesBelow_35 : decode cX0_placesBelow 35 = .ok (.if_icmp .ne 23, 3) := by decide +kernel
theorem dX0_placesBelow_38 : decode cX0_placesBelow 38 = .ok (.aload_n 2, 1) := by decide +kernel
theorem dX0_placesBelow_39 : decode cX0_placesBelow 39 = .ok (.getfield 42, 3) := by decide +kernel
theorem dX0_placesBelow_42 : decode cX0_placesBelow 42 = .ok (.iload 6, 2) := by decide +kernel
theorem dX0_placesBelow_44 : decode cX0_placesBelow 44 = .ok (.iaload, 1) := by decide +kernel
theorem dX0_placesBelow_45 : decode cX0_placesBelow 45 = .ok (.iconst 1, 1) := by decide +kernel
theorem dX0_placesBelow_46 : decode cX0_placesBelow 46 = .ok (.if_icmp .ne 12, 3) := by decide +kernel
theorem dX0_placesBelow_49 : decode cX0_placesBelow 49 = .ok (.iload 4, 2) := by decide +kernel
theorem dX0_placesBelow_51 : decode cX0_placesBelow 51 = .ok (.iconst 1, 1) := by decide +kernel
theorem dX0_placesBelow_52 : decode cX0_placesBelow 52 = .ok (.iload 6, 2) := by decide +kernel
theorem dX0_placesBelow_54 : decode cX0_placesBelow 54 = .ok (.ishl, 1) := by decide +kernel
theorem dX0_placesBelow_55 : decode cX0_placesBelow 55 = .ok (.ior, 1) := by decide +kernel
theorem dX0_placesBelow_56 : decode cX0_placesBelow 56 = .ok (.istore 4, 2) := by decide +kernel
theorem dX0_placesBelow_58 : decode cX0_placesBelow 58 = .ok (.iinc 6 1, 3) := by decide +kernel
theorem dX0_placesBelow_61 : decode cX0_placesBelow 61 = .ok (.goto (-46), 3) := by decide +kernel
theorem dX0_placesBelow_64 : decode cX0_placesBelow 64 = .ok (.iload 4, 2) := by decide +kernel
theorem dX0_placesBelow_66 : decode cX0_placesBelow 66 = .ok (.ireturn, 1) := by decide +kernel
set_option maxHeartbeats 4000000 in
set_option maxRecDepth 100000 in
theorem c_X0_placesBelow (l : Launch) (B : Nat) (D : va_G) (cA : Nat → ClassId) (m : Mm) (x0 : Nat) (x1 : Int32) (x2 : Nat) (x3 : Int32) (rZ : Int32) (hf : f_X0_placesBelow m x0 x1 x2 x3 = some rZ) : Mt l B D cA yX0_placesBelow cX0_placesBelow 7 (some .int) 1 23 0 0 [.ref (B + x0), .int x1, .ref (B + x2), .int x3] m (some (.int rZ)) m := by
  refine r_start (by decide) (Nat.le_of_ble_eq_true rfl) ?_
  intro p e s mt args below meth c ls H locs X hr hlocks hnm hR hl hS
  have hx := X.1
  have hb := X.2.1
  have hl : lv_has ls 7 [(0, .ref (B + x0)), (1, .int x1), (2, .ref (B + x2)), (3, .int x3)] := hl
  unfold f_X0_placesBelow at hf
  refine lv_iconst (v := 0) hx hb dX0_placesBelow_0 (by decide) ?_
  refine lv_istore (lv' := [(4, .int (0 : Int32)), (0, .ref (B + x0)), (1, .int x1), (2, .ref (B + x2)), (3, .int x3)]) hx hb dX0_placesBelow_1 hl (by decide) rfl (fun ls hl => ?_)
  refine lv_aload_n hx hb dX0_placesBelow_3 rfl (lv_at hl 3 rfl) ?_
  refine lv_iload_n hx hb dX0_placesBelow_4 rfl (lv_at hl 4 rfl) ?_
  obtain ⟨o1, h2, hf⟩ := obO hf
  obtain ⟨v4, g3, hf⟩ := ob hf
  refine r_callV X kw_X0_49 (ci := 5) rfl (c_X5_last l B D cA m x2 x3 v4 g3) ⟨Nat.le_of_ble_eq_true rfl, Nat.le_of_ble_eq_true rfl⟩ h2 hR hS hl.1 rfl rfl (Nat.le_of_ble_eq_true rfl) ⟨Nat.le_of_ble_eq_true rfl, Nat.le_of_ble_eq_true rfl⟩ dX0_placesBelow_5 (fun H locs hR hS => ?_)
  refine W.eq (g2 := F0 mt 8 ls [.int v4]) rfl ?_
  refine lv_istore (lv' := [(5, .int v4), (4, .int (0 : Int32)), (0, .ref (B + x0)), (1, .int x1), (2, .ref (B + x2)), (3, .int x3)]) hx hb dX0_placesBelow_8 hl (by decide) rfl (fun ls hl => ?_)
  refine lv_iload_n hx hb dX0_placesBelow_10 rfl (lv_at hl 5 rfl) ?_
  refine lv_iconst (v := 1) hx hb dX0_placesBelow_11 (by decide) ?_
  refine lv_iadd hx hb dX0_placesBelow_12 ?_
  refine lv_istore (lv' := [(6, .int (x3 + (1 : Int32))), (5, .int v4), (4, .int (0 : Int32)), (0, .ref (B + x0)), (1, .int x1), (2, .ref (B + x2)), (3, .int x3)]) hx hb dX0_placesBelow_13 hl (by decide) rfl (fun ls hl => ?_)
  obtain ⟨e6, hwe6, hf⟩ := ob hf
  refine whl_rule (P := (fun t5 => ∀ (H : Heap) (locs : List Loc) (ls : Array Slot), Rl B D cA m H → va_S (fun q => B ≤ q) s.heap H locs → lv_has ls 7 [(1, .int x1), (2, .ref (B + x2)), (3, .int x3), (4, .int t5.1), (5, .int v4), (6, .int t5.2)] → W p l e (rmm 1 0 0 23) s mt args below meth c H locs 0 0 (MQ below (mQ B D cA (some (.int rZ)) m) args s 0 0 (fun q => B ≤ q)) (F0 mt 15 ls []))) (Qx := (fun e6 => ∀ (H : Heap) (locs : List Loc) (ls : Array Slot), Rl B D cA m H → va_S (fun q => B ≤ q) s.heap H locs → lv_has ls 7 [(4, .int e6)] → W p l e (rmm 1 0 0 23) s mt args below meth c H locs 0 0 (MQ below (mQ B D cA (some (.int rZ)) m) args s 0 0 (fun q => B ≤ q)) (F0 mt 64 ls []))) ?_ FU _ e6 hwe6 ?_ H locs ls hR hS (lv_sub hl [4, 5, 6, 2, 1, 0] rfl)
  · clear hwe6 hf
    intro t5 q7 hf hxlq7 hxrq7 H locs ls hR hS hl
    obtain ⟨z8, z9⟩ := t5
    have hf : f_X0_placesBelow_L15 m x1 x2 x3 v4 z8 z9 = some q7 := hf
    have hR : Rl B D cA m H := hR
    have hl : lv_has ls 7 [(1, .int x1), (2, .ref (B + x2)), (3, .int x3), (4, .int z8), (5, .int v4), (6, .int z9)] := hl
    unfold f_X0_placesBelow_L15 at hf
    refine lv_iload hx hb dX0_placesBelow_15 (lv_at hl 5 rfl) ?_
    refine lv_iload hx hb dX0_placesBelow_17 (lv_at hl 4 rfl) ?_
    refine lv_icmp_gt (tgt := 64) hx hb dX0_placesBelow_19 (by decide) (fun c10 => ?_) (fun c10 => ?_)
    · rw [if_pos c10] at hf
      obtain rfl := Option.some.inj hf
      exact hxrq7 _ rfl H locs ls hR hS (lv_sub hl [3] rfl)
    · rw [if_neg c10] at hf
      refine lv_iload_n hx hb dX0_placesBelow_22 rfl (lv_at hl 0 rfl) ?_
      refine lv_iconst (v := 2) hx hb dX0_placesBelow_23 (by decide) ?_
      have hJ49 : ∀  (H : Heap) (locs : List Loc) (ls : Array Slot), f_X0_placesBelow_J49 m x1 x2 x3 z8 v4 z9 = some q7 → Rl B D cA m H → va_S (fun q => B ≤ q) s.heap H locs → lv_has ls 7 [(1, .int x1), (2, .ref (B + x2)), (3, .int x3), (4, .int z8), (5, .int v4), (6, .int z9)] → W p l e (rmm 1 0 0 23) s mt args below meth c H locs 0 0 (MQ below (mQ B D cA (some (.int rZ)) m) args s 0 0 (fun q => B ≤ q)) (F0 mt 49 ls []) := by
        intro  H locs ls hf hR hS hl
        unfold f_X0_placesBelow_J49 at hf
        refine lv_iload hx hb dX0_placesBelow_49 (lv_at hl 3 rfl) ?_
        refine lv_iconst (v := 1) hx hb dX0_placesBelow_51 (by decide) ?_
        refine lv_iload hx hb dX0_placesBelow_52 (lv_at hl 5 rfl) ?_
        refine lv_ishl hx hb dX0_placesBelow_54 ?_
        refine lv_ior hx hb dX0_placesBelow_55 ?_
        refine lv_istore (lv' := [(4, .int (z8 ||| ((1 : Int32) <<< (z9 &&& 31)))), (1, .int x1), (2, .ref (B + x2)), (3, .int x3), (5, .int v4), (6, .int z9)]) hx hb dX0_placesBelow_56 hl (by decide) rfl (fun ls hl => ?_)
        refine lv_iinc (v := (z9 + 1)) (lv' := [(6, .int (z9 + 1)), (4, .int (z8 ||| ((1 : Int32) <<< (z9 &&& 31)))), (1, .int x1), (2, .ref (B + x2)), (3, .int x3), (5, .int v4)]) hx hb dX0_placesBelow_58 hl (k := 5) rfl (congrArg (fun z => z9 + z) (by decide)) (by decide) rfl (fun ls hl => ?_)
        refine lv_goto (tgt := 15) hx hb dX0_placesBelow_61 (by decide) ?_
        obtain rfl := Option.some.inj hf
        exact hxlq7 _ rfl H locs ls hR hS (lv_sub hl [2, 3, 4, 1, 5, 0] rfl)
      refine lv_icmp_eq (tgt := 49) hx hb dX0_placesBelow_24 (by decide) (fun c11 => ?_) (fun c11 => ?_)
      · rw [if_pos c11] at hf
        exact hJ49  H locs ls hf hR hS (lv_sub hl [0, 1, 2, 3, 4, 5] rfl)
      · rw [if_neg c11] at hf
        refine lv_aload_n hx hb dX0_placesBelow_27 rfl (lv_at hl 1 rfl) ?_
        obtain ⟨v12, g13, hf⟩ := ob hf
        refine gR_X0_39 X hR g13 dX0_placesBelow_28 ?_
        refine lv_iload hx hb dX0_placesBelow_31 (lv_at hl 5 rfl) ?_
        obtain ⟨v14, g15, hf⟩ := ob hf
        refine r_lI X hR g15 dX0_placesBelow_33 ?_
        refine lv_iload_n hx hb dX0_placesBelow_34 rfl (lv_at hl 2 rfl) ?_
        refine lv_icmp_ne (tgt := 58) hx hb dX0_placesBelow_35 (by decide) (fun c16 => ?_) (fun c16 => ?_)
        · rw [if_neg c16] at hf
          refine lv_iinc (v := (z9 + 1)) (lv' := [(6, .int (z9 + 1)), (1, .int x1), (2, .ref (B + x2)), (3, .int x3), (4, .int z8), (5, .int v4)]) hx hb dX0_placesBelow_58 hl (k := 5) rfl (congrArg (fun z => z9 + z) (by decide)) (by decide) rfl (fun ls hl => ?_)
          refine lv_goto (tgt := 15) hx hb dX0_placesBelow_61 (by decide) ?_
          obtain rfl := Option.some.inj hf
          exact hxlq7 _ rfl H locs ls hR hS (lv_sub hl [1, 2, 3, 4, 5, 0] rfl)
        · rw [if_pos c16] at hf
          refine lv_aload_n hx hb dX0_placesBelow_38 rfl (lv_at hl 1 rfl) ?_
          obtain ⟨v17, g18, hf⟩ := ob hf
          refine gR_X0_42 X hR g18 dX0_placesBelow_39 ?_
          refine lv_iload hx hb dX0_placesBelow_42 (lv_at hl 5 rfl) ?_
          obtain ⟨v19, g20, hf⟩ := ob hf
          refine r_lI X hR g20 dX0_placesBelow_44 ?_
          refine lv_iconst (v := 1) hx hb dX0_placesBelow_45 (by decide) ?_
          refine lv_icmp_ne (tgt := 58) hx hb dX0_placesBelow_46 (by decide) (fun c21 => ?_) (fun c21 => ?_)
          · rw [if_neg c21] at hf
            refine lv_iinc (v := (z9 + 1)) (lv' := [(6, .int (z9 + 1)), (1, .int x1), (2, .ref (B + x2)), (3, .int x3), (4, .int z8), (5, .int v4)]) hx hb dX0_placesBelow_58 hl (k := 5) rfl (congrArg (fun z => z9 + z) (by decide)) (by decide) rfl (fun ls hl => ?_)
            refine lv_goto (tgt := 15) hx hb dX0_placesBelow_61 (by decide) ?_
            obtain rfl := Option.some.inj hf
            exact hxlq7 _ rfl H locs ls hR hS (lv_sub hl [1, 2, 3, 4, 5, 0] rfl)
          · rw [if_pos c21] at hf
            exact hJ49  H locs ls hf hR hS (lv_sub hl [0, 1, 2, 3, 4, 5] rfl)
  · intro H locs ls hR hS hl
    refine lv_iload hx hb dX0_placesBelow_64 (lv_at hl 0 rfl) ?_
    obtain rfl := Option.some.inj hf
    exact r_iret X hr hlocks hR hS rfl dX0_placesBelow_66
/-! ===== TwigMatches$Mapping.branchesMap(LTwigMatches$Twig;ILTwigMatches$Twig;I)Z ===== -/
theorem dX0_branchesMap_0 : decode cX0_branchesMap 0 = .ok (.iload_n 2, 1) := by decide +kernel
theorem dX0_branchesMap_1 : decode cX0_branchesMap 1 = .ok (.iconst 1, 1) := by decide +kernel
theorem dX0_branchesMap_2 : decode cX0_branchesMap 2 = .ok (.iadd, 1) := by decide +kernel
theorem dX0_branchesMap_3 : decode cX0_branchesMap 3 = .ok (.istore 5, 2) := by decide +kernel
theorem dX0_branchesMap_5 : decode cX0_branchesMap 5 = .ok (.iload 5, 2) := by decide +kernel
theorem dX0_branchesMap_7 : decode cX0_branchesMap 7 = .ok (.aload_n 1, 1) := by decide +kernel
theorem dX0_branchesMap_8 : decode cX0_branchesMap 8 = .ok (.getfield 15, 3) := by decide +kernel
theorem dX0_branchesMap_11 : decode cX0_branchesMap 11 = .ok (.if_icmp .ge 47, 3) := by decide +kernel
theorem dX0_branchesMap_14 : decode cX0_branchesMap 14 = .ok (.aload_n 1, 1) := by decide +kernel
theorem dX0_branchesMap_15 : decode cX0_branchesMap 15 = .ok (.getfield 39, 3) := by decide +kernel
theorem dX0_branchesMap_18 : decode cX0_branchesMap 18 = .ok (.iload 5, 2) := by decide +kernel
theorem dX0_branchesMap_20 : decode cX0_branchesMap 20 = .ok (.iaload, 1) := by decide +kernel
theorem dX0_branchesMap_21 : decode cX0_branchesMap 21 = .ok (.iload_n 2, 1) := by decide +kernel
theorem dX0_branchesMap_22 : decode cX0_branchesMap 22 = .ok (.if_icmp .ne 30, 3) := by decide +kernel
theorem dX0_branchesMap_25 : decode cX0_branchesMap 25 = .ok (.aload_n 0, 1) := by decide +kernel
theorem dX0_branchesMap_26 : decode cX0_branchesMap 26 = .ok (.getfield 9, 3) := by decide +kernel
theorem dX0_branchesMap_29 : decode cX0_branchesMap 29 = .ok (.iload 5, 2) := by decide +kernel
theorem dX0_branchesMap_31 : decode cX0_branchesMap 31 = .ok (.iaload, 1) := by decide +kernel
theorem dX0_branchesMap_32 : decode cX0_branchesMap 32 = .ok (.aload_n 0, 1) := by decide +kernel
theorem dX0_branchesMap_33 : decode cX0_branchesMap 33 = .ok (.aload_n 1, 1) := by decide +kernel
theorem dX0_branchesMap_34 : decode cX0_branchesMap 34 = .ok (.getfield 42, 3) := by decide +kernel
theorem dX0_branchesMap_37 : decode cX0_branchesMap 37 = .ok (.iload 5, 2) := by decide +kernel
theorem dX0_branchesMap_39 : decode cX0_branchesMap 39 = .ok (.iaload, 1) := by decide +kernel
theorem dX0_branchesMap_40 : decode cX0_branchesMap 40 = .ok (.aload_n 3, 1) := by decide +kernel
theorem dX0_branchesMap_41 : decode cX0_branchesMap 41 = .ok (.iload 4, 2) := by decide +kernel
theorem dX0_branchesMap_43 : decode cX0_branchesMap 43 = .ok (.invokevirtual 45, 3) := by decide +kernel
theorem dX0_branchesMap_46 : decode cX0_branchesMap 46 = .ok (.iand, 1) := by decide +kernel
theorem dX0_branchesMap_47 : decode cX0_branchesMap 47 = .ok (.ifCond .ne 5, 3) := by decide +kernel
theorem dX0_branchesMap_50 : decode cX0_branchesMap 50 = .ok (.iconst 0, 1) := by decide +kernel
theorem dX0_branchesMap_51 : decode cX0_branchesMap 51 = .ok (.ireturn, 1) := by decide +kernel
theorem dX0_branchesMap_52 : decode cX0_branchesMap 52 = .ok (.iinc 5 1, 3) := by decide +kernel
theorem dX0_branchesMap_55 : decode cX0_branchesMap 55 = .ok (.goto (-50), 3) := by decide +kernel
theorem dX0_branchesMap_58 : decode cX0_branchesMap 58 = .ok (.iconst 1, 1) := by decide +kernel
theorem dX0_branchesMap_59 : decode cX0_branchesMap 59 = .ok (.ireturn, 1) := by decide +kernel
set_option maxHeartbeats 4000000 in
set_option maxRecDepth 100000 in
theorem c_X0_branchesMap (l : Launch) (B : Nat) (D : va_G) (cA : Nat → ClassId) (m : Mm) (x0 : Nat) (x1 : Nat) (x2 : Int32) (x3 : Nat) (x4 : Int32) (rZ : Int32) (hf : f_X0_branchesMap m x0 x1 x2 x3 x4 = some rZ) : Mt l B D cA yX0_branchesMap cX0_branchesMap 6 (some .boolean) 2 49 0 0 [.ref (B + x0), .ref (B + x1), .int x2, .ref (B + x3), .int x4] m (some (.int rZ)) m := by
  refine r_start (by decide) (Nat.le_of_ble_eq_true rfl) ?_
  intro p e s mt args below meth c ls H locs X hr hlocks hnm hR hl hS
  have hx := X.1
  have hb := X.2.1
  have hl : lv_has ls 6 [(0, .ref (B + x0)), (1, .ref (B + x1)), (2, .int x2), (3, .ref (B + x3)), (4, .int x4)] := hl
  unfold f_X0_branchesMap at hf
  refine lv_iload_n hx hb dX0_branchesMap_0 rfl (lv_at hl 2 rfl) ?_
  refine lv_iconst (v := 1) hx hb dX0_branchesMap_1 (by decide) ?_
  refine lv_iadd hx hb dX0_branchesMap_2 ?_
  refine lv_istore (lv' := [(5, .int (x2 + (1 : Int32))), (0, .ref (B + x0)), (1, .ref (B + x1)), (2, .int x2), (3, .ref (B + x3)), (4, .int x4)]) hx hb dX0_branchesMap_3 hl (by decide) rfl (fun ls hl => ?_)
  obtain ⟨e2, hwe2, hf⟩ := ob hf
  refine whl_rule (P := (fun t1 => ∀ (H : Heap) (locs : List Loc) (ls : Array Slot), Rl B D cA m H → va_S (fun q => B ≤ q) s.heap H locs → lv_has ls 6 [(0, .ref (B + x0)), (1, .ref (B + x1)), (2, .int x2), (3, .ref (B + x3)), (4, .int x4), (5, .int t1)] → W p l e (rmm 2 0 0 49) s mt args below meth c H locs 0 0 (MQ below (mQ B D cA (some (.int rZ)) m) args s 0 0 (fun q => B ≤ q)) (F0 mt 5 ls []))) (Qx := (fun e2 => (match e2 with | .inl a0 => (∀ (H : Heap) (locs : List Loc) (ls : Array Slot), Rl B D cA m H → va_S (fun q => B ≤ q) s.heap H locs → lv_has ls 6 [] → W p l e (rmm 2 0 0 49) s mt args below meth c H locs 0 0 (MQ below (mQ B D cA (some (.int rZ)) m) args s 0 0 (fun q => B ≤ q)) (F0 mt 58 ls [])) | .inr b0 => ∀ (H : Heap) (locs : List Loc) (ls : Array Slot), Rl B D cA m H → va_S (fun q => B ≤ q) s.heap H locs → lv_has ls 6 [] → W p l e (rmm 2 0 0 49) s mt args below meth c H locs 0 0 (MQ below (mQ B D cA (some (.int rZ)) m) args s 0 0 (fun q => B ≤ q)) (F0 mt 50 ls [])))) ?_ FU _ e2 hwe2 ?_ H locs ls hR hS (lv_sub hl [1, 2, 3, 4, 5, 0] rfl)
  · clear hwe2 hf
    intro t1 q3 hf hxlq3 hxrq3 H locs ls hR hS hl
    have hf : f_X0_branchesMap_L5 m x0 x1 x2 x3 x4 t1 = some q3 := hf
    have hR : Rl B D cA m H := hR
    have hl : lv_has ls 6 [(0, .ref (B + x0)), (1, .ref (B + x1)), (2, .int x2), (3, .ref (B + x3)), (4, .int x4), (5, .int t1)] := hl
    unfold f_X0_branchesMap_L5 at hf
    refine lv_iload hx hb dX0_branchesMap_5 (lv_at hl 5 rfl) ?_
    refine lv_aload_n hx hb dX0_branchesMap_7 rfl (lv_at hl 1 rfl) ?_
    obtain ⟨v5, g6, hf⟩ := ob hf
    refine gI_X0_15 X hR g6 dX0_branchesMap_8 ?_
    refine lv_icmp_ge (tgt := 58) hx hb dX0_branchesMap_11 (by decide) (fun c7 => ?_) (fun c7 => ?_)
    · rw [if_pos c7] at hf
      obtain rfl := Option.some.inj hf
      exact hxrq3 _ rfl H locs ls hR hS (lv_sub hl [] rfl)
    · rw [if_neg c7] at hf
      refine lv_aload_n hx hb dX0_branchesMap_14 rfl (lv_at hl 1 rfl) ?_
      obtain ⟨v8, g9, hf⟩ := ob hf
      refine gR_X0_39 X hR g9 dX0_branchesMap_15 ?_
      refine lv_iload hx hb dX0_branchesMap_18 (lv_at hl 5 rfl) ?_
      obtain ⟨v10, g11, hf⟩ := ob hf
      refine r_lI X hR g11 dX0_branchesMap_20 ?_
      refine lv_iload_n hx hb dX0_branchesMap_21 rfl (lv_at hl 2 rfl) ?_
      refine lv_icmp_ne (tgt := 52) hx hb dX0_branchesMap_22 (by decide) (fun c12 => ?_) (fun c12 => ?_)
      · rw [if_neg c12] at hf
        refine lv_iinc (v := (t1 + 1)) (lv' := [(5, .int (t1 + 1)), (0, .ref (B + x0)), (1, .ref (B + x1)), (2, .int x2), (3, .ref (B + x3)), (4, .int x4)]) hx hb dX0_branchesMap_52 hl (k := 5) rfl (congrArg (fun z => t1 + z) (by decide)) (by decide) rfl (fun ls hl => ?_)
        refine lv_goto (tgt := 5) hx hb dX0_branchesMap_55 (by decide) ?_
        obtain rfl := Option.some.inj hf
        exact hxlq3 _ rfl H locs ls hR hS (lv_sub hl [1, 2, 3, 4, 5, 0] rfl)
      · rw [if_pos c12] at hf
        refine lv_aload_n hx hb dX0_branchesMap_25 rfl (lv_at hl 0 rfl) ?_
        obtain ⟨v13, g14, hf⟩ := ob hf
        refine gR_X0_9 X hR g14 dX0_branchesMap_26 ?_
        refine lv_iload hx hb dX0_branchesMap_29 (lv_at hl 5 rfl) ?_
        obtain ⟨v15, g16, hf⟩ := ob hf
        refine r_lI X hR g16 dX0_branchesMap_31 ?_
        refine lv_aload_n hx hb dX0_branchesMap_32 rfl (lv_at hl 0 rfl) ?_
        refine lv_aload_n hx hb dX0_branchesMap_33 rfl (lv_at hl 1 rfl) ?_
        obtain ⟨v17, g18, hf⟩ := ob hf
        refine gR_X0_42 X hR g18 dX0_branchesMap_34 ?_
        refine lv_iload hx hb dX0_branchesMap_37 (lv_at hl 5 rfl) ?_
        obtain ⟨v19, g20, hf⟩ := ob hf
        refine r_lI X hR g20 dX0_branchesMap_39 ?_
        refine lv_aload_n hx hb dX0_branchesMap_40 rfl (lv_at hl 3 rfl) ?_
        refine lv_iload hx hb dX0_branchesMap_41 (lv_at hl 4 rfl) ?_
        obtain ⟨o21, h22, hf⟩ := obO hf
        obtain ⟨v24, g23, hf⟩ := ob hf
        refine r_callV X kw_X0_45 (ci := 0) rfl (c_X0_placesBelow l B D cA m x0 v19 x3 x4 v24 g23) ⟨Nat.le_of_ble_eq_true rfl, Nat.le_of_ble_eq_true rfl⟩ h22 hR hS hl.1 rfl rfl (Nat.le_of_ble_eq_true rfl) ⟨Nat.le_of_ble_eq_true rfl, Nat.le_of_ble_eq_true rfl⟩ dX0_branchesMap_43 (fun H locs hR hS => ?_)
        refine W.eq (g2 := F0 mt 46 ls [.int v24, .int v15]) rfl ?_
        refine lv_iand hx hb dX0_branchesMap_46 ?_
        refine lv_if_ne (tgt := 52) hx hb dX0_branchesMap_47 (by decide) (fun c25 => ?_) (fun c25 => ?_)
        · rw [if_neg c25] at hf
          refine lv_iinc (v := (t1 + 1)) (lv' := [(5, .int (t1 + 1)), (0, .ref (B + x0)), (1, .ref (B + x1)), (2, .int x2), (3, .ref (B + x3)), (4, .int x4)]) hx hb dX0_branchesMap_52 hl (k := 5) rfl (congrArg (fun z => t1 + z) (by decide)) (by decide) rfl (fun ls hl => ?_)
          refine lv_goto (tgt := 5) hx hb dX0_branchesMap_55 (by decide) ?_
          obtain rfl := Option.some.inj hf
          exact hxlq3 _ rfl H locs ls hR hS (lv_sub hl [1, 2, 3, 4, 5, 0] rfl)
        · rw [if_pos c25] at hf
          obtain rfl := Option.some.inj hf
          exact hxrq3 _ rfl H locs ls hR hS (lv_sub hl [] rfl)
  · clear hwe2
    revert hf
    cases e2 with
    | inl a0e2 =>
      intro hf H locs ls hR hS hl
      refine lv_iconst (v := 1) hx hb dX0_branchesMap_58 (by decide) ?_
      obtain rfl := Option.some.inj hf
      exact r_iret X hr hlocks hR hS rfl dX0_branchesMap_59
    | inr b0e2 =>
      intro hf H locs ls hR hS hl
      refine lv_iconst (v := 0) hx hb dX0_branchesMap_50 (by decide) ?_
      obtain rfl := Option.some.inj hf
      exact r_iret X hr hlocks hR hS rfl dX0_branchesMap_51
/-! ===== TwigMatches$Mapping.rootTargets(LTwigMatches$Twig;LTwigMatches$Twig;I)I ===== -/
theorem dX0_rootTargets_0 : decode cX0_rootTargets 0 = .ok (.aload_n 1, 1) := by decide +kernel
theorem dX0_rootTargets_1 : decode cX0_rootTargets 1 = .ok (.getfield 15, 3) := by decide +kernel
theorem dX0_rootTargets_4 : decode cX0_rootTargets 4 = .ok (.iconst 1, 1) := by decide +kernel
theorem dX0_rootTargets_5 : decode cX0_rootTargets 5 = .ok (.isub, 1) := by decide +kernel
theorem dX0_rootTargets_6 : decode cX0_rootTargets 6 = .ok (.istore 4, 2) := by decide +kernel
theorem dX0_rootTargets_8 : decode cX0_rootTargets 8 = .ok (.iload 4, 2) := by decide +kernel
theorem dX0_rootTargets_10 : decode cX0_rootTargets 10 = .ok (.ifCond .lt 83, 3) := by decide +kernel
theorem dX0_rootTargets_13 : decode cX0_rootTargets 13 = .ok (.iconst 0, 1) := by decide +kernel
theorem dX0_rootTargets_14 : decode cX0_rootTargets 14 = .ok (.istore 5, 2) := by decide +kernel
theorem dX0_rootTargets_16 : decode cX0_rootTargets 16 = .ok (.iconst 0, 1) := by decide +kernel
theorem dX0_rootTargets_17 : decode cX0_rootTargets 17 = .ok (.istore 6, 2) := by decide +kernel
theorem dX0_rootTargets_19 : decode cX0_rootTargets 19 = .ok (.iload 6, 2) := by decide +kernel
theorem dX0_rootTargets_21 : decode cX0_rootTargets 21 = .ok (.aload_n 2, 1) := by decide +kernel
theorem dX0_rootTargets_22 : decode cX0_rootTargets 22 = .ok (.getfield 15, 3) := by decide +kernel
theorem dX0_rootTargets_25 : decode cX0_rootTargets 25 = .ok (.if_icmp .ge 53, 3) := by decide +kernel
theorem dX0_rootTargets_28 : decode cX0_rootTargets 28 = .ok (.iload_n 3, 1) := by decide +kernel
theorem dX0_rootTargets_29 : decode cX0_rootTargets 29 = .ok (.iload 6, 2) := by decide +kernel
theorem dX0_rootTargets_31 : decode cX0_rootTargets 31 = .ok (.invokestatic 21, 3) := by decide +kernel
theorem dX0_rootTargets_34 : decode cX0_rootTargets 34 = .ok (.ifCond .ne 38, 3) := by decide +kernel
theorem dX0_rootTargets_37 : decode cX0_rootTargets 37 = .ok (.aload_n 0, 1) := by decide +kernel
theorem dX0_rootTargets_38 : decode cX0_rootTargets 38 = .ok (.aload_n 1, 1) := by decide +kernel
theorem dX0_rootTargets_39 : decode cX0_rootTargets 39 = .ok (.iload 4, 2) := by decide +kernel
theorem dX0_rootTargets_41 : decode cX0_rootTargets 41 = .ok (.aload_n 2, 1) := by decide +kernel
theorem dX0_rootTargets_42 : decode cX0_rootTargets 42 = .ok (.iload 6, 2) := by decide +kernel
theorem dX0_rootTargets_44 : decode cX0_rootTargets 44 = .ok (.invokevirtual 25, 3) := by decide +kernel
theorem dX0_rootTargets_47 : decode cX0_rootTargets 47 = .ok (.ifCond .eq 25, 3) := by decide +kernel
theorem dX0_rootTargets_50 : decode cX0_rootTargets 50 = .ok (.aload_n 0, 1) := by decide +kernel
theorem dX0_rootTargets_51 : decode cX0_rootTargets 51 = .ok (.aload_n 1, 1) := by decide +kernel
theorem dX0_rootTargets_52 : decode cX0_rootTargets 52 = .ok (.iload 4, 2) := by decide +kernel
theorem dX0_rootTargets_54 : decode cX0_rootTargets 54 = .ok (.aload_n 2, 1) := by decide +kernel
theorem dX0_rootTargets_55 : decode cX0_rootTargets 55 = .ok (.iload 6, 2) := by decide +kernel
theorem dX0_rootTargets_57 : decode cX0_rootTargets 57 = .ok (.invokevirtual 29, 3) := by decide +kernel
theorem dX0_rootTargets_60 : decode cX0_rootTargets 60 = .ok (.ifCond .eq 12, 3) := by decide +kernel
theorem dX0_rootTargets_63 : decode cX0_rootTargets 63 = .ok (.iload 5, 2) := by decide +kernel
theorem dX0_rootTargets_65 : decode cX0_rootTargets 65 = .ok (.iconst 1, 1) := by decide +kernel
theorem dX0_rootTargets_66 : decode cX0_rootTargets 66 = .ok (.iload 6, 2) := by decide +kernel
theorem dX0_rootTargets_68 : decode cX0_rootTargets 68 = .ok (.ishl, 1) := by decide +kernel
theorem dX0_rootTargets_69 : decode cX0_rootTargets 69 = .ok (.ior, 1) := by decide +kernel
theorem dX0_rootTargets_70 : decode cX0_rootTargets 70 = .ok (.istore 5, 2) := by decide +kernel
theorem dX0_rootTargets_72 : decode cX0_rootTargets 72 = .ok (.iinc 6 1, 3) := by decide +kernel
theorem dX0_rootTargets_75 : decode cX0_rootTargets 75 = .ok (.goto (-56), 3) := by decide +kernel
theorem dX0_rootTargets_78 : decode cX0_rootTargets 78 = .ok (.aload_n 0, 1) := by decide +kernel
theorem dX0_rootTargets_79 : decode cX0_rootTargets 79 = .ok (.getfield 9, 3) := by decide +kernel
theorem dX0_rootTargets_82 : decode cX0_rootTargets 82 = .ok (.iload 4, 2) := by decide +kernel
theorem dX0_rootTargets_84 : decode cX0_rootTargets 84 = .ok (.iload 5, 2) := by decide +kernel
theorem dX0_rootTargets_86 : decode cX0_rootTargets 86 = .ok (.iastore, 1) := by decide +kernel
theorem dX0_rootTargets_87 : decode cX0_rootTargets 87 = .ok (.iinc 4 (-1), 3) := by decide +kernel
theorem dX0_rootTargets_90 : decode cX0_rootTargets 90 = .ok (.goto (-82), 3) := by decide +kernel
theorem dX0_rootTargets_93 : decode cX0_rootTargets 93 = .ok (.aload_n 0, 1) := by decide +kernel
theorem dX0_rootTargets_94 : decode cX0_rootTargets 94 = .ok (.getfield 9, 3) := by decide +kernel
theorem dX0_rootTargets_97 : decode cX0_rootTargets 97 = .ok (.iconst 0, 1) := by decide +kernel
theorem dX0_rootTargets_98 : decode cX0_rootTargets 98 = .ok (.iaload, 1) := by decide +kernel
theorem dX0_rootTargets_99 : decode cX0_rootTargets 99 = .ok (.ireturn, 1) := by decide +kernel
set_option maxHeartbeats 4000000 in
set_option maxRecDepth 100000 in
theorem c_X0_rootTargets (l : Launch) (B : Nat) (D : va_G) (cA : Nat → ClassId) (m : Mm) (x0 : Nat) (x1 : Nat) (x2 : Nat) (x3 : Int32) (rZ : Int32) (mZ : Mm) (hf : f_X0_rootTargets m x0 x1 x2 x3 = some (rZ, mZ)) : Mt l B D cA yX0_rootTargets cX0_rootTargets 7 (some .int) 3 74 0 0 [.ref (B + x0), .ref (B + x1), .ref (B + x2), .int x3] m (some (.int rZ)) mZ := by
  refine r_start (by decide) (Nat.le_of_ble_eq_true rfl) ?_
  intro p e s mt args below meth c ls H locs X hr hlocks hnm hR hl hS
  have hx := X.1
  have hb := X.2.1
  have hl : lv_has ls 7 [(0, .ref (B + x0)), (1, .ref (B + x1)), (2, .ref (B + x2)), (3, .int x3)] := hl
  unfold f_X0_rootTargets at hf
  refine lv_aload_n hx hb dX0_rootTargets_0 rfl (lv_at hl 1 rfl) ?_
  obtain ⟨v1, g2, hf⟩ := ob hf
  refine gI_X0_15 X hR g2 dX0_rootTargets_1 ?_
  refine lv_iconst (v := 1) hx hb dX0_rootTargets_4 (by decide) ?_
  refine lv_isub hx hb dX0_rootTargets_5 ?_
  refine lv_istore (lv' := [(4, .int (v1 - (1 : Int32))), (0, .ref (B + x0)), (1, .ref (B + x1)), (2, .ref (B + x2)), (3, .int x3)]) hx hb dX0_rootTargets_6 hl (by decide) rfl (fun ls hl => ?_)
  obtain ⟨e4, hwe4, hf⟩ := ob hf
  refine whl_rule (P := (fun t3 => ∀ (H : Heap) (locs : List Loc) (ls : Array Slot), Rl B D cA t3.2 H → va_S (fun q => B ≤ q) s.heap H locs → lv_has ls 7 [(0, .ref (B + x0)), (1, .ref (B + x1)), (2, .ref (B + x2)), (3, .int x3), (4, .int t3.1)] → W p l e (rmm 3 0 0 74) s mt args below meth c H locs 0 0 (MQ below (mQ B D cA (some (.int rZ)) mZ) args s 0 0 (fun q => B ≤ q)) (F0 mt 8 ls []))) (Qx := (fun e4 => ∀ (H : Heap) (locs : List Loc) (ls : Array Slot), Rl B D cA e4 H → va_S (fun q => B ≤ q) s.heap H locs → lv_has ls 7 [(0, .ref (B + x0))] → W p l e (rmm 3 0 0 74) s mt args below meth c H locs 0 0 (MQ below (mQ B D cA (some (.int rZ)) mZ) args s 0 0 (fun q => B ≤ q)) (F0 mt 93 ls []))) ?_ FU _ e4 hwe4 ?_ H locs ls hR hS (lv_sub hl [1, 2, 3, 4, 0] rfl)
  · clear hwe4 hf
    intro t3 q5 hf hxlq5 hxrq5 H locs ls hR hS hl
    obtain ⟨z6, m7⟩ := t3
    have hf : f_X0_rootTargets_L8 m7 x0 x1 x2 x3 z6 = some q5 := hf
    have hR : Rl B D cA m7 H := hR
    have hl : lv_has ls 7 [(0, .ref (B + x0)), (1, .ref (B + x1)), (2, .ref (B + x2)), (3, .int x3), (4, .int z6)] := hl
    unfold f_X0_rootTargets_L8 at hf
    refine lv_iload hx hb dX0_rootTargets_8 (lv_at hl 4 rfl) ?_
    refine lv_if_lt (tgt := 93) hx hb dX0_rootTargets_10 (by decide) (fun c8 => ?_) (fun c8 => ?_)
    · rw [if_pos c8] at hf
      obtain rfl := Option.some.inj hf
      exact hxrq5 _ rfl H locs ls hR hS (lv_sub hl [0] rfl)
    · rw [if_neg c8] at hf
      refine lv_iconst (v := 0) hx hb dX0_rootTargets_13 (by decide) ?_
      refine lv_istore (lv' := [(5, .int (0 : Int32)), (0, .ref (B + x0)), (1, .ref (B + x1)), (2, .ref (B + x2)), (3, .int x3), (4, .int z6)]) hx hb dX0_rootTargets_14 hl (by decide) rfl (fun ls hl => ?_)
      refine lv_iconst (v := 0) hx hb dX0_rootTargets_16 (by decide) ?_
      refine lv_istore (lv' := [(6, .int (0 : Int32)), (5, .int (0 : Int32)), (0, .ref (B + x0)), (1, .ref (B + x1)), (2, .ref (B + x2)), (3, .int x3), (4, .int z6)]) hx hb dX0_rootTargets_17 hl (by decide) rfl (fun ls hl => ?_)
      obtain ⟨e10, hwe10, hf⟩ := ob hf
      refine whl_rule (P := (fun t9 => ∀ (H : Heap) (locs : List Loc) (ls : Array Slot), Rl B D cA m7 H → va_S (fun q => B ≤ q) s.heap H locs → lv_has ls 7 [(0, .ref (B + x0)), (1, .ref (B + x1)), (2, .ref (B + x2)), (3, .int x3), (4, .int z6), (5, .int t9.1), (6, .int t9.2)] → W p l e (rmm 3 0 0 74) s mt args below meth c H locs 0 0 (MQ below (mQ B D cA (some (.int rZ)) mZ) args s 0 0 (fun q => B ≤ q)) (F0 mt 19 ls []))) (Qx := (fun e10 => ∀ (H : Heap) (locs : List Loc) (ls : Array Slot), Rl B D cA m7 H → va_S (fun q => B ≤ q) s.heap H locs → lv_has ls 7 [(0, .ref (B + x0)), (1, .ref (B + x1)), (2, .ref (B + x2)), (3, .int x3), (4, .int z6), (5, .int e10)] → W p l e (rmm 3 0 0 74) s mt args below meth c H locs 0 0 (MQ below (mQ B D cA (some (.int rZ)) mZ) args s 0 0 (fun q => B ≤ q)) (F0 mt 78 ls []))) ?_ FU _ e10 hwe10 ?_ H locs ls hR hS (lv_sub hl [2, 3, 4, 5, 6, 1, 0] rfl)
      · clear hwe10 hf
        intro t9 q11 hf hxlq11 hxrq11 H locs ls hR hS hl
        obtain ⟨z12, z13⟩ := t9
        have hf : f_X0_rootTargets_L19 m7 x0 x1 x2 x3 z6 z12 z13 = some q11 := hf
        have hR : Rl B D cA m7 H := hR
        have hl : lv_has ls 7 [(0, .ref (B + x0)), (1, .ref (B + x1)), (2, .ref (B + x2)), (3, .int x3), (4, .int z6), (5, .int z12), (6, .int z13)] := hl
        unfold f_X0_rootTargets_L19 at hf
        refine lv_iload hx hb dX0_rootTargets_19 (lv_at hl 6 rfl) ?_
        refine lv_aload_n hx hb dX0_rootTargets_21 rfl (lv_at hl 2 rfl) ?_
        obtain ⟨v14, g15, hf⟩ := ob hf
        refine gI_X0_15 X hR g15 dX0_rootTargets_22 ?_
        refine lv_icmp_ge (tgt := 78) hx hb dX0_rootTargets_25 (by decide) (fun c16 => ?_) (fun c16 => ?_)
        · rw [if_pos c16] at hf
          obtain rfl := Option.some.inj hf
          exact hxrq11 _ rfl H locs ls hR hS (lv_sub hl [0, 1, 2, 3, 4, 5] rfl)
        · rw [if_neg c16] at hf
          refine lv_iload_n hx hb dX0_rootTargets_28 rfl (lv_at hl 3 rfl) ?_
          refine lv_iload hx hb dX0_rootTargets_29 (lv_at hl 6 rfl) ?_
          obtain ⟨v18, g17, hf⟩ := ob hf
          refine r_callSN X kw_X0_21 (c_X7_holds l B D cA m7 x3 z13 v18 g17) ⟨Nat.le_of_ble_eq_true rfl, Nat.le_of_ble_eq_true rfl⟩ hR hS hl.1 rfl rfl (Nat.le_of_ble_eq_true rfl) ⟨Nat.le_of_ble_eq_true rfl, Nat.le_of_ble_eq_true rfl⟩ dX0_rootTargets_31 (fun H locs hR hS => ?_)
          refine W.eq (g2 := F0 mt 34 ls [.int v18]) rfl ?_
          refine lv_if_ne (tgt := 72) hx hb dX0_rootTargets_34 (by decide) (fun c19 => ?_) (fun c19 => ?_)
          · rw [if_neg c19] at hf
            refine lv_iinc (v := (z13 + 1)) (lv' := [(6, .int (z13 + 1)), (0, .ref (B + x0)), (1, .ref (B + x1)), (2, .ref (B + x2)), (3, .int x3), (4, .int z6), (5, .int z12)]) hx hb dX0_rootTargets_72 hl (k := 6) rfl (congrArg (fun z => z13 + z) (by decide)) (by decide) rfl (fun ls hl => ?_)
            refine lv_goto (tgt := 19) hx hb dX0_rootTargets_75 (by decide) ?_
            obtain rfl := Option.some.inj hf
            exact hxlq11 _ rfl H locs ls hR hS (lv_sub hl [1, 2, 3, 4, 5, 6, 0] rfl)
          · rw [if_pos c19] at hf
            refine lv_aload_n hx hb dX0_rootTargets_37 rfl (lv_at hl 0 rfl) ?_
            refine lv_aload_n hx hb dX0_rootTargets_38 rfl (lv_at hl 1 rfl) ?_
            refine lv_iload hx hb dX0_rootTargets_39 (lv_at hl 4 rfl) ?_
            refine lv_aload_n hx hb dX0_rootTargets_41 rfl (lv_at hl 2 rfl) ?_
            refine lv_iload hx hb dX0_rootTargets_42 (lv_at hl 6 rfl) ?_
            obtain ⟨o20, h21, hf⟩ := obO hf
            obtain ⟨v23, g22, hf⟩ := ob hf
            refine r_callV X kw_X0_25 (ci := 0) rfl (c_X0_covers l B D cA m7 x0 x1 z6 x2 z13 v23 g22) ⟨Nat.le_of_ble_eq_true rfl, Nat.le_of_ble_eq_true rfl⟩ h21 hR hS hl.1 rfl rfl (Nat.le_of_ble_eq_true rfl) ⟨Nat.le_of_ble_eq_true rfl, Nat.le_of_ble_eq_true rfl⟩ dX0_rootTargets_44 (fun H locs hR hS => ?_)
            refine W.eq (g2 := F0 mt 47 ls [.int v23]) rfl ?_
            refine lv_if_eq (tgt := 72) hx hb dX0_rootTargets_47 (by decide) (fun c24 => ?_) (fun c24 => ?_)
            · rw [if_pos c24] at hf
              refine lv_iinc (v := (z13 + 1)) (lv' := [(6, .int (z13 + 1)), (0, .ref (B + x0)), (1, .ref (B + x1)), (2, .ref (B + x2)), (3, .int x3), (4, .int z6), (5, .int z12)]) hx hb dX0_rootTargets_72 hl (k := 6) rfl (congrArg (fun z => z13 + z) (by decide)) (by decide) rfl (fun ls hl => ?_)
              refine lv_goto (tgt := 19) hx hb dX0_rootTargets_75 (by decide) ?_
              obtain rfl := Option.some.inj hf
              exact hxlq11 _ rfl H locs ls hR hS (lv_sub hl [1, 2, 3, 4, 5, 6, 0] rfl)
            · rw [if_neg c24] at hf
              refine lv_aload_n hx hb dX0_rootTargets_50 rfl (lv_at hl 0 rfl) ?_
              refine lv_aload_n hx hb dX0_rootTargets_51 rfl (lv_at hl 1 rfl) ?_
              refine lv_iload hx hb dX0_rootTargets_52 (lv_at hl 4 rfl) ?_
              refine lv_aload_n hx hb dX0_rootTargets_54 rfl (lv_at hl 2 rfl) ?_
              refine lv_iload hx hb dX0_rootTargets_55 (lv_at hl 6 rfl) ?_
              obtain ⟨o25, h26, hf⟩ := obO hf
              obtain ⟨v28, g27, hf⟩ := ob hf
              refine r_callV X kw_X0_29 (ci := 0) rfl (c_X0_branchesMap l B D cA m7 x0 x1 z6 x2 z13 v28 g27) ⟨Nat.le_of_ble_eq_true rfl, Nat.le_of_ble_eq_true rfl⟩ h26 hR hS hl.1 rfl rfl (Nat.le_of_ble_eq_true rfl) ⟨Nat.le_of_ble_eq_true rfl, Nat.le_of_ble_eq_true rfl⟩ dX0_rootTargets_57 (fun H locs hR hS => ?_)
              refine W.eq (g2 := F0 mt 60 ls [.int v28]) rfl ?_
              refine lv_if_eq (tgt := 72) hx hb dX0_rootTargets_60 (by decide) (fun c29 => ?_) (fun c29 => ?_)
              · rw [if_pos c29] at hf
                refine lv_iinc (v := (z13 + 1)) (lv' := [(6, .int (z13 + 1)), (0, .ref (B + x0)), (1, .ref (B + x1)), (2, .ref (B + x2)), (3, .int x3), (4, .int z6), (5, .int z12)]) hx hb dX0_rootTargets_72 hl (k := 6) rfl (congrArg (fun z => z13 + z) (by decide)) (by decide) rfl (fun ls hl => ?_)
                refine lv_goto (tgt := 19) hx hb dX0_rootTargets_75 (by decide) ?_
                obtain rfl := Option.some.inj hf
                exact hxlq11 _ rfl H locs ls hR hS (lv_sub hl [1, 2, 3, 4, 5, 6, 0] rfl)
              · rw [if_neg c29] at hf
                refine lv_iload hx hb dX0_rootTargets_63 (lv_at hl 5 rfl) ?_
                refine lv_iconst (v := 1) hx hb dX0_rootTargets_65 (by decide) ?_
                refine lv_iload hx hb dX0_rootTargets_66 (lv_at hl 6 rfl) ?_
                refine lv_ishl hx hb dX0_rootTargets_68 ?_
                refine lv_ior hx hb dX0_rootTargets_69 ?_
                refine lv_istore (lv' := [(5, .int (z12 ||| ((1 : Int32) <<< (z13 &&& 31)))), (0, .ref (B + x0)), (1, .ref (B + x1)), (2, .ref (B + x2)), (3, .int x3), (4, .int z6), (6, .int z13)]) hx hb dX0_rootTargets_70 hl (by decide) rfl (fun ls hl => ?_)
                refine lv_iinc (v := (z13 + 1)) (lv' := [(6, .int (z13 + 1)), (5, .int (z12 ||| ((1 : Int32) <<< (z13 &&& 31)))), (0, .ref (B + x0)), (1, .ref (B + x1)), (2, .ref (B + x2)), (3, .int x3), (4, .int z6)]) hx hb dX0_rootTargets_72 hl (k := 6) rfl (congrArg (fun z => z13 + z) (by decide)) (by decide) rfl (fun ls hl => ?_)
                refine lv_goto (tgt := 19) hx hb dX0_rootTargets_75 (by decide) ?_
                obtain rfl := Option.some.inj hf
                exact hxlq11 _ rfl H locs ls hR hS (lv_sub hl [2, 3, 4, 5, 6, 1, 0] rfl)
      · intro H locs ls hR hS hl
        refine lv_aload_n hx hb dX0_rootTargets_78 rfl (lv_at hl 0 rfl) ?_
        obtain ⟨v30, g31, hf⟩ := ob hf
        refine gR_X0_9 X hR g31 dX0_rootTargets_79 ?_
        refine lv_iload hx hb dX0_rootTargets_82 (lv_at hl 4 rfl) ?_
        refine lv_iload hx hb dX0_rootTargets_84 (lv_at hl 5 rfl) ?_
        obtain ⟨m32, g33, hf⟩ := ob hf
        refine r_sI X hR hS g33 dX0_rootTargets_86 (fun H locs hR hS => ?_)
        refine lv_iinc (v := (z6 + (-1))) (lv' := [(4, .int (z6 + (-1))), (0, .ref (B + x0)), (1, .ref (B + x1)), (2, .ref (B + x2)), (3, .int x3), (5, .int e10)]) hx hb dX0_rootTargets_87 hl (k := 4) rfl (congrArg (fun z => z6 + z) (by decide)) (by decide) rfl (fun ls hl => ?_)
        refine lv_goto (tgt := 8) hx hb dX0_rootTargets_90 (by decide) ?_
        obtain rfl := Option.some.inj hf
        exact hxlq5 _ rfl H locs ls hR hS (lv_sub hl [1, 2, 3, 4, 0] rfl)
  · intro H locs ls hR hS hl
    refine lv_aload_n hx hb dX0_rootTargets_93 rfl (lv_at hl 0 rfl) ?_
    obtain ⟨v34, g35, hf⟩ := ob hf
    refine gR_X0_9 X hR g35 dX0_rootTargets_94 ?_
    refine lv_iconst (v := 0) hx hb dX0_rootTargets_97 (by decide) ?_
    obtain ⟨v36, g37, hf⟩ := ob hf
    refine r_lI X hR g37 dX0_rootTargets_98 ?_
    obtain ⟨rfl, rfl⟩ := Prod.mk.inj (Option.some.inj hf)
    exact r_iret X hr hlocks hR hS rfl dX0_rootTargets_99
/-! ===== TwigMatches.fitting(LTwigMatches$Tree;LTwigMatches$Twig;I)I ===== -/
theorem dX7_fitting_0 : decode cX7_fitting 0 = .ok (.aload_n 1, 1) := by decide +kernel
theorem dX7_fitting_1 : decode cX7_fitting 1 = .ok (.getfield 277, 3) := by decide +kernel
theorem dX7_fitting_4 : decode cX7_fitting 4 = .ok (.iload_n 2, 1) := by decide +kernel
theorem dX7_fitting_5 : decode cX7_fitting 5 = .ok (.iaload, 1) := by decide +kernel
theorem dX7_fitting_6 : decode cX7_fitting 6 = .ok (.istore_n 3, 1) := by decide +kernel
theorem dX7_fitting_7 : decode cX7_fitting 7 = .ok (.aload_n 1, 1) := by decide +kernel
theorem dX7_fitting_8 : decode cX7_fitting 8 = .ok (.iload_n 2, 1) := by decide +kernel
theorem dX7_fitting_9 : decode cX7_fitting 9 = .ok (.invokevirtual 278, 3) := by decide +kernel
theorem dX7_fitting_12 : decode cX7_fitting 12 = .ok (.istore 4, 2) := by decide +kernel
theorem dX7_fitting_14 : decode cX7_fitting 14 = .ok (.iconst 0, 1) := by decide +kernel
theorem dX7_fitting_15 : decode cX7_fitting 15 = .ok (.istore 5, 2) := by decide +kernel
theorem dX7_fitting_17 : decode cX7_fitting 17 = .ok (.iconst 0, 1) := by decide +kernel
theorem dX7_fitting_18 : decode cX7_fitting 18 = .ok (.istore 6, 2) := by decide +kernel
theorem dX7_fitting_20 : decode cX7_fitting 20 = .ok (.iload 6, 2) := by decide +kernel
theorem dX7_fitting_22 : decode cX7_fitting 22 = .ok (.aload_n 0, 1) := by decide +kernel
theorem dX7_fitting_23 : decode cX7_fitting 23 = .ok (.getfield 110, 3) := by decide +kernel
theorem dX7_fitting_26 : decode cX7_fitting 26 = .ok (.if_icmp .ge 50, 3) := by decide +kernel
theorem dX7_fitting_29 : decode cX7_fitting 29 = .ok (.iload_n 3, 1) := by decide +kernel
theorem dX7_fitting_30 : decode cX7_fitting 30 = .ok (.bipush 6, 2) := by decide +kernel
theorem dX7_fitting_32 : decode cX7_fitting 32 = .ok (.if_icmp .eq 14, 3) := by decide +kernel
theorem dX7_fitting_35 : decode cX7_fitting 35 = .ok (.iload_n 3, 1) := by decide +kernel
theorem dX7_fitting_36 : decode cX7_fitting 36 = .ok (.aload_n 0, 1) := by decide +kernel
theorem dX7_fitting_37 : decode cX7_fitting 37 = .ok (.getfield 130, 3) := by decide +kernel
theorem dX7_fitting_40 : decode cX7_fitting 40 = .ok (.iload 6, 2) := by decide +kernel
theorem dX7_fitting_42 : decode cX7_fitting 42 = .ok (.iaload, 1) := by decide +kernel
theorem dX7_fitting_43 : decode cX7_fitting 43 = .ok (.if_icmp .ne 27, 3) := by decide +kernel
theorem dX7_fitting_46 : decode cX7_fitting 46 = .ok (.iload 4, 2) := by decide +kernel
theorem dX7_fitting_48 : decode cX7_fitting 48 = .ok (.aload_n 0, 1) := by decide +kernel
theorem dX7_fitting_49 : decode cX7_fitting 49 = .ok (.getfield 133, 3) := by decide +kernel
theorem dX7_fitting_52 : decode cX7_fitting 52 = .ok (.iload 6, 2) := by decide +kernel
theorem dX7_fitting_54 : decode cX7_fitting 54 = .ok (.iaload, 1) := by decide +kernel
theorem dX7_fitting_55 : decode cX7_fitting 55 = .ok (.invokestatic 281, 3) := by decide +kernel
theorem dX7_fitting_58 : decode cX7_fitting 58 = .ok (.ifCond .eq 12, 3) := by decide +kernel
theorem dX7_fitting_61 : decode cX7_fitting 61 = .ok (.iload 5, 2) := by decide +kernel
theorem dX7_fitting_63 : decode cX7_fitting 63 = .ok (.iconst 1, 1) := by decide +kernel
theorem dX7_fitting_64 : decode cX7_fitting 64 = .ok (.iload 6, 2) := by decide +kernel
theorem dX7_fitting_66 : decode cX7_fitting 66 = .ok (.ishl, 1) := by decide +kernel
theorem dX7_fitting_67 : decode cX7_fitting 67 = .ok (.ior, 1) := by decide +kernel
theorem dX7_fitting_68 : decode cX7_fitting 68 = .ok (.istore 5, 2) := by decide +kernel
theorem dX7_fitting_70 : decode cX7_fitting 70 = .ok (.iinc 6 1, 3) := by decide +kernel
theorem dX7_fitting_73 : decode cX7_fitting 73 = .ok (.goto (-53), 3) := by decide +kernel
theorem dX7_fitting_76 : decode cX7_fitting 76 = .ok (.iload 5, 2) := by decide +kernel
theorem dX7_fitting_78 : decode cX7_fitting 78 = .ok (.ireturn, 1) := by decide +kernel
set_option maxHeartbeats 4000000 in
set_option maxRecDepth 100000 in
theorem c_X7_fitting (l : Launch) (B : Nat) (D : va_G) (cA : Nat → ClassId) (m : Mm) (x0 : Nat) (x1 : Nat) (x2 : Int32) (rZ : Int32) (hf : f_X7_fitting m x0 x1 x2 = some rZ) : Mt l B D cA yX7_fitting cX7_fitting 7 (some .int) 1 22 0 0 [.ref (B + x0), .ref (B + x1), .int x2] m (some (.int rZ)) m := by
  refine r_start (by decide) (Nat.le_of_ble_eq_true rfl) ?_
  intro p e s mt args below meth c ls H locs X hr hlocks hnm hR hl hS
  have hx := X.1
  have hb := X.2.1
  have hl : lv_has ls 7 [(0, .ref (B + x0)), (1, .ref (B + x1)), (2, .int x2)] := hl
  unfold f_X7_fitting at hf
  refine lv_aload_n hx hb dX7_fitting_0 rfl (lv_at hl 1 rfl) ?_
  obtain ⟨v1, g2, hf⟩ := ob hf
  refine gR_X7_277 X hR g2 dX7_fitting_1 ?_
  refine lv_iload_n hx hb dX7_fitting_4 rfl (lv_at hl 2 rfl) ?_
  obtain ⟨v3, g4, hf⟩ := ob hf
  refine r_lI X hR g4 dX7_fitting_5 ?_
  refine lv_istore_n (lv' := [(3, .int v3), (0, .ref (B + x0)), (1, .ref (B + x1)), (2, .int x2)]) hx hb dX7_fitting_6 rfl hl (by decide) rfl (fun ls hl => ?_)
  refine lv_aload_n hx hb dX7_fitting_7 rfl (lv_at hl 2 rfl) ?_
  refine lv_iload_n hx hb dX7_fitting_8 rfl (lv_at hl 3 rfl) ?_
  obtain ⟨o5, h6, hf⟩ := obO hf
  obtain ⟨v8, g7, hf⟩ := ob hf
  refine r_callV X kw_X7_278 (ci := 5) rfl (c_X5_passing l B D cA m x1 x2 v8 g7) ⟨Nat.le_of_ble_eq_true rfl, Nat.le_of_ble_eq_true rfl⟩ h6 hR hS hl.1 rfl rfl (Nat.le_of_ble_eq_true rfl) ⟨Nat.le_of_ble_eq_true rfl, Nat.le_of_ble_eq_true rfl⟩ dX7_fitting_9 (fun H locs hR hS => ?_)
  refine W.eq (g2 := F0 mt 12 ls [.int v8]) rfl ?_
  refine lv_istore (lv' := [(4, .int v8), (3, .int v3), (0, .ref (B + x0)), (1, .ref (B + x1)), (2, .int x2)]) hx hb dX7_fitting_12 hl (by decide) rfl (fun ls hl => ?_)
  refine lv_iconst (v := 0) hx hb dX7_fitting_14 (by decide) ?_
  refine lv_istore (lv' := [(5, .int (0 : Int32)), (4, .int v8), (3, .int v3), (0, .ref (B + x0)), (1, .ref (B + x1)), (2, .int x2)]) hx hb dX7_fitting_15 hl (by decide) rfl (fun ls hl => ?_)
  refine lv_iconst (v := 0) hx hb dX7_fitting_17 (by decide) ?_
  refine lv_istore (lv' := [(6, .int (0 : Int32)), (5, .int (0 : Int32)), (4, .int v8), (3, .int v3), (0, .ref (B + x0)), (1, .ref (B + x1)), (2, .int x2)]) hx hb dX7_fitting_18 hl (by decide) rfl (fun ls hl => ?_)
  obtain ⟨e10, hwe10, hf⟩ := ob hf
  refine whl_rule (P := (fun t9 => ∀ (H : Heap) (locs : List Loc) (ls : Array Slot), Rl B D cA m H → va_S (fun q => B ≤ q) s.heap H locs → lv_has ls 7 [(0, .ref (B + x0)), (3, .int v3), (4, .int v8), (5, .int t9.1), (6, .int t9.2)] → W p l e (rmm 1 0 0 22) s mt args below meth c H locs 0 0 (MQ below (mQ B D cA (some (.int rZ)) m) args s 0 0 (fun q => B ≤ q)) (F0 mt 20 ls []))) (Qx := (fun e10 => ∀ (H : Heap) (locs : List Loc) (ls : Array Slot), Rl B D cA m H → va_S (fun q => B ≤ q) s.heap H locs → lv_has ls 7 [(5, .int e10)] → W p l e (rmm 1 0 0 22) s mt args below meth c H locs 0 0 (MQ below (mQ B D cA (some (.int rZ)) m) args s 0 0 (fun q => B ≤ q)) (F0 mt 76 ls []))) ?_ FU _ e10 hwe10 ?_ H locs ls hR hS (lv_sub hl [4, 3, 2, 1, 0] rfl)
  · clear hwe10 hf
    intro t9 q11 hf hxlq11 hxrq11 H locs ls hR hS hl
    obtain ⟨z12, z13⟩ := t9
    have hf : f_X7_fitting_L20 m x0 v3 v8 z12 z13 = some q11 := hf
    have hR : Rl B D cA m H := hR
    have hl : lv_has ls 7 [(0, .ref (B + x0)), (3, .int v3), (4, .int v8), (5, .int z12), (6, .int z13)] := hl
    unfold f_X7_fitting_L20 at hf
    refine lv_iload hx hb dX7_fitting_20 (lv_at hl 4 rfl) ?_
    refine lv_aload_n hx hb dX7_fitting_22 rfl (lv_at hl 0 rfl) ?_
    obtain ⟨v14, g15, hf⟩ := ob hf
    refine gI_X7_110 X hR g15 dX7_fitting_23 ?_
    refine lv_icmp_ge (tgt := 76) hx hb dX7_fitting_26 (by decide) (fun c16 => ?_) (fun c16 => ?_)
    · rw [if_pos c16] at hf
      obtain rfl := Option.some.inj hf
      exact hxrq11 _ rfl H locs ls hR hS (lv_sub hl [3] rfl)
    · rw [if_neg c16] at hf
      refine lv_iload_n hx hb dX7_fitting_29 rfl (lv_at hl 1 rfl) ?_
      refine lv_bipush (v := 6) hx hb dX7_fitting_30 (by decide) ?_
      have hJ46 : ∀  (H : Heap) (locs : List Loc) (ls : Array Slot), f_X7_fitting_J46 m x0 v3 v8 z12 z13 = some q11 → Rl B D cA m H → va_S (fun q => B ≤ q) s.heap H locs → lv_has ls 7 [(0, .ref (B + x0)), (3, .int v3), (4, .int v8), (5, .int z12), (6, .int z13)] → W p l e (rmm 1 0 0 22) s mt args below meth c H locs 0 0 (MQ below (mQ B D cA (some (.int rZ)) m) args s 0 0 (fun q => B ≤ q)) (F0 mt 46 ls []) := by
        intro  H locs ls hf hR hS hl
        unfold f_X7_fitting_J46 at hf
        refine lv_iload hx hb dX7_fitting_46 (lv_at hl 2 rfl) ?_
        refine lv_aload_n hx hb dX7_fitting_48 rfl (lv_at hl 0 rfl) ?_
        obtain ⟨v17, g18, hf⟩ := ob hf
        refine gR_X7_133 X hR g18 dX7_fitting_49 ?_
        refine lv_iload hx hb dX7_fitting_52 (lv_at hl 4 rfl) ?_
        obtain ⟨v19, g20, hf⟩ := ob hf
        refine r_lI X hR g20 dX7_fitting_54 ?_
        obtain ⟨v22, g21, hf⟩ := ob hf
        refine r_callS X kw_X7_281 (c_X7_holds l B D cA m v8 v19 v22 g21) ⟨Nat.le_of_ble_eq_true rfl, Nat.le_of_ble_eq_true rfl⟩ hR hS hl.1 rfl rfl (Nat.le_of_ble_eq_true rfl) ⟨Nat.le_of_ble_eq_true rfl, Nat.le_of_ble_eq_true rfl⟩ dX7_fitting_55 (fun H locs hR hS => ?_)
        refine W.eq (g2 := F0 mt 58 ls [.int v22]) rfl ?_
        refine lv_if_eq (tgt := 70) hx hb dX7_fitting_58 (by decide) (fun c23 => ?_) (fun c23 => ?_)
        · rw [if_pos c23] at hf
          refine lv_iinc (v := (z13 + 1)) (lv' := [(6, .int (z13 + 1)), (0, .ref (B + x0)), (3, .int v3), (4, .int v8), (5, .int z12)]) hx hb dX7_fitting_70 hl (k := 4) rfl (congrArg (fun z => z13 + z) (by decide)) (by decide) rfl (fun ls hl => ?_)
          refine lv_goto (tgt := 20) hx hb dX7_fitting_73 (by decide) ?_
          obtain rfl := Option.some.inj hf
          exact hxlq11 _ rfl H locs ls hR hS (lv_sub hl [1, 2, 3, 4, 0] rfl)
        · rw [if_neg c23] at hf
          refine lv_iload hx hb dX7_fitting_61 (lv_at hl 3 rfl) ?_
          refine lv_iconst (v := 1) hx hb dX7_fitting_63 (by decide) ?_
          refine lv_iload hx hb dX7_fitting_64 (lv_at hl 4 rfl) ?_
          refine lv_ishl hx hb dX7_fitting_66 ?_
          refine lv_ior hx hb dX7_fitting_67 ?_
          refine lv_istore (lv' := [(5, .int (z12 ||| ((1 : Int32) <<< (z13 &&& 31)))), (0, .ref (B + x0)), (3, .int v3), (4, .int v8), (6, .int z13)]) hx hb dX7_fitting_68 hl (by decide) rfl (fun ls hl => ?_)
          refine lv_iinc (v := (z13 + 1)) (lv' := [(6, .int (z13 + 1)), (5, .int (z12 ||| ((1 : Int32) <<< (z13 &&& 31)))), (0, .ref (B + x0)), (3, .int v3), (4, .int v8)]) hx hb dX7_fitting_70 hl (k := 4) rfl (congrArg (fun z => z13 + z) (by decide)) (by decide) rfl (fun ls hl => ?_)
          refine lv_goto (tgt := 20) hx hb dX7_fitting_73 (by decide) ?_
          obtain rfl := Option.some.inj hf
          exact hxlq11 _ rfl H locs ls hR hS (lv_sub hl [2, 3, 4, 1, 0] rfl)
      refine lv_icmp_eq (tgt := 46) hx hb dX7_fitting_32 (by decide) (fun c24 => ?_) (fun c24 => ?_)
      · rw [if_pos c24] at hf
        exact hJ46  H locs ls hf hR hS (lv_sub hl [0, 1, 2, 3, 4] rfl)
      · rw [if_neg c24] at hf
        refine lv_iload_n hx hb dX7_fitting_35 rfl (lv_at hl 1 rfl) ?_
        refine lv_aload_n hx hb dX7_fitting_36 rfl (lv_at hl 0 rfl) ?_
        obtain ⟨v25, g26, hf⟩ := ob hf
        refine gR_X7_130 X hR g26 dX7_fitting_37 ?_
        refine lv_iload hx hb dX7_fitting_40 (lv_at hl 4 rfl) ?_
        obtain ⟨v27, g28, hf⟩ := ob hf
        refine r_lI X hR g28 dX7_fitting_42 ?_
        refine lv_icmp_ne (tgt := 70) hx hb dX7_fitting_43 (by decide) (fun c29 => ?_) (fun c29 => ?_)
        · rw [if_neg c29] at hf
          refine lv_iinc (v := (z13 + 1)) (lv' := [(6, .int (z13 + 1)), (0, .ref (B + x0)), (3, .int v3), (4, .int v8), (5, .int z12)]) hx hb dX7_fitting_70 hl (k := 4) rfl (congrArg (fun z => z13 + z) (by decide)) (by decide) rfl (fun ls hl => ?_)
          refine lv_goto (tgt := 20) hx hb dX7_fitting_73 (by decide) ?_
          obtain rfl := Option.some.inj hf
          exact hxlq11 _ rfl H locs ls hR hS (lv_sub hl [1, 2, 3, 4, 0] rfl)
        · rw [if_pos c29] at hf
          exact hJ46  H locs ls hf hR hS (lv_sub hl [0, 1, 2, 3, 4] rfl)
  · intro H locs ls hR hS hl
    refine lv_iload hx hb dX7_fitting_76 (lv_at hl 0 rfl) ?_
    obtain rfl := Option.some.inj hf
    exact r_iret X hr hlocks hR hS rfl dX7_fitting_78
/-! ===== TwigMatches$Matcher.open(LTwigMatches$Twig;)V ===== -/
theorem dX1_open_0 : decode cX1_open 0 = .ok (.aload_n 0, 1) := by decide +kernel
theorem dX1_open_1 : decode cX1_open 1 = .ok (.aload_n 1, 1) := by decide +kernel
theorem dX1_open_2 : decode cX1_open 2 = .ok (.putfield 40, 3) := by decide +kernel
theorem dX1_open_5 : decode cX1_open 5 = .ok (.iconst 0, 1) := by decide +kernel
theorem dX1_open_6 : decode cX1_open 6 = .ok (.istore_n 2, 1) := by decide +kernel
theorem dX1_open_7 : decode cX1_open 7 = .ok (.iload_n 2, 1) := by decide +kernel
theorem dX1_open_8 : decode cX1_open 8 = .ok (.aload_n 0, 1) := by decide +kernel
theorem dX1_open_9 : decode cX1_open 9 = .ok (.getfield 40, 3) := by decide +kernel
theorem dX1_open_12 : decode cX1_open 12 = .ok (.getfield 44, 3) := by decide +kernel
theorem dX1_open_15 : decode cX1_open 15 = .ok (.if_icmp .ge 27, 3) := by decide +kernel
theorem dX1_open_18 : decode cX1_open 18 = .ok (.aload_n 0, 1) := by decide +kernel
theorem dX1_open_19 : decode cX1_open 19 = .ok (.getfield 9, 3) := by decide +kernel
theorem dX1_open_22 : decode cX1_open 22 = .ok (.iload_n 2, 1) := by decide +kernel
theorem dX1_open_23 : decode cX1_open 23 = .ok (.aload_n 0, 1) := by decide +kernel
theorem dX1_open_24 : decode cX1_open 24 = .ok (.getfield 36, 3) := by decide +kernel
theorem dX1_open_27 : decode cX1_open 27 = .ok (.aload_n 0, 1) := by decide +kernel
theorem dX1_open_28 : decode cX1_open 28 = .ok (.getfield 40, 3) := by decide +kernel
theorem dX1_open_31 : decode cX1_open 31 = .ok (.iload_n 2, 1) := by decide +kernel
theorem dX1_open_32 : decode cX1_open 32 = .ok (.invokestatic 50, 3) := by decide +kernel
theorem dX1_open_35 : decode cX1_open 35 = .ok (.iastore, 1) := by decide +kernel
theorem dX1_open_36 : decode cX1_open 36 = .ok (.iinc 2 1, 3) := by decide +kernel
theorem dX1_open_39 : decode cX1_open 39 = .ok (.goto (-32), 3) := by decide +kernel
theorem dX1_open_42 : decode cX1_open 42 = .ok (.return_, 1) := by decide +kernel
set_option maxHeartbeats 4000000 in
set_option maxRecDepth 100000 in
theorem c_X1_open (l : Launch) (B : Nat) (D : va_G) (cA : Nat → ClassId) (m : Mm) (x0 : Nat) (x1 : Nat) (mZ : Mm) (hf : f_X1_open m x0 x1 = some mZ) : Mt l B D cA yX1_open cX1_open 3 none 2 48 0 0 [.ref (B + x0), .ref (B + x1)] m none mZ := by
  refine r_start (by decide) (Nat.le_of_ble_eq_true rfl) ?_
  intro p e s mt args below meth c ls H locs X hr hlocks hnm hR hl hS
  have hx := X.1
  have hb := X.2.1
  have hl : lv_has ls 3 [(0, .ref (B + x0)), (1, .ref (B + x1))] := hl
  unfold f_X1_open at hf
  refine lv_aload_n hx hb dX1_open_0 rfl (lv_at hl 0 rfl) ?_
  refine lv_aload_n hx hb dX1_open_1 rfl (lv_at hl 1 rfl) ?_
  obtain ⟨m1, g2, hf⟩ := ob hf
  refine pR_X1_40 X hR hS g2 dX1_open_2 (fun H locs hR hS => ?_)
  refine lv_iconst (v := 0) hx hb dX1_open_5 (by decide) ?_
  refine lv_istore_n (lv' := [(2, .int (0 : Int32)), (0, .ref (B + x0)), (1, .ref (B + x1))]) hx hb dX1_open_6 rfl hl (by decide) rfl (fun ls hl => ?_)
  obtain ⟨e4, hwe4, hf⟩ := ob hf
  refine whl_rule (P := (fun t3 => ∀ (H : Heap) (locs : List Loc) (ls : Array Slot), Rl B D cA t3.2 H → va_S (fun q => B ≤ q) s.heap H locs → lv_has ls 3 [(0, .ref (B + x0)), (2, .int t3.1)] → W p l e (rmm 2 0 0 48) s mt args below meth c H locs 0 0 (MQ below (mQ B D cA none mZ) args s 0 0 (fun q => B ≤ q)) (F0 mt 7 ls []))) (Qx := (fun e4 => ∀ (H : Heap) (locs : List Loc) (ls : Array Slot), Rl B D cA e4 H → va_S (fun q => B ≤ q) s.heap H locs → lv_has ls 3 [] → W p l e (rmm 2 0 0 48) s mt args below meth c H locs 0 0 (MQ below (mQ B D cA none mZ) args s 0 0 (fun q => B ≤ q)) (F0 mt 42 ls []))) ?_ FU _ e4 hwe4 ?_ H locs ls hR hS (lv_sub hl [1, 0] rfl)
  · clear hwe4 hf
    intro t3 q5 hf hxlq5 hxrq5 H locs ls hR hS hl
    obtain ⟨z6, m7⟩ := t3
    have hf : f_X1_open_L7 m7 x0 z6 = some q5 := hf
    have hR : Rl B D cA m7 H := hR
    have hl : lv_has ls 3 [(0, .ref (B + x0)), (2, .int z6)] := hl
    unfold f_X1_open_L7 at hf
    refine lv_iload_n hx hb dX1_open_7 rfl (lv_at hl 1 rfl) ?_
    refine lv_aload_n hx hb dX1_open_8 rfl (lv_at hl 0 rfl) ?_
    obtain ⟨v8, g9, hf⟩ := ob hf
    refine gR_X1_40 X hR g9 dX1_open_9 ?_
    obtain ⟨v10, g11, hf⟩ := ob hf
    refine gI_X1_44 X hR g11 dX1_open_12 ?_
    refine lv_icmp_ge (tgt := 42) hx hb dX1_open_15 (by decide) (fun c12 => ?_) (fun c12 => ?_)
    · rw [if_pos c12] at hf
      obtain rfl := Option.some.inj hf
      exact hxrq5 _ rfl H locs ls hR hS (lv_sub hl [] rfl)
    · rw [if_neg c12] at hf
      refine lv_aload_n hx hb dX1_open_18 rfl (lv_at hl 0 rfl) ?_
      obtain ⟨v13, g14, hf⟩ := ob hf
      refine gR_X1_9 X hR g14 dX1_open_19 ?_
      refine lv_iload_n hx hb dX1_open_22 rfl (lv_at hl 1 rfl) ?_
      refine lv_aload_n hx hb dX1_open_23 rfl (lv_at hl 0 rfl) ?_
      obtain ⟨v15, g16, hf⟩ := ob hf
      refine gR_X1_36 X hR g16 dX1_open_24 ?_
      refine lv_aload_n hx hb dX1_open_27 rfl (lv_at hl 0 rfl) ?_
      obtain ⟨v17, g18, hf⟩ := ob hf
      refine gR_X1_40 X hR g18 dX1_open_28 ?_
      refine lv_iload_n hx hb dX1_open_31 rfl (lv_at hl 1 rfl) ?_
      obtain ⟨v20, g19, hf⟩ := ob hf
      refine r_callSN X kw_X1_50 (c_X7_fitting l B D cA m7 v15 v17 z6 v20 g19) ⟨Nat.le_of_ble_eq_true rfl, Nat.le_of_ble_eq_true rfl⟩ hR hS hl.1 rfl rfl (Nat.le_of_ble_eq_true rfl) ⟨Nat.le_of_ble_eq_true rfl, Nat.le_of_ble_eq_true rfl⟩ dX1_open_32 (fun H locs hR hS => ?_)
      refine W.eq (g2 := F0 mt 35 ls [.int v20, .int z6, .ref (B + v13)]) rfl ?_
      obtain ⟨m21, g22, hf⟩ := ob hf
      refine r_sI X hR hS g22 dX1_open_35 (fun H locs hR hS => ?_)
      refine lv_iinc (v := (z6 + 1)) (lv' := [(2, .int (z6 + 1)), (0, .ref (B + x0))]) hx hb dX1_open_36 hl (k := 1) rfl (congrArg (fun z => z6 + z) (by decide)) (by decide) rfl (fun ls hl => ?_)
      refine lv_goto (tgt := 7) hx hb dX1_open_39 (by decide) ?_
      obtain rfl := Option.some.inj hf
      exact hxlq5 _ rfl H locs ls hR hS (lv_sub hl [1, 0] rfl)
  · intro H locs ls hR hS hl
    obtain rfl := Option.some.inj hf
    exact r_vret X hr hlocks hR hS dX1_open_42
/-! ===== TwigMatches$Matcher.hide(I)V ===== -/
theorem dX1_hide_0 : decode cX1_hide 0 = .ok (.iconst 0, 1) := by decide +kernel
theorem dX1_hide_1 : decode cX1_hide 1 = .ok (.istore_n 2, 1) := by decide +kernel
theorem dX1_hide_2 : decode cX1_hide 2 = .ok (.iload_n 2, 1) := by decide +kernel
theorem dX1_hide_3 : decode cX1_hide 3 = .ok (.aload_n 0, 1) := by decide +kernel
theorem dX1_hide_4 : decode cX1_hide 4 = .ok (.getfield 40, 3) := by decide +kernel
theorem dX1_hide_7 : decode cX1_hide 7 = .ok (.getfield 44, 3) := by decide +kernel
theorem dX1_hide_10 : decode cX1_hide 10 = .ok (.if_icmp .ge 21, 3) := by decide +kernel
theorem dX1_hide_13 : decode cX1_hide 13 = .ok (.aload_n 0, 1) := by decide +kernel
theorem dX1_hide_14 : decode cX1_hide 14 = .ok (.getfield 9, 3) := by decide +kernel
theorem dX1_hide_17 : decode cX1_hide 17 = .ok (.iload_n 2, 1) := by decide +kernel
theorem dX1_hide_18 : decode cX1_hide 18 = .ok (.dup2, 1) := by decide +kernel
theorem dX1_hide_19 : decode cX1_hide 19 = .ok (.iaload, 1) := by decide +kernel
theorem dX1_hide_20 : decode cX1_hide 20 = .ok (.iload_n 1, 1) := by decide +kernel
theorem dX1_hide_21 : decode cX1_hide 21 = .ok (.iconst (-1), 1) := by decide +kernel
theorem dX1_hide_22 : decode cX1_hide 22 = .ok (.ixor, 1) := by decide +kernel
theorem dX1_hide_23 : decode cX1_hide 23 = .ok (.iand, 1) := by decide +kernel
theorem dX1_hide_24 : decode cX1_hide 24 = .ok (.iastore, 1) := by decide +kernel
theorem dX1_hide_25 : decode cX1_hide 25 = .ok (.iinc 2 1, 3) := by decide +kernel
theorem dX1_hide_28 : decode cX1_hide 28 = .ok (.goto (-26), 3) := by decide +kernel
theorem dX1_hide_31 : decode cX1_hide 31 = .ok (.return_, 1) := by decide +kernel
set_option maxHeartbeats 4000000 in
set_option maxRecDepth 100000 in
theorem c_X1_hide (l : Launch) (B : Nat) (D : va_G) (cA : Nat → ClassId) (m : Mm) (x0 : Nat) (x1 : Int32) (mZ : Mm) (hf : f_X1_hide m x0 x1 = some mZ) : Mt l B D cA yX1_hide cX1_hide 3 none 0 0 0 0 [.ref (B + x0), .int x1] m none mZ := by
  refine r_start (by decide) (Nat.le_of_ble_eq_true rfl) ?_
  intro p e s mt args below meth c ls H locs X hr hlocks hnm hR hl hS
  have hx := X.1
  have hb := X.2.1
  have hl : lv_has ls 3 [(0, .ref (B + x0)), (1, .int x1)] := hl
  unfold f_X1_hide at hf
  refine lv_iconst (v := 0) hx hb dX1_hide_0 (by decide) ?_
  refine lv_istore_n (lv' := [(2, .int (0 : Int32)), (0, .ref (B + x0)), (1, .int x1)]) hx hb dX1_hide_1 rfl hl (by decide) rfl (fun ls hl => ?_)
  obtain ⟨e2, hwe2, hf⟩ := ob hf
  refine whl_rule (P := (fun t1 => ∀ (H : Heap) (locs : List Loc) (ls : Array Slot), Rl B D cA t1.2 H → va_S (fun q => B ≤ q) s.heap H locs → lv_has ls 3 [(0, .ref (B + x0)), (1, .int x1), (2, .int t1.1)] → W p l e (rmm 0 0 0 0) s mt args below meth c H locs 0 0 (MQ below (mQ B D cA none mZ) args s 0 0 (fun q => B ≤ q)) (F0 mt 2 ls []))) (Qx := (fun e2 => ∀ (H : Heap) (locs : List Loc) (ls : Array Slot), Rl B D cA e2 H → va_S (fun q => B ≤ q) s.heap H locs → lv_has ls 3 [] → W p l e (rmm 0 0 0 0) s mt args below meth c H locs 0 0 (MQ below (mQ B D cA none mZ) args s 0 0 (fun q => B ≤ q)) (F0 mt 31 ls []))) ?_ FU _ e2 hwe2 ?_ H locs ls hR hS (lv_sub hl [1, 2, 0] rfl)
  · clear hwe2 hf
    intro t1 q3 hf hxlq3 hxrq3 H locs ls hR hS hl
    obtain ⟨z4, m5⟩ := t1
    have hf : f_X1_hide_L2 m5 x0 x1 z4 = some q3 := hf
    have hR : Rl B D cA m5 H := hR
    have hl : lv_has ls 3 [(0, .ref (B + x0)), (1, .int x1), (2, .int z4)] := hl
    unfold f_X1_hide_L2 at hf
    refine lv_iload_n hx hb dX1_hide_2 rfl (lv_at hl 2 rfl) ?_
    refine lv_aload_n hx hb dX1_hide_3 rfl (lv_at hl 0 rfl) ?_
    obtain ⟨v6, g7, hf⟩ := ob hf
    refine gR_X1_40 X hR g7 dX1_hide_4 ?_
    obtain ⟨v8, g9, hf⟩ := ob hf
    refine gI_X1_44 X hR g9 dX1_hide_7 ?_
    refine lv_icmp_ge (tgt := 31) hx hb dX1_hide_10 (by decide) (fun c10 => ?_) (fun c10 => ?_)
    · rw [if_pos c10] at hf
      obtain rfl := Option.some.inj hf
      exact hxrq3 _ rfl H locs ls hR hS (lv_sub hl [] rfl)
    · rw [if_neg c10] at hf
      refine lv_aload_n hx hb dX1_hide_13 rfl (lv_at hl 0 rfl) ?_
      obtain ⟨v11, g12, hf⟩ := ob hf
      refine gR_X1_9 X hR g12 dX1_hide_14 ?_
      refine lv_iload_n hx hb dX1_hide_17 rfl (lv_at hl 2 rfl) ?_
      refine lv_dup2_11 hx hb dX1_hide_18 rfl rfl ?_
      obtain ⟨v13, g14, hf⟩ := ob hf
      refine r_lI X hR g14 dX1_hide_19 ?_
      refine lv_iload_n hx hb dX1_hide_20 rfl (lv_at hl 1 rfl) ?_
      refine lv_iconst (v := -1) hx hb dX1_hide_21 (by decide) ?_
      refine lv_ixor hx hb dX1_hide_22 ?_
      refine lv_iand hx hb dX1_hide_23 ?_
      obtain ⟨m15, g16, hf⟩ := ob hf
      refine r_sI X hR hS g16 dX1_hide_24 (fun H locs hR hS => ?_)
      refine lv_iinc (v := (z4 + 1)) (lv' := [(2, .int (z4 + 1)), (0, .ref (B + x0)), (1, .int x1)]) hx hb dX1_hide_25 hl (k := 2) rfl (congrArg (fun z => z4 + z) (by decide)) (by decide) rfl (fun ls hl => ?_)
      refine lv_goto (tgt := 2) hx hb dX1_hide_28 (by decide) ?_
      obtain rfl := Option.some.inj hf
      exact hxlq3 _ rfl H locs ls hR hS (lv_sub hl [1, 2, 0] rfl)
  · intro H locs ls hR hS hl
    obtain rfl := Option.some.inj hf
    exact r_vret X hr hlocks hR hS dX1_hide_31
/-! ===== TwigMatches$Matcher.pin(II)V ===== -/
theorem dX1_pin_0 : decode cX1_pin 0 = .ok (.aload_n 0, 1) := by decide +kernel
theorem dX1_pin_1 : decode cX1_pin 1 = .ok (.getfield 9, 3) := by decide +kernel
theorem dX1_pin_4 : decode cX1_pin 4 = .ok (.iload_n 1, 1) := by decide +kernel
theorem dX1_pin_5 : decode cX1_pin 5 = .ok (.dup2, 1) := by decide +kernel
theorem dX1_pin_6 : decode cX1_pin 6 = .ok (.iaload, 1) := by decide +kernel
theorem dX1_pin_7 : decode cX1_pin 7 = .ok (.iconst 1, 1) := by decide +kernel
theorem dX1_pin_8 : decode cX1_pin 8 = .ok (.iload_n 2, 1) := by decide +kernel
theorem dX1_pin_9 : decode cX1_pin 9 = .ok (.ishl, 1) := by decide +kernel
theorem dX1_pin_10 : decode cX1_pin 10 = .ok (.iand, 1) := by decide +kernel
theorem dX1_pin_11 : decode cX1_pin 11 = .ok (.iastore, 1) := by decide +kernel
theorem dX1_pin_12 : decode cX1_pin 12 = .ok (.return_, 1) := by decide +kernel
set_option maxHeartbeats 4000000 in
set_option maxRecDepth 100000 in
theorem c_X1_pin (l : Launch) (B : Nat) (D : va_G) (cA : Nat → ClassId) (m : Mm) (x0 : Nat) (x1 : Int32) (x2 : Int32) (mZ : Mm) (hf : f_X1_pin m x0 x1 x2 = some mZ) : Mt l B D cA yX1_pin cX1_pin 3 none 0 0 0 0 [.ref (B + x0), .int x1, .int x2] m none mZ := by
  refine r_start (by decide) (Nat.le_of_ble_eq_true rfl) ?_
  intro p e s mt args below meth c ls H locs X hr hlocks hnm hR hl hS
  have hx := X.1
  have hb := X.2.1
  have hl : lv_has ls 3 [(0, .ref (B + x0)), (1, .int x1), (2, .int x2)] := hl
  unfold f_X1_pin at hf
  refine lv_aload_n hx hb dX1_pin_0 rfl (lv_at hl 0 rfl) ?_
  obtain ⟨v1, g2, hf⟩ := ob hf
  refine gR_X1_9 X hR g2 dX1_pin_1 ?_
  refine lv_iload_n hx hb dX1_pin_4 rfl (lv_at hl 1 rfl) ?_
  refine lv_dup2_11 hx hb dX1_pin_5 rfl rfl ?_
  obtain ⟨v3, g4, hf⟩ := ob hf
  refine r_lI X hR g4 dX1_pin_6 ?_
  refine lv_iconst (v := 1) hx hb dX1_pin_7 (by decide) ?_
  refine lv_iload_n hx hb dX1_pin_8 rfl (lv_at hl 2 rfl) ?_
  refine lv_ishl hx hb dX1_pin_9 ?_
  refine lv_iand hx hb dX1_pin_10 ?_
  obtain ⟨m5, g6, hf⟩ := ob hf
  refine r_sI X hR hS g6 dX1_pin_11 (fun H locs hR hS => ?_)
  obtain rfl := Option.some.inj hf
  exact r_vret X hr hlocks hR hS dX1_pin_12
/-! ===== TwigMatches$Twig.firstBranch(I)I ===== -/
theorem dX5_firstBranch_0 : decode cX5_firstBranch 0 = .ok (.iload_n 1, 1) := by decide +kernel
theorem dX5_firstBranch_1 : decode cX5_firstBranch 1 = .ok (.iconst 1, 1) := by decide +kernel
theorem dX5_firstBranch_2 : decode cX5_firstBranch 2 = .ok (.iadd, 1) := by decide +kernel
theorem dX5_firstBranch_3 : decode cX5_firstBranch 3 = .ok (.aload_n 0, 1) := by decide +kernel
theorem dX5_firstBranch_4 : decode cX5_firstBranch 4 = .ok (.getfield 9, 3) := by decide +kernel
theorem dX5_firstBranch_7 : decode cX5_firstBranch 7 = .ok (.if_icmp .ge 21, 3) := by decide +kernel
theorem dX5_firstBranch_10 : decode cX5_firstBranch 10 = .ok (.aload_n 0, 1) := by decide +kernel
theorem dX5_firstBranch_11 : decode cX5_firstBranch 11 = .ok (.getfield 31, 3) := by decide +kernel
theorem dX5_firstBranch_14 : decode cX5_firstBranch 14 = .ok (.iload_n 1, 1) := by decide +kernel
theorem dX5_firstBranch_15 : decode cX5_firstBranch 15 = .ok (.iconst 1, 1) := by decide +kernel
theorem dX5_firstBranch_16 : decode cX5_firstBranch 16 = .ok (.iadd, 1) := by decide +kernel
theorem dX5_firstBranch_17 : decode cX5_firstBranch 17 = .ok (.iaload, 1) := by decide +kernel
theorem dX5_firstBranch_18 : decode cX5_firstBranch 18 = .ok (.iload_n 1, 1) := by decide +kernel
theorem dX5_firstBranch_19 : decode cX5_firstBranch 19 = .ok (.if_icmp .ne 9, 3) := by decide +kernel
theorem dX5_firstBranch_22 : decode cX5_firstBranch 22 = .ok (.iload_n 1, 1) := by decide +kernel
theorem dX5_firstBranch_23 : decode cX5_firstBranch 23 = .ok (.iconst 1, 1) := by decide +kernel
theorem dX5_firstBranch_24 : decode cX5_firstBranch 24 = .ok (.iadd, 1) := by decide +kernel
theorem dX5_firstBranch_25 : decode cX5_firstBranch 25 = .ok (.goto 4, 3) := by decide +kernel
theorem dX5_firstBranch_28 : decode cX5_firstBranch 28 = .ok (.iconst (-1), 1) := by decide +kernel
theorem dX5_firstBranch_29 : decode cX5_firstBranch 29 = .ok (.ireturn, 1) := by decide +kernel
set_option maxHeartbeats 4000000 in
set_option maxRecDepth 100000 in
theorem c_X5_firstBranch (l : Launch) (B : Nat) (D : va_G) (cA : Nat → ClassId) (m : Mm) (x0 : Nat) (x1 : Int32) (rZ : Int32) (hf : f_X5_firstBranch m x0 x1 = some rZ) : Mt l B D cA yX5_firstBranch cX5_firstBranch 2 (some .int) 0 0 0 0 [.ref (B + x0), .int x1] m (some (.int rZ)) m := by
  refine r_start (by decide) (Nat.le_of_ble_eq_true rfl) ?_
  intro p e s mt args below meth c ls H locs X hr hlocks hnm hR hl hS
  have hx := X.1
  have hb := X.2.1
  have hl : lv_has ls 2 [(0, .ref (B + x0)), (1, .int x1)] := hl
  unfold f_X5_firstBranch at hf
  refine lv_iload_n hx hb dX5_firstBranch_0 rfl (lv_at hl 1 rfl) ?_
  refine lv_iconst (v := 1) hx hb dX5_firstBranch_1 (by decide) ?_
  refine lv_iadd hx hb dX5_firstBranch_2 ?_
  refine lv_aload_n hx hb dX5_firstBranch_3 rfl (lv_at hl 0 rfl) ?_
  obtain ⟨v1, g2, hf⟩ := ob hf
  refine gI_X5_9 X hR g2 dX5_firstBranch_4 ?_
  refine lv_icmp_ge (tgt := 28) hx hb dX5_firstBranch_7 (by decide) (fun c3 => ?_) (fun c3 => ?_)
  · rw [if_pos c3] at hf
    refine lv_iconst (v := -1) hx hb dX5_firstBranch_28 (by decide) ?_
    obtain rfl := Option.some.inj hf
    exact r_iret X hr hlocks hR hS rfl dX5_firstBranch_29
  · rw [if_neg c3] at hf
    refine lv_aload_n hx hb dX5_firstBranch_10 rfl (lv_at hl 0 rfl) ?_
    obtain ⟨v4, g5, hf⟩ := ob hf
    refine gR_X5_31 X hR g5 dX5_firstBranch_11 ?_
    refine lv_iload_n hx hb dX5_firstBranch_14 rfl (lv_at hl 1 rfl) ?_
    refine lv_iconst (v := 1) hx hb dX5_firstBranch_15 (by decide) ?_
    refine lv_iadd hx hb dX5_firstBranch_16 ?_
    obtain ⟨v6, g7, hf⟩ := ob hf
    refine r_lI X hR g7 dX5_firstBranch_17 ?_
    refine lv_iload_n hx hb dX5_firstBranch_18 rfl (lv_at hl 1 rfl) ?_
    refine lv_icmp_ne (tgt := 28) hx hb dX5_firstBranch_19 (by decide) (fun c8 => ?_) (fun c8 => ?_)
    · rw [if_neg c8] at hf
      refine lv_iconst (v := -1) hx hb dX5_firstBranch_28 (by decide) ?_
      obtain rfl := Option.some.inj hf
      exact r_iret X hr hlocks hR hS rfl dX5_firstBranch_29
    · rw [if_pos c8] at hf
      refine lv_iload_n hx hb dX5_firstBranch_22 rfl (lv_at hl 1 rfl) ?_
      refine lv_iconst (v := 1) hx hb dX5_firstBranch_23 (by decide) ?_
      refine lv_iadd hx hb dX5_firstBranch_24 ?_
      refine lv_goto (tgt := 29) hx hb dX5_firstBranch_25 (by decide) ?_
      obtain rfl := Option.some.inj hf
      exact r_iret X hr hlocks hR hS rfl dX5_firstBranch_29
/-! ===== TwigMatches$Tree.lastBelow(I)I ===== -/
theorem dX4_lastBelow_0 : decode cX4_lastBelow 0 = .ok (.iload_n 1, 1) := by decide +kernel
theorem dX4_lastBelow_1 : decode cX4_lastBelow 1 = .ok (.iconst (-1), 1) := by decide +kernel
theorem dX4_lastBelow_2 : decode cX4_lastBelow 2 = .ok (.if_icmp .ne 12, 3) := by decide +kernel
theorem dX4_lastBelow_5 : decode cX4_lastBelow 5 = .ok (.aload_n 0, 1) := by decide +kernel
theorem dX4_lastBelow_6 : decode cX4_lastBelow 6 = .ok (.getfield 9, 3) := by decide +kernel
theorem dX4_lastBelow_9 : decode cX4_lastBelow 9 = .ok (.iconst 1, 1) := by decide +kernel
theorem dX4_lastBelow_10 : decode cX4_lastBelow 10 = .ok (.isub, 1) := by decide +kernel
theorem dX4_lastBelow_11 : decode cX4_lastBelow 11 = .ok (.goto 9, 3) := by decide +kernel
theorem dX4_lastBelow_14 : decode cX4_lastBelow 14 = .ok (.aload_n 0, 1) := by decide +kernel
theorem dX4_lastBelow_15 : decode cX4_lastBelow 15 = .ok (.getfield 28, 3) := by decide +kernel
theorem dX4_lastBelow_18 : decode cX4_lastBelow 18 = .ok (.iload_n 1, 1) := by decide +kernel
theorem dX4_lastBelow_19 : decode cX4_lastBelow 19 = .ok (.iaload, 1) := by decide +kernel
theorem dX4_lastBelow_20 : decode cX4_lastBelow 20 = .ok (.ireturn, 1) := by decide +kernel
set_option maxHeartbeats 4000000 in
set_option maxRecDepth 100000 in
theorem c_X4_lastBelow (l : Launch) (B : Nat) (D : va_G) (cA : Nat → ClassId) (m : Mm) (x0 : Nat) (x1 : Int32) (rZ : Int32) (hf : f_X4_lastBelow m x0 x1 = some rZ) : Mt l B D cA yX4_lastBelow cX4_lastBelow 2 (some .int) 0 0 0 0 [.ref (B + x0), .int x1] m (some (.int rZ)) m := by
  refine r_start (by decide) (Nat.le_of_ble_eq_true rfl) ?_
  intro p e s mt args below meth c ls H locs X hr hlocks hnm hR hl hS
  have hx := X.1
  have hb := X.2.1
  have hl : lv_has ls 2 [(0, .ref (B + x0)), (1, .int x1)] := hl
  unfold f_X4_lastBelow at hf
  refine lv_iload_n hx hb dX4_lastBelow_0 rfl (lv_at hl 1 rfl) ?_
  refine lv_iconst (v := -1) hx hb dX4_lastBelow_1 (by decide) ?_
  refine lv_icmp_ne (tgt := 14) hx hb dX4_lastBelow_2 (by decide) (fun c1 => ?_) (fun c1 => ?_)
  · rw [if_neg c1] at hf
    refine lv_aload_n hx hb dX4_lastBelow_14 rfl (lv_at hl 0 rfl) ?_
    obtain ⟨v2, g3, hf⟩ := ob hf
    refine gR_X4_28 X hR g3 dX4_lastBelow_15 ?_
    refine lv_iload_n hx hb dX4_lastBelow_18 rfl (lv_at hl 1 rfl) ?_
    obtain ⟨v4, g5, hf⟩ := ob hf
    refine r_lI X hR g5 dX4_lastBelow_19 ?_
    obtain rfl := Option.some.inj hf
    exact r_iret X hr hlocks hR hS rfl dX4_lastBelow_20
  · rw [if_pos c1] at hf
    refine lv_aload_n hx hb dX4_lastBelow_5 rfl (lv_at hl 0 rfl) ?_
    obtain ⟨v6, g7, hf⟩ := ob hf
    refine gI_X4_9 X hR g7 dX4_lastBelow_6 ?_
    refine lv_iconst (v := 1) hx hb dX4_lastBelow_9 (by decide) ?_
    refine lv_isub hx hb dX4_lastBelow_10 ?_
    refine lv_goto (tgt := 20) hx hb dX4_lastBelow_11 (by decide) ?_
    obtain rfl := Option.some.inj hf
    exact r_iret X hr hlocks hR hS rfl dX4_lastBelow_20
/-! ===== TwigMatches$Twig.nextBranch(I)I ===== -/
theorem dX5_nextBranch_0 : decode cX5_nextBranch 0 = .ok (.iload_n 1, 1) := by decide +kernel
theorem dX5_nextBranch_1 : decode cX5_nextBranch 1 = .ok (.iconst 1, 1) := by decide +kernel
theorem dX5_nextBranch_2 : decode cX5_nextBranch 2 = .ok (.iadd, 1) := by decide +kernel
theorem dX5_nextBranch_3 : decode cX5_nextBranch 3 = .ok (.istore_n 2, 1) := by decide +kernel
theorem dX5_nextBranch_4 : decode cX5_nextBranch 4 = .ok (.iload_n 2, 1) := by decide +kernel
theorem dX5_nextBranch_5 : decode cX5_nextBranch 5 = .ok (.aload_n 0, 1) := by decide +kernel
theorem dX5_nextBranch_6 : decode cX5_nextBranch 6 = .ok (.getfield 9, 3) := by decide +kernel
theorem dX5_nextBranch_9 : decode cX5_nextBranch 9 = .ok (.if_icmp .ge 26, 3) := by decide +kernel
theorem dX5_nextBranch_12 : decode cX5_nextBranch 12 = .ok (.aload_n 0, 1) := by decide +kernel
theorem dX5_nextBranch_13 : decode cX5_nextBranch 13 = .ok (.getfield 31, 3) := by decide +kernel
theorem dX5_nextBranch_16 : decode cX5_nextBranch 16 = .ok (.iload_n 2, 1) := by decide +kernel
theorem dX5_nextBranch_17 : decode cX5_nextBranch 17 = .ok (.iaload, 1) := by decide +kernel
theorem dX5_nextBranch_18 : decode cX5_nextBranch 18 = .ok (.aload_n 0, 1) := by decide +kernel
theorem dX5_nextBranch_19 : decode cX5_nextBranch 19 = .ok (.getfield 31, 3) := by decide +kernel
theorem dX5_nextBranch_22 : decode cX5_nextBranch 22 = .ok (.iload_n 1, 1) := by decide +kernel
theorem dX5_nextBranch_23 : decode cX5_nextBranch 23 = .ok (.iaload, 1) := by decide +kernel
theorem dX5_nextBranch_24 : decode cX5_nextBranch 24 = .ok (.if_icmp .ne 5, 3) := by decide +kernel
theorem dX5_nextBranch_27 : decode cX5_nextBranch 27 = .ok (.iload_n 2, 1) := by decide +kernel
theorem dX5_nextBranch_28 : decode cX5_nextBranch 28 = .ok (.ireturn, 1) := by decide +kernel
theorem dX5_nextBranch_29 : decode cX5_nextBranch 29 = .ok (.iinc 2 1, 3) := by decide +kernel
theorem dX5_nextBranch_32 : decode cX5_nextBranch 32 = .ok (.goto (-28), 3) := by decide +kernel
theorem dX5_nextBranch_35 : decode cX5_nextBranch 35 = .ok (.iconst (-1), 1) := by decide +kernel
theorem dX5_nextBranch_36 : decode cX5_nextBranch 36 = .ok (.ireturn, 1) := by decide +kernel
set_option maxHeartbeats 4000000 in
set_option maxRecDepth 100000 in
theorem c_X5_nextBranch (l : Launch) (B : Nat) (D : va_G) (cA : Nat → ClassId) (m : Mm) (x0 : Nat) (x1 : Int32) (rZ : Int32) (hf : f_X5_nextBranch m x0 x1 = some rZ) : Mt l B D cA yX5_nextBranch cX5_nextBranch 3 (some .int) 0 0 0 0 [.ref (B + x0), .int x1] m (some (.int rZ)) m := by
  refine r_start (by decide) (Nat.le_of_ble_eq_true rfl) ?_
  intro p e s mt args below meth c ls H locs X hr hlocks hnm hR hl hS
  have hx := X.1
  have hb := X.2.1
  have hl : lv_has ls 3 [(0, .ref (B + x0)), (1, .int x1)] := hl
  unfold f_X5_nextBranch at hf
  refine lv_iload_n hx hb dX5_nextBranch_0 rfl (lv_at hl 1 rfl) ?_
  refine lv_iconst (v := 1) hx hb dX5_nextBranch_1 (by decide) ?_
  refine lv_iadd hx hb dX5_nextBranch_2 ?_
  refine lv_istore_n (lv' := [(2, .int (x1 + (1 : Int32))), (0, .ref (B + x0)), (1, .int x1)]) hx hb dX5_nextBranch_3 rfl hl (by decide) rfl (fun ls hl => ?_)
  obtain ⟨e2, hwe2, hf⟩ := ob hf
  refine whl_rule (P := (fun t1 => ∀ (H : Heap) (locs : List Loc) (ls : Array Slot), Rl B D cA m H → va_S (fun q => B ≤ q) s.heap H locs → lv_has ls 3 [(0, .ref (B + x0)), (1, .int x1), (2, .int t1)] → W p l e (rmm 0 0 0 0) s mt args below meth c H locs 0 0 (MQ below (mQ B D cA (some (.int rZ)) m) args s 0 0 (fun q => B ≤ q)) (F0 mt 4 ls []))) (Qx := (fun e2 => (match e2 with | .inl a0 => (∀ (H : Heap) (locs : List Loc) (ls : Array Slot), Rl B D cA m H → va_S (fun q => B ≤ q) s.heap H locs → lv_has ls 3 [] → W p l e (rmm 0 0 0 0) s mt args below meth c H locs 0 0 (MQ below (mQ B D cA (some (.int rZ)) m) args s 0 0 (fun q => B ≤ q)) (F0 mt 35 ls [])) | .inr b0 => ∀ (H : Heap) (locs : List Loc) (ls : Array Slot), Rl B D cA m H → va_S (fun q => B ≤ q) s.heap H locs → lv_has ls 3 [(2, .int b0)] → W p l e (rmm 0 0 0 0) s mt args below meth c H locs 0 0 (MQ below (mQ B D cA (some (.int rZ)) m) args s 0 0 (fun q => B ≤ q)) (F0 mt 27 ls [])))) ?_ FU _ e2 hwe2 ?_ H locs ls hR hS (lv_sub hl [1, 2, 0] rfl)
  · clear hwe2 hf
    intro t1 q3 hf hxlq3 hxrq3 H locs ls hR hS hl
    have hf : f_X5_nextBranch_L4 m x0 x1 t1 = some q3 := hf
    have hR : Rl B D cA m H := hR
    have hl : lv_has ls 3 [(0, .ref (B + x0)), (1, .int x1), (2, .int t1)] := hl
    unfold f_X5_nextBranch_L4 at hf
    refine lv_iload_n hx hb dX5_nextBranch_4 rfl (lv_at hl 2 rfl) ?_
    refine lv_aload_n hx hb dX5_nextBranch_5 rfl (lv_at hl 0 rfl) ?_
    obtain ⟨v5, g6, hf⟩ := ob hf
    refine gI_X5_9 X hR g6 dX5_nextBranch_6 ?_
    refine lv_icmp_ge (tgt := 35) hx hb dX5_nextBranch_9 (by decide) (fun c7 => ?_) (fun c7 => ?_)
    · rw [if_pos c7] at hf
      obtain rfl := Option.some.inj hf
      exact hxrq3 _ rfl H locs ls hR hS (lv_sub hl [] rfl)
    · rw [if_neg c7] at hf
      refine lv_aload_n hx hb dX5_nextBranch_12 rfl (lv_at hl 0 rfl) ?_
      obtain ⟨v8, g9, hf⟩ := ob hf
      refine gR_X5_31 X hR g9 dX5_nextBranch_13 ?_
      refine lv_iload_n hx hb dX5_nextBranch_16 rfl (lv_at hl 2 rfl) ?_
      obtain ⟨v10, g11, hf⟩ := ob hf
      refine r_lI X hR g11 dX5_nextBranch_17 ?_
      refine lv_aload_n hx hb dX5_nextBranch_18 rfl (lv_at hl 0 rfl) ?_
      obtain ⟨v12, g13, hf⟩ := ob hf
      refine gR_X5_31 X hR g13 dX5_nextBranch_19 ?_
      refine lv_iload_n hx hb dX5_nextBranch_22 rfl (lv_at hl 1 rfl) ?_
      obtain ⟨v14, g15, hf⟩ := ob hf
      refine r_lI X hR g15 dX5_nextBranch_23 ?_
      refine lv_icmp_ne (tgt := 29) hx hb dX5_nextBranch_24 (by decide) (fun c16 => ?_) (fun c16 => ?_)
      · rw [if_neg c16] at hf
        refine lv_iinc (v := (t1 + 1)) (lv' := [(2, .int (t1 + 1)), (0, .ref (B + x0)), (1, .int x1)]) hx hb dX5_nextBranch_29 hl (k := 2) rfl (congrArg (fun z => t1 + z) (by decide)) (by decide) rfl (fun ls hl => ?_)
        refine lv_goto (tgt := 4) hx hb dX5_nextBranch_32 (by decide) ?_
        obtain rfl := Option.some.inj hf
        exact hxlq3 _ rfl H locs ls hR hS (lv_sub hl [1, 2, 0] rfl)
      · rw [if_pos c16] at hf
        obtain rfl := Option.some.inj hf
        exact hxrq3 _ rfl H locs ls hR hS (lv_sub hl [2] rfl)
  · clear hwe2
    revert hf
    cases e2 with
    | inl a0e2 =>
      intro hf H locs ls hR hS hl
      refine lv_iconst (v := -1) hx hb dX5_nextBranch_35 (by decide) ?_
      obtain rfl := Option.some.inj hf
      exact r_iret X hr hlocks hR hS rfl dX5_nextBranch_36
    | inr b0e2 =>
      intro hf H locs ls hR hS hl
      refine lv_iload_n hx hb dX5_nextBranch_27 rfl (lv_at hl 0 rfl) ?_
      obtain rfl := Option.some.inj hf
      exact r_iret X hr hlocks hR hS rfl dX5_nextBranch_28
/-! ===== TwigMatches$Matcher.edgeHolds(III)Z ===== -/
theorem dX1_edgeHolds_0 : decode cX1_edgeHolds 0 = .ok (.aload_n 0, 1) := by decide +kernel
theorem dX1_edgeHolds_1 : decode cX1_edgeHolds 1 = .ok (.getfield 40, 3) := by decide +kernel
theorem dX1_edgeHolds_4 : decode cX1_edgeHolds 4 = .ok (.getfield 96, 3) := by decide +kernel
theorem dX1_edgeHolds_7 : decode cX1_edgeHolds 7 = .ok (.iload_n 1, 1) := by decide +kernel
theorem dX1_edgeHolds_8 : decode cX1_edgeHolds 8 = .ok (.iaload, 1) := by decide +kernel
theorem dX1_edgeHolds_9 : decode cX1_edgeHolds 9 = .ok (.iconst 1, 1) := by decide +kernel
theorem dX1_edgeHolds_10 : decode cX1_edgeHolds 10 = .ok (.if_icmp .ne 16, 3) := by decide +kernel
theorem dX1_edgeHolds_13 : decode cX1_edgeHolds 13 = .ok (.aload_n 0, 1) := by decide +kernel
theorem dX1_edgeHolds_14 : decode cX1_edgeHolds 14 = .ok (.getfield 36, 3) := by decide +kernel
theorem dX1_edgeHolds_17 : decode cX1_edgeHolds 17 = .ok (.getfield 99, 3) := by decide +kernel
theorem dX1_edgeHolds_20 : decode cX1_edgeHolds 20 = .ok (.iload_n 3, 1) := by decide +kernel
theorem dX1_edgeHolds_21 : decode cX1_edgeHolds 21 = .ok (.iaload, 1) := by decide +kernel
theorem dX1_edgeHolds_22 : decode cX1_edgeHolds 22 = .ok (.iload_n 2, 1) := by decide +kernel
theorem dX1_edgeHolds_23 : decode cX1_edgeHolds 23 = .ok (.if_icmp .ne 7, 3) := by decide +kernel
theorem dX1_edgeHolds_26 : decode cX1_edgeHolds 26 = .ok (.iconst 1, 1) := by decide +kernel
theorem dX1_edgeHolds_27 : decode cX1_edgeHolds 27 = .ok (.goto 4, 3) := by decide +kernel
theorem dX1_edgeHolds_30 : decode cX1_edgeHolds 30 = .ok (.iconst 0, 1) := by decide +kernel
theorem dX1_edgeHolds_31 : decode cX1_edgeHolds 31 = .ok (.ireturn, 1) := by decide +kernel
set_option maxHeartbeats 4000000 in
set_option maxRecDepth 100000 in
theorem c_X1_edgeHolds (l : Launch) (B : Nat) (D : va_G) (cA : Nat → ClassId) (m : Mm) (x0 : Nat) (x1 : Int32) (x2 : Int32) (x3 : Int32) (rZ : Int32) (hf : f_X1_edgeHolds m x0 x1 x2 x3 = some rZ) : Mt l B D cA yX1_edgeHolds cX1_edgeHolds 4 (some .boolean) 0 0 0 0 [.ref (B + x0), .int x1, .int x2, .int x3] m (some (.int rZ)) m := by
  refine r_start (by decide) (Nat.le_of_ble_eq_true rfl) ?_
  intro p e s mt args below meth c ls H locs X hr hlocks hnm hR hl hS
  have hx := X.1
  have hb := X.2.1
  have hl : lv_has ls 4 [(0, .ref (B + x0)), (1, .int x1), (2, .int x2), (3, .int x3)] := hl
  unfold f_X1_edgeHolds at hf
  refine lv_aload_n hx hb dX1_edgeHolds_0 rfl (lv_at hl 0 rfl) ?_
  obtain ⟨v1, g2, hf⟩ := ob hf
  refine gR_X1_40 X hR g2 dX1_edgeHolds_1 ?_
  obtain ⟨v3, g4, hf⟩ := ob hf
  refine gR_X1_96 X hR g4 dX1_edgeHolds_4 ?_
  refine lv_iload_n hx hb dX1_edgeHolds_7 rfl (lv_at hl 1 rfl) ?_
  obtain ⟨v5, g6, hf⟩ := ob hf
  refine r_lI X hR g6 dX1_edgeHolds_8 ?_
  refine lv_iconst (v := 1) hx hb dX1_edgeHolds_9 (by decide) ?_
  refine lv_icmp_ne (tgt := 26) hx hb dX1_edgeHolds_10 (by decide) (fun c7 => ?_) (fun c7 => ?_)
  · rw [if_neg c7] at hf
    refine lv_iconst (v := 1) hx hb dX1_edgeHolds_26 (by decide) ?_
    refine lv_goto (tgt := 31) hx hb dX1_edgeHolds_27 (by decide) ?_
    obtain rfl := Option.some.inj hf
    exact r_iret X hr hlocks hR hS rfl dX1_edgeHolds_31
  · rw [if_pos c7] at hf
    refine lv_aload_n hx hb dX1_edgeHolds_13 rfl (lv_at hl 0 rfl) ?_
    obtain ⟨v8, g9, hf⟩ := ob hf
    refine gR_X1_36 X hR g9 dX1_edgeHolds_14 ?_
    obtain ⟨v10, g11, hf⟩ := ob hf
    refine gR_X1_99 X hR g11 dX1_edgeHolds_17 ?_
    refine lv_iload_n hx hb dX1_edgeHolds_20 rfl (lv_at hl 3 rfl) ?_
    obtain ⟨v12, g13, hf⟩ := ob hf
    refine r_lI X hR g13 dX1_edgeHolds_21 ?_
    refine lv_iload_n hx hb dX1_edgeHolds_22 rfl (lv_at hl 2 rfl) ?_
    refine lv_icmp_ne (tgt := 30) hx hb dX1_edgeHolds_23 (by decide) (fun c14 => ?_) (fun c14 => ?_)
    · rw [if_neg c14] at hf
      refine lv_iconst (v := 0) hx hb dX1_edgeHolds_30 (by decide) ?_
      obtain rfl := Option.some.inj hf
      exact r_iret X hr hlocks hR hS rfl dX1_edgeHolds_31
    · rw [if_pos c14] at hf
      refine lv_iconst (v := 1) hx hb dX1_edgeHolds_26 (by decide) ?_
      refine lv_goto (tgt := 31) hx hb dX1_edgeHolds_27 (by decide) ?_
      obtain rfl := Option.some.inj hf
      exact r_iret X hr hlocks hR hS rfl dX1_edgeHolds_31
/-! ===== TwigMatches$Matcher.waysAfter(III)J ===== -/
theorem dX1_waysAfter_0 : decode cX1_waysAfter 0 = .ok (.iload_n 1, 1) := by decide +kernel
theorem dX1_waysAfter_1 : decode cX1_waysAfter 1 = .ok (.iconst (-1), 1) := by decide +kernel
theorem dX1_waysAfter_2 : decode cX1_waysAfter 2 = .ok (.if_icmp .ne 5, 3) := by decide +kernel
theorem dX1_waysAfter_5 : decode cX1_waysAfter 5 = .ok (.lconst 1, 1) := by decide +kernel
theorem dX1_waysAfter_6 : decode cX1_waysAfter 6 = .ok (.lreturn, 1) := by decide +kernel
theorem dX1_waysAfter_7 : decode cX1_waysAfter 7 = .ok (.aload_n 0, 1) := by decide +kernel
theorem dX1_waysAfter_8 : decode cX1_waysAfter 8 = .ok (.getfield 20, 3) := by decide +kernel
theorem dX1_waysAfter_11 : decode cX1_waysAfter 11 = .ok (.iload_n 1, 1) := by decide +kernel
theorem dX1_waysAfter_12 : decode cX1_waysAfter 12 = .ok (.aaload, 1) := by decide +kernel
theorem dX1_waysAfter_13 : decode cX1_waysAfter 13 = .ok (.aload_n 0, 1) := by decide +kernel
theorem dX1_waysAfter_14 : decode cX1_waysAfter 14 = .ok (.getfield 40, 3) := by decide +kernel
theorem dX1_waysAfter_17 : decode cX1_waysAfter 17 = .ok (.getfield 102, 3) := by decide +kernel
theorem dX1_waysAfter_20 : decode cX1_waysAfter 20 = .ok (.iload_n 1, 1) := by decide +kernel
theorem dX1_waysAfter_21 : decode cX1_waysAfter 21 = .ok (.iaload, 1) := by decide +kernel
theorem dX1_waysAfter_22 : decode cX1_waysAfter 22 = .ok (.ifCond .eq 17, 3) := by decide +kernel
theorem dX1_waysAfter_25 : decode cX1_waysAfter 25 = .ok (.aload_n 0, 1) := by decide +kernel
theorem dX1_waysAfter_26 : decode cX1_waysAfter 26 = .ok (.getfield 36, 3) := by decide +kernel
theorem dX1_waysAfter_29 : decode cX1_waysAfter 29 = .ok (.getfield 105, 3) := by decide +kernel
theorem dX1_waysAfter_32 : decode cX1_waysAfter 32 = .ok (.iload_n 3, 1) := by decide +kernel
theorem dX1_waysAfter_33 : decode cX1_waysAfter 33 = .ok (.iaload, 1) := by decide +kernel
theorem dX1_waysAfter_34 : decode cX1_waysAfter 34 = .ok (.iconst 1, 1) := by decide +kernel
theorem dX1_waysAfter_35 : decode cX1_waysAfter 35 = .ok (.iadd, 1) := by decide +kernel
theorem dX1_waysAfter_36 : decode cX1_waysAfter 36 = .ok (.goto 6, 3) := by decide +kernel
theorem dX1_waysAfter_39 : decode cX1_waysAfter 39 = .ok (.iload_n 2, 1) := by decide +kernel
theorem dX1_waysAfter_40 : decode cX1_waysAfter 40 = .ok (.iconst 1, 1) := by decide +kernel
theorem dX1_waysAfter_41 : decode cX1_waysAfter 41 = .ok (.iadd, 1) := by decide +kernel
theorem dX1_waysAfter_42 : decode cX1_waysAfter 42 = .ok (.laload, 1) := by decide +kernel
theorem dX1_waysAfter_43 : decode cX1_waysAfter 43 = .ok (.lreturn, 1) := by decide +kernel
set_option maxHeartbeats 4000000 in
set_option maxRecDepth 100000 in
theorem c_X1_waysAfter (l : Launch) (B : Nat) (D : va_G) (cA : Nat → ClassId) (m : Mm) (x0 : Nat) (x1 : Int32) (x2 : Int32) (x3 : Int32) (rZ : Int64) (hf : f_X1_waysAfter m x0 x1 x2 x3 = some rZ) : Mt l B D cA yX1_waysAfter cX1_waysAfter 4 (some .long) 0 0 0 0 [.ref (B + x0), .int x1, .int x2, .int x3] m (some (.long rZ)) m := by
  refine r_start (by decide) (Nat.le_of_ble_eq_true rfl) ?_
  intro p e s mt args below meth c ls H locs X hr hlocks hnm hR hl hS
  have hx := X.1
  have hb := X.2.1
  have hl : lv_has ls 4 [(0, .ref (B + x0)), (1, .int x1), (2, .int x2), (3, .int x3)] := hl
  unfold f_X1_waysAfter at hf
  refine lv_iload_n hx hb dX1_waysAfter_0 rfl (lv_at hl 1 rfl) ?_
  refine lv_iconst (v := -1) hx hb dX1_waysAfter_1 (by decide) ?_
  refine lv_icmp_ne (tgt := 7) hx hb dX1_waysAfter_2 (by decide) (fun c1 => ?_) (fun c1 => ?_)
  · rw [if_neg c1] at hf
    refine lv_aload_n hx hb dX1_waysAfter_7 rfl (lv_at hl 0 rfl) ?_
    obtain ⟨v2, g3, hf⟩ := ob hf
    refine gR_X1_20 X hR g3 dX1_waysAfter_8 ?_
    refine lv_iload_n hx hb dX1_waysAfter_11 rfl (lv_at hl 1 rfl) ?_
    obtain ⟨v4, g5, hf⟩ := ob hf
    refine r_lR (k := 4) (ty := .array .long) X hR rfl rfl g5 dX1_waysAfter_12 ?_
    refine lv_aload_n hx hb dX1_waysAfter_13 rfl (lv_at hl 0 rfl) ?_
    obtain ⟨v6, g7, hf⟩ := ob hf
    refine gR_X1_40 X hR g7 dX1_waysAfter_14 ?_
    obtain ⟨v8, g9, hf⟩ := ob hf
    refine gR_X1_102 X hR g9 dX1_waysAfter_17 ?_
    refine lv_iload_n hx hb dX1_waysAfter_20 rfl (lv_at hl 1 rfl) ?_
    obtain ⟨v10, g11, hf⟩ := ob hf
    refine r_lI X hR g11 dX1_waysAfter_21 ?_
    refine lv_if_eq (tgt := 39) hx hb dX1_waysAfter_22 (by decide) (fun c12 => ?_) (fun c12 => ?_)
    · rw [if_pos c12] at hf
      refine lv_iload_n hx hb dX1_waysAfter_39 rfl (lv_at hl 2 rfl) ?_
      refine lv_iconst (v := 1) hx hb dX1_waysAfter_40 (by decide) ?_
      refine lv_iadd hx hb dX1_waysAfter_41 ?_
      obtain ⟨v13, g14, hf⟩ := ob hf
      refine r_lJ X hR g14 dX1_waysAfter_42 ?_
      obtain rfl := Option.some.inj hf
      exact r_lret X hr hlocks hR hS dX1_waysAfter_43
    · rw [if_neg c12] at hf
      refine lv_aload_n hx hb dX1_waysAfter_25 rfl (lv_at hl 0 rfl) ?_
      obtain ⟨v15, g16, hf⟩ := ob hf
      refine gR_X1_36 X hR g16 dX1_waysAfter_26 ?_
      obtain ⟨v17, g18, hf⟩ := ob hf
      refine gR_X1_105 X hR g18 dX1_waysAfter_29 ?_
      refine lv_iload_n hx hb dX1_waysAfter_32 rfl (lv_at hl 3 rfl) ?_
      obtain ⟨v19, g20, hf⟩ := ob hf
      refine r_lI X hR g20 dX1_waysAfter_33 ?_
      refine lv_iconst (v := 1) hx hb dX1_waysAfter_34 (by decide) ?_
      refine lv_iadd hx hb dX1_waysAfter_35 ?_
      refine lv_goto (tgt := 42) hx hb dX1_waysAfter_36 (by decide) ?_
      obtain ⟨v21, g22, hf⟩ := ob hf
      refine r_lJ X hR g22 dX1_waysAfter_42 ?_
      obtain rfl := Option.some.inj hf
      exact r_lret X hr hlocks hR hS dX1_waysAfter_43
  · rw [if_pos c1] at hf
    refine lv_lconst (v := 1) hx hb dX1_waysAfter_5 (by decide) ?_
    obtain rfl := Option.some.inj hf
    exact r_lret X hr hlocks hR hS dX1_waysAfter_6
/-! ===== TwigMatches$Matcher.fillTail(II)V ===== -/
theorem dX1_fillTail_0 : decode cX1_fillTail 0 = .ok (.aload_n 0, 1) := by decide +kernel
theorem dX1_fillTail_1 : decode cX1_fillTail 1 = .ok (.getfield 36, 3) := by decide +kernel
theorem dX1_fillTail_4 : decode cX1_fillTail 4 = .ok (.iload_n 2, 1) := by decide +kernel
theorem dX1_fillTail_5 : decode cX1_fillTail 5 = .ok (.invokevirtual 82, 3) := by decide +kernel
theorem dX1_fillTail_8 : decode cX1_fillTail 8 = .ok (.istore_n 3, 1) := by decide +kernel
theorem dX1_fillTail_9 : decode cX1_fillTail 9 = .ok (.aload_n 0, 1) := by decide +kernel
theorem dX1_fillTail_10 : decode cX1_fillTail 10 = .ok (.getfield 40, 3) := by decide +kernel
theorem dX1_fillTail_13 : decode cX1_fillTail 13 = .ok (.iload_n 1, 1) := by decide +kernel
theorem dX1_fillTail_14 : decode cX1_fillTail 14 = .ok (.invokevirtual 85, 3) := by decide +kernel
theorem dX1_fillTail_17 : decode cX1_fillTail 17 = .ok (.istore 4, 2) := by decide +kernel
theorem dX1_fillTail_19 : decode cX1_fillTail 19 = .ok (.aload_n 0, 1) := by decide +kernel
theorem dX1_fillTail_20 : decode cX1_fillTail 20 = .ok (.getfield 20, 3) := by decide +kernel
theorem dX1_fillTail_23 : decode cX1_fillTail 23 = .ok (.iload_n 1, 1) := by decide +kernel
theorem dX1_fillTail_24 : decode cX1_fillTail 24 = .ok (.aaload, 1) := by decide +kernel
theorem dX1_fillTail_25 : decode cX1_fillTail 25 = .ok (.iload_n 3, 1) := by decide +kernel
theorem dX1_fillTail_26 : decode cX1_fillTail 26 = .ok (.iconst 1, 1) := by decide +kernel
theorem dX1_fillTail_27 : decode cX1_fillTail 27 = .ok (.iadd, 1) := by decide +kernel
theorem dX1_fillTail_28 : decode cX1_fillTail 28 = .ok (.lconst 0, 1) := by decide +kernel
theorem dX1_fillTail_29 : decode cX1_fillTail 29 = .ok (.lastore, 1) := by decide +kernel
theorem dX1_fillTail_30 : decode cX1_fillTail 30 = .ok (.iload_n 3, 1) := by decide +kernel
theorem dX1_fillTail_31 : decode cX1_fillTail 31 = .ok (.istore 5, 2) := by decide +kernel
theorem dX1_fillTail_33 : decode cX1_fillTail 33 = .ok (.iload 5, 2) := by decide +kernel
theorem dX1_fillTail_35 : decode cX1_fillTail 35 = .ok (.iload_n 2, 1) := by decide +kernel
theorem dX1_fillTail_36 : decode cX1_fillTail 36 = .ok (.if_icmp .le 85, 3) := by decide +kernel
theorem dX1_fillTail_39 : decode cX1_fillTail 39 = .ok (.aload_n 0, 1) := by decide +kernel
theorem dX1_fillTail_40 : decode cX1_fillTail 40 = .ok (.getfield 20, 3) := by decide +kernel
theorem dX1_fillTail_43 : decode cX1_fillTail 43 = .ok (.iload_n 1, 1) := by decide +kernel
theorem dX1_fillTail_44 : decode cX1_fillTail 44 = .ok (.aaload, 1) := by decide +kernel
theorem dX1_fillTail_45 : decode cX1_fillTail 45 = .ok (.iload 5, 2) := by decide +kernel
theorem dX1_fillTail_47 : decode cX1_fillTail 47 = .ok (.aload_n 0, 1) := by decide +kernel
theorem dX1_fillTail_48 : decode cX1_fillTail 48 = .ok (.getfield 20, 3) := by decide +kernel
theorem dX1_fillTail_51 : decode cX1_fillTail 51 = .ok (.iload_n 1, 1) := by decide +kernel
theorem dX1_fillTail_52 : decode cX1_fillTail 52 = .ok (.aaload, 1) := by decide +kernel
theorem dX1_fillTail_53 : decode cX1_fillTail 53 = .ok (.iload 5, 2) := by decide +kernel
theorem dX1_fillTail_55 : decode cX1_fillTail 55 = .ok (.iconst 1, 1) := by decide +kernel
theorem dX1_fillTail_56 : decode cX1_fillTail 56 = .ok (.iadd, 1) := by decide +kernel
theorem dX1_fillTail_57 : decode cX1_fillTail 57 = .ok (.laload, 1) := by decide +kernel
theorem dX1_fillTail_58 : decode cX1_fillTail 58 = .ok (.lastore, 1) := by decide +kernel
theorem dX1_fillTail_59 : decode cX1_fillTail 59 = .ok (.aload_n 0, 1) := by decide +kernel
theorem dX1_fillTail_60 : decode cX1_fillTail 60 = .ok (.getfield 17, 3) := by decide +kernel
theorem dX1_fillTail_63 : decode cX1_fillTail 63 = .ok (.iload_n 1, 1) := by decide +kernel
theorem dX1_fillTail_64 : decode cX1_fillTail 64 = .ok (.aaload, 1) := by decide +kernel
theorem dX1_fillTail_65 : decode cX1_fillTail 65 = .ok (.iload 5, 2) := by decide +kernel
theorem dX1_fillTail_67 : decode cX1_fillTail 67 = .ok (.laload, 1) := by decide +kernel
theorem dX1_fillTail_68 : decode cX1_fillTail 68 = .ok (.lconst 0, 1) := by decide +kernel
theorem dX1_fillTail_69 : decode cX1_fillTail 69 = .ok (.lcmp, 1) := by decide +kernel
theorem dX1_fillTail_70 : decode cX1_fillTail 70 = .ok (.ifCond .eq 45, 3) := by decide +kernel
theorem dX1_fillTail_73 : decode cX1_fillTail 73 = .ok (.aload_n 0, 1) := by decide +kernel
theorem dX1_fillTail_74 : decode cX1_fillTail 74 = .ok (.iload_n 1, 1) := by decide +kernel
theorem dX1_fillTail_75 : decode cX1_fillTail 75 = .ok (.iload_n 2, 1) := by decide +kernel
theorem dX1_fillTail_76 : decode cX1_fillTail 76 = .ok (.iload 5, 2) := by decide +kernel
theorem dX1_fillTail_78 : decode cX1_fillTail 78 = .ok (.invokevirtual 88, 3) := by decide +kernel
theorem dX1_fillTail_81 : decode cX1_fillTail 81 = .ok (.ifCond .eq 34, 3) := by decide +kernel
theorem dX1_fillTail_84 : decode cX1_fillTail 84 = .ok (.aload_n 0, 1) := by decide +kernel
theorem dX1_fillTail_85 : decode cX1_fillTail 85 = .ok (.getfield 20, 3) := by decide +kernel
theorem dX1_fillTail_88 : decode cX1_fillTail 88 = .ok (.iload_n 1, 1) := by decide +kernel
theorem dX1_fillTail_89 : decode cX1_fillTail 89 = .ok (.aaload, 1) := by decide +kernel
theorem dX1_fillTail_90 : decode cX1_fillTail 90 = .ok (.iload 5, 2) := by decide +kernel
theorem dX1_fillTail_92 : decode cX1_fillTail 92 = .ok (.dup2, 1) := by decide +kernel
theorem dX1_fillTail_93 : decode cX1_fillTail 93 = .ok (.laload, 1) := by decide +kernel
theorem dX1_fillTail_94 : decode cX1_fillTail 94 = .ok (.aload_n 0, 1) := by decide +kernel
theorem dX1_fillTail_95 : decode cX1_fillTail 95 = .ok (.getfield 17, 3) := by decide +kernel
theorem dX1_fillTail_98 : decode cX1_fillTail 98 = .ok (.iload_n 1, 1) := by decide +kernel
theorem dX1_fillTail_99 : decode cX1_fillTail 99 = .ok (.aaload, 1) := by decide +kernel
theorem dX1_fillTail_100 : decode cX1_fillTail 100 = .ok (.iload 5, 2) := by decide +kernel
theorem dX1_fillTail_102 : decode cX1_fillTail 102 = .ok (.laload, 1) := by decide +kernel
theorem dX1_fillTail_103 : decode cX1_fillTail 103 = .ok (.aload_n 0, 1) := by decide +kernel
theorem dX1_fillTail_104 : decode cX1_fillTail 104 = .ok (.iload 4, 2) := by decide +kernel
theorem dX1_fillTail_106 : decode cX1_fillTail 106 = .ok (.iload_n 2, 1) := by decide +kernel
theorem dX1_fillTail_107 : decode cX1_fillTail 107 = .ok (.iload 5, 2) := by decide +kernel
theorem dX1_fillTail_109 : decode cX1_fillTail 109 = .ok (.invokevirtual 92, 3) := by decide +kernel
theorem dX1_fillTail_112 : decode cX1_fillTail 112 = .ok (.lmul, 1) := by decide +kernel
theorem dX1_fillTail_113 : decode cX1_fillTail 113 = .ok (.ladd, 1) := by decide +kernel
theorem dX1_fillTail_114 : decode cX1_fillTail 114 = .ok (.lastore, 1) := by decide +kernel
theorem dX1_fillTail_115 : decode cX1_fillTail 115 = .ok (.iinc 5 (-1), 3) := by decide +kernel
theorem dX1_fillTail_118 : decode cX1_fillTail 118 = .ok (.goto (-85), 3) := by decide +kernel
theorem dX1_fillTail_121 : decode cX1_fillTail 121 = .ok (.return_, 1) := by decide +kernel
set_option maxHeartbeats 4000000 in
set_option maxRecDepth 100000 in
theorem c_X1_fillTail (l : Launch) (B : Nat) (D : va_G) (cA : Nat → ClassId) (m : Mm) (x0 : Nat) (x1 : Int32) (x2 : Int32) (mZ : Mm) (hf : f_X1_fillTail m x0 x1 x2 = some mZ) : Mt l B D cA yX1_fillTail cX1_fillTail 6 none 1 23 0 0 [.ref (B + x0), .int x1, .int x2] m none mZ := by
  refine r_start (by decide) (Nat.le_of_ble_eq_true rfl) ?_
  intro p e s mt args below meth c ls H locs X hr hlocks hnm hR hl hS
  have hx := X.1
  have hb := X.2.1
  have hl : lv_has ls 6 [(0, .ref (B + x0)), (1, .int x1), (2, .int x2)] := hl
  unfold f_X1_fillTail at hf
  refine lv_aload_n hx hb dX1_fillTail_0 rfl (lv_at hl 0 rfl) ?_
  obtain ⟨v1, g2, hf⟩ := ob hf
  refine gR_X1_36 X hR g2 dX1_fillTail_1 ?_
  refine lv_iload_n hx hb dX1_fillTail_4 rfl (lv_at hl 2 rfl) ?_
  obtain ⟨o3, h4, hf⟩ := obO hf
  obtain ⟨v6, g5, hf⟩ := ob hf
  refine r_callV X kw_X1_82 (ci := 4) rfl (c_X4_lastBelow l B D cA m v1 x2 v6 g5) ⟨Nat.le_of_ble_eq_true rfl, Nat.le_of_ble_eq_true rfl⟩ h4 hR hS hl.1 rfl rfl (Nat.le_of_ble_eq_true rfl) ⟨Nat.le_of_ble_eq_true rfl, Nat.le_of_ble_eq_true rfl⟩ dX1_fillTail_5 (fun H locs hR hS => ?_)
  refine W.eq (g2 := F0 mt 8 ls [.int v6]) rfl ?_
  refine lv_istore_n (lv' := [(3, .int v6), (0, .ref (B + x0)), (1, .int x1), (2, .int x2)]) hx hb dX1_fillTail_8 rfl hl (by decide) rfl (fun ls hl => ?_)
  refine lv_aload_n hx hb dX1_fillTail_9 rfl (lv_at hl 1 rfl) ?_
  obtain ⟨v7, g8, hf⟩ := ob hf
  refine gR_X1_40 X hR g8 dX1_fillTail_10 ?_
  refine lv_iload_n hx hb dX1_fillTail_13 rfl (lv_at hl 2 rfl) ?_
  obtain ⟨o9, h10, hf⟩ := obO hf
  obtain ⟨v12, g11, hf⟩ := ob hf
  refine r_callV X kw_X1_85 (ci := 5) rfl (c_X5_nextBranch l B D cA m v7 x1 v12 g11) ⟨Nat.le_of_ble_eq_true rfl, Nat.le_of_ble_eq_true rfl⟩ h10 hR hS hl.1 rfl rfl (Nat.le_of_ble_eq_true rfl) ⟨Nat.le_of_ble_eq_true rfl, Nat.le_of_ble_eq_true rfl⟩ dX1_fillTail_14 (fun H locs hR hS => ?_)
  refine W.eq (g2 := F0 mt 17 ls [.int v12]) rfl ?_
  refine lv_istore (lv' := [(4, .int v12), (3, .int v6), (0, .ref (B + x0)), (1, .int x1), (2, .int x2)]) hx hb dX1_fillTail_17 hl (by decide) rfl (fun ls hl => ?_)
  refine lv_aload_n hx hb dX1_fillTail_19 rfl (lv_at hl 2 rfl) ?_
  obtain ⟨v13, g14, hf⟩ := ob hf
  refine gR_X1_20 X hR g14 dX1_fillTail_20 ?_
  refine lv_iload_n hx hb dX1_fillTail_23 rfl (lv_at hl 3 rfl) ?_
  obtain ⟨v15, g16, hf⟩ := ob hf
  refine r_lR (k := 4) (ty := .array .long) X hR rfl rfl g16 dX1_fillTail_24 ?_
  refine lv_iload_n hx hb dX1_fillTail_25 rfl (lv_at hl 1 rfl) ?_
  refine lv_iconst (v := 1) hx hb dX1_fillTail_26 (by decide) ?_
  refine lv_iadd hx hb dX1_fillTail_27 ?_
  refine lv_lconst (v := 0) hx hb dX1_fillTail_28 (by decide) ?_
  obtain ⟨m17, g18, hf⟩ := ob hf
  refine r_sJ X hR hS g18 dX1_fillTail_29 (fun H locs hR hS => ?_)
  refine lv_iload_n hx hb dX1_fillTail_30 rfl (lv_at hl 1 rfl) ?_
  refine lv_istore (lv' := [(5, .int v6), (4, .int v12), (3, .int v6), (0, .ref (B + x0)), (1, .int x1), (2, .int x2)]) hx hb dX1_fillTail_31 hl (by decide) rfl (fun ls hl => ?_)
  obtain ⟨e20, hwe20, hf⟩ := ob hf
  refine whl_rule (P := (fun t19 => ∀ (H : Heap) (locs : List Loc) (ls : Array Slot), Rl B D cA t19.2 H → va_S (fun q => B ≤ q) s.heap H locs → lv_has ls 6 [(0, .ref (B + x0)), (1, .int x1), (2, .int x2), (4, .int v12), (5, .int t19.1)] → W p l e (rmm 1 0 0 23) s mt args below meth c H locs 0 0 (MQ below (mQ B D cA none mZ) args s 0 0 (fun q => B ≤ q)) (F0 mt 33 ls []))) (Qx := (fun e20 => ∀ (H : Heap) (locs : List Loc) (ls : Array Slot), Rl B D cA e20 H → va_S (fun q => B ≤ q) s.heap H locs → lv_has ls 6 [] → W p l e (rmm 1 0 0 23) s mt args below meth c H locs 0 0 (MQ below (mQ B D cA none mZ) args s 0 0 (fun q => B ≤ q)) (F0 mt 121 ls []))) ?_ FU _ e20 hwe20 ?_ H locs ls hR hS (lv_sub hl [3, 4, 5, 1, 0] rfl)
  · clear hwe20 hf
    intro t19 q21 hf hxlq21 hxrq21 H locs ls hR hS hl
    obtain ⟨z22, m23⟩ := t19
    have hf : f_X1_fillTail_L33 m23 x0 x1 x2 v12 z22 = some q21 := hf
    have hR : Rl B D cA m23 H := hR
    have hl : lv_has ls 6 [(0, .ref (B + x0)), (1, .int x1), (2, .int x2), (4, .int v12), (5, .int z22)] := hl
    unfold f_X1_fillTail_L33 at hf
    refine lv_iload hx hb dX1_fillTail_33 (lv_at hl 4 rfl) ?_
    refine lv_iload_n hx hb dX1_fillTail_35 rfl (lv_at hl 2 rfl) ?_
    refine lv_icmp_le (tgt := 121) hx hb dX1_fillTail_36 (by decide) (fun c24 => ?_) (fun c24 => ?_)
    · rw [if_pos c24] at hf
      obtain rfl := Option.some.inj hf
      exact hxrq21 _ rfl H locs ls hR hS (lv_sub hl [] rfl)
    · rw [if_neg c24] at hf
      refine lv_aload_n hx hb dX1_fillTail_39 rfl (lv_at hl 0 rfl) ?_
      obtain ⟨v25, g26, hf⟩ := ob hf
      refine gR_X1_20 X hR g26 dX1_fillTail_40 ?_
      refine lv_iload_n hx hb dX1_fillTail_43 rfl (lv_at hl 1 rfl) ?_
      obtain ⟨v27, g28, hf⟩ := ob hf
      refine r_lR (k := 4) (ty := .array .long) X hR rfl rfl g28 dX1_fillTail_44 ?_
      refine lv_iload hx hb dX1_fillTail_45 (lv_at hl 4 rfl) ?_
      refine lv_aload_n hx hb dX1_fillTail_47 rfl (lv_at hl 0 rfl) ?_
      obtain ⟨v29, g30, hf⟩ := ob hf
      refine gR_X1_20 X hR g30 dX1_fillTail_48 ?_
      refine lv_iload_n hx hb dX1_fillTail_51 rfl (lv_at hl 1 rfl) ?_
      obtain ⟨v31, g32, hf⟩ := ob hf
      refine r_lR (k := 4) (ty := .array .long) X hR rfl rfl g32 dX1_fillTail_52 ?_
      refine lv_iload hx hb dX1_fillTail_53 (lv_at hl 4 rfl) ?_
      refine lv_iconst (v := 1) hx hb dX1_fillTail_55 (by decide) ?_
      refine lv_iadd hx hb dX1_fillTail_56 ?_
      obtain ⟨v33, g34, hf⟩ := ob hf
      refine r_lJ X hR g34 dX1_fillTail_57 ?_
      obtain ⟨m35, g36, hf⟩ := ob hf
      refine r_sJ X hR hS g36 dX1_fillTail_58 (fun H locs hR hS => ?_)
      refine lv_aload_n hx hb dX1_fillTail_59 rfl (lv_at hl 0 rfl) ?_
      obtain ⟨v37, g38, hf⟩ := ob hf
      refine gR_X1_17 X hR g38 dX1_fillTail_60 ?_
      refine lv_iload_n hx hb dX1_fillTail_63 rfl (lv_at hl 1 rfl) ?_
      obtain ⟨v39, g40, hf⟩ := ob hf
      refine r_lR (k := 4) (ty := .array .long) X hR rfl rfl g40 dX1_fillTail_64 ?_
      refine lv_iload hx hb dX1_fillTail_65 (lv_at hl 4 rfl) ?_
      obtain ⟨v41, g42, hf⟩ := ob hf
      refine r_lJ X hR g42 dX1_fillTail_67 ?_
      refine lv_lconst (v := 0) hx hb dX1_fillTail_68 (by decide) ?_
      refine r_lc_eq (tgt := 115) X dX1_fillTail_69 dX1_fillTail_70 (by decide) (fun c43 => ?_) (fun c43 => ?_)
      · rw [if_pos c43] at hf
        refine lv_iinc (v := (z22 + (-1))) (lv' := [(5, .int (z22 + (-1))), (0, .ref (B + x0)), (1, .int x1), (2, .int x2), (4, .int v12)]) hx hb dX1_fillTail_115 hl (k := 4) rfl (congrArg (fun z => z22 + z) (by decide)) (by decide) rfl (fun ls hl => ?_)
        refine lv_goto (tgt := 33) hx hb dX1_fillTail_118 (by decide) ?_
        obtain rfl := Option.some.inj hf
        exact hxlq21 _ rfl H locs ls hR hS (lv_sub hl [1, 2, 3, 4, 0] rfl)
      · rw [if_neg c43] at hf
        refine lv_aload_n hx hb dX1_fillTail_73 rfl (lv_at hl 0 rfl) ?_
        refine lv_iload_n hx hb dX1_fillTail_74 rfl (lv_at hl 1 rfl) ?_
        refine lv_iload_n hx hb dX1_fillTail_75 rfl (lv_at hl 2 rfl) ?_
        refine lv_iload hx hb dX1_fillTail_76 (lv_at hl 4 rfl) ?_
        obtain ⟨o44, h45, hf⟩ := obO hf
        obtain ⟨v47, g46, hf⟩ := ob hf
        refine r_callV X kw_X1_88 (ci := 1) rfl (c_X1_edgeHolds l B D cA m35 x0 x1 x2 z22 v47 g46) ⟨Nat.le_of_ble_eq_true rfl, Nat.le_of_ble_eq_true rfl⟩ h45 hR hS hl.1 rfl rfl (Nat.le_of_ble_eq_true rfl) ⟨Nat.le_of_ble_eq_true rfl, Nat.le_of_ble_eq_true rfl⟩ dX1_fillTail_78 (fun H locs hR hS => ?_)
        refine W.eq (g2 := F0 mt 81 ls [.int v47]) rfl ?_
        refine lv_if_eq (tgt := 115) hx hb dX1_fillTail_81 (by decide) (fun c48 => ?_) (fun c48 => ?_)
        · rw [if_pos c48] at hf
          refine lv_iinc (v := (z22 + (-1))) (lv' := [(5, .int (z22 + (-1))), (0, .ref (B + x0)), (1, .int x1), (2, .int x2), (4, .int v12)]) hx hb dX1_fillTail_115 hl (k := 4) rfl (congrArg (fun z => z22 + z) (by decide)) (by decide) rfl (fun ls hl => ?_)
          refine lv_goto (tgt := 33) hx hb dX1_fillTail_118 (by decide) ?_
          obtain rfl := Option.some.inj hf
          exact hxlq21 _ rfl H locs ls hR hS (lv_sub hl [1, 2, 3, 4, 0] rfl)
        · rw [if_neg c48] at hf
          refine lv_aload_n hx hb dX1_fillTail_84 rfl (lv_at hl 0 rfl) ?_
          obtain ⟨v49, g50, hf⟩ := ob hf
          refine gR_X1_20 X hR g50 dX1_fillTail_85 ?_
          refine lv_iload_n hx hb dX1_fillTail_88 rfl (lv_at hl 1 rfl) ?_
          obtain ⟨v51, g52, hf⟩ := ob hf
          refine r_lR (k := 4) (ty := .array .long) X hR rfl rfl g52 dX1_fillTail_89 ?_
          refine lv_iload hx hb dX1_fillTail_90 (lv_at hl 4 rfl) ?_
          refine lv_dup2_11 hx hb dX1_fillTail_92 rfl rfl ?_
          obtain ⟨v53, g54, hf⟩ := ob hf
          refine r_lJ X hR g54 dX1_fillTail_93 ?_
          refine lv_aload_n hx hb dX1_fillTail_94 rfl (lv_at hl 0 rfl) ?_
          obtain ⟨v55, g56, hf⟩ := ob hf
          refine gR_X1_17 X hR g56 dX1_fillTail_95 ?_
          refine lv_iload_n hx hb dX1_fillTail_98 rfl (lv_at hl 1 rfl) ?_
          obtain ⟨v57, g58, hf⟩ := ob hf
          refine r_lR (k := 4) (ty := .array .long) X hR rfl rfl g58 dX1_fillTail_99 ?_
          refine lv_iload hx hb dX1_fillTail_100 (lv_at hl 4 rfl) ?_
          obtain ⟨v59, g60, hf⟩ := ob hf
          refine r_lJ X hR g60 dX1_fillTail_102 ?_
          refine lv_aload_n hx hb dX1_fillTail_103 rfl (lv_at hl 0 rfl) ?_
          refine lv_iload hx hb dX1_fillTail_104 (lv_at hl 3 rfl) ?_
          refine lv_iload_n hx hb dX1_fillTail_106 rfl (lv_at hl 2 rfl) ?_
          refine lv_iload hx hb dX1_fillTail_107 (lv_at hl 4 rfl) ?_
          obtain ⟨o61, h62, hf⟩ := obO hf
          obtain ⟨v64, g63, hf⟩ := ob hf
          refine r_callV X kw_X1_92 (ci := 1) rfl (c_X1_waysAfter l B D cA m35 x0 v12 x2 z22 v64 g63) ⟨Nat.le_of_ble_eq_true rfl, Nat.le_of_ble_eq_true rfl⟩ h62 hR hS hl.1 rfl rfl (Nat.le_of_ble_eq_true rfl) ⟨Nat.le_of_ble_eq_true rfl, Nat.le_of_ble_eq_true rfl⟩ dX1_fillTail_109 (fun H locs hR hS => ?_)
          refine W.eq (g2 := F0 mt 112 ls [.long v64, .long v59, .long v53, .int z22, .ref (B + v51)]) rfl ?_
          refine lv_lmul hx hb dX1_fillTail_112 ?_
          refine lv_ladd hx hb dX1_fillTail_113 ?_
          obtain ⟨m65, g66, hf⟩ := ob hf
          refine r_sJ X hR hS g66 dX1_fillTail_114 (fun H locs hR hS => ?_)
          refine lv_iinc (v := (z22 + (-1))) (lv' := [(5, .int (z22 + (-1))), (0, .ref (B + x0)), (1, .int x1), (2, .int x2), (4, .int v12)]) hx hb dX1_fillTail_115 hl (k := 4) rfl (congrArg (fun z => z22 + z) (by decide)) (by decide) rfl (fun ls hl => ?_)
          refine lv_goto (tgt := 33) hx hb dX1_fillTail_118 (by decide) ?_
          obtain rfl := Option.some.inj hf
          exact hxlq21 _ rfl H locs ls hR hS (lv_sub hl [1, 2, 3, 4, 0] rfl)
  · intro H locs ls hR hS hl
    obtain rfl := Option.some.inj hf
    exact r_vret X hr hlocks hR hS dX1_fillTail_121
/-! ===== TwigMatches$Matcher.spread(II)V ===== -/
theorem dX1_spread_0 : decode cX1_spread 0 = .ok (.aload_n 0, 1) := by decide +kernel
theorem dX1_spread_1 : decode cX1_spread 1 = .ok (.getfield 40, 3) := by decide +kernel
theorem dX1_spread_4 : decode cX1_spread 4 = .ok (.iload_n 1, 1) := by decide +kernel
theorem dX1_spread_5 : decode cX1_spread 5 = .ok (.invokevirtual 76, 3) := by decide +kernel
theorem dX1_spread_8 : decode cX1_spread 8 = .ok (.istore_n 3, 1) := by decide +kernel
theorem dX1_spread_9 : decode cX1_spread 9 = .ok (.iload_n 3, 1) := by decide +kernel
theorem dX1_spread_10 : decode cX1_spread 10 = .ok (.iload_n 1, 1) := by decide +kernel
theorem dX1_spread_11 : decode cX1_spread 11 = .ok (.if_icmp .le 28, 3) := by decide +kernel
theorem dX1_spread_14 : decode cX1_spread 14 = .ok (.aload_n 0, 1) := by decide +kernel
theorem dX1_spread_15 : decode cX1_spread 15 = .ok (.getfield 40, 3) := by decide +kernel
theorem dX1_spread_18 : decode cX1_spread 18 = .ok (.getfield 79, 3) := by decide +kernel
theorem dX1_spread_21 : decode cX1_spread 21 = .ok (.iload_n 3, 1) := by decide +kernel
theorem dX1_spread_22 : decode cX1_spread 22 = .ok (.iaload, 1) := by decide +kernel
theorem dX1_spread_23 : decode cX1_spread 23 = .ok (.iload_n 1, 1) := by decide +kernel
theorem dX1_spread_24 : decode cX1_spread 24 = .ok (.if_icmp .ne 9, 3) := by decide +kernel
theorem dX1_spread_27 : decode cX1_spread 27 = .ok (.aload_n 0, 1) := by decide +kernel
theorem dX1_spread_28 : decode cX1_spread 28 = .ok (.iload_n 3, 1) := by decide +kernel
theorem dX1_spread_29 : decode cX1_spread 29 = .ok (.iload_n 2, 1) := by decide +kernel
theorem dX1_spread_30 : decode cX1_spread 30 = .ok (.invokevirtual 65, 3) := by decide +kernel
theorem dX1_spread_33 : decode cX1_spread 33 = .ok (.iinc 3 (-1), 3) := by decide +kernel
theorem dX1_spread_36 : decode cX1_spread 36 = .ok (.goto (-27), 3) := by decide +kernel
theorem dX1_spread_39 : decode cX1_spread 39 = .ok (.return_, 1) := by decide +kernel
set_option maxHeartbeats 4000000 in
set_option maxRecDepth 100000 in
theorem c_X1_spread (l : Launch) (B : Nat) (D : va_G) (cA : Nat → ClassId) (m : Mm) (x0 : Nat) (x1 : Int32) (x2 : Int32) (mZ : Mm) (hf : f_X1_spread m x0 x1 x2 = some mZ) : Mt l B D cA yX1_spread cX1_spread 4 none 2 48 0 0 [.ref (B + x0), .int x1, .int x2] m none mZ := by
  refine r_start (by decide) (Nat.le_of_ble_eq_true rfl) ?_
  intro p e s mt args below meth c ls H locs X hr hlocks hnm hR hl hS
  have hx := X.1
  have hb := X.2.1
  have hl : lv_has ls 4 [(0, .ref (B + x0)), (1, .int x1), (2, .int x2)] := hl
  unfold f_X1_spread at hf
  refine lv_aload_n hx hb dX1_spread_0 rfl (lv_at hl 0 rfl) ?_
  obtain ⟨v1, g2, hf⟩ := ob hf
  refine gR_X1_40 X hR g2 dX1_spread_1 ?_
  refine lv_iload_n hx hb dX1_spread_4 rfl (lv_at hl 1 rfl) ?_
  obtain ⟨o3, h4, hf⟩ := obO hf
  obtain ⟨v6, g5, hf⟩ := ob hf
  refine r_callV X kw_X1_76 (ci := 5) rfl (c_X5_last l B D cA m v1 x1 v6 g5) ⟨Nat.le_of_ble_eq_true rfl, Nat.le_of_ble_eq_true rfl⟩ h4 hR hS hl.1 rfl rfl (Nat.le_of_ble_eq_true rfl) ⟨Nat.le_of_ble_eq_true rfl, Nat.le_of_ble_eq_true rfl⟩ dX1_spread_5 (fun H locs hR hS => ?_)
  refine W.eq (g2 := F0 mt 8 ls [.int v6]) rfl ?_
  refine lv_istore_n (lv' := [(3, .int v6), (0, .ref (B + x0)), (1, .int x1), (2, .int x2)]) hx hb dX1_spread_8 rfl hl (by decide) rfl (fun ls hl => ?_)
  obtain ⟨e8, hwe8, hf⟩ := ob hf
  refine whl_rule (P := (fun t7 => ∀ (H : Heap) (locs : List Loc) (ls : Array Slot), Rl B D cA t7.2 H → va_S (fun q => B ≤ q) s.heap H locs → lv_has ls 4 [(0, .ref (B + x0)), (1, .int x1), (2, .int x2), (3, .int t7.1)] → W p l e (rmm 2 0 0 48) s mt args below meth c H locs 0 0 (MQ below (mQ B D cA none mZ) args s 0 0 (fun q => B ≤ q)) (F0 mt 9 ls []))) (Qx := (fun e8 => ∀ (H : Heap) (locs : List Loc) (ls : Array Slot), Rl B D cA e8 H → va_S (fun q => B ≤ q) s.heap H locs → lv_has ls 4 [] → W p l e (rmm 2 0 0 48) s mt args below meth c H locs 0 0 (MQ below (mQ B D cA none mZ) args s 0 0 (fun q => B ≤ q)) (F0 mt 39 ls []))) ?_ FU _ e8 hwe8 ?_ H locs ls hR hS (lv_sub hl [1, 2, 3, 0] rfl)
  · clear hwe8 hf
    intro t7 q9 hf hxlq9 hxrq9 H locs ls hR hS hl
    obtain ⟨z10, m11⟩ := t7
    have hf : f_X1_spread_L9 m11 x0 x1 x2 z10 = some q9 := hf
    have hR : Rl B D cA m11 H := hR
    have hl : lv_has ls 4 [(0, .ref (B + x0)), (1, .int x1), (2, .int x2), (3, .int z10)] := hl
    unfold f_X1_spread_L9 at hf
    refine lv_iload_n hx hb dX1_spread_9 rfl (lv_at hl 3 rfl) ?_
    refine lv_iload_n hx hb dX1_spread_10 rfl (lv_at hl 1 rfl) ?_
    refine lv_icmp_le (tgt := 39) hx hb dX1_spread_11 (by decide) (fun c12 => ?_) (fun c12 => ?_)
    · rw [if_pos c12] at hf
      obtain rfl := Option.some.inj hf
      exact hxrq9 _ rfl H locs ls hR hS (lv_sub hl [] rfl)
    · rw [if_neg c12] at hf
      refine lv_aload_n hx hb dX1_spread_14 rfl (lv_at hl 0 rfl) ?_
      obtain ⟨v13, g14, hf⟩ := ob hf
      refine gR_X1_40 X hR g14 dX1_spread_15 ?_
      obtain ⟨v15, g16, hf⟩ := ob hf
      refine gR_X1_79 X hR g16 dX1_spread_18 ?_
      refine lv_iload_n hx hb dX1_spread_21 rfl (lv_at hl 3 rfl) ?_
      obtain ⟨v17, g18, hf⟩ := ob hf
      refine r_lI X hR g18 dX1_spread_22 ?_
      refine lv_iload_n hx hb dX1_spread_23 rfl (lv_at hl 1 rfl) ?_
      refine lv_icmp_ne (tgt := 33) hx hb dX1_spread_24 (by decide) (fun c19 => ?_) (fun c19 => ?_)
      · rw [if_neg c19] at hf
        refine lv_iinc (v := (z10 + (-1))) (lv' := [(3, .int (z10 + (-1))), (0, .ref (B + x0)), (1, .int x1), (2, .int x2)]) hx hb dX1_spread_33 hl (k := 3) rfl (congrArg (fun z => z10 + z) (by decide)) (by decide) rfl (fun ls hl => ?_)
        refine lv_goto (tgt := 9) hx hb dX1_spread_36 (by decide) ?_
        obtain rfl := Option.some.inj hf
        exact hxlq9 _ rfl H locs ls hR hS (lv_sub hl [1, 2, 3, 0] rfl)
      · rw [if_pos c19] at hf
        refine lv_aload_n hx hb dX1_spread_27 rfl (lv_at hl 0 rfl) ?_
        refine lv_iload_n hx hb dX1_spread_28 rfl (lv_at hl 3 rfl) ?_
        refine lv_iload_n hx hb dX1_spread_29 rfl (lv_at hl 2 rfl) ?_
        obtain ⟨o20, h21, hf⟩ := obO hf
        obtain ⟨m23, g22, hf⟩ := ob hf
        refine r_callV X kw_X1_65 (ci := 1) rfl (c_X1_fillTail l B D cA m11 x0 z10 x2 m23 g22) ⟨Nat.le_of_ble_eq_true rfl, Nat.le_of_ble_eq_true rfl⟩ h21 hR hS hl.1 rfl rfl (Nat.le_of_ble_eq_true rfl) ⟨Nat.le_of_ble_eq_true rfl, Nat.le_of_ble_eq_true rfl⟩ dX1_spread_30 (fun H locs hR hS => ?_)
        refine W.eq (g2 := F0 mt 33 ls []) rfl ?_
        refine lv_iinc (v := (z10 + (-1))) (lv' := [(3, .int (z10 + (-1))), (0, .ref (B + x0)), (1, .int x1), (2, .int x2)]) hx hb dX1_spread_33 hl (k := 3) rfl (congrArg (fun z => z10 + z) (by decide)) (by decide) rfl (fun ls hl => ?_)
        refine lv_goto (tgt := 9) hx hb dX1_spread_36 (by decide) ?_
        obtain rfl := Option.some.inj hf
        exact hxlq9 _ rfl H locs ls hR hS (lv_sub hl [1, 2, 3, 0] rfl)
  · intro H locs ls hR hS hl
    obtain rfl := Option.some.inj hf
    exact r_vret X hr hlocks hR hS dX1_spread_39
