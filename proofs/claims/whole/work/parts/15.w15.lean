/-! ===== TwigMatches.adds(IIII)I ===== -/
theorem dX7_adds_0 : decode cX7_adds 0 = .ok (.aload_n 0, 1) := by decide +kernel
theorem dX7_adds_1 : decode cX7_adds 1 = .ok (.getfield 12, 3) := by decide +kernel
theorem dX7_adds_4 : decode cX7_adds 4 = .ok (.getfield 50, 3) := by decide +kernel
theorem dX7_adds_7 : decode cX7_adds 7 = .ok (.astore 5, 2) := by decide +kernel
theorem dX7_adds_9 : decode cX7_adds 9 = .ok (.aload 5, 2) := by decide +kernel
theorem dX7_adds_11 : decode cX7_adds 11 = .ok (.iload_n 1, 1) := by decide +kernel
theorem dX7_adds_12 : decode cX7_adds 12 = .ok (.invokevirtual 90, 3) := by decide +kernel
theorem dX7_adds_15 : decode cX7_adds 15 = .ok (.ifCond .eq 27, 3) := by decide +kernel
theorem dX7_adds_18 : decode cX7_adds 18 = .ok (.iload_n 3, 1) := by decide +kernel
theorem dX7_adds_19 : decode cX7_adds 19 = .ok (.iload 4, 2) := by decide +kernel
theorem dX7_adds_21 : decode cX7_adds 21 = .ok (.invokestatic 94, 3) := by decide +kernel
theorem dX7_adds_24 : decode cX7_adds 24 = .ok (.ifCond .eq 18, 3) := by decide +kernel
theorem dX7_adds_27 : decode cX7_adds 27 = .ok (.iload_n 2, 1) := by decide +kernel
theorem dX7_adds_28 : decode cX7_adds 28 = .ok (.ifCond .lt 14, 3) := by decide +kernel
theorem dX7_adds_31 : decode cX7_adds 31 = .ok (.iload_n 2, 1) := by decide +kernel
theorem dX7_adds_32 : decode cX7_adds 32 = .ok (.aload 5, 2) := by decide +kernel
theorem dX7_adds_34 : decode cX7_adds 34 = .ok (.iload_n 1, 1) := by decide +kernel
theorem dX7_adds_35 : decode cX7_adds 35 = .ok (.iconst (-1), 1) := by decide +kernel
theorem dX7_adds_36 : decode cX7_adds 36 = .ok (.invokevirtual 98, 3) := by decide +kernel
theorem dX7_adds_39 : decode cX7_adds 39 = .ok (.if_icmp .le 10, 3) := by decide +kernel
theorem dX7_adds_42 : decode cX7_adds 42 = .ok (.aload_n 0, 1) := by decide +kernel
theorem dX7_adds_43 : decode cX7_adds 43 = .ok (.bipush (-2), 2) := by decide +kernel
theorem dX7_adds_45 : decode cX7_adds 45 = .ok (.invokevirtual 102, 3) := by decide +kernel
theorem dX7_adds_48 : decode cX7_adds 48 = .ok (.ireturn, 1) := by decide +kernel
theorem dX7_adds_49 : decode cX7_adds 49 = .ok (.aload 5, 2) := by decide +kernel
theorem dX7_adds_51 : decode cX7_adds 51 = .ok (.getfield 106, 3) := by decide +kernel
theorem dX7_adds_54 : decode cX7_adds 54 = .ok (.iload_n 1, 1) := by decide +kernel
theorem dX7_adds_55 : decode cX7_adds 55 = .ok (.iaload, 1) := by decide +kernel
theorem dX7_adds_56 : decode cX7_adds 56 = .ok (.bipush 10, 2) := by decide +kernel
theorem dX7_adds_58 : decode cX7_adds 58 = .ok (.if_icmp .lt 10, 3) := by decide +kernel
theorem dX7_adds_61 : decode cX7_adds 61 = .ok (.aload_n 0, 1) := by decide +kernel
theorem dX7_adds_62 : decode cX7_adds 62 = .ok (.bipush (-3), 2) := by decide +kernel
theorem dX7_adds_64 : decode cX7_adds 64 = .ok (.invokevirtual 102, 3) := by decide +kernel
theorem dX7_adds_67 : decode cX7_adds 67 = .ok (.ireturn, 1) := by decide +kernel
theorem dX7_adds_68 : decode cX7_adds 68 = .ok (.aload 5, 2) := by decide +kernel
theorem dX7_adds_70 : decode cX7_adds 70 = .ok (.getfield 110, 3) := by decide +kernel
theorem dX7_adds_73 : decode cX7_adds 73 = .ok (.bipush 32, 2) := by decide +kernel
theorem dX7_adds_75 : decode cX7_adds 75 = .ok (.if_icmp .lt 10, 3) := by decide +kernel
theorem dX7_adds_78 : decode cX7_adds 78 = .ok (.aload_n 0, 1) := by decide +kernel
theorem dX7_adds_79 : decode cX7_adds 79 = .ok (.bipush (-4), 2) := by decide +kernel
theorem dX7_adds_81 : decode cX7_adds 81 = .ok (.invokevirtual 102, 3) := by decide +kernel
theorem dX7_adds_84 : decode cX7_adds 84 = .ok (.ireturn, 1) := by decide +kernel
theorem dX7_adds_85 : decode cX7_adds 85 = .ok (.aload_n 0, 1) := by decide +kernel
theorem dX7_adds_86 : decode cX7_adds 86 = .ok (.invokevirtual 113, 3) := by decide +kernel
theorem dX7_adds_89 : decode cX7_adds 89 = .ok (.aload 5, 2) := by decide +kernel
theorem dX7_adds_91 : decode cX7_adds 91 = .ok (.iload_n 1, 1) := by decide +kernel
theorem dX7_adds_92 : decode cX7_adds 92 = .ok (.iload_n 2, 1) := by decide +kernel
theorem dX7_adds_93 : decode cX7_adds 93 = .ok (.iconst (-1), 1) := by decide +kernel
theorem dX7_adds_94 : decode cX7_adds 94 = .ok (.invokevirtual 116, 3) := by decide +kernel
theorem dX7_adds_97 : decode cX7_adds 97 = .ok (.istore 6, 2) := by decide +kernel
theorem dX7_adds_99 : decode cX7_adds 99 = .ok (.aload 5, 2) := by decide +kernel
theorem dX7_adds_101 : decode cX7_adds 101 = .ok (.iload 6, 2) := by decide +kernel
theorem dX7_adds_103 : decode cX7_adds 103 = .ok (.aload 5, 2) := by decide +kernel
theorem dX7_adds_105 : decode cX7_adds 105 = .ok (.getfield 106, 3) := by decide +kernel
theorem dX7_adds_108 : decode cX7_adds 108 = .ok (.iload_n 1, 1) := by decide +kernel
theorem dX7_adds_109 : decode cX7_adds 109 = .ok (.iaload, 1) := by decide +kernel
theorem dX7_adds_110 : decode cX7_adds 110 = .ok (.iconst 1, 1) := by decide +kernel
theorem dX7_adds_111 : decode cX7_adds 111 = .ok (.iadd, 1) := by decide +kernel
theorem dX7_adds_112 : decode cX7_adds 112 = .ok (.iload_n 3, 1) := by decide +kernel
theorem dX7_adds_113 : decode cX7_adds 113 = .ok (.iload 4, 2) := by decide +kernel
theorem dX7_adds_115 : decode cX7_adds 115 = .ok (.invokevirtual 120, 3) := by decide +kernel
theorem dX7_adds_118 : decode cX7_adds 118 = .ok (.iload 6, 2) := by decide +kernel
theorem dX7_adds_120 : decode cX7_adds 120 = .ok (.ireturn, 1) := by decide +kernel
set_option maxHeartbeats 4000000 in
set_option maxRecDepth 100000 in
theorem c_X7_adds (l : Launch) (B : Nat) (D : va_G) (cA : Nat → ClassId) (m : Mm) (x0 : Nat) (x1 : Int32) (x2 : Int32) (x3 : Int32) (x4 : Int32) (rZ : Int32) (mZ : Mm) (hf : f_X7_adds m x0 x1 x2 x3 x4 = some (rZ, mZ)) : Mt l B D cA yX7_adds cX7_adds 7 (some .int) 4 103 0 0 [.ref (B + x0), .int x1, .int x2, .int x3, .int x4] m (some (.int rZ)) mZ := by
  refine r_start (by decide) (Nat.le_of_ble_eq_true rfl) ?_
  intro p e s mt args below meth c ls H locs X hr hlocks hnm hR hl hS
  have hx := X.1
  have hb := X.2.1
  have hl : lv_has ls 7 [(0, .ref (B + x0)), (1, .int x1), (2, .int x2), (3, .int x3), (4, .int x4)] := hl
  unfold f_X7_adds at hf
  refine lv_aload_n hx hb dX7_adds_0 rfl (lv_at hl 0 rfl) ?_
  obtain ⟨v1, g2, hf⟩ := ob hf
  refine gR_X7_12 X hR g2 dX7_adds_1 ?_
  obtain ⟨v3, g4, hf⟩ := ob hf
  refine gR_X7_50 X hR g4 dX7_adds_4 ?_
  refine lv_astore (lv' := [(5, .ref (B + v3)), (0, .ref (B + x0)), (1, .int x1), (2, .int x2), (3, .int x3), (4, .int x4)]) hx hb dX7_adds_7 hl (by decide) rfl (fun ls hl => ?_)
  refine lv_aload hx hb dX7_adds_9 (lv_at hl 0 rfl) ?_
  refine lv_iload_n hx hb dX7_adds_11 rfl (lv_at hl 2 rfl) ?_
  obtain ⟨o5, h6, hf⟩ := obO hf
  obtain ⟨v8, g7, hf⟩ := ob hf
  refine r_callV X kw_X7_90 (ci := 4) rfl (c_X4_has l B D cA m v3 x1 v8 g7) ⟨Nat.le_of_ble_eq_true rfl, Nat.le_of_ble_eq_true rfl⟩ h6 hR hS hl.1 rfl rfl (Nat.le_of_ble_eq_true rfl) ⟨Nat.le_of_ble_eq_true rfl, Nat.le_of_ble_eq_true rfl⟩ dX7_adds_12 (fun H locs hR hS => ?_)
  refine W.eq (g2 := F0 mt 15 ls [.int v8]) rfl ?_
  refine lv_if_eq (tgt := 42) hx hb dX7_adds_15 (by decide) (fun c9 => ?_) (fun c9 => ?_)
  · rw [if_pos c9] at hf
    refine lv_aload_n hx hb dX7_adds_42 rfl (lv_at hl 1 rfl) ?_
    refine lv_bipush (v := -2) hx hb dX7_adds_43 (by decide) ?_
    obtain ⟨o10, h11, hf⟩ := obO hf
    obtain ⟨t13, g12, hf⟩ := ob hf
    refine r_callV X kw_X7_102 (ci := 7) rfl (c_X7_failed l B D cA m x0 (-2 : Int32) t13.1 t13.2 g12) ⟨Nat.le_of_ble_eq_true rfl, Nat.le_of_ble_eq_true rfl⟩ h11 hR hS hl.1 rfl rfl (Nat.le_of_ble_eq_true rfl) ⟨Nat.le_of_ble_eq_true rfl, Nat.le_of_ble_eq_true rfl⟩ dX7_adds_45 (fun H locs hR hS => ?_)
    refine W.eq (g2 := F0 mt 48 ls [.int t13.1]) rfl ?_
    obtain ⟨rfl, rfl⟩ := Prod.mk.inj (Option.some.inj hf)
    exact r_iret X hr hlocks hR hS rfl dX7_adds_48
  · rw [if_neg c9] at hf
    refine lv_iload_n hx hb dX7_adds_18 rfl (lv_at hl 4 rfl) ?_
    refine lv_iload hx hb dX7_adds_19 (lv_at hl 5 rfl) ?_
    obtain ⟨v15, g14, hf⟩ := ob hf
    refine r_callS X kw_X7_94 (c_X7_isLabel l B D cA m x3 x4 v15 g14) ⟨Nat.le_of_ble_eq_true rfl, Nat.le_of_ble_eq_true rfl⟩ hR hS hl.1 rfl rfl (Nat.le_of_ble_eq_true rfl) ⟨Nat.le_of_ble_eq_true rfl, Nat.le_of_ble_eq_true rfl⟩ dX7_adds_21 (fun H locs hR hS => ?_)
    refine W.eq (g2 := F0 mt 24 ls [.int v15]) rfl ?_
    refine lv_if_eq (tgt := 42) hx hb dX7_adds_24 (by decide) (fun c16 => ?_) (fun c16 => ?_)
    · rw [if_pos c16] at hf
      refine lv_aload_n hx hb dX7_adds_42 rfl (lv_at hl 1 rfl) ?_
      refine lv_bipush (v := -2) hx hb dX7_adds_43 (by decide) ?_
      obtain ⟨o17, h18, hf⟩ := obO hf
      obtain ⟨t20, g19, hf⟩ := ob hf
      refine r_callV X kw_X7_102 (ci := 7) rfl (c_X7_failed l B D cA m x0 (-2 : Int32) t20.1 t20.2 g19) ⟨Nat.le_of_ble_eq_true rfl, Nat.le_of_ble_eq_true rfl⟩ h18 hR hS hl.1 rfl rfl (Nat.le_of_ble_eq_true rfl) ⟨Nat.le_of_ble_eq_true rfl, Nat.le_of_ble_eq_true rfl⟩ dX7_adds_45 (fun H locs hR hS => ?_)
      refine W.eq (g2 := F0 mt 48 ls [.int t20.1]) rfl ?_
      obtain ⟨rfl, rfl⟩ := Prod.mk.inj (Option.some.inj hf)
      exact r_iret X hr hlocks hR hS rfl dX7_adds_48
    · rw [if_neg c16] at hf
      refine lv_iload_n hx hb dX7_adds_27 rfl (lv_at hl 3 rfl) ?_
      refine lv_if_lt (tgt := 42) hx hb dX7_adds_28 (by decide) (fun c21 => ?_) (fun c21 => ?_)
      · rw [if_pos c21] at hf
        refine lv_aload_n hx hb dX7_adds_42 rfl (lv_at hl 1 rfl) ?_
        refine lv_bipush (v := -2) hx hb dX7_adds_43 (by decide) ?_
        obtain ⟨o22, h23, hf⟩ := obO hf
        obtain ⟨t25, g24, hf⟩ := ob hf
        refine r_callV X kw_X7_102 (ci := 7) rfl (c_X7_failed l B D cA m x0 (-2 : Int32) t25.1 t25.2 g24) ⟨Nat.le_of_ble_eq_true rfl, Nat.le_of_ble_eq_true rfl⟩ h23 hR hS hl.1 rfl rfl (Nat.le_of_ble_eq_true rfl) ⟨Nat.le_of_ble_eq_true rfl, Nat.le_of_ble_eq_true rfl⟩ dX7_adds_45 (fun H locs hR hS => ?_)
        refine W.eq (g2 := F0 mt 48 ls [.int t25.1]) rfl ?_
        obtain ⟨rfl, rfl⟩ := Prod.mk.inj (Option.some.inj hf)
        exact r_iret X hr hlocks hR hS rfl dX7_adds_48
      · rw [if_neg c21] at hf
        refine lv_iload_n hx hb dX7_adds_31 rfl (lv_at hl 3 rfl) ?_
        refine lv_aload hx hb dX7_adds_32 (lv_at hl 0 rfl) ?_
        refine lv_iload_n hx hb dX7_adds_34 rfl (lv_at hl 2 rfl) ?_
        refine lv_iconst (v := -1) hx hb dX7_adds_35 (by decide) ?_
        obtain ⟨o26, h27, hf⟩ := obO hf
        obtain ⟨v29, g28, hf⟩ := ob hf
        refine r_callV X kw_X7_98 (ci := 4) rfl (c_X4_childCount l B D cA m v3 x1 (-1 : Int32) v29 g28) ⟨Nat.le_of_ble_eq_true rfl, Nat.le_of_ble_eq_true rfl⟩ h27 hR hS hl.1 rfl rfl (Nat.le_of_ble_eq_true rfl) ⟨Nat.le_of_ble_eq_true rfl, Nat.le_of_ble_eq_true rfl⟩ dX7_adds_36 (fun H locs hR hS => ?_)
        refine W.eq (g2 := F0 mt 39 ls [.int v29, .int x2]) rfl ?_
        refine lv_icmp_le (tgt := 49) hx hb dX7_adds_39 (by decide) (fun c30 => ?_) (fun c30 => ?_)
        · rw [if_pos c30] at hf
          refine lv_aload hx hb dX7_adds_49 (lv_at hl 0 rfl) ?_
          obtain ⟨v31, g32, hf⟩ := ob hf
          refine gR_X7_106 X hR g32 dX7_adds_51 ?_
          refine lv_iload_n hx hb dX7_adds_54 rfl (lv_at hl 2 rfl) ?_
          obtain ⟨v33, g34, hf⟩ := ob hf
          refine r_lI X hR g34 dX7_adds_55 ?_
          refine lv_bipush (v := 10) hx hb dX7_adds_56 (by decide) ?_
          refine lv_icmp_lt (tgt := 68) hx hb dX7_adds_58 (by decide) (fun c35 => ?_) (fun c35 => ?_)
          · rw [if_pos c35] at hf
            refine lv_aload hx hb dX7_adds_68 (lv_at hl 0 rfl) ?_
            obtain ⟨v36, g37, hf⟩ := ob hf
            refine gI_X7_110 X hR g37 dX7_adds_70 ?_
            refine lv_bipush (v := 32) hx hb dX7_adds_73 (by decide) ?_
            refine lv_icmp_lt (tgt := 85) hx hb dX7_adds_75 (by decide) (fun c38 => ?_) (fun c38 => ?_)
            · rw [if_pos c38] at hf
              refine lv_aload_n hx hb dX7_adds_85 rfl (lv_at hl 1 rfl) ?_
              obtain ⟨o39, h40, hf⟩ := obO hf
              obtain ⟨m42, g41, hf⟩ := ob hf
              refine r_callV X kw_X7_113 (ci := 7) rfl (c_X7_keep l B D cA m x0 m42 g41) ⟨Nat.le_of_ble_eq_true rfl, Nat.le_of_ble_eq_true rfl⟩ h40 hR hS hl.1 rfl rfl (Nat.le_of_ble_eq_true rfl) ⟨Nat.le_of_ble_eq_true rfl, Nat.le_of_ble_eq_true rfl⟩ dX7_adds_86 (fun H locs hR hS => ?_)
              refine W.eq (g2 := F0 mt 89 ls []) rfl ?_
              refine lv_aload hx hb dX7_adds_89 (lv_at hl 0 rfl) ?_
              refine lv_iload_n hx hb dX7_adds_91 rfl (lv_at hl 2 rfl) ?_
              refine lv_iload_n hx hb dX7_adds_92 rfl (lv_at hl 3 rfl) ?_
              refine lv_iconst (v := -1) hx hb dX7_adds_93 (by decide) ?_
              obtain ⟨o43, h44, hf⟩ := obO hf
              obtain ⟨v46, g45, hf⟩ := ob hf
              refine r_callV X kw_X7_116 (ci := 4) rfl (c_X4_slot l B D cA m42 v3 x1 x2 (-1 : Int32) v46 g45) ⟨Nat.le_of_ble_eq_true rfl, Nat.le_of_ble_eq_true rfl⟩ h44 hR hS hl.1 rfl rfl (Nat.le_of_ble_eq_true rfl) ⟨Nat.le_of_ble_eq_true rfl, Nat.le_of_ble_eq_true rfl⟩ dX7_adds_94 (fun H locs hR hS => ?_)
              refine W.eq (g2 := F0 mt 97 ls [.int v46]) rfl ?_
              refine lv_istore (lv' := [(6, .int v46), (5, .ref (B + v3)), (0, .ref (B + x0)), (1, .int x1), (2, .int x2), (3, .int x3), (4, .int x4)]) hx hb dX7_adds_97 hl (by decide) rfl (fun ls hl => ?_)
              refine lv_aload hx hb dX7_adds_99 (lv_at hl 1 rfl) ?_
              refine lv_iload hx hb dX7_adds_101 (lv_at hl 0 rfl) ?_
              refine lv_aload hx hb dX7_adds_103 (lv_at hl 1 rfl) ?_
              obtain ⟨v47, g48, hf⟩ := ob hf
              refine gR_X7_106 X hR g48 dX7_adds_105 ?_
              refine lv_iload_n hx hb dX7_adds_108 rfl (lv_at hl 3 rfl) ?_
              obtain ⟨v49, g50, hf⟩ := ob hf
              refine r_lI X hR g50 dX7_adds_109 ?_
              refine lv_iconst (v := 1) hx hb dX7_adds_110 (by decide) ?_
              refine lv_iadd hx hb dX7_adds_111 ?_
              refine lv_iload_n hx hb dX7_adds_112 rfl (lv_at hl 5 rfl) ?_
              refine lv_iload hx hb dX7_adds_113 (lv_at hl 6 rfl) ?_
              obtain ⟨o51, h52, hf⟩ := obO hf
              obtain ⟨m54, g53, hf⟩ := ob hf
              refine r_callV X kw_X7_120 (ci := 4) rfl (c_X4_insert l B D cA m42 v3 v46 (v49 + (1 : Int32)) x3 x4 m54 g53) ⟨Nat.le_of_ble_eq_true rfl, Nat.le_of_ble_eq_true rfl⟩ h52 hR hS hl.1 rfl rfl (Nat.le_of_ble_eq_true rfl) ⟨Nat.le_of_ble_eq_true rfl, Nat.le_of_ble_eq_true rfl⟩ dX7_adds_115 (fun H locs hR hS => ?_)
              refine W.eq (g2 := F0 mt 118 ls []) rfl ?_
              refine lv_iload hx hb dX7_adds_118 (lv_at hl 0 rfl) ?_
              obtain ⟨rfl, rfl⟩ := Prod.mk.inj (Option.some.inj hf)
              exact r_iret X hr hlocks hR hS rfl dX7_adds_120
            · rw [if_neg c38] at hf
              refine lv_aload_n hx hb dX7_adds_78 rfl (lv_at hl 1 rfl) ?_
              refine lv_bipush (v := -4) hx hb dX7_adds_79 (by decide) ?_
              obtain ⟨o55, h56, hf⟩ := obO hf
              obtain ⟨t58, g57, hf⟩ := ob hf
              refine r_callV X kw_X7_102 (ci := 7) rfl (c_X7_failed l B D cA m x0 (-4 : Int32) t58.1 t58.2 g57) ⟨Nat.le_of_ble_eq_true rfl, Nat.le_of_ble_eq_true rfl⟩ h56 hR hS hl.1 rfl rfl (Nat.le_of_ble_eq_true rfl) ⟨Nat.le_of_ble_eq_true rfl, Nat.le_of_ble_eq_true rfl⟩ dX7_adds_81 (fun H locs hR hS => ?_)
              refine W.eq (g2 := F0 mt 84 ls [.int t58.1]) rfl ?_
              obtain ⟨rfl, rfl⟩ := Prod.mk.inj (Option.some.inj hf)
              exact r_iret X hr hlocks hR hS rfl dX7_adds_84
          · rw [if_neg c35] at hf
            refine lv_aload_n hx hb dX7_adds_61 rfl (lv_at hl 1 rfl) ?_
            refine lv_bipush (v := -3) hx hb dX7_adds_62 (by decide) ?_
            obtain ⟨o59, h60, hf⟩ := obO hf
            obtain ⟨t62, g61, hf⟩ := ob hf
            refine r_callV X kw_X7_102 (ci := 7) rfl (c_X7_failed l B D cA m x0 (-3 : Int32) t62.1 t62.2 g61) ⟨Nat.le_of_ble_eq_true rfl, Nat.le_of_ble_eq_true rfl⟩ h60 hR hS hl.1 rfl rfl (Nat.le_of_ble_eq_true rfl) ⟨Nat.le_of_ble_eq_true rfl, Nat.le_of_ble_eq_true rfl⟩ dX7_adds_64 (fun H locs hR hS => ?_)
            refine W.eq (g2 := F0 mt 67 ls [.int t62.1]) rfl ?_
            obtain ⟨rfl, rfl⟩ := Prod.mk.inj (Option.some.inj hf)
            exact r_iret X hr hlocks hR hS rfl dX7_adds_67
        · rw [if_neg c30] at hf
          refine lv_aload_n hx hb dX7_adds_42 rfl (lv_at hl 1 rfl) ?_
          refine lv_bipush (v := -2) hx hb dX7_adds_43 (by decide) ?_
          obtain ⟨o63, h64, hf⟩ := obO hf
          obtain ⟨t66, g65, hf⟩ := ob hf
          refine r_callV X kw_X7_102 (ci := 7) rfl (c_X7_failed l B D cA m x0 (-2 : Int32) t66.1 t66.2 g65) ⟨Nat.le_of_ble_eq_true rfl, Nat.le_of_ble_eq_true rfl⟩ h64 hR hS hl.1 rfl rfl (Nat.le_of_ble_eq_true rfl) ⟨Nat.le_of_ble_eq_true rfl, Nat.le_of_ble_eq_true rfl⟩ dX7_adds_45 (fun H locs hR hS => ?_)
          refine W.eq (g2 := F0 mt 48 ls [.int t66.1]) rfl ?_
          obtain ⟨rfl, rfl⟩ := Prod.mk.inj (Option.some.inj hf)
          exact r_iret X hr hlocks hR hS rfl dX7_adds_48
/-! ===== TwigMatches.drops(I)I ===== -/
theorem dX7_drops_0 : decode cX7_drops 0 = .ok (.aload_n 0, 1) := by decide +kernel
theorem dX7_drops_1 : decode cX7_drops 1 = .ok (.getfield 12, 3) := by decide +kernel
theorem dX7_drops_4 : decode cX7_drops 4 = .ok (.getfield 50, 3) := by decide +kernel
theorem dX7_drops_7 : decode cX7_drops 7 = .ok (.astore_n 2, 1) := by decide +kernel
theorem dX7_drops_8 : decode cX7_drops 8 = .ok (.aload_n 2, 1) := by decide +kernel
theorem dX7_drops_9 : decode cX7_drops 9 = .ok (.iload_n 1, 1) := by decide +kernel
theorem dX7_drops_10 : decode cX7_drops 10 = .ok (.invokevirtual 90, 3) := by decide +kernel
theorem dX7_drops_13 : decode cX7_drops 13 = .ok (.ifCond .ne 10, 3) := by decide +kernel
theorem dX7_drops_16 : decode cX7_drops 16 = .ok (.aload_n 0, 1) := by decide +kernel
theorem dX7_drops_17 : decode cX7_drops 17 = .ok (.bipush (-2), 2) := by decide +kernel
theorem dX7_drops_19 : decode cX7_drops 19 = .ok (.invokevirtual 102, 3) := by decide +kernel
theorem dX7_drops_22 : decode cX7_drops 22 = .ok (.ireturn, 1) := by decide +kernel
theorem dX7_drops_23 : decode cX7_drops 23 = .ok (.iload_n 1, 1) := by decide +kernel
theorem dX7_drops_24 : decode cX7_drops 24 = .ok (.ifCond .ne 10, 3) := by decide +kernel
theorem dX7_drops_27 : decode cX7_drops 27 = .ok (.aload_n 0, 1) := by decide +kernel
theorem dX7_drops_28 : decode cX7_drops 28 = .ok (.bipush (-3), 2) := by decide +kernel
theorem dX7_drops_30 : decode cX7_drops 30 = .ok (.invokevirtual 102, 3) := by decide +kernel
theorem dX7_drops_33 : decode cX7_drops 33 = .ok (.ireturn, 1) := by decide +kernel
theorem dX7_drops_34 : decode cX7_drops 34 = .ok (.aload_n 0, 1) := by decide +kernel
theorem dX7_drops_35 : decode cX7_drops 35 = .ok (.invokevirtual 113, 3) := by decide +kernel
theorem dX7_drops_38 : decode cX7_drops 38 = .ok (.aload_n 2, 1) := by decide +kernel
theorem dX7_drops_39 : decode cX7_drops 39 = .ok (.getfield 124, 3) := by decide +kernel
theorem dX7_drops_42 : decode cX7_drops 42 = .ok (.iload_n 1, 1) := by decide +kernel
theorem dX7_drops_43 : decode cX7_drops 43 = .ok (.iaload, 1) := by decide +kernel
theorem dX7_drops_44 : decode cX7_drops 44 = .ok (.iload_n 1, 1) := by decide +kernel
theorem dX7_drops_45 : decode cX7_drops 45 = .ok (.isub, 1) := by decide +kernel
theorem dX7_drops_46 : decode cX7_drops 46 = .ok (.iconst 1, 1) := by decide +kernel
theorem dX7_drops_47 : decode cX7_drops 47 = .ok (.iadd, 1) := by decide +kernel
theorem dX7_drops_48 : decode cX7_drops 48 = .ok (.istore_n 3, 1) := by decide +kernel
theorem dX7_drops_49 : decode cX7_drops 49 = .ok (.aload_n 2, 1) := by decide +kernel
theorem dX7_drops_50 : decode cX7_drops 50 = .ok (.iload_n 1, 1) := by decide +kernel
theorem dX7_drops_51 : decode cX7_drops 51 = .ok (.iload_n 3, 1) := by decide +kernel
theorem dX7_drops_52 : decode cX7_drops 52 = .ok (.invokevirtual 127, 3) := by decide +kernel
theorem dX7_drops_55 : decode cX7_drops 55 = .ok (.iload_n 3, 1) := by decide +kernel
theorem dX7_drops_56 : decode cX7_drops 56 = .ok (.ireturn, 1) := by decide +kernel
set_option maxHeartbeats 4000000 in
set_option maxRecDepth 100000 in
theorem c_X7_drops (l : Launch) (B : Nat) (D : va_G) (cA : Nat → ClassId) (m : Mm) (x0 : Nat) (x1 : Int32) (rZ : Int32) (mZ : Mm) (hf : f_X7_drops m x0 x1 = some (rZ, mZ)) : Mt l B D cA yX7_drops cX7_drops 4 (some .int) 4 103 0 0 [.ref (B + x0), .int x1] m (some (.int rZ)) mZ := by
  refine r_start (by decide) (Nat.le_of_ble_eq_true rfl) ?_
  intro p e s mt args below meth c ls H locs X hr hlocks hnm hR hl hS
  have hx := X.1
  have hb := X.2.1
  have hl : lv_has ls 4 [(0, .ref (B + x0)), (1, .int x1)] := hl
  unfold f_X7_drops at hf
  refine lv_aload_n hx hb dX7_drops_0 rfl (lv_at hl 0 rfl) ?_
  obtain ⟨v1, g2, hf⟩ := ob hf
  refine gR_X7_12 X hR g2 dX7_drops_1 ?_
  obtain ⟨v3, g4, hf⟩ := ob hf
  refine gR_X7_50 X hR g4 dX7_drops_4 ?_
  refine lv_astore_n (lv' := [(2, .ref (B + v3)), (0, .ref (B + x0)), (1, .int x1)]) hx hb dX7_drops_7 rfl hl (by decide) rfl (fun ls hl => ?_)
  refine lv_aload_n hx hb dX7_drops_8 rfl (lv_at hl 0 rfl) ?_
  refine lv_iload_n hx hb dX7_drops_9 rfl (lv_at hl 2 rfl) ?_
  obtain ⟨o5, h6, hf⟩ := obO hf
  obtain ⟨v8, g7, hf⟩ := ob hf
  refine r_callV X kw_X7_90 (ci := 4) rfl (c_X4_has l B D cA m v3 x1 v8 g7) ⟨Nat.le_of_ble_eq_true rfl, Nat.le_of_ble_eq_true rfl⟩ h6 hR hS hl.1 rfl rfl (Nat.le_of_ble_eq_true rfl) ⟨Nat.le_of_ble_eq_true rfl, Nat.le_of_ble_eq_true rfl⟩ dX7_drops_10 (fun H locs hR hS => ?_)
  refine W.eq (g2 := F0 mt 13 ls [.int v8]) rfl ?_
  refine lv_if_ne (tgt := 23) hx hb dX7_drops_13 (by decide) (fun c9 => ?_) (fun c9 => ?_)
  · rw [if_neg c9] at hf
    refine lv_iload_n hx hb dX7_drops_23 rfl (lv_at hl 2 rfl) ?_
    refine lv_if_ne (tgt := 34) hx hb dX7_drops_24 (by decide) (fun c10 => ?_) (fun c10 => ?_)
    · rw [if_neg c10] at hf
      refine lv_aload_n hx hb dX7_drops_34 rfl (lv_at hl 1 rfl) ?_
      obtain ⟨o11, h12, hf⟩ := obO hf
      obtain ⟨m14, g13, hf⟩ := ob hf
      refine r_callV X kw_X7_113 (ci := 7) rfl (c_X7_keep l B D cA m x0 m14 g13) ⟨Nat.le_of_ble_eq_true rfl, Nat.le_of_ble_eq_true rfl⟩ h12 hR hS hl.1 rfl rfl (Nat.le_of_ble_eq_true rfl) ⟨Nat.le_of_ble_eq_true rfl, Nat.le_of_ble_eq_true rfl⟩ dX7_drops_35 (fun H locs hR hS => ?_)
      refine W.eq (g2 := F0 mt 38 ls []) rfl ?_
      refine lv_aload_n hx hb dX7_drops_38 rfl (lv_at hl 0 rfl) ?_
      obtain ⟨v15, g16, hf⟩ := ob hf
      refine gR_X7_124 X hR g16 dX7_drops_39 ?_
      refine lv_iload_n hx hb dX7_drops_42 rfl (lv_at hl 2 rfl) ?_
      obtain ⟨v17, g18, hf⟩ := ob hf
      refine r_lI X hR g18 dX7_drops_43 ?_
      refine lv_iload_n hx hb dX7_drops_44 rfl (lv_at hl 2 rfl) ?_
      refine lv_isub hx hb dX7_drops_45 ?_
      refine lv_iconst (v := 1) hx hb dX7_drops_46 (by decide) ?_
      refine lv_iadd hx hb dX7_drops_47 ?_
      refine lv_istore_n (lv' := [(3, .int ((v17 - x1) + (1 : Int32))), (2, .ref (B + v3)), (0, .ref (B + x0)), (1, .int x1)]) hx hb dX7_drops_48 rfl hl (by decide) rfl (fun ls hl => ?_)
      refine lv_aload_n hx hb dX7_drops_49 rfl (lv_at hl 1 rfl) ?_
      refine lv_iload_n hx hb dX7_drops_50 rfl (lv_at hl 3 rfl) ?_
      refine lv_iload_n hx hb dX7_drops_51 rfl (lv_at hl 0 rfl) ?_
      obtain ⟨o19, h20, hf⟩ := obO hf
      obtain ⟨m22, g21, hf⟩ := ob hf
      refine r_callV X kw_X7_127 (ci := 4) rfl (c_X4_remove l B D cA m14 v3 x1 ((v17 - x1) + (1 : Int32)) m22 g21) ⟨Nat.le_of_ble_eq_true rfl, Nat.le_of_ble_eq_true rfl⟩ h20 hR hS hl.1 rfl rfl (Nat.le_of_ble_eq_true rfl) ⟨Nat.le_of_ble_eq_true rfl, Nat.le_of_ble_eq_true rfl⟩ dX7_drops_52 (fun H locs hR hS => ?_)
      refine W.eq (g2 := F0 mt 55 ls []) rfl ?_
      refine lv_iload_n hx hb dX7_drops_55 rfl (lv_at hl 0 rfl) ?_
      obtain ⟨rfl, rfl⟩ := Prod.mk.inj (Option.some.inj hf)
      exact r_iret X hr hlocks hR hS rfl dX7_drops_56
    · rw [if_pos c10] at hf
      refine lv_aload_n hx hb dX7_drops_27 rfl (lv_at hl 1 rfl) ?_
      refine lv_bipush (v := -3) hx hb dX7_drops_28 (by decide) ?_
      obtain ⟨o23, h24, hf⟩ := obO hf
      obtain ⟨t26, g25, hf⟩ := ob hf
      refine r_callV X kw_X7_102 (ci := 7) rfl (c_X7_failed l B D cA m x0 (-3 : Int32) t26.1 t26.2 g25) ⟨Nat.le_of_ble_eq_true rfl, Nat.le_of_ble_eq_true rfl⟩ h24 hR hS hl.1 rfl rfl (Nat.le_of_ble_eq_true rfl) ⟨Nat.le_of_ble_eq_true rfl, Nat.le_of_ble_eq_true rfl⟩ dX7_drops_30 (fun H locs hR hS => ?_)
      refine W.eq (g2 := F0 mt 33 ls [.int t26.1]) rfl ?_
      obtain ⟨rfl, rfl⟩ := Prod.mk.inj (Option.some.inj hf)
      exact r_iret X hr hlocks hR hS rfl dX7_drops_33
  · rw [if_pos c9] at hf
    refine lv_aload_n hx hb dX7_drops_16 rfl (lv_at hl 1 rfl) ?_
    refine lv_bipush (v := -2) hx hb dX7_drops_17 (by decide) ?_
    obtain ⟨o27, h28, hf⟩ := obO hf
    obtain ⟨t30, g29, hf⟩ := ob hf
    refine r_callV X kw_X7_102 (ci := 7) rfl (c_X7_failed l B D cA m x0 (-2 : Int32) t30.1 t30.2 g29) ⟨Nat.le_of_ble_eq_true rfl, Nat.le_of_ble_eq_true rfl⟩ h28 hR hS hl.1 rfl rfl (Nat.le_of_ble_eq_true rfl) ⟨Nat.le_of_ble_eq_true rfl, Nat.le_of_ble_eq_true rfl⟩ dX7_drops_19 (fun H locs hR hS => ?_)
    refine W.eq (g2 := F0 mt 22 ls [.int t30.1]) rfl ?_
    obtain ⟨rfl, rfl⟩ := Prod.mk.inj (Option.some.inj hf)
    exact r_iret X hr hlocks hR hS rfl dX7_drops_22
/-! ===== TwigMatches.sets(III)I ===== -/
theorem dX7_sets_0 : decode cX7_sets 0 = .ok (.aload_n 0, 1) := by decide +kernel
theorem dX7_sets_1 : decode cX7_sets 1 = .ok (.getfield 12, 3) := by decide +kernel
theorem dX7_sets_4 : decode cX7_sets 4 = .ok (.getfield 50, 3) := by decide +kernel
theorem dX7_sets_7 : decode cX7_sets 7 = .ok (.astore 4, 2) := by decide +kernel
theorem dX7_sets_9 : decode cX7_sets 9 = .ok (.aload 4, 2) := by decide +kernel
theorem dX7_sets_11 : decode cX7_sets 11 = .ok (.iload_n 1, 1) := by decide +kernel
theorem dX7_sets_12 : decode cX7_sets 12 = .ok (.invokevirtual 90, 3) := by decide +kernel
theorem dX7_sets_15 : decode cX7_sets 15 = .ok (.ifCond .eq 11, 3) := by decide +kernel
theorem dX7_sets_18 : decode cX7_sets 18 = .ok (.iload_n 2, 1) := by decide +kernel
theorem dX7_sets_19 : decode cX7_sets 19 = .ok (.iload_n 3, 1) := by decide +kernel
theorem dX7_sets_20 : decode cX7_sets 20 = .ok (.invokestatic 94, 3) := by decide +kernel
theorem dX7_sets_23 : decode cX7_sets 23 = .ok (.ifCond .ne 10, 3) := by decide +kernel
theorem dX7_sets_26 : decode cX7_sets 26 = .ok (.aload_n 0, 1) := by decide +kernel
theorem dX7_sets_27 : decode cX7_sets 27 = .ok (.bipush (-2), 2) := by decide +kernel
theorem dX7_sets_29 : decode cX7_sets 29 = .ok (.invokevirtual 102, 3) := by decide +kernel
theorem dX7_sets_32 : decode cX7_sets 32 = .ok (.ireturn, 1) := by decide +kernel
theorem dX7_sets_33 : decode cX7_sets 33 = .ok (.aload_n 0, 1) := by decide +kernel
theorem dX7_sets_34 : decode cX7_sets 34 = .ok (.invokevirtual 113, 3) := by decide +kernel
theorem dX7_sets_37 : decode cX7_sets 37 = .ok (.bipush 10, 2) := by decide +kernel
theorem dX7_sets_39 : decode cX7_sets 39 = .ok (.aload 4, 2) := by decide +kernel
theorem dX7_sets_41 : decode cX7_sets 41 = .ok (.getfield 130, 3) := by decide +kernel
theorem dX7_sets_44 : decode cX7_sets 44 = .ok (.iload_n 1, 1) := by decide +kernel
theorem dX7_sets_45 : decode cX7_sets 45 = .ok (.iaload, 1) := by decide +kernel
theorem dX7_sets_46 : decode cX7_sets 46 = .ok (.imul, 1) := by decide +kernel
theorem dX7_sets_47 : decode cX7_sets 47 = .ok (.aload 4, 2) := by decide +kernel
theorem dX7_sets_49 : decode cX7_sets 49 = .ok (.getfield 133, 3) := by decide +kernel
theorem dX7_sets_52 : decode cX7_sets 52 = .ok (.iload_n 1, 1) := by decide +kernel
theorem dX7_sets_53 : decode cX7_sets 53 = .ok (.iaload, 1) := by decide +kernel
theorem dX7_sets_54 : decode cX7_sets 54 = .ok (.iadd, 1) := by decide +kernel
theorem dX7_sets_55 : decode cX7_sets 55 = .ok (.istore 5, 2) := by decide +kernel
theorem dX7_sets_57 : decode cX7_sets 57 = .ok (.aload 4, 2) := by decide +kernel
theorem dX7_sets_59 : decode cX7_sets 59 = .ok (.getfield 130, 3) := by decide +kernel
theorem dX7_sets_62 : decode cX7_sets 62 = .ok (.iload_n 1, 1) := by decide +kernel
theorem dX7_sets_63 : decode cX7_sets 63 = .ok (.iload_n 2, 1) := by decide +kernel
theorem dX7_sets_64 : decode cX7_sets 64 = .ok (.iastore, 1) := by decide +kernel
theorem dX7_sets_65 : decode cX7_sets 65 = .ok (.aload 4, 2) := by decide +kernel
theorem dX7_sets_67 : decode cX7_sets 67 = .ok (.getfield 133, 3) := by decide +kernel
theorem dX7_sets_70 : decode cX7_sets 70 = .ok (.iload_n 1, 1) := by decide +kernel
theorem dX7_sets_71 : decode cX7_sets 71 = .ok (.iload_n 3, 1) := by decide +kernel
theorem dX7_sets_72 : decode cX7_sets 72 = .ok (.iastore, 1) := by decide +kernel
theorem dX7_sets_73 : decode cX7_sets 73 = .ok (.iload 5, 2) := by decide +kernel
theorem dX7_sets_75 : decode cX7_sets 75 = .ok (.ireturn, 1) := by decide +kernel
set_option maxHeartbeats 4000000 in
set_option maxRecDepth 100000 in
theorem c_X7_sets (l : Launch) (B : Nat) (D : va_G) (cA : Nat → ClassId) (m : Mm) (x0 : Nat) (x1 : Int32) (x2 : Int32) (x3 : Int32) (rZ : Int32) (mZ : Mm) (hf : f_X7_sets m x0 x1 x2 x3 = some (rZ, mZ)) : Mt l B D cA yX7_sets cX7_sets 6 (some .int) 4 103 0 0 [.ref (B + x0), .int x1, .int x2, .int x3] m (some (.int rZ)) mZ := by
  refine r_start (by decide) (Nat.le_of_ble_eq_true rfl) ?_
  intro p e s mt args below meth c ls H locs X hr hlocks hnm hR hl hS
  have hx := X.1
  have hb := X.2.1
  have hl : lv_has ls 6 [(0, .ref (B + x0)), (1, .int x1), (2, .int x2), (3, .int x3)] := hl
  unfold f_X7_sets at hf
  refine lv_aload_n hx hb dX7_sets_0 rfl (lv_at hl 0 rfl) ?_
  obtain ⟨v1, g2, hf⟩ := ob hf
  refine gR_X7_12 X hR g2 dX7_sets_1 ?_
  obtain ⟨v3, g4, hf⟩ := ob hf
  refine gR_X7_50 X hR g4 dX7_sets_4 ?_
  refine lv_astore (lv' := [(4, .ref (B + v3)), (0, .ref (B + x0)), (1, .int x1), (2, .int x2), (3, .int x3)]) hx hb dX7_sets_7 hl (by decide) rfl (fun ls hl => ?_)
  refine lv_aload hx hb dX7_sets_9 (lv_at hl 0 rfl) ?_
  refine lv_iload_n hx hb dX7_sets_11 rfl (lv_at hl 2 rfl) ?_
  obtain ⟨o5, h6, hf⟩ := obO hf
  obtain ⟨v8, g7, hf⟩ := ob hf
  refine r_callV X kw_X7_90 (ci := 4) rfl (c_X4_has l B D cA m v3 x1 v8 g7) ⟨Nat.le_of_ble_eq_true rfl, Nat.le_of_ble_eq_true rfl⟩ h6 hR hS hl.1 rfl rfl (Nat.le_of_ble_eq_true rfl) ⟨Nat.le_of_ble_eq_true rfl, Nat.le_of_ble_eq_true rfl⟩ dX7_sets_12 (fun H locs hR hS => ?_)
  refine W.eq (g2 := F0 mt 15 ls [.int v8]) rfl ?_
  refine lv_if_eq (tgt := 26) hx hb dX7_sets_15 (by decide) (fun c9 => ?_) (fun c9 => ?_)
  · rw [if_pos c9] at hf
    refine lv_aload_n hx hb dX7_sets_26 rfl (lv_at hl 1 rfl) ?_
    refine lv_bipush (v := -2) hx hb dX7_sets_27 (by decide) ?_
    obtain ⟨o10, h11, hf⟩ := obO hf
    obtain ⟨t13, g12, hf⟩ := ob hf
    refine r_callV X kw_X7_102 (ci := 7) rfl (c_X7_failed l B D cA m x0 (-2 : Int32) t13.1 t13.2 g12) ⟨Nat.le_of_ble_eq_true rfl, Nat.le_of_ble_eq_true rfl⟩ h11 hR hS hl.1 rfl rfl (Nat.le_of_ble_eq_true rfl) ⟨Nat.le_of_ble_eq_true rfl, Nat.le_of_ble_eq_true rfl⟩ dX7_sets_29 (fun H locs hR hS => ?_)
    refine W.eq (g2 := F0 mt 32 ls [.int t13.1]) rfl ?_
    obtain ⟨rfl, rfl⟩ := Prod.mk.inj (Option.some.inj hf)
    exact r_iret X hr hlocks hR hS rfl dX7_sets_32
  · rw [if_neg c9] at hf
    refine lv_iload_n hx hb dX7_sets_18 rfl (lv_at hl 3 rfl) ?_
    refine lv_iload_n hx hb dX7_sets_19 rfl (lv_at hl 4 rfl) ?_
    obtain ⟨v15, g14, hf⟩ := ob hf
    refine r_callS X kw_X7_94 (c_X7_isLabel l B D cA m x2 x3 v15 g14) ⟨Nat.le_of_ble_eq_true rfl, Nat.le_of_ble_eq_true rfl⟩ hR hS hl.1 rfl rfl (Nat.le_of_ble_eq_true rfl) ⟨Nat.le_of_ble_eq_true rfl, Nat.le_of_ble_eq_true rfl⟩ dX7_sets_20 (fun H locs hR hS => ?_)
    refine W.eq (g2 := F0 mt 23 ls [.int v15]) rfl ?_
    refine lv_if_ne (tgt := 33) hx hb dX7_sets_23 (by decide) (fun c16 => ?_) (fun c16 => ?_)
    · rw [if_neg c16] at hf
      refine lv_aload_n hx hb dX7_sets_33 rfl (lv_at hl 1 rfl) ?_
      obtain ⟨o17, h18, hf⟩ := obO hf
      obtain ⟨m20, g19, hf⟩ := ob hf
      refine r_callV X kw_X7_113 (ci := 7) rfl (c_X7_keep l B D cA m x0 m20 g19) ⟨Nat.le_of_ble_eq_true rfl, Nat.le_of_ble_eq_true rfl⟩ h18 hR hS hl.1 rfl rfl (Nat.le_of_ble_eq_true rfl) ⟨Nat.le_of_ble_eq_true rfl, Nat.le_of_ble_eq_true rfl⟩ dX7_sets_34 (fun H locs hR hS => ?_)
      refine W.eq (g2 := F0 mt 37 ls []) rfl ?_
      refine lv_bipush (v := 10) hx hb dX7_sets_37 (by decide) ?_
      refine lv_aload hx hb dX7_sets_39 (lv_at hl 0 rfl) ?_
      obtain ⟨v21, g22, hf⟩ := ob hf
      refine gR_X7_130 X hR g22 dX7_sets_41 ?_
      refine lv_iload_n hx hb dX7_sets_44 rfl (lv_at hl 2 rfl) ?_
      obtain ⟨v23, g24, hf⟩ := ob hf
      refine r_lI X hR g24 dX7_sets_45 ?_
      refine lv_imul hx hb dX7_sets_46 ?_
      refine lv_aload hx hb dX7_sets_47 (lv_at hl 0 rfl) ?_
      obtain ⟨v25, g26, hf⟩ := ob hf
      refine gR_X7_133 X hR g26 dX7_sets_49 ?_
      refine lv_iload_n hx hb dX7_sets_52 rfl (lv_at hl 2 rfl) ?_
      obtain ⟨v27, g28, hf⟩ := ob hf
      refine r_lI X hR g28 dX7_sets_53 ?_
      refine lv_iadd hx hb dX7_sets_54 ?_
      refine lv_istore (lv' := [(5, .int (((10 : Int32) * v23) + v27)), (4, .ref (B + v3)), (0, .ref (B + x0)), (1, .int x1), (2, .int x2), (3, .int x3)]) hx hb dX7_sets_55 hl (by decide) rfl (fun ls hl => ?_)
      refine lv_aload hx hb dX7_sets_57 (lv_at hl 1 rfl) ?_
      obtain ⟨v29, g30, hf⟩ := ob hf
      refine gR_X7_130 X hR g30 dX7_sets_59 ?_
      refine lv_iload_n hx hb dX7_sets_62 rfl (lv_at hl 3 rfl) ?_
      refine lv_iload_n hx hb dX7_sets_63 rfl (lv_at hl 4 rfl) ?_
      obtain ⟨m31, g32, hf⟩ := ob hf
      refine r_sI X hR hS g32 dX7_sets_64 (fun H locs hR hS => ?_)
      refine lv_aload hx hb dX7_sets_65 (lv_at hl 1 rfl) ?_
      obtain ⟨v33, g34, hf⟩ := ob hf
      refine gR_X7_133 X hR g34 dX7_sets_67 ?_
      refine lv_iload_n hx hb dX7_sets_70 rfl (lv_at hl 3 rfl) ?_
      refine lv_iload_n hx hb dX7_sets_71 rfl (lv_at hl 5 rfl) ?_
      obtain ⟨m35, g36, hf⟩ := ob hf
      refine r_sI X hR hS g36 dX7_sets_72 (fun H locs hR hS => ?_)
      refine lv_iload hx hb dX7_sets_73 (lv_at hl 0 rfl) ?_
      obtain ⟨rfl, rfl⟩ := Prod.mk.inj (Option.some.inj hf)
      exact r_iret X hr hlocks hR hS rfl dX7_sets_75
    · rw [if_pos c16] at hf
      refine lv_aload_n hx hb dX7_sets_26 rfl (lv_at hl 1 rfl) ?_
      refine lv_bipush (v := -2) hx hb dX7_sets_27 (by decide) ?_
      obtain ⟨o37, h38, hf⟩ := obO hf
      obtain ⟨t40, g39, hf⟩ := ob hf
      refine r_callV X kw_X7_102 (ci := 7) rfl (c_X7_failed l B D cA m x0 (-2 : Int32) t40.1 t40.2 g39) ⟨Nat.le_of_ble_eq_true rfl, Nat.le_of_ble_eq_true rfl⟩ h38 hR hS hl.1 rfl rfl (Nat.le_of_ble_eq_true rfl) ⟨Nat.le_of_ble_eq_true rfl, Nat.le_of_ble_eq_true rfl⟩ dX7_sets_29 (fun H locs hR hS => ?_)
      refine W.eq (g2 := F0 mt 32 ls [.int t40.1]) rfl ?_
      obtain ⟨rfl, rfl⟩ := Prod.mk.inj (Option.some.inj hf)
      exact r_iret X hr hlocks hR hS rfl dX7_sets_32
/-! ===== TwigMatches.moves(III)I ===== -/
theorem dX7_moves_0 : decode cX7_moves 0 = .ok (.aload_n 0, 1) := by decide +kernel
theorem dX7_moves_1 : decode cX7_moves 1 = .ok (.getfield 12, 3) := by decide +kernel
theorem dX7_moves_4 : decode cX7_moves 4 = .ok (.getfield 50, 3) := by decide +kernel
theorem dX7_moves_7 : decode cX7_moves 7 = .ok (.astore 4, 2) := by decide +kernel
theorem dX7_moves_9 : decode cX7_moves 9 = .ok (.aload 4, 2) := by decide +kernel
theorem dX7_moves_11 : decode cX7_moves 11 = .ok (.iload_n 1, 1) := by decide +kernel
theorem dX7_moves_12 : decode cX7_moves 12 = .ok (.invokevirtual 90, 3) := by decide +kernel
theorem dX7_moves_15 : decode cX7_moves 15 = .ok (.ifCond .eq 27, 3) := by decide +kernel
theorem dX7_moves_18 : decode cX7_moves 18 = .ok (.aload 4, 2) := by decide +kernel
theorem dX7_moves_20 : decode cX7_moves 20 = .ok (.iload_n 2, 1) := by decide +kernel
theorem dX7_moves_21 : decode cX7_moves 21 = .ok (.invokevirtual 90, 3) := by decide +kernel
theorem dX7_moves_24 : decode cX7_moves 24 = .ok (.ifCond .eq 18, 3) := by decide +kernel
theorem dX7_moves_27 : decode cX7_moves 27 = .ok (.iload_n 3, 1) := by decide +kernel
theorem dX7_moves_28 : decode cX7_moves 28 = .ok (.ifCond .lt 14, 3) := by decide +kernel
theorem dX7_moves_31 : decode cX7_moves 31 = .ok (.iload_n 3, 1) := by decide +kernel
theorem dX7_moves_32 : decode cX7_moves 32 = .ok (.aload 4, 2) := by decide +kernel
theorem dX7_moves_34 : decode cX7_moves 34 = .ok (.iload_n 2, 1) := by decide +kernel
theorem dX7_moves_35 : decode cX7_moves 35 = .ok (.iload_n 1, 1) := by decide +kernel
theorem dX7_moves_36 : decode cX7_moves 36 = .ok (.invokevirtual 98, 3) := by decide +kernel
theorem dX7_moves_39 : decode cX7_moves 39 = .ok (.if_icmp .le 10, 3) := by decide +kernel
theorem dX7_moves_42 : decode cX7_moves 42 = .ok (.aload_n 0, 1) := by decide +kernel
theorem dX7_moves_43 : decode cX7_moves 43 = .ok (.bipush (-2), 2) := by decide +kernel
theorem dX7_moves_45 : decode cX7_moves 45 = .ok (.invokevirtual 102, 3) := by decide +kernel
theorem dX7_moves_48 : decode cX7_moves 48 = .ok (.ireturn, 1) := by decide +kernel
theorem dX7_moves_49 : decode cX7_moves 49 = .ok (.iload_n 2, 1) := by decide +kernel
theorem dX7_moves_50 : decode cX7_moves 50 = .ok (.iload_n 1, 1) := by decide +kernel
theorem dX7_moves_51 : decode cX7_moves 51 = .ok (.if_icmp .lt 18, 3) := by decide +kernel
theorem dX7_moves_54 : decode cX7_moves 54 = .ok (.iload_n 2, 1) := by decide +kernel
theorem dX7_moves_55 : decode cX7_moves 55 = .ok (.aload 4, 2) := by decide +kernel
theorem dX7_moves_57 : decode cX7_moves 57 = .ok (.getfield 124, 3) := by decide +kernel
theorem dX7_moves_60 : decode cX7_moves 60 = .ok (.iload_n 1, 1) := by decide +kernel
theorem dX7_moves_61 : decode cX7_moves 61 = .ok (.iaload, 1) := by decide +kernel
theorem dX7_moves_62 : decode cX7_moves 62 = .ok (.if_icmp .gt 7, 3) := by decide +kernel
theorem dX7_moves_65 : decode cX7_moves 65 = .ok (.iconst 1, 1) := by decide +kernel
theorem dX7_moves_66 : decode cX7_moves 66 = .ok (.goto 4, 3) := by decide +kernel
theorem dX7_moves_69 : decode cX7_moves 69 = .ok (.iconst 0, 1) := by decide +kernel
theorem dX7_moves_70 : decode cX7_moves 70 = .ok (.istore 5, 2) := by decide +kernel
theorem dX7_moves_72 : decode cX7_moves 72 = .ok (.aload 4, 2) := by decide +kernel
theorem dX7_moves_74 : decode cX7_moves 74 = .ok (.getfield 106, 3) := by decide +kernel
theorem dX7_moves_77 : decode cX7_moves 77 = .ok (.iload_n 2, 1) := by decide +kernel
theorem dX7_moves_78 : decode cX7_moves 78 = .ok (.iaload, 1) := by decide +kernel
theorem dX7_moves_79 : decode cX7_moves 79 = .ok (.iconst 1, 1) := by decide +kernel
theorem dX7_moves_80 : decode cX7_moves 80 = .ok (.iadd, 1) := by decide +kernel
theorem dX7_moves_81 : decode cX7_moves 81 = .ok (.aload 4, 2) := by decide +kernel
theorem dX7_moves_83 : decode cX7_moves 83 = .ok (.getfield 106, 3) := by decide +kernel
theorem dX7_moves_86 : decode cX7_moves 86 = .ok (.iload_n 1, 1) := by decide +kernel
theorem dX7_moves_87 : decode cX7_moves 87 = .ok (.iaload, 1) := by decide +kernel
theorem dX7_moves_88 : decode cX7_moves 88 = .ok (.isub, 1) := by decide +kernel
theorem dX7_moves_89 : decode cX7_moves 89 = .ok (.istore 6, 2) := by decide +kernel
theorem dX7_moves_91 : decode cX7_moves 91 = .ok (.iload_n 1, 1) := by decide +kernel
theorem dX7_moves_92 : decode cX7_moves 92 = .ok (.ifCond .eq 22, 3) := by decide +kernel
theorem dX7_moves_95 : decode cX7_moves 95 = .ok (.iload 5, 2) := by decide +kernel
theorem dX7_moves_97 : decode cX7_moves 97 = .ok (.ifCond .ne 17, 3) := by decide +kernel
theorem dX7_moves_100 : decode cX7_moves 100 = .ok (.aload 4, 2) := by decide +kernel
theorem dX7_moves_102 : decode cX7_moves 102 = .ok (.iload_n 1, 1) := by decide +kernel
theorem dX7_moves_103 : decode cX7_moves 103 = .ok (.invokevirtual 136, 3) := by decide +kernel
theorem dX7_moves_106 : decode cX7_moves 106 = .ok (.iload 6, 2) := by decide +kernel
theorem dX7_moves_108 : decode cX7_moves 108 = .ok (.iadd, 1) := by decide +kernel
theorem dX7_moves_109 : decode cX7_moves 109 = .ok (.bipush 10, 2) := by decide +kernel
theorem dX7_moves_111 : decode cX7_moves 111 = .ok (.if_icmp .le 10, 3) := by decide +kernel
theorem dX7_moves_114 : decode cX7_moves 114 = .ok (.aload_n 0, 1) := by decide +kernel
theorem dX7_moves_115 : decode cX7_moves 115 = .ok (.bipush (-3), 2) := by decide +kernel
theorem dX7_moves_117 : decode cX7_moves 117 = .ok (.invokevirtual 102, 3) := by decide +kernel
theorem dX7_moves_120 : decode cX7_moves 120 = .ok (.ireturn, 1) := by decide +kernel
theorem dX7_moves_121 : decode cX7_moves 121 = .ok (.aload_n 0, 1) := by decide +kernel
theorem dX7_moves_122 : decode cX7_moves 122 = .ok (.invokevirtual 113, 3) := by decide +kernel
theorem dX7_moves_125 : decode cX7_moves 125 = .ok (.aload 4, 2) := by decide +kernel
theorem dX7_moves_127 : decode cX7_moves 127 = .ok (.getfield 124, 3) := by decide +kernel
theorem dX7_moves_130 : decode cX7_moves 130 = .ok (.iload_n 1, 1) := by decide +kernel
theorem dX7_moves_131 : decode cX7_moves 131 = .ok (.iaload, 1) := by decide +kernel
theorem dX7_moves_132 : decode cX7_moves 132 = .ok (.iload_n 1, 1) := by decide +kernel
theorem dX7_moves_133 : decode cX7_moves 133 = .ok (.isub, 1) := by decide +kernel
theorem dX7_moves_134 : decode cX7_moves 134 = .ok (.iconst 1, 1) := by decide +kernel
theorem dX7_moves_135 : decode cX7_moves 135 = .ok (.iadd, 1) := by decide +kernel
theorem dX7_moves_136 : decode cX7_moves 136 = .ok (.istore 7, 2) := by decide +kernel
theorem dX7_moves_138 : decode cX7_moves 138 = .ok (.aload 4, 2) := by decide +kernel
theorem dX7_moves_140 : decode cX7_moves 140 = .ok (.iload_n 2, 1) := by decide +kernel
theorem dX7_moves_141 : decode cX7_moves 141 = .ok (.iload_n 3, 1) := by decide +kernel
theorem dX7_moves_142 : decode cX7_moves 142 = .ok (.iload_n 1, 1) := by decide +kernel
theorem dX7_moves_143 : decode cX7_moves 143 = .ok (.invokevirtual 116, 3) := by decide +kernel
theorem dX7_moves_146 : decode cX7_moves 146 = .ok (.istore 8, 2) := by decide +kernel
theorem dX7_moves_148 : decode cX7_moves 148 = .ok (.iload 8, 2) := by decide +kernel
theorem dX7_moves_150 : decode cX7_moves 150 = .ok (.iload_n 1, 1) := by decide +kernel
theorem dX7_moves_151 : decode cX7_moves 151 = .ok (.if_icmp .le 11, 3) := by decide +kernel
theorem dX7_moves_154 : decode cX7_moves 154 = .ok (.iload 8, 2) := by decide +kernel
theorem dX7_moves_156 : decode cX7_moves 156 = .ok (.iload 7, 2) := by decide +kernel
theorem dX7_moves_158 : decode cX7_moves 158 = .ok (.isub, 1) := by decide +kernel
theorem dX7_moves_159 : decode cX7_moves 159 = .ok (.goto 5, 3) := by decide +kernel
theorem dX7_moves_162 : decode cX7_moves 162 = .ok (.iload 8, 2) := by decide +kernel
theorem dX7_moves_164 : decode cX7_moves 164 = .ok (.istore 9, 2) := by decide +kernel
theorem dX7_moves_166 : decode cX7_moves 166 = .ok (.aload_n 0, 1) := by decide +kernel
theorem dX7_moves_167 : decode cX7_moves 167 = .ok (.getfield 37, 3) := by decide +kernel
theorem dX7_moves_170 : decode cX7_moves 170 = .ok (.aload 4, 2) := by decide +kernel
theorem dX7_moves_172 : decode cX7_moves 172 = .ok (.invokevirtual 139, 3) := by decide +kernel
theorem dX7_moves_175 : decode cX7_moves 175 = .ok (.aload 4, 2) := by decide +kernel
theorem dX7_moves_177 : decode cX7_moves 177 = .ok (.aload_n 0, 1) := by decide +kernel
theorem dX7_moves_178 : decode cX7_moves 178 = .ok (.getfield 37, 3) := by decide +kernel
theorem dX7_moves_181 : decode cX7_moves 181 = .ok (.iload_n 1, 1) := by decide +kernel
theorem dX7_moves_182 : decode cX7_moves 182 = .ok (.iload 9, 2) := by decide +kernel
theorem dX7_moves_184 : decode cX7_moves 184 = .ok (.iload 6, 2) := by decide +kernel
theorem dX7_moves_186 : decode cX7_moves 186 = .ok (.invokevirtual 143, 3) := by decide +kernel
theorem dX7_moves_189 : decode cX7_moves 189 = .ok (.iload 9, 2) := by decide +kernel
theorem dX7_moves_191 : decode cX7_moves 191 = .ok (.ireturn, 1) := by decide +kernel
set_option maxHeartbeats 4000000 in
set_option maxRecDepth 100000 in
theorem c_X7_moves (l : Launch) (B : Nat) (D : va_G) (cA : Nat → ClassId) (m : Mm) (x0 : Nat) (x1 : Int32) (x2 : Int32) (x3 : Int32) (rZ : Int32) (mZ : Mm) (hf : f_X7_moves m x0 x1 x2 x3 = some (rZ, mZ)) : Mt l B D cA yX7_moves cX7_moves 10 (some .int) 4 103 0 0 [.ref (B + x0), .int x1, .int x2, .int x3] m (some (.int rZ)) mZ := by
  refine r_start (by decide) (Nat.le_of_ble_eq_true rfl) ?_
  intro p e s mt args below meth c ls H locs X hr hlocks hnm hR hl hS
  have hx := X.1
  have hb := X.2.1
  have hl : lv_has ls 10 [(0, .ref (B + x0)), (1, .int x1), (2, .int x2), (3, .int x3)] := hl
  unfold f_X7_moves at hf
  refine lv_aload_n hx hb dX7_moves_0 rfl (lv_at hl 0 rfl) ?_
  obtain ⟨v1, g2, hf⟩ := ob hf
  refine gR_X7_12 X hR g2 dX7_moves_1 ?_
  obtain ⟨v3, g4, hf⟩ := ob hf
  refine gR_X7_50 X hR g4 dX7_moves_4 ?_
  refine lv_astore (lv' := [(4, .ref (B + v3)), (0, .ref (B + x0)), (1, .int x1), (2, .int x2), (3, .int x3)]) hx hb dX7_moves_7 hl (by decide) rfl (fun ls hl => ?_)
  refine lv_aload hx hb dX7_moves_9 (lv_at hl 0 rfl) ?_
  refine lv_iload_n hx hb dX7_moves_11 rfl (lv_at hl 2 rfl) ?_
  obtain ⟨o5, h6, hf⟩ := obO hf
  obtain ⟨v8, g7, hf⟩ := ob hf
  refine r_callV X kw_X7_90 (ci := 4) rfl (c_X4_has l B D cA m v3 x1 v8 g7) ⟨Nat.le_of_ble_eq_true rfl, Nat.le_of_ble_eq_true rfl⟩ h6 hR hS hl.1 rfl rfl (Nat.le_of_ble_eq_true rfl) ⟨Nat.le_of_ble_eq_true rfl, Nat.le_of_ble_eq_true rfl⟩ dX7_moves_12 (fun H locs hR hS => ?_)
  refine W.eq (g2 := F0 mt 15 ls [.int v8]) rfl ?_
  refine lv_if_eq (tgt := 42) hx hb dX7_moves_15 (by decide) (fun c9 => ?_) (fun c9 => ?_)
  · rw [if_pos c9] at hf
    refine lv_aload_n hx hb dX7_moves_42 rfl (lv_at hl 1 rfl) ?_
    refine lv_bipush (v := -2) hx hb dX7_moves_43 (by decide) ?_
    obtain ⟨o10, h11, hf⟩ := obO hf
    obtain ⟨t13, g12, hf⟩ := ob hf
    refine r_callV X kw_X7_102 (ci := 7) rfl (c_X7_failed l B D cA m x0 (-2 : Int32) t13.1 t13.2 g12) ⟨Nat.le_of_ble_eq_true rfl, Nat.le_of_ble_eq_true rfl⟩ h11 hR hS hl.1 rfl rfl (Nat.le_of_ble_eq_true rfl) ⟨Nat.le_of_ble_eq_true rfl, Nat.le_of_ble_eq_true rfl⟩ dX7_moves_45 (fun H locs hR hS => ?_)
    refine W.eq (g2 := F0 mt 48 ls [.int t13.1]) rfl ?_
    obtain ⟨rfl, rfl⟩ := Prod.mk.inj (Option.some.inj hf)
    exact r_iret X hr hlocks hR hS rfl dX7_moves_48
  · rw [if_neg c9] at hf
    refine lv_aload hx hb dX7_moves_18 (lv_at hl 0 rfl) ?_
    refine lv_iload_n hx hb dX7_moves_20 rfl (lv_at hl 3 rfl) ?_
    obtain ⟨o14, h15, hf⟩ := obO hf
    obtain ⟨v17, g16, hf⟩ := ob hf
    refine r_callV X kw_X7_90 (ci := 4) rfl (c_X4_has l B D cA m v3 x2 v17 g16) ⟨Nat.le_of_ble_eq_true rfl, Nat.le_of_ble_eq_true rfl⟩ h15 hR hS hl.1 rfl rfl (Nat.le_of_ble_eq_true rfl) ⟨Nat.le_of_ble_eq_true rfl, Nat.le_of_ble_eq_true rfl⟩ dX7_moves_21 (fun H locs hR hS => ?_)
    refine W.eq (g2 := F0 mt 24 ls [.int v17]) rfl ?_
    refine lv_if_eq (tgt := 42) hx hb dX7_moves_24 (by decide) (fun c18 => ?_) (fun c18 => ?_)
    · rw [if_pos c18] at hf
      refine lv_aload_n hx hb dX7_moves_42 rfl (lv_at hl 1 rfl) ?_
      refine lv_bipush (v := -2) hx hb dX7_moves_43 (by decide) ?_
      obtain ⟨o19, h20, hf⟩ := obO hf
      obtain ⟨t22, g21, hf⟩ := ob hf
      refine r_callV X kw_X7_102 (ci := 7) rfl (c_X7_failed l B D cA m x0 (-2 : Int32) t22.1 t22.2 g21) ⟨Nat.le_of_ble_eq_true rfl, Nat.le_of_ble_eq_true rfl⟩ h20 hR hS hl.1 rfl rfl (Nat.le_of_ble_eq_true rfl) ⟨Nat.le_of_ble_eq_true rfl, Nat.le_of_ble_eq_true rfl⟩ dX7_moves_45 (fun H locs hR hS => ?_)
      refine W.eq (g2 := F0 mt 48 ls [.int t22.1]) rfl ?_
      obtain ⟨rfl, rfl⟩ := Prod.mk.inj (Option.some.inj hf)
      exact r_iret X hr hlocks hR hS rfl dX7_moves_48
    · rw [if_neg c18] at hf
      refine lv_iload_n hx hb dX7_moves_27 rfl (lv_at hl 4 rfl) ?_
      refine lv_if_lt (tgt := 42) hx hb dX7_moves_28 (by decide) (fun c23 => ?_) (fun c23 => ?_)
      · rw [if_pos c23] at hf
        refine lv_aload_n hx hb dX7_moves_42 rfl (lv_at hl 1 rfl) ?_
        refine lv_bipush (v := -2) hx hb dX7_moves_43 (by decide) ?_
        obtain ⟨o24, h25, hf⟩ := obO hf
        obtain ⟨t27, g26, hf⟩ := ob hf
        refine r_callV X kw_X7_102 (ci := 7) rfl (c_X7_failed l B D cA m x0 (-2 : Int32) t27.1 t27.2 g26) ⟨Nat.le_of_ble_eq_true rfl, Nat.le_of_ble_eq_true rfl⟩ h25 hR hS hl.1 rfl rfl (Nat.le_of_ble_eq_true rfl) ⟨Nat.le_of_ble_eq_true rfl, Nat.le_of_ble_eq_true rfl⟩ dX7_moves_45 (fun H locs hR hS => ?_)
        refine W.eq (g2 := F0 mt 48 ls [.int t27.1]) rfl ?_
        obtain ⟨rfl, rfl⟩ := Prod.mk.inj (Option.some.inj hf)
        exact r_iret X hr hlocks hR hS rfl dX7_moves_48
      · rw [if_neg c23] at hf
        refine lv_iload_n hx hb dX7_moves_31 rfl (lv_at hl 4 rfl) ?_
        refine lv_aload hx hb dX7_moves_32 (lv_at hl 0 rfl) ?_
        refine lv_iload_n hx hb dX7_moves_34 rfl (lv_at hl 3 rfl) ?_
        refine lv_iload_n hx hb dX7_moves_35 rfl (lv_at hl 2 rfl) ?_
        obtain ⟨o28, h29, hf⟩ := obO hf
        obtain ⟨v31, g30, hf⟩ := ob hf
        refine r_callV X kw_X7_98 (ci := 4) rfl (c_X4_childCount l B D cA m v3 x2 x1 v31 g30) ⟨Nat.le_of_ble_eq_true rfl, Nat.le_of_ble_eq_true rfl⟩ h29 hR hS hl.1 rfl rfl (Nat.le_of_ble_eq_true rfl) ⟨Nat.le_of_ble_eq_true rfl, Nat.le_of_ble_eq_true rfl⟩ dX7_moves_36 (fun H locs hR hS => ?_)
        refine W.eq (g2 := F0 mt 39 ls [.int v31, .int x3]) rfl ?_
        refine lv_icmp_le (tgt := 49) hx hb dX7_moves_39 (by decide) (fun c32 => ?_) (fun c32 => ?_)
        · rw [if_pos c32] at hf
          refine lv_iload_n hx hb dX7_moves_49 rfl (lv_at hl 3 rfl) ?_
          refine lv_iload_n hx hb dX7_moves_50 rfl (lv_at hl 2 rfl) ?_
          obtain ⟨t33, hjt33, hf⟩ := ob hf
          have hJt33 : ∀ (H : Heap) (locs : List Loc) (ls : Array Slot), Rl B D cA m H → va_S (fun q => B ≤ q) s.heap H locs → lv_has ls 10 [(0, .ref (B + x0)), (1, .int x1), (2, .int x2), (3, .int x3), (4, .ref (B + v3))] → W p l e (rmm 4 0 0 103) s mt args below meth c H locs 0 0 (MQ below (mQ B D cA (some (.int rZ)) mZ) args s 0 0 (fun q => B ≤ q)) (F0 mt 70 ls [.int t33]) := by
            intro H locs ls hR hS hl
            refine lv_istore (lv' := [(5, .int t33), (0, .ref (B + x0)), (1, .int x1), (2, .int x2), (3, .int x3), (4, .ref (B + v3))]) hx hb dX7_moves_70 hl (by decide) rfl (fun ls hl => ?_)
            refine lv_aload hx hb dX7_moves_72 (lv_at hl 5 rfl) ?_
            obtain ⟨v40, g41, hf⟩ := ob hf
            refine gR_X7_106 X hR g41 dX7_moves_74 ?_
            refine lv_iload_n hx hb dX7_moves_77 rfl (lv_at hl 3 rfl) ?_
            obtain ⟨v42, g43, hf⟩ := ob hf
            refine r_lI X hR g43 dX7_moves_78 ?_
            refine lv_iconst (v := 1) hx hb dX7_moves_79 (by decide) ?_
            refine lv_iadd hx hb dX7_moves_80 ?_
            refine lv_aload hx hb dX7_moves_81 (lv_at hl 5 rfl) ?_
            obtain ⟨v44, g45, hf⟩ := ob hf
            refine gR_X7_106 X hR g45 dX7_moves_83 ?_
            refine lv_iload_n hx hb dX7_moves_86 rfl (lv_at hl 2 rfl) ?_
            obtain ⟨v46, g47, hf⟩ := ob hf
            refine r_lI X hR g47 dX7_moves_87 ?_
            refine lv_isub hx hb dX7_moves_88 ?_
            refine lv_istore (lv' := [(6, .int ((v42 + (1 : Int32)) - v46)), (5, .int t33), (0, .ref (B + x0)), (1, .int x1), (2, .int x2), (3, .int x3), (4, .ref (B + v3))]) hx hb dX7_moves_89 hl (by decide) rfl (fun ls hl => ?_)
            refine lv_iload_n hx hb dX7_moves_91 rfl (lv_at hl 3 rfl) ?_
            refine lv_if_eq (tgt := 114) hx hb dX7_moves_92 (by decide) (fun c48 => ?_) (fun c48 => ?_)
            · rw [if_pos c48] at hf
              refine lv_aload_n hx hb dX7_moves_114 rfl (lv_at hl 2 rfl) ?_
              refine lv_bipush (v := -3) hx hb dX7_moves_115 (by decide) ?_
              obtain ⟨o49, h50, hf⟩ := obO hf
              obtain ⟨t52, g51, hf⟩ := ob hf
              refine r_callV X kw_X7_102 (ci := 7) rfl (c_X7_failed l B D cA m x0 (-3 : Int32) t52.1 t52.2 g51) ⟨Nat.le_of_ble_eq_true rfl, Nat.le_of_ble_eq_true rfl⟩ h50 hR hS hl.1 rfl rfl (Nat.le_of_ble_eq_true rfl) ⟨Nat.le_of_ble_eq_true rfl, Nat.le_of_ble_eq_true rfl⟩ dX7_moves_117 (fun H locs hR hS => ?_)
              refine W.eq (g2 := F0 mt 120 ls [.int t52.1]) rfl ?_
              obtain ⟨rfl, rfl⟩ := Prod.mk.inj (Option.some.inj hf)
              exact r_iret X hr hlocks hR hS rfl dX7_moves_120
            · rw [if_neg c48] at hf
              refine lv_iload hx hb dX7_moves_95 (lv_at hl 1 rfl) ?_
              refine lv_if_ne (tgt := 114) hx hb dX7_moves_97 (by decide) (fun c53 => ?_) (fun c53 => ?_)
              · rw [if_neg c53] at hf
                refine lv_aload_n hx hb dX7_moves_114 rfl (lv_at hl 2 rfl) ?_
                refine lv_bipush (v := -3) hx hb dX7_moves_115 (by decide) ?_
                obtain ⟨o54, h55, hf⟩ := obO hf
                obtain ⟨t57, g56, hf⟩ := ob hf
                refine r_callV X kw_X7_102 (ci := 7) rfl (c_X7_failed l B D cA m x0 (-3 : Int32) t57.1 t57.2 g56) ⟨Nat.le_of_ble_eq_true rfl, Nat.le_of_ble_eq_true rfl⟩ h55 hR hS hl.1 rfl rfl (Nat.le_of_ble_eq_true rfl) ⟨Nat.le_of_ble_eq_true rfl, Nat.le_of_ble_eq_true rfl⟩ dX7_moves_117 (fun H locs hR hS => ?_)
                refine W.eq (g2 := F0 mt 120 ls [.int t57.1]) rfl ?_
                obtain ⟨rfl, rfl⟩ := Prod.mk.inj (Option.some.inj hf)
                exact r_iret X hr hlocks hR hS rfl dX7_moves_120
              · rw [if_pos c53] at hf
                refine lv_aload hx hb dX7_moves_100 (lv_at hl 6 rfl) ?_
                refine lv_iload_n hx hb dX7_moves_102 rfl (lv_at hl 3 rfl) ?_
                obtain ⟨o58, h59, hf⟩ := obO hf
                obtain ⟨v61, g60, hf⟩ := ob hf
                refine r_callV X kw_X7_136 (ci := 4) rfl (c_X4_deepest l B D cA m v3 x1 v61 g60) ⟨Nat.le_of_ble_eq_true rfl, Nat.le_of_ble_eq_true rfl⟩ h59 hR hS hl.1 rfl rfl (Nat.le_of_ble_eq_true rfl) ⟨Nat.le_of_ble_eq_true rfl, Nat.le_of_ble_eq_true rfl⟩ dX7_moves_103 (fun H locs hR hS => ?_)
                refine W.eq (g2 := F0 mt 106 ls [.int v61]) rfl ?_
                refine lv_iload hx hb dX7_moves_106 (lv_at hl 0 rfl) ?_
                refine lv_iadd hx hb dX7_moves_108 ?_
                refine lv_bipush (v := 10) hx hb dX7_moves_109 (by decide) ?_
                refine lv_icmp_le (tgt := 121) hx hb dX7_moves_111 (by decide) (fun c62 => ?_) (fun c62 => ?_)
                · rw [if_pos c62] at hf
                  refine lv_aload_n hx hb dX7_moves_121 rfl (lv_at hl 2 rfl) ?_
                  obtain ⟨o63, h64, hf⟩ := obO hf
                  obtain ⟨m66, g65, hf⟩ := ob hf
                  refine r_callV X kw_X7_113 (ci := 7) rfl (c_X7_keep l B D cA m x0 m66 g65) ⟨Nat.le_of_ble_eq_true rfl, Nat.le_of_ble_eq_true rfl⟩ h64 hR hS hl.1 rfl rfl (Nat.le_of_ble_eq_true rfl) ⟨Nat.le_of_ble_eq_true rfl, Nat.le_of_ble_eq_true rfl⟩ dX7_moves_122 (fun H locs hR hS => ?_)
                  refine W.eq (g2 := F0 mt 125 ls []) rfl ?_
                  refine lv_aload hx hb dX7_moves_125 (lv_at hl 6 rfl) ?_
                  obtain ⟨v67, g68, hf⟩ := ob hf
                  refine gR_X7_124 X hR g68 dX7_moves_127 ?_
                  refine lv_iload_n hx hb dX7_moves_130 rfl (lv_at hl 3 rfl) ?_
                  obtain ⟨v69, g70, hf⟩ := ob hf
                  refine r_lI X hR g70 dX7_moves_131 ?_
                  refine lv_iload_n hx hb dX7_moves_132 rfl (lv_at hl 3 rfl) ?_
                  refine lv_isub hx hb dX7_moves_133 ?_
                  refine lv_iconst (v := 1) hx hb dX7_moves_134 (by decide) ?_
                  refine lv_iadd hx hb dX7_moves_135 ?_
                  refine lv_istore (lv' := [(7, .int ((v69 - x1) + (1 : Int32))), (6, .int ((v42 + (1 : Int32)) - v46)), (5, .int t33), (0, .ref (B + x0)), (1, .int x1), (2, .int x2), (3, .int x3), (4, .ref (B + v3))]) hx hb dX7_moves_136 hl (by decide) rfl (fun ls hl => ?_)
                  refine lv_aload hx hb dX7_moves_138 (lv_at hl 7 rfl) ?_
                  refine lv_iload_n hx hb dX7_moves_140 rfl (lv_at hl 5 rfl) ?_
                  refine lv_iload_n hx hb dX7_moves_141 rfl (lv_at hl 6 rfl) ?_
                  refine lv_iload_n hx hb dX7_moves_142 rfl (lv_at hl 4 rfl) ?_
                  obtain ⟨o71, h72, hf⟩ := obO hf
                  obtain ⟨v74, g73, hf⟩ := ob hf
                  refine r_callV X kw_X7_116 (ci := 4) rfl (c_X4_slot l B D cA m66 v3 x2 x3 x1 v74 g73) ⟨Nat.le_of_ble_eq_true rfl, Nat.le_of_ble_eq_true rfl⟩ h72 hR hS hl.1 rfl rfl (Nat.le_of_ble_eq_true rfl) ⟨Nat.le_of_ble_eq_true rfl, Nat.le_of_ble_eq_true rfl⟩ dX7_moves_143 (fun H locs hR hS => ?_)
                  refine W.eq (g2 := F0 mt 146 ls [.int v74]) rfl ?_
                  refine lv_istore (lv' := [(8, .int v74), (7, .int ((v69 - x1) + (1 : Int32))), (6, .int ((v42 + (1 : Int32)) - v46)), (5, .int t33), (0, .ref (B + x0)), (1, .int x1), (2, .int x2), (3, .int x3), (4, .ref (B + v3))]) hx hb dX7_moves_146 hl (by decide) rfl (fun ls hl => ?_)
                  refine lv_iload hx hb dX7_moves_148 (lv_at hl 0 rfl) ?_
                  refine lv_iload_n hx hb dX7_moves_150 rfl (lv_at hl 5 rfl) ?_
                  obtain ⟨t75, hjt75, hf⟩ := ob hf
                  have hJt75 : ∀ (H : Heap) (locs : List Loc) (ls : Array Slot), Rl B D cA m66 H → va_S (fun q => B ≤ q) s.heap H locs → lv_has ls 10 [(0, .ref (B + x0)), (1, .int x1), (4, .ref (B + v3)), (6, .int ((v42 + (1 : Int32)) - v46))] → W p l e (rmm 4 0 0 103) s mt args below meth c H locs 0 0 (MQ below (mQ B D cA (some (.int rZ)) mZ) args s 0 0 (fun q => B ≤ q)) (F0 mt 164 ls [.int t75]) := by
                    intro H locs ls hR hS hl
                    refine lv_istore (lv' := [(9, .int t75), (0, .ref (B + x0)), (1, .int x1), (4, .ref (B + v3)), (6, .int ((v42 + (1 : Int32)) - v46))]) hx hb dX7_moves_164 hl (by decide) rfl (fun ls hl => ?_)
                    refine lv_aload_n hx hb dX7_moves_166 rfl (lv_at hl 1 rfl) ?_
                    obtain ⟨v77, g78, hf⟩ := ob hf
                    refine gR_X7_37 X hR g78 dX7_moves_167 ?_
                    refine lv_aload hx hb dX7_moves_170 (lv_at hl 3 rfl) ?_
                    obtain ⟨o79, h80, hf⟩ := obO hf
                    obtain ⟨m82, g81, hf⟩ := ob hf
                    refine r_callV X kw_X7_139 (ci := 4) rfl (c_X4_copyFrom l B D cA m66 v77 v3 m82 g81) ⟨Nat.le_of_ble_eq_true rfl, Nat.le_of_ble_eq_true rfl⟩ h80 hR hS hl.1 rfl rfl (Nat.le_of_ble_eq_true rfl) ⟨Nat.le_of_ble_eq_true rfl, Nat.le_of_ble_eq_true rfl⟩ dX7_moves_172 (fun H locs hR hS => ?_)
                    refine W.eq (g2 := F0 mt 175 ls []) rfl ?_
                    refine lv_aload hx hb dX7_moves_175 (lv_at hl 3 rfl) ?_
                    refine lv_aload_n hx hb dX7_moves_177 rfl (lv_at hl 1 rfl) ?_
                    obtain ⟨v83, g84, hf⟩ := ob hf
                    refine gR_X7_37 X hR g84 dX7_moves_178 ?_
                    refine lv_iload_n hx hb dX7_moves_181 rfl (lv_at hl 2 rfl) ?_
                    refine lv_iload hx hb dX7_moves_182 (lv_at hl 0 rfl) ?_
                    refine lv_iload hx hb dX7_moves_184 (lv_at hl 4 rfl) ?_
                    obtain ⟨o85, h86, hf⟩ := obO hf
                    obtain ⟨m88, g87, hf⟩ := ob hf
                    refine r_callV X kw_X7_143 (ci := 4) rfl (c_X4_relocate l B D cA m82 v3 v83 x1 t75 ((v42 + (1 : Int32)) - v46) m88 g87) ⟨Nat.le_of_ble_eq_true rfl, Nat.le_of_ble_eq_true rfl⟩ h86 hR hS hl.1 rfl rfl (Nat.le_of_ble_eq_true rfl) ⟨Nat.le_of_ble_eq_true rfl, Nat.le_of_ble_eq_true rfl⟩ dX7_moves_186 (fun H locs hR hS => ?_)
                    refine W.eq (g2 := F0 mt 189 ls []) rfl ?_
                    refine lv_iload hx hb dX7_moves_189 (lv_at hl 0 rfl) ?_
                    obtain ⟨rfl, rfl⟩ := Prod.mk.inj (Option.some.inj hf)
                    exact r_iret X hr hlocks hR hS rfl dX7_moves_191
                  have hf := hjt75
                  clear hjt75
                  refine lv_icmp_le (tgt := 162) hx hb dX7_moves_151 (by decide) (fun c76 => ?_) (fun c76 => ?_)
                  · rw [if_pos c76] at hf
                    refine lv_iload hx hb dX7_moves_162 (lv_at hl 0 rfl) ?_
                    obtain rfl := Option.some.inj hf
                    exact hJt75 H locs ls hR hS (lv_sub hl [4, 5, 8, 2] rfl)
                  · rw [if_neg c76] at hf
                    refine lv_iload hx hb dX7_moves_154 (lv_at hl 0 rfl) ?_
                    refine lv_iload hx hb dX7_moves_156 (lv_at hl 1 rfl) ?_
                    refine lv_isub hx hb dX7_moves_158 ?_
                    refine lv_goto (tgt := 164) hx hb dX7_moves_159 (by decide) ?_
                    obtain rfl := Option.some.inj hf
                    exact hJt75 H locs ls hR hS (lv_sub hl [4, 5, 8, 2] rfl)
                · rw [if_neg c62] at hf
                  refine lv_aload_n hx hb dX7_moves_114 rfl (lv_at hl 2 rfl) ?_
                  refine lv_bipush (v := -3) hx hb dX7_moves_115 (by decide) ?_
                  obtain ⟨o89, h90, hf⟩ := obO hf
                  obtain ⟨t92, g91, hf⟩ := ob hf
                  refine r_callV X kw_X7_102 (ci := 7) rfl (c_X7_failed l B D cA m x0 (-3 : Int32) t92.1 t92.2 g91) ⟨Nat.le_of_ble_eq_true rfl, Nat.le_of_ble_eq_true rfl⟩ h90 hR hS hl.1 rfl rfl (Nat.le_of_ble_eq_true rfl) ⟨Nat.le_of_ble_eq_true rfl, Nat.le_of_ble_eq_true rfl⟩ dX7_moves_117 (fun H locs hR hS => ?_)
                  refine W.eq (g2 := F0 mt 120 ls [.int t92.1]) rfl ?_
                  obtain ⟨rfl, rfl⟩ := Prod.mk.inj (Option.some.inj hf)
                  exact r_iret X hr hlocks hR hS rfl dX7_moves_120
          have hf := hjt33
          clear hjt33
          refine lv_icmp_lt (tgt := 69) hx hb dX7_moves_51 (by decide) (fun c34 => ?_) (fun c34 => ?_)
          · rw [if_pos c34] at hf
            refine lv_iconst (v := 0) hx hb dX7_moves_69 (by decide) ?_
            obtain rfl := Option.some.inj hf
            exact hJt33 H locs ls hR hS (lv_sub hl [1, 2, 3, 4, 0] rfl)
          · rw [if_neg c34] at hf
            refine lv_iload_n hx hb dX7_moves_54 rfl (lv_at hl 3 rfl) ?_
            refine lv_aload hx hb dX7_moves_55 (lv_at hl 0 rfl) ?_
            obtain ⟨v35, g36, hf⟩ := ob hf
            refine gR_X7_124 X hR g36 dX7_moves_57 ?_
            refine lv_iload_n hx hb dX7_moves_60 rfl (lv_at hl 2 rfl) ?_
            obtain ⟨v37, g38, hf⟩ := ob hf
            refine r_lI X hR g38 dX7_moves_61 ?_
            refine lv_icmp_gt (tgt := 69) hx hb dX7_moves_62 (by decide) (fun c39 => ?_) (fun c39 => ?_)
            · rw [if_pos c39] at hf
              refine lv_iconst (v := 0) hx hb dX7_moves_69 (by decide) ?_
              obtain rfl := Option.some.inj hf
              exact hJt33 H locs ls hR hS (lv_sub hl [1, 2, 3, 4, 0] rfl)
            · rw [if_neg c39] at hf
              refine lv_iconst (v := 1) hx hb dX7_moves_65 (by decide) ?_
              refine lv_goto (tgt := 70) hx hb dX7_moves_66 (by decide) ?_
              obtain rfl := Option.some.inj hf
              exact hJt33 H locs ls hR hS (lv_sub hl [1, 2, 3, 4, 0] rfl)
        · rw [if_neg c32] at hf
          refine lv_aload_n hx hb dX7_moves_42 rfl (lv_at hl 1 rfl) ?_
          refine lv_bipush (v := -2) hx hb dX7_moves_43 (by decide) ?_
          obtain ⟨o93, h94, hf⟩ := obO hf
          obtain ⟨t96, g95, hf⟩ := ob hf
          refine r_callV X kw_X7_102 (ci := 7) rfl (c_X7_failed l B D cA m x0 (-2 : Int32) t96.1 t96.2 g95) ⟨Nat.le_of_ble_eq_true rfl, Nat.le_of_ble_eq_true rfl⟩ h94 hR hS hl.1 rfl rfl (Nat.le_of_ble_eq_true rfl) ⟨Nat.le_of_ble_eq_true rfl, Nat.le_of_ble_eq_true rfl⟩ dX7_moves_45 (fun H locs hR hS => ?_)
          refine W.eq (g2 := F0 mt 48 ls [.int t96.1]) rfl ?_
          obtain ⟨rfl, rfl⟩ := Prod.mk.inj (Option.some.inj hf)
          exact r_iret X hr hlocks hR hS rfl dX7_moves_48
/-! ===== TwigMatches.element(II)I ===== -/
theorem dX7_element_0 : decode cX7_element 0 = .ok (.aload_n 0, 1) := by decide +kernel
theorem dX7_element_1 : decode cX7_element 1 = .ok (.getfield 12, 3) := by decide +kernel
theorem dX7_element_4 : decode cX7_element 4 = .ok (.getfield 50, 3) := by decide +kernel
theorem dX7_element_7 : decode cX7_element 7 = .ok (.astore_n 3, 1) := by decide +kernel
theorem dX7_element_8 : decode cX7_element 8 = .ok (.aload_n 3, 1) := by decide +kernel
theorem dX7_element_9 : decode cX7_element 9 = .ok (.iload_n 1, 1) := by decide +kernel
theorem dX7_element_10 : decode cX7_element 10 = .ok (.invokevirtual 90, 3) := by decide +kernel
theorem dX7_element_13 : decode cX7_element 13 = .ok (.ifCond .eq 13, 3) := by decide +kernel
theorem dX7_element_16 : decode cX7_element 16 = .ok (.iload_n 2, 1) := by decide +kernel
theorem dX7_element_17 : decode cX7_element 17 = .ok (.ifCond .lt 9, 3) := by decide +kernel
theorem dX7_element_20 : decode cX7_element 20 = .ok (.iload_n 2, 1) := by decide +kernel
theorem dX7_element_21 : decode cX7_element 21 = .ok (.bipush 8, 2) := by decide +kernel
theorem dX7_element_23 : decode cX7_element 23 = .ok (.if_icmp .lt 10, 3) := by decide +kernel
theorem dX7_element_26 : decode cX7_element 26 = .ok (.aload_n 0, 1) := by decide +kernel
theorem dX7_element_27 : decode cX7_element 27 = .ok (.bipush (-2), 2) := by decide +kernel
theorem dX7_element_29 : decode cX7_element 29 = .ok (.invokevirtual 102, 3) := by decide +kernel
theorem dX7_element_32 : decode cX7_element 32 = .ok (.ireturn, 1) := by decide +kernel
theorem dX7_element_33 : decode cX7_element 33 = .ok (.iload_n 2, 1) := by decide +kernel
theorem dX7_element_34 : decode cX7_element 34 = .ok (.tableswitch 89 0 6 #[42, 49, 56, 63, 69, 75, 82], 42) := by decide +kernel
theorem dX7_element_76 : decode cX7_element 76 = .ok (.aload_n 3, 1) := by decide +kernel
theorem dX7_element_77 : decode cX7_element 77 = .ok (.getfield 130, 3) := by decide +kernel
theorem dX7_element_80 : decode cX7_element 80 = .ok (.iload_n 1, 1) := by decide +kernel
theorem dX7_element_81 : decode cX7_element 81 = .ok (.iaload, 1) := by decide +kernel
theorem dX7_element_82 : decode cX7_element 82 = .ok (.ireturn, 1) := by decide +kernel
theorem dX7_element_83 : decode cX7_element 83 = .ok (.aload_n 3, 1) := by decide +kernel
theorem dX7_element_84 : decode cX7_element 84 = .ok (.getfield 133, 3) := by decide +kernel
theorem dX7_element_87 : decode cX7_element 87 = .ok (.iload_n 1, 1) := by decide +kernel
theorem dX7_element_88 : decode cX7_element 88 = .ok (.iaload, 1) := by decide +kernel
theorem dX7_element_89 : decode cX7_element 89 = .ok (.ireturn, 1) := by decide +kernel
theorem dX7_element_90 : decode cX7_element 90 = .ok (.aload_n 3, 1) := by decide +kernel
theorem dX7_element_91 : decode cX7_element 91 = .ok (.getfield 147, 3) := by decide +kernel
theorem dX7_element_94 : decode cX7_element 94 = .ok (.iload_n 1, 1) := by decide +kernel
theorem dX7_element_95 : decode cX7_element 95 = .ok (.iaload, 1) := by decide +kernel
theorem dX7_element_96 : decode cX7_element 96 = .ok (.ireturn, 1) := by decide +kernel
theorem dX7_element_97 : decode cX7_element 97 = .ok (.aload_n 3, 1) := by decide +kernel
theorem dX7_element_98 : decode cX7_element 98 = .ok (.iload_n 1, 1) := by decide +kernel
theorem dX7_element_99 : decode cX7_element 99 = .ok (.invokevirtual 150, 3) := by decide +kernel
theorem dX7_element_102 : decode cX7_element 102 = .ok (.ireturn, 1) := by decide +kernel
theorem dX7_element_103 : decode cX7_element 103 = .ok (.aload_n 3, 1) := by decide +kernel
theorem dX7_element_104 : decode cX7_element 104 = .ok (.iload_n 1, 1) := by decide +kernel
theorem dX7_element_105 : decode cX7_element 105 = .ok (.invokevirtual 153, 3) := by decide +kernel
theorem dX7_element_108 : decode cX7_element 108 = .ok (.ireturn, 1) := by decide +kernel
theorem dX7_element_109 : decode cX7_element 109 = .ok (.aload_n 3, 1) := by decide +kernel
theorem dX7_element_110 : decode cX7_element 110 = .ok (.getfield 106, 3) := by decide +kernel
theorem dX7_element_113 : decode cX7_element 113 = .ok (.iload_n 1, 1) := by decide +kernel
theorem dX7_element_114 : decode cX7_element 114 = .ok (.iaload, 1) := by decide +kernel
theorem dX7_element_115 : decode cX7_element 115 = .ok (.ireturn, 1) := by decide +kernel
theorem dX7_element_116 : decode cX7_element 116 = .ok (.aload_n 3, 1) := by decide +kernel
theorem dX7_element_117 : decode cX7_element 117 = .ok (.iload_n 1, 1) := by decide +kernel
theorem dX7_element_118 : decode cX7_element 118 = .ok (.iconst (-1), 1) := by decide +kernel
theorem dX7_element_119 : decode cX7_element 119 = .ok (.invokevirtual 98, 3) := by decide +kernel
theorem dX7_element_122 : decode cX7_element 122 = .ok (.ireturn, 1) := by decide +kernel
theorem dX7_element_123 : decode cX7_element 123 = .ok (.aload_n 3, 1) := by decide +kernel
theorem dX7_element_124 : decode cX7_element 124 = .ok (.getfield 124, 3) := by decide +kernel
theorem dX7_element_127 : decode cX7_element 127 = .ok (.iload_n 1, 1) := by decide +kernel
theorem dX7_element_128 : decode cX7_element 128 = .ok (.iaload, 1) := by decide +kernel
theorem dX7_element_129 : decode cX7_element 129 = .ok (.iload_n 1, 1) := by decide +kernel
theorem dX7_element_130 : decode cX7_element 130 = .ok (.isub, 1) := by decide +kernel
theorem dX7_element_131 : decode cX7_element 131 = .ok (.ireturn, 1) := by decide +kernel
set_option maxHeartbeats 4000000 in
set_option maxRecDepth 100000 in
theorem c_X7_element (l : Launch) (B : Nat) (D : va_G) (cA : Nat → ClassId) (m : Mm) (x0 : Nat) (x1 : Int32) (x2 : Int32) (rZ : Int32) (mZ : Mm) (hf : f_X7_element m x0 x1 x2 = some (rZ, mZ)) : Mt l B D cA yX7_element cX7_element 4 (some .int) 2 42 0 0 [.ref (B + x0), .int x1, .int x2] m (some (.int rZ)) mZ := by
  refine r_start (by decide) (Nat.le_of_ble_eq_true rfl) ?_
  intro p e s mt args below meth c ls H locs X hr hlocks hnm hR hl hS
  have hx := X.1
  have hb := X.2.1
  have hl : lv_has ls 4 [(0, .ref (B + x0)), (1, .int x1), (2, .int x2)] := hl
  unfold f_X7_element at hf
  refine lv_aload_n hx hb dX7_element_0 rfl (lv_at hl 0 rfl) ?_
  obtain ⟨v1, g2, hf⟩ := ob hf
  refine gR_X7_12 X hR g2 dX7_element_1 ?_
  obtain ⟨v3, g4, hf⟩ := ob hf
  refine gR_X7_50 X hR g4 dX7_element_4 ?_
  refine lv_astore_n (lv' := [(3, .ref (B + v3)), (0, .ref (B + x0)), (1, .int x1), (2, .int x2)]) hx hb dX7_element_7 rfl hl (by decide) rfl (fun ls hl => ?_)
  refine lv_aload_n hx hb dX7_element_8 rfl (lv_at hl 0 rfl) ?_
  refine lv_iload_n hx hb dX7_element_9 rfl (lv_at hl 2 rfl) ?_
  obtain ⟨o5, h6, hf⟩ := obO hf
  obtain ⟨v8, g7, hf⟩ := ob hf
  refine r_callV X kw_X7_90 (ci := 4) rfl (c_X4_has l B D cA m v3 x1 v8 g7) ⟨Nat.le_of_ble_eq_true rfl, Nat.le_of_ble_eq_true rfl⟩ h6 hR hS hl.1 rfl rfl (Nat.le_of_ble_eq_true rfl) ⟨Nat.le_of_ble_eq_true rfl, Nat.le_of_ble_eq_true rfl⟩ dX7_element_10 (fun H locs hR hS => ?_)
  refine W.eq (g2 := F0 mt 13 ls [.int v8]) rfl ?_
  refine lv_if_eq (tgt := 26) hx hb dX7_element_13 (by decide) (fun c9 => ?_) (fun c9 => ?_)
  · rw [if_pos c9] at hf
    refine lv_aload_n hx hb dX7_element_26 rfl (lv_at hl 1 rfl) ?_
    refine lv_bipush (v := -2) hx hb dX7_element_27 (by decide) ?_
    obtain ⟨o10, h11, hf⟩ := obO hf
    obtain ⟨t13, g12, hf⟩ := ob hf
    refine r_callV X kw_X7_102 (ci := 7) rfl (c_X7_failed l B D cA m x0 (-2 : Int32) t13.1 t13.2 g12) ⟨Nat.le_of_ble_eq_true rfl, Nat.le_of_ble_eq_true rfl⟩ h11 hR hS hl.1 rfl rfl (Nat.le_of_ble_eq_true rfl) ⟨Nat.le_of_ble_eq_true rfl, Nat.le_of_ble_eq_true rfl⟩ dX7_element_29 (fun H locs hR hS => ?_)
    refine W.eq (g2 := F0 mt 32 ls [.int t13.1]) rfl ?_
    obtain ⟨rfl, rfl⟩ := Prod.mk.inj (Option.some.inj hf)
    exact r_iret X hr hlocks hR hS rfl dX7_element_32
  · rw [if_neg c9] at hf
    refine lv_iload_n hx hb dX7_element_16 rfl (lv_at hl 3 rfl) ?_
    refine lv_if_lt (tgt := 26) hx hb dX7_element_17 (by decide) (fun c14 => ?_) (fun c14 => ?_)
    · rw [if_pos c14] at hf
      refine lv_aload_n hx hb dX7_element_26 rfl (lv_at hl 1 rfl) ?_
      refine lv_bipush (v := -2) hx hb dX7_element_27 (by decide) ?_
      obtain ⟨o15, h16, hf⟩ := obO hf
      obtain ⟨t18, g17, hf⟩ := ob hf
      refine r_callV X kw_X7_102 (ci := 7) rfl (c_X7_failed l B D cA m x0 (-2 : Int32) t18.1 t18.2 g17) ⟨Nat.le_of_ble_eq_true rfl, Nat.le_of_ble_eq_true rfl⟩ h16 hR hS hl.1 rfl rfl (Nat.le_of_ble_eq_true rfl) ⟨Nat.le_of_ble_eq_true rfl, Nat.le_of_ble_eq_true rfl⟩ dX7_element_29 (fun H locs hR hS => ?_)
      refine W.eq (g2 := F0 mt 32 ls [.int t18.1]) rfl ?_
      obtain ⟨rfl, rfl⟩ := Prod.mk.inj (Option.some.inj hf)
      exact r_iret X hr hlocks hR hS rfl dX7_element_32
    · rw [if_neg c14] at hf
      refine lv_iload_n hx hb dX7_element_20 rfl (lv_at hl 3 rfl) ?_
      refine lv_bipush (v := 8) hx hb dX7_element_21 (by decide) ?_
      refine lv_icmp_lt (tgt := 33) hx hb dX7_element_23 (by decide) (fun c19 => ?_) (fun c19 => ?_)
      · rw [if_pos c19] at hf
        refine lv_iload_n hx hb dX7_element_33 rfl (lv_at hl 3 rfl) ?_
        by_cases c20 : x2 = (0 : Int32)
        · rw [if_pos c20] at hf
          refine lv_tableIn (tgt := 76) (off := 42) hx hb dX7_element_34 (by rw [c20]; decide) (by rw [c20]; decide) (by rw [c20]; rfl) (by decide) ?_
          refine lv_aload_n hx hb dX7_element_76 rfl (lv_at hl 0 rfl) ?_
          obtain ⟨v21, g22, hf⟩ := ob hf
          refine gR_X7_130 X hR g22 dX7_element_77 ?_
          refine lv_iload_n hx hb dX7_element_80 rfl (lv_at hl 2 rfl) ?_
          obtain ⟨v23, g24, hf⟩ := ob hf
          refine r_lI X hR g24 dX7_element_81 ?_
          obtain ⟨rfl, rfl⟩ := Prod.mk.inj (Option.some.inj hf)
          exact r_iret X hr hlocks hR hS rfl dX7_element_82
        rw [if_neg c20] at hf
        by_cases c25 : x2 = (1 : Int32)
        · rw [if_pos c25] at hf
          refine lv_tableIn (tgt := 83) (off := 49) hx hb dX7_element_34 (by rw [c25]; decide) (by rw [c25]; decide) (by rw [c25]; rfl) (by decide) ?_
          refine lv_aload_n hx hb dX7_element_83 rfl (lv_at hl 0 rfl) ?_
          obtain ⟨v26, g27, hf⟩ := ob hf
          refine gR_X7_133 X hR g27 dX7_element_84 ?_
          refine lv_iload_n hx hb dX7_element_87 rfl (lv_at hl 2 rfl) ?_
          obtain ⟨v28, g29, hf⟩ := ob hf
          refine r_lI X hR g29 dX7_element_88 ?_
          obtain ⟨rfl, rfl⟩ := Prod.mk.inj (Option.some.inj hf)
          exact r_iret X hr hlocks hR hS rfl dX7_element_89
        rw [if_neg c25] at hf
        by_cases c30 : x2 = (2 : Int32)
        · rw [if_pos c30] at hf
          refine lv_tableIn (tgt := 90) (off := 56) hx hb dX7_element_34 (by rw [c30]; decide) (by rw [c30]; decide) (by rw [c30]; rfl) (by decide) ?_
          refine lv_aload_n hx hb dX7_element_90 rfl (lv_at hl 0 rfl) ?_
          obtain ⟨v31, g32, hf⟩ := ob hf
          refine gR_X7_147 X hR g32 dX7_element_91 ?_
          refine lv_iload_n hx hb dX7_element_94 rfl (lv_at hl 2 rfl) ?_
          obtain ⟨v33, g34, hf⟩ := ob hf
          refine r_lI X hR g34 dX7_element_95 ?_
          obtain ⟨rfl, rfl⟩ := Prod.mk.inj (Option.some.inj hf)
          exact r_iret X hr hlocks hR hS rfl dX7_element_96
        rw [if_neg c30] at hf
        by_cases c35 : x2 = (3 : Int32)
        · rw [if_pos c35] at hf
          refine lv_tableIn (tgt := 97) (off := 63) hx hb dX7_element_34 (by rw [c35]; decide) (by rw [c35]; decide) (by rw [c35]; rfl) (by decide) ?_
          refine lv_aload_n hx hb dX7_element_97 rfl (lv_at hl 0 rfl) ?_
          refine lv_iload_n hx hb dX7_element_98 rfl (lv_at hl 2 rfl) ?_
          obtain ⟨o36, h37, hf⟩ := obO hf
          obtain ⟨v39, g38, hf⟩ := ob hf
          refine r_callV X kw_X7_150 (ci := 4) rfl (c_X4_start l B D cA m v3 x1 v39 g38) ⟨Nat.le_of_ble_eq_true rfl, Nat.le_of_ble_eq_true rfl⟩ h37 hR hS hl.1 rfl rfl (Nat.le_of_ble_eq_true rfl) ⟨Nat.le_of_ble_eq_true rfl, Nat.le_of_ble_eq_true rfl⟩ dX7_element_99 (fun H locs hR hS => ?_)
          refine W.eq (g2 := F0 mt 102 ls [.int v39]) rfl ?_
          obtain ⟨rfl, rfl⟩ := Prod.mk.inj (Option.some.inj hf)
          exact r_iret X hr hlocks hR hS rfl dX7_element_102
        rw [if_neg c35] at hf
        by_cases c40 : x2 = (4 : Int32)
        · rw [if_pos c40] at hf
          refine lv_tableIn (tgt := 103) (off := 69) hx hb dX7_element_34 (by rw [c40]; decide) (by rw [c40]; decide) (by rw [c40]; rfl) (by decide) ?_
          refine lv_aload_n hx hb dX7_element_103 rfl (lv_at hl 0 rfl) ?_
          refine lv_iload_n hx hb dX7_element_104 rfl (lv_at hl 2 rfl) ?_
          obtain ⟨o41, h42, hf⟩ := obO hf
          obtain ⟨v44, g43, hf⟩ := ob hf
          refine r_callV X kw_X7_153 (ci := 4) rfl (c_X4_end l B D cA m v3 x1 v44 g43) ⟨Nat.le_of_ble_eq_true rfl, Nat.le_of_ble_eq_true rfl⟩ h42 hR hS hl.1 rfl rfl (Nat.le_of_ble_eq_true rfl) ⟨Nat.le_of_ble_eq_true rfl, Nat.le_of_ble_eq_true rfl⟩ dX7_element_105 (fun H locs hR hS => ?_)
          refine W.eq (g2 := F0 mt 108 ls [.int v44]) rfl ?_
          obtain ⟨rfl, rfl⟩ := Prod.mk.inj (Option.some.inj hf)
          exact r_iret X hr hlocks hR hS rfl dX7_element_108
        rw [if_neg c40] at hf
        by_cases c45 : x2 = (5 : Int32)
        · rw [if_pos c45] at hf
          refine lv_tableIn (tgt := 109) (off := 75) hx hb dX7_element_34 (by rw [c45]; decide) (by rw [c45]; decide) (by rw [c45]; rfl) (by decide) ?_
          refine lv_aload_n hx hb dX7_element_109 rfl (lv_at hl 0 rfl) ?_
          obtain ⟨v46, g47, hf⟩ := ob hf
          refine gR_X7_106 X hR g47 dX7_element_110 ?_
          refine lv_iload_n hx hb dX7_element_113 rfl (lv_at hl 2 rfl) ?_
          obtain ⟨v48, g49, hf⟩ := ob hf
          refine r_lI X hR g49 dX7_element_114 ?_
          obtain ⟨rfl, rfl⟩ := Prod.mk.inj (Option.some.inj hf)
          exact r_iret X hr hlocks hR hS rfl dX7_element_115
        rw [if_neg c45] at hf
        by_cases c50 : x2 = (6 : Int32)
        · rw [if_pos c50] at hf
          refine lv_tableIn (tgt := 116) (off := 82) hx hb dX7_element_34 (by rw [c50]; decide) (by rw [c50]; decide) (by rw [c50]; rfl) (by decide) ?_
          refine lv_aload_n hx hb dX7_element_116 rfl (lv_at hl 0 rfl) ?_
          refine lv_iload_n hx hb dX7_element_117 rfl (lv_at hl 2 rfl) ?_
          refine lv_iconst (v := -1) hx hb dX7_element_118 (by decide) ?_
          obtain ⟨o51, h52, hf⟩ := obO hf
          obtain ⟨v54, g53, hf⟩ := ob hf
          refine r_callV X kw_X7_98 (ci := 4) rfl (c_X4_childCount l B D cA m v3 x1 (-1 : Int32) v54 g53) ⟨Nat.le_of_ble_eq_true rfl, Nat.le_of_ble_eq_true rfl⟩ h52 hR hS hl.1 rfl rfl (Nat.le_of_ble_eq_true rfl) ⟨Nat.le_of_ble_eq_true rfl, Nat.le_of_ble_eq_true rfl⟩ dX7_element_119 (fun H locs hR hS => ?_)
          refine W.eq (g2 := F0 mt 122 ls [.int v54]) rfl ?_
          obtain ⟨rfl, rfl⟩ := Prod.mk.inj (Option.some.inj hf)
          exact r_iret X hr hlocks hR hS rfl dX7_element_122
        rw [if_neg c50] at hf
        refine lv_tableOut (tgt := 123) hx hb dX7_element_34 (by have zc20 := sw_ne (k := 0) c20; have zc25 := sw_ne (k := 1) c25; have zc30 := sw_ne (k := 2) c30; have zc35 := sw_ne (k := 3) c35; have zc40 := sw_ne (k := 4) c40; have zc45 := sw_ne (k := 5) c45; have zc50 := sw_ne (k := 6) c50; omega) (by decide) ?_
        refine lv_aload_n hx hb dX7_element_123 rfl (lv_at hl 0 rfl) ?_
        obtain ⟨v55, g56, hf⟩ := ob hf
        refine gR_X7_124 X hR g56 dX7_element_124 ?_
        refine lv_iload_n hx hb dX7_element_127 rfl (lv_at hl 2 rfl) ?_
        obtain ⟨v57, g58, hf⟩ := ob hf
        refine r_lI X hR g58 dX7_element_128 ?_
        refine lv_iload_n hx hb dX7_element_129 rfl (lv_at hl 2 rfl) ?_
        refine lv_isub hx hb dX7_element_130 ?_
        obtain ⟨rfl, rfl⟩ := Prod.mk.inj (Option.some.inj hf)
        exact r_iret X hr hlocks hR hS rfl dX7_element_131
      · rw [if_neg c19] at hf
        refine lv_aload_n hx hb dX7_element_26 rfl (lv_at hl 1 rfl) ?_
        refine lv_bipush (v := -2) hx hb dX7_element_27 (by decide) ?_
        obtain ⟨o59, h60, hf⟩ := obO hf
        obtain ⟨t62, g61, hf⟩ := ob hf
        refine r_callV X kw_X7_102 (ci := 7) rfl (c_X7_failed l B D cA m x0 (-2 : Int32) t62.1 t62.2 g61) ⟨Nat.le_of_ble_eq_true rfl, Nat.le_of_ble_eq_true rfl⟩ h60 hR hS hl.1 rfl rfl (Nat.le_of_ble_eq_true rfl) ⟨Nat.le_of_ble_eq_true rfl, Nat.le_of_ble_eq_true rfl⟩ dX7_element_29 (fun H locs hR hS => ?_)
        refine W.eq (g2 := F0 mt 32 ls [.int t62.1]) rfl ?_
        obtain ⟨rfl, rfl⟩ := Prod.mk.inj (Option.some.inj hf)
        exact r_iret X hr hlocks hR hS rfl dX7_element_32
/-! ===== TwigMatches.size()I ===== -/
theorem dX7_size_0 : decode cX7_size 0 = .ok (.aload_n 0, 1) := by decide +kernel
theorem dX7_size_1 : decode cX7_size 1 = .ok (.getfield 12, 3) := by decide +kernel
theorem dX7_size_4 : decode cX7_size 4 = .ok (.getfield 50, 3) := by decide +kernel
theorem dX7_size_7 : decode cX7_size 7 = .ok (.getfield 110, 3) := by decide +kernel
theorem dX7_size_10 : decode cX7_size 10 = .ok (.ireturn, 1) := by decide +kernel
set_option maxHeartbeats 4000000 in
set_option maxRecDepth 100000 in
theorem c_X7_size (l : Launch) (B : Nat) (D : va_G) (cA : Nat → ClassId) (m : Mm) (x0 : Nat) (rZ : Int32) (hf : f_X7_size m x0 = some rZ) : Mt l B D cA yX7_size cX7_size 1 (some .int) 0 0 0 0 [.ref (B + x0)] m (some (.int rZ)) m := by
  refine r_start (by decide) (Nat.le_of_ble_eq_true rfl) ?_
  intro p e s mt args below meth c ls H locs X hr hlocks hnm hR hl hS
  have hx := X.1
  have hb := X.2.1
  have hl : lv_has ls 1 [(0, .ref (B + x0))] := hl
  unfold f_X7_size at hf
  refine lv_aload_n hx hb dX7_size_0 rfl (lv_at hl 0 rfl) ?_
  obtain ⟨v1, g2, hf⟩ := ob hf
  refine gR_X7_12 X hR g2 dX7_size_1 ?_
  obtain ⟨v3, g4, hf⟩ := ob hf
  refine gR_X7_50 X hR g4 dX7_size_4 ?_
  obtain ⟨v5, g6, hf⟩ := ob hf
  refine gI_X7_110 X hR g6 dX7_size_7 ?_
  obtain rfl := Option.some.inj hf
  exact r_iret X hr hlocks hR hS rfl dX7_size_10
/-! ===== TwigMatches.isTwigNumber(I)Z ===== -/
theorem dX7_isTwigNumber_0 : decode cX7_isTwigNumber 0 = .ok (.iload_n 0, 1) := by decide +kernel
theorem dX7_isTwigNumber_1 : decode cX7_isTwigNumber 1 = .ok (.ifCond .lt 12, 3) := by decide +kernel
theorem dX7_isTwigNumber_4 : decode cX7_isTwigNumber 4 = .ok (.iload_n 0, 1) := by decide +kernel
theorem dX7_isTwigNumber_5 : decode cX7_isTwigNumber 5 = .ok (.iconst 4, 1) := by decide +kernel
theorem dX7_isTwigNumber_6 : decode cX7_isTwigNumber 6 = .ok (.if_icmp .ge 7, 3) := by decide +kernel
theorem dX7_isTwigNumber_9 : decode cX7_isTwigNumber 9 = .ok (.iconst 1, 1) := by decide +kernel
theorem dX7_isTwigNumber_10 : decode cX7_isTwigNumber 10 = .ok (.goto 4, 3) := by decide +kernel
theorem dX7_isTwigNumber_13 : decode cX7_isTwigNumber 13 = .ok (.iconst 0, 1) := by decide +kernel
theorem dX7_isTwigNumber_14 : decode cX7_isTwigNumber 14 = .ok (.ireturn, 1) := by decide +kernel
set_option maxHeartbeats 4000000 in
set_option maxRecDepth 100000 in
theorem c_X7_isTwigNumber (l : Launch) (B : Nat) (D : va_G) (cA : Nat → ClassId) (m : Mm) (x0 : Int32) (rZ : Int32) (hf : f_X7_isTwigNumber m x0 = some rZ) : Mt l B D cA yX7_isTwigNumber cX7_isTwigNumber 1 (some .boolean) 0 0 0 0 [.int x0] m (some (.int rZ)) m := by
  refine r_start (by decide) (Nat.le_of_ble_eq_true rfl) ?_
  intro p e s mt args below meth c ls H locs X hr hlocks hnm hR hl hS
  have hx := X.1
  have hb := X.2.1
  have hl : lv_has ls 1 [(0, .int x0)] := hl
  unfold f_X7_isTwigNumber at hf
  refine lv_iload_n hx hb dX7_isTwigNumber_0 rfl (lv_at hl 0 rfl) ?_
  refine lv_if_lt (tgt := 13) hx hb dX7_isTwigNumber_1 (by decide) (fun c1 => ?_) (fun c1 => ?_)
  · rw [if_pos c1] at hf
    refine lv_iconst (v := 0) hx hb dX7_isTwigNumber_13 (by decide) ?_
    obtain rfl := Option.some.inj hf
    exact r_iret X hr hlocks hR hS rfl dX7_isTwigNumber_14
  · rw [if_neg c1] at hf
    refine lv_iload_n hx hb dX7_isTwigNumber_4 rfl (lv_at hl 0 rfl) ?_
    refine lv_iconst (v := 4) hx hb dX7_isTwigNumber_5 (by decide) ?_
    refine lv_icmp_ge (tgt := 13) hx hb dX7_isTwigNumber_6 (by decide) (fun c2 => ?_) (fun c2 => ?_)
    · rw [if_pos c2] at hf
      refine lv_iconst (v := 0) hx hb dX7_isTwigNumber_13 (by decide) ?_
      obtain rfl := Option.some.inj hf
      exact r_iret X hr hlocks hR hS rfl dX7_isTwigNumber_14
    · rw [if_neg c2] at hf
      refine lv_iconst (v := 1) hx hb dX7_isTwigNumber_9 (by decide) ?_
      refine lv_goto (tgt := 14) hx hb dX7_isTwigNumber_10 (by decide) ?_
      obtain rfl := Option.some.inj hf
      exact r_iret X hr hlocks hR hS rfl dX7_isTwigNumber_14
/-! ===== TwigMatches.nodeFault(IIZ)I ===== -/
theorem dX7_nodeFault_0 : decode cX7_nodeFault 0 = .ok (.iload_n 1, 1) := by decide +kernel
theorem dX7_nodeFault_1 : decode cX7_nodeFault 1 = .ok (.invokestatic 172, 3) := by decide +kernel
theorem dX7_nodeFault_4 : decode cX7_nodeFault 4 = .ok (.ifCond .eq 11, 3) := by decide +kernel
theorem dX7_nodeFault_7 : decode cX7_nodeFault 7 = .ok (.iload_n 2, 1) := by decide +kernel
theorem dX7_nodeFault_8 : decode cX7_nodeFault 8 = .ok (.ifCond .lt 7, 3) := by decide +kernel
theorem dX7_nodeFault_11 : decode cX7_nodeFault 11 = .ok (.iload_n 3, 1) := by decide +kernel
theorem dX7_nodeFault_12 : decode cX7_nodeFault 12 = .ok (.ifCond .ne 6, 3) := by decide +kernel
theorem dX7_nodeFault_15 : decode cX7_nodeFault 15 = .ok (.bipush (-2), 2) := by decide +kernel
theorem dX7_nodeFault_17 : decode cX7_nodeFault 17 = .ok (.ireturn, 1) := by decide +kernel
theorem dX7_nodeFault_18 : decode cX7_nodeFault 18 = .ok (.iload_n 2, 1) := by decide +kernel
theorem dX7_nodeFault_19 : decode cX7_nodeFault 19 = .ok (.aload_n 0, 1) := by decide +kernel
theorem dX7_nodeFault_20 : decode cX7_nodeFault 20 = .ok (.getfield 12, 3) := by decide +kernel
theorem dX7_nodeFault_23 : decode cX7_nodeFault 23 = .ok (.getfield 160, 3) := by decide +kernel
theorem dX7_nodeFault_26 : decode cX7_nodeFault 26 = .ok (.iload_n 1, 1) := by decide +kernel
theorem dX7_nodeFault_27 : decode cX7_nodeFault 27 = .ok (.aaload, 1) := by decide +kernel
theorem dX7_nodeFault_28 : decode cX7_nodeFault 28 = .ok (.getfield 171, 3) := by decide +kernel
theorem dX7_nodeFault_31 : decode cX7_nodeFault 31 = .ok (.if_icmp .lt 8, 3) := by decide +kernel
theorem dX7_nodeFault_34 : decode cX7_nodeFault 34 = .ok (.bipush (-3), 2) := by decide +kernel
theorem dX7_nodeFault_36 : decode cX7_nodeFault 36 = .ok (.goto 4, 3) := by decide +kernel
theorem dX7_nodeFault_39 : decode cX7_nodeFault 39 = .ok (.iconst 0, 1) := by decide +kernel
theorem dX7_nodeFault_40 : decode cX7_nodeFault 40 = .ok (.ireturn, 1) := by decide +kernel
set_option maxHeartbeats 4000000 in
set_option maxRecDepth 100000 in
theorem c_X7_nodeFault (l : Launch) (B : Nat) (D : va_G) (cA : Nat → ClassId) (m : Mm) (x0 : Nat) (x1 : Int32) (x2 : Int32) (x3 : Int32) (rZ : Int32) (hf : f_X7_nodeFault m x0 x1 x2 x3 = some rZ) : Mt l B D cA yX7_nodeFault cX7_nodeFault 4 (some .int) 1 20 0 0 [.ref (B + x0), .int x1, .int x2, .int x3] m (some (.int rZ)) m := by
  refine r_start (by decide) (Nat.le_of_ble_eq_true rfl) ?_
  intro p e s mt args below meth c ls H locs X hr hlocks hnm hR hl hS
  have hx := X.1
  have hb := X.2.1
  have hl : lv_has ls 4 [(0, .ref (B + x0)), (1, .int x1), (2, .int x2), (3, .int x3)] := hl
  unfold f_X7_nodeFault at hf
  refine lv_iload_n hx hb dX7_nodeFault_0 rfl (lv_at hl 1 rfl) ?_
  obtain ⟨v2, g1, hf⟩ := ob hf
  refine r_callS X kw_X7_172 (c_X7_isTwigNumber l B D cA m x1 v2 g1) ⟨Nat.le_of_ble_eq_true rfl, Nat.le_of_ble_eq_true rfl⟩ hR hS hl.1 rfl rfl (Nat.le_of_ble_eq_true rfl) ⟨Nat.le_of_ble_eq_true rfl, Nat.le_of_ble_eq_true rfl⟩ dX7_nodeFault_1 (fun H locs hR hS => ?_)
  refine W.eq (g2 := F0 mt 4 ls [.int v2]) rfl ?_
  refine lv_if_eq (tgt := 15) hx hb dX7_nodeFault_4 (by decide) (fun c3 => ?_) (fun c3 => ?_)
  · rw [if_pos c3] at hf
    refine lv_bipush (v := -2) hx hb dX7_nodeFault_15 (by decide) ?_
    obtain rfl := Option.some.inj hf
    exact r_iret X hr hlocks hR hS rfl dX7_nodeFault_17
  · rw [if_neg c3] at hf
    refine lv_iload_n hx hb dX7_nodeFault_7 rfl (lv_at hl 2 rfl) ?_
    refine lv_if_lt (tgt := 15) hx hb dX7_nodeFault_8 (by decide) (fun c4 => ?_) (fun c4 => ?_)
    · rw [if_pos c4] at hf
      refine lv_bipush (v := -2) hx hb dX7_nodeFault_15 (by decide) ?_
      obtain rfl := Option.some.inj hf
      exact r_iret X hr hlocks hR hS rfl dX7_nodeFault_17
    · rw [if_neg c4] at hf
      refine lv_iload_n hx hb dX7_nodeFault_11 rfl (lv_at hl 3 rfl) ?_
      refine lv_if_ne (tgt := 18) hx hb dX7_nodeFault_12 (by decide) (fun c5 => ?_) (fun c5 => ?_)
      · rw [if_neg c5] at hf
        refine lv_iload_n hx hb dX7_nodeFault_18 rfl (lv_at hl 2 rfl) ?_
        refine lv_aload_n hx hb dX7_nodeFault_19 rfl (lv_at hl 0 rfl) ?_
        obtain ⟨v6, g7, hf⟩ := ob hf
        refine gR_X7_12 X hR g7 dX7_nodeFault_20 ?_
        obtain ⟨v8, g9, hf⟩ := ob hf
        refine gR_X7_160 X hR g9 dX7_nodeFault_23 ?_
        refine lv_iload_n hx hb dX7_nodeFault_26 rfl (lv_at hl 1 rfl) ?_
        obtain ⟨v10, g11, hf⟩ := ob hf
        refine r_lR (k := 3) (ty := .object RX5) X hR rfl rfl g11 dX7_nodeFault_27 ?_
        obtain ⟨v12, g13, hf⟩ := ob hf
        refine gI_X7_171 X hR g13 dX7_nodeFault_28 ?_
        refine lv_icmp_lt (tgt := 39) hx hb dX7_nodeFault_31 (by decide) (fun c14 => ?_) (fun c14 => ?_)
        · rw [if_pos c14] at hf
          refine lv_iconst (v := 0) hx hb dX7_nodeFault_39 (by decide) ?_
          obtain rfl := Option.some.inj hf
          exact r_iret X hr hlocks hR hS rfl dX7_nodeFault_40
        · rw [if_neg c14] at hf
          refine lv_bipush (v := -3) hx hb dX7_nodeFault_34 (by decide) ?_
          refine lv_goto (tgt := 40) hx hb dX7_nodeFault_36 (by decide) ?_
          obtain rfl := Option.some.inj hf
          exact r_iret X hr hlocks hR hS rfl dX7_nodeFault_40
      · rw [if_pos c5] at hf
        refine lv_bipush (v := -2) hx hb dX7_nodeFault_15 (by decide) ?_
        obtain rfl := Option.some.inj hf
        exact r_iret X hr hlocks hR hS rfl dX7_nodeFault_17
/-! ===== TwigMatches.node(III)I ===== -/
theorem dX7_node_0 : decode cX7_node 0 = .ok (.aload_n 0, 1) := by decide +kernel
theorem dX7_node_1 : decode cX7_node 1 = .ok (.iload_n 1, 1) := by decide +kernel
theorem dX7_node_2 : decode cX7_node 2 = .ok (.iload_n 2, 1) := by decide +kernel
theorem dX7_node_3 : decode cX7_node 3 = .ok (.iload_n 3, 1) := by decide +kernel
theorem dX7_node_4 : decode cX7_node 4 = .ok (.ifCond .lt 12, 3) := by decide +kernel
theorem dX7_node_7 : decode cX7_node 7 = .ok (.iload_n 3, 1) := by decide +kernel
theorem dX7_node_8 : decode cX7_node 8 = .ok (.iconst 5, 1) := by decide +kernel
theorem dX7_node_9 : decode cX7_node 9 = .ok (.if_icmp .ge 7, 3) := by decide +kernel
theorem dX7_node_12 : decode cX7_node 12 = .ok (.iconst 1, 1) := by decide +kernel
theorem dX7_node_13 : decode cX7_node 13 = .ok (.goto 4, 3) := by decide +kernel
theorem dX7_node_16 : decode cX7_node 16 = .ok (.iconst 0, 1) := by decide +kernel
theorem dX7_node_17 : decode cX7_node 17 = .ok (.invokevirtual 156, 3) := by decide +kernel
theorem dX7_node_20 : decode cX7_node 20 = .ok (.istore 4, 2) := by decide +kernel
theorem dX7_node_22 : decode cX7_node 22 = .ok (.iload 4, 2) := by decide +kernel
theorem dX7_node_24 : decode cX7_node 24 = .ok (.ifCond .ne 20, 3) := by decide +kernel
theorem dX7_node_27 : decode cX7_node 27 = .ok (.aload_n 0, 1) := by decide +kernel
theorem dX7_node_28 : decode cX7_node 28 = .ok (.getfield 12, 3) := by decide +kernel
theorem dX7_node_31 : decode cX7_node 31 = .ok (.getfield 160, 3) := by decide +kernel
theorem dX7_node_34 : decode cX7_node 34 = .ok (.iload_n 1, 1) := by decide +kernel
theorem dX7_node_35 : decode cX7_node 35 = .ok (.aaload, 1) := by decide +kernel
theorem dX7_node_36 : decode cX7_node 36 = .ok (.iload_n 2, 1) := by decide +kernel
theorem dX7_node_37 : decode cX7_node 37 = .ok (.iload_n 3, 1) := by decide +kernel
theorem dX7_node_38 : decode cX7_node 38 = .ok (.invokevirtual 164, 3) := by decide +kernel
theorem dX7_node_41 : decode cX7_node 41 = .ok (.goto 9, 3) := by decide +kernel
theorem dX7_node_44 : decode cX7_node 44 = .ok (.aload_n 0, 1) := by decide +kernel
theorem dX7_node_45 : decode cX7_node 45 = .ok (.iload 4, 2) := by decide +kernel
theorem dX7_node_47 : decode cX7_node 47 = .ok (.invokevirtual 102, 3) := by decide +kernel
theorem dX7_node_50 : decode cX7_node 50 = .ok (.ireturn, 1) := by decide +kernel
set_option maxHeartbeats 4000000 in
set_option maxRecDepth 100000 in
theorem c_X7_node (l : Launch) (B : Nat) (D : va_G) (cA : Nat → ClassId) (m : Mm) (x0 : Nat) (x1 : Int32) (x2 : Int32) (x3 : Int32) (rZ : Int32) (mZ : Mm) (hf : f_X7_node m x0 x1 x2 x3 = some (rZ, mZ)) : Mt l B D cA yX7_node cX7_node 5 (some .int) 2 44 0 0 [.ref (B + x0), .int x1, .int x2, .int x3] m (some (.int rZ)) mZ := by
  refine r_start (by decide) (Nat.le_of_ble_eq_true rfl) ?_
  intro p e s mt args below meth c ls H locs X hr hlocks hnm hR hl hS
  have hx := X.1
  have hb := X.2.1
  have hl : lv_has ls 5 [(0, .ref (B + x0)), (1, .int x1), (2, .int x2), (3, .int x3)] := hl
  unfold f_X7_node at hf
  refine lv_aload_n hx hb dX7_node_0 rfl (lv_at hl 0 rfl) ?_
  refine lv_iload_n hx hb dX7_node_1 rfl (lv_at hl 1 rfl) ?_
  refine lv_iload_n hx hb dX7_node_2 rfl (lv_at hl 2 rfl) ?_
  refine lv_iload_n hx hb dX7_node_3 rfl (lv_at hl 3 rfl) ?_
  obtain ⟨t1, hjt1, hf⟩ := ob hf
  have hJt1 : ∀ (H : Heap) (locs : List Loc) (ls : Array Slot), Rl B D cA m H → va_S (fun q => B ≤ q) s.heap H locs → lv_has ls 5 [(0, .ref (B + x0)), (1, .int x1), (2, .int x2), (3, .int x3)] → W p l e (rmm 2 0 0 44) s mt args below meth c H locs 0 0 (MQ below (mQ B D cA (some (.int rZ)) mZ) args s 0 0 (fun q => B ≤ q)) (F0 mt 17 ls [.int t1, .int x2, .int x1, .ref (B + x0)]) := by
    intro H locs ls hR hS hl
    obtain ⟨o4, h5, hf⟩ := obO hf
    obtain ⟨v7, g6, hf⟩ := ob hf
    refine r_callV X kw_X7_156 (ci := 7) rfl (c_X7_nodeFault l B D cA m x0 x1 x2 t1 v7 g6) ⟨Nat.le_of_ble_eq_true rfl, Nat.le_of_ble_eq_true rfl⟩ h5 hR hS hl.1 rfl rfl (Nat.le_of_ble_eq_true rfl) ⟨Nat.le_of_ble_eq_true rfl, Nat.le_of_ble_eq_true rfl⟩ dX7_node_17 (fun H locs hR hS => ?_)
    refine W.eq (g2 := F0 mt 20 ls [.int v7]) rfl ?_
    refine lv_istore (lv' := [(4, .int v7), (0, .ref (B + x0)), (1, .int x1), (2, .int x2), (3, .int x3)]) hx hb dX7_node_20 hl (by decide) rfl (fun ls hl => ?_)
    refine lv_iload hx hb dX7_node_22 (lv_at hl 0 rfl) ?_
    refine lv_if_ne (tgt := 44) hx hb dX7_node_24 (by decide) (fun c8 => ?_) (fun c8 => ?_)
    · rw [if_neg c8] at hf
      refine lv_aload_n hx hb dX7_node_44 rfl (lv_at hl 1 rfl) ?_
      refine lv_iload hx hb dX7_node_45 (lv_at hl 0 rfl) ?_
      obtain ⟨o9, h10, hf⟩ := obO hf
      obtain ⟨t12, g11, hf⟩ := ob hf
      refine r_callV X kw_X7_102 (ci := 7) rfl (c_X7_failed l B D cA m x0 v7 t12.1 t12.2 g11) ⟨Nat.le_of_ble_eq_true rfl, Nat.le_of_ble_eq_true rfl⟩ h10 hR hS hl.1 rfl rfl (Nat.le_of_ble_eq_true rfl) ⟨Nat.le_of_ble_eq_true rfl, Nat.le_of_ble_eq_true rfl⟩ dX7_node_47 (fun H locs hR hS => ?_)
      refine W.eq (g2 := F0 mt 50 ls [.int t12.1]) rfl ?_
      obtain ⟨rfl, rfl⟩ := Prod.mk.inj (Option.some.inj hf)
      exact r_iret X hr hlocks hR hS rfl dX7_node_50
    · rw [if_pos c8] at hf
      refine lv_aload_n hx hb dX7_node_27 rfl (lv_at hl 1 rfl) ?_
      obtain ⟨v13, g14, hf⟩ := ob hf
      refine gR_X7_12 X hR g14 dX7_node_28 ?_
      obtain ⟨v15, g16, hf⟩ := ob hf
      refine gR_X7_160 X hR g16 dX7_node_31 ?_
      refine lv_iload_n hx hb dX7_node_34 rfl (lv_at hl 2 rfl) ?_
      obtain ⟨v17, g18, hf⟩ := ob hf
      refine r_lR (k := 3) (ty := .object RX5) X hR rfl rfl g18 dX7_node_35 ?_
      refine lv_iload_n hx hb dX7_node_36 rfl (lv_at hl 3 rfl) ?_
      refine lv_iload_n hx hb dX7_node_37 rfl (lv_at hl 4 rfl) ?_
      obtain ⟨o19, h20, hf⟩ := obO hf
      obtain ⟨v22, g21, hf⟩ := ob hf
      refine r_callV X kw_X7_164 (ci := 5) rfl (c_X5_property l B D cA m v17 x2 x3 v22 g21) ⟨Nat.le_of_ble_eq_true rfl, Nat.le_of_ble_eq_true rfl⟩ h20 hR hS hl.1 rfl rfl (Nat.le_of_ble_eq_true rfl) ⟨Nat.le_of_ble_eq_true rfl, Nat.le_of_ble_eq_true rfl⟩ dX7_node_38 (fun H locs hR hS => ?_)
      refine W.eq (g2 := F0 mt 41 ls [.int v22]) rfl ?_
      refine lv_goto (tgt := 50) hx hb dX7_node_41 (by decide) ?_
      obtain ⟨rfl, rfl⟩ := Prod.mk.inj (Option.some.inj hf)
      exact r_iret X hr hlocks hR hS rfl dX7_node_50
  have hf := hjt1
  clear hjt1
  refine lv_if_lt (tgt := 16) hx hb dX7_node_4 (by decide) (fun c2 => ?_) (fun c2 => ?_)
  · rw [if_pos c2] at hf
    refine lv_iconst (v := 0) hx hb dX7_node_16 (by decide) ?_
    obtain rfl := Option.some.inj hf
    exact hJt1 H locs ls hR hS (lv_sub hl [0, 1, 2, 3] rfl)
  · rw [if_neg c2] at hf
    refine lv_iload_n hx hb dX7_node_7 rfl (lv_at hl 3 rfl) ?_
    refine lv_iconst (v := 5) hx hb dX7_node_8 (by decide) ?_
    refine lv_icmp_ge (tgt := 16) hx hb dX7_node_9 (by decide) (fun c3 => ?_) (fun c3 => ?_)
    · rw [if_pos c3] at hf
      refine lv_iconst (v := 0) hx hb dX7_node_16 (by decide) ?_
      obtain rfl := Option.some.inj hf
      exact hJt1 H locs ls hR hS (lv_sub hl [0, 1, 2, 3] rfl)
    · rw [if_neg c3] at hf
      refine lv_iconst (v := 1) hx hb dX7_node_12 (by decide) ?_
      refine lv_goto (tgt := 17) hx hb dX7_node_13 (by decide) ?_
      obtain rfl := Option.some.inj hf
      exact hJt1 H locs ls hR hS (lv_sub hl [0, 1, 2, 3] rfl)
/-! ===== TwigMatches.twigFault(IZ)I ===== -/
theorem dX7_twigFault_0 : decode cX7_twigFault 0 = .ok (.iload_n 1, 1) := by decide +kernel
theorem dX7_twigFault_1 : decode cX7_twigFault 1 = .ok (.invokestatic 172, 3) := by decide +kernel
theorem dX7_twigFault_4 : decode cX7_twigFault 4 = .ok (.ifCond .eq 7, 3) := by decide +kernel
theorem dX7_twigFault_7 : decode cX7_twigFault 7 = .ok (.iload_n 2, 1) := by decide +kernel
theorem dX7_twigFault_8 : decode cX7_twigFault 8 = .ok (.ifCond .ne 6, 3) := by decide +kernel
theorem dX7_twigFault_11 : decode cX7_twigFault 11 = .ok (.bipush (-2), 2) := by decide +kernel
theorem dX7_twigFault_13 : decode cX7_twigFault 13 = .ok (.ireturn, 1) := by decide +kernel
theorem dX7_twigFault_14 : decode cX7_twigFault 14 = .ok (.aload_n 0, 1) := by decide +kernel
theorem dX7_twigFault_15 : decode cX7_twigFault 15 = .ok (.getfield 12, 3) := by decide +kernel
theorem dX7_twigFault_18 : decode cX7_twigFault 18 = .ok (.getfield 160, 3) := by decide +kernel
theorem dX7_twigFault_21 : decode cX7_twigFault 21 = .ok (.iload_n 1, 1) := by decide +kernel
theorem dX7_twigFault_22 : decode cX7_twigFault 22 = .ok (.aaload, 1) := by decide +kernel
theorem dX7_twigFault_23 : decode cX7_twigFault 23 = .ok (.getfield 171, 3) := by decide +kernel
theorem dX7_twigFault_26 : decode cX7_twigFault 26 = .ok (.ifCond .ne 8, 3) := by decide +kernel
theorem dX7_twigFault_29 : decode cX7_twigFault 29 = .ok (.bipush (-3), 2) := by decide +kernel
theorem dX7_twigFault_31 : decode cX7_twigFault 31 = .ok (.goto 4, 3) := by decide +kernel
theorem dX7_twigFault_34 : decode cX7_twigFault 34 = .ok (.iconst 0, 1) := by decide +kernel
theorem dX7_twigFault_35 : decode cX7_twigFault 35 = .ok (.ireturn, 1) := by decide +kernel
set_option maxHeartbeats 4000000 in
set_option maxRecDepth 100000 in
theorem c_X7_twigFault (l : Launch) (B : Nat) (D : va_G) (cA : Nat → ClassId) (m : Mm) (x0 : Nat) (x1 : Int32) (x2 : Int32) (rZ : Int32) (hf : f_X7_twigFault m x0 x1 x2 = some rZ) : Mt l B D cA yX7_twigFault cX7_twigFault 3 (some .int) 1 20 0 0 [.ref (B + x0), .int x1, .int x2] m (some (.int rZ)) m := by
  refine r_start (by decide) (Nat.le_of_ble_eq_true rfl) ?_
  intro p e s mt args below meth c ls H locs X hr hlocks hnm hR hl hS
  have hx := X.1
  have hb := X.2.1
  have hl : lv_has ls 3 [(0, .ref (B + x0)), (1, .int x1), (2, .int x2)] := hl
  unfold f_X7_twigFault at hf
  refine lv_iload_n hx hb dX7_twigFault_0 rfl (lv_at hl 1 rfl) ?_
  obtain ⟨v2, g1, hf⟩ := ob hf
  refine r_callS X kw_X7_172 (c_X7_isTwigNumber l B D cA m x1 v2 g1) ⟨Nat.le_of_ble_eq_true rfl, Nat.le_of_ble_eq_true rfl⟩ hR hS hl.1 rfl rfl (Nat.le_of_ble_eq_true rfl) ⟨Nat.le_of_ble_eq_true rfl, Nat.le_of_ble_eq_true rfl⟩ dX7_twigFault_1 (fun H locs hR hS => ?_)
  refine W.eq (g2 := F0 mt 4 ls [.int v2]) rfl ?_
  refine lv_if_eq (tgt := 11) hx hb dX7_twigFault_4 (by decide) (fun c3 => ?_) (fun c3 => ?_)
  · rw [if_pos c3] at hf
    refine lv_bipush (v := -2) hx hb dX7_twigFault_11 (by decide) ?_
    obtain rfl := Option.some.inj hf
    exact r_iret X hr hlocks hR hS rfl dX7_twigFault_13
  · rw [if_neg c3] at hf
    refine lv_iload_n hx hb dX7_twigFault_7 rfl (lv_at hl 2 rfl) ?_
    refine lv_if_ne (tgt := 14) hx hb dX7_twigFault_8 (by decide) (fun c4 => ?_) (fun c4 => ?_)
    · rw [if_neg c4] at hf
      refine lv_aload_n hx hb dX7_twigFault_14 rfl (lv_at hl 0 rfl) ?_
      obtain ⟨v5, g6, hf⟩ := ob hf
      refine gR_X7_12 X hR g6 dX7_twigFault_15 ?_
      obtain ⟨v7, g8, hf⟩ := ob hf
      refine gR_X7_160 X hR g8 dX7_twigFault_18 ?_
      refine lv_iload_n hx hb dX7_twigFault_21 rfl (lv_at hl 1 rfl) ?_
      obtain ⟨v9, g10, hf⟩ := ob hf
      refine r_lR (k := 3) (ty := .object RX5) X hR rfl rfl g10 dX7_twigFault_22 ?_
      obtain ⟨v11, g12, hf⟩ := ob hf
      refine gI_X7_171 X hR g12 dX7_twigFault_23 ?_
      refine lv_if_ne (tgt := 34) hx hb dX7_twigFault_26 (by decide) (fun c13 => ?_) (fun c13 => ?_)
      · rw [if_neg c13] at hf
        refine lv_iconst (v := 0) hx hb dX7_twigFault_34 (by decide) ?_
        obtain rfl := Option.some.inj hf
        exact r_iret X hr hlocks hR hS rfl dX7_twigFault_35
      · rw [if_pos c13] at hf
        refine lv_bipush (v := -3) hx hb dX7_twigFault_29 (by decide) ?_
        refine lv_goto (tgt := 35) hx hb dX7_twigFault_31 (by decide) ?_
        obtain rfl := Option.some.inj hf
        exact r_iret X hr hlocks hR hS rfl dX7_twigFault_35
    · rw [if_pos c4] at hf
      refine lv_bipush (v := -2) hx hb dX7_twigFault_11 (by decide) ?_
      obtain rfl := Option.some.inj hf
      exact r_iret X hr hlocks hR hS rfl dX7_twigFault_13
/-! ===== TwigMatches.forgets(I)I ===== -/
theorem dX7_forgets_0 : decode cX7_forgets 0 = .ok (.aload_n 0, 1) := by decide +kernel
theorem dX7_forgets_1 : decode cX7_forgets 1 = .ok (.iload_n 1, 1) := by decide +kernel
theorem dX7_forgets_2 : decode cX7_forgets 2 = .ok (.iconst 1, 1) := by decide +kernel
theorem dX7_forgets_3 : decode cX7_forgets 3 = .ok (.invokevirtual 167, 3) := by decide +kernel
theorem dX7_forgets_6 : decode cX7_forgets 6 = .ok (.istore_n 2, 1) := by decide +kernel
theorem dX7_forgets_7 : decode cX7_forgets 7 = .ok (.iload_n 2, 1) := by decide +kernel
theorem dX7_forgets_8 : decode cX7_forgets 8 = .ok (.ifCond .eq 9, 3) := by decide +kernel
theorem dX7_forgets_11 : decode cX7_forgets 11 = .ok (.aload_n 0, 1) := by decide +kernel
theorem dX7_forgets_12 : decode cX7_forgets 12 = .ok (.iload_n 2, 1) := by decide +kernel
theorem dX7_forgets_13 : decode cX7_forgets 13 = .ok (.invokevirtual 102, 3) := by decide +kernel
theorem dX7_forgets_16 : decode cX7_forgets 16 = .ok (.ireturn, 1) := by decide +kernel
theorem dX7_forgets_17 : decode cX7_forgets 17 = .ok (.aload_n 0, 1) := by decide +kernel
theorem dX7_forgets_18 : decode cX7_forgets 18 = .ok (.invokevirtual 113, 3) := by decide +kernel
theorem dX7_forgets_21 : decode cX7_forgets 21 = .ok (.aload_n 0, 1) := by decide +kernel
theorem dX7_forgets_22 : decode cX7_forgets 22 = .ok (.getfield 12, 3) := by decide +kernel
theorem dX7_forgets_25 : decode cX7_forgets 25 = .ok (.getfield 160, 3) := by decide +kernel
theorem dX7_forgets_28 : decode cX7_forgets 28 = .ok (.iload_n 1, 1) := by decide +kernel
theorem dX7_forgets_29 : decode cX7_forgets 29 = .ok (.aaload, 1) := by decide +kernel
theorem dX7_forgets_30 : decode cX7_forgets 30 = .ok (.getfield 171, 3) := by decide +kernel
theorem dX7_forgets_33 : decode cX7_forgets 33 = .ok (.istore_n 3, 1) := by decide +kernel
theorem dX7_forgets_34 : decode cX7_forgets 34 = .ok (.aload_n 0, 1) := by decide +kernel
theorem dX7_forgets_35 : decode cX7_forgets 35 = .ok (.getfield 12, 3) := by decide +kernel
theorem dX7_forgets_38 : decode cX7_forgets 38 = .ok (.getfield 160, 3) := by decide +kernel
theorem dX7_forgets_41 : decode cX7_forgets 41 = .ok (.iload_n 1, 1) := by decide +kernel
theorem dX7_forgets_42 : decode cX7_forgets 42 = .ok (.aaload, 1) := by decide +kernel
theorem dX7_forgets_43 : decode cX7_forgets 43 = .ok (.iconst 0, 1) := by decide +kernel
theorem dX7_forgets_44 : decode cX7_forgets 44 = .ok (.putfield 171, 3) := by decide +kernel
theorem dX7_forgets_47 : decode cX7_forgets 47 = .ok (.iload_n 3, 1) := by decide +kernel
theorem dX7_forgets_48 : decode cX7_forgets 48 = .ok (.ireturn, 1) := by decide +kernel
set_option maxHeartbeats 4000000 in
set_option maxRecDepth 100000 in
theorem c_X7_forgets (l : Launch) (B : Nat) (D : va_G) (cA : Nat → ClassId) (m : Mm) (x0 : Nat) (x1 : Int32) (rZ : Int32) (mZ : Mm) (hf : f_X7_forgets m x0 x1 = some (rZ, mZ)) : Mt l B D cA yX7_forgets cX7_forgets 4 (some .int) 4 103 0 0 [.ref (B + x0), .int x1] m (some (.int rZ)) mZ := by
  refine r_start (by decide) (Nat.le_of_ble_eq_true rfl) ?_
  intro p e s mt args below meth c ls H locs X hr hlocks hnm hR hl hS
  have hx := X.1
  have hb := X.2.1
  have hl : lv_has ls 4 [(0, .ref (B + x0)), (1, .int x1)] := hl
  unfold f_X7_forgets at hf
  refine lv_aload_n hx hb dX7_forgets_0 rfl (lv_at hl 0 rfl) ?_
  refine lv_iload_n hx hb dX7_forgets_1 rfl (lv_at hl 1 rfl) ?_
  refine lv_iconst (v := 1) hx hb dX7_forgets_2 (by decide) ?_
  obtain ⟨o1, h2, hf⟩ := obO hf
  obtain ⟨v4, g3, hf⟩ := ob hf
  refine r_callV X kw_X7_167 (ci := 7) rfl (c_X7_twigFault l B D cA m x0 x1 (1 : Int32) v4 g3) ⟨Nat.le_of_ble_eq_true rfl, Nat.le_of_ble_eq_true rfl⟩ h2 hR hS hl.1 rfl rfl (Nat.le_of_ble_eq_true rfl) ⟨Nat.le_of_ble_eq_true rfl, Nat.le_of_ble_eq_true rfl⟩ dX7_forgets_3 (fun H locs hR hS => ?_)
  refine W.eq (g2 := F0 mt 6 ls [.int v4]) rfl ?_
  refine lv_istore_n (lv' := [(2, .int v4), (0, .ref (B + x0)), (1, .int x1)]) hx hb dX7_forgets_6 rfl hl (by decide) rfl (fun ls hl => ?_)
  refine lv_iload_n hx hb dX7_forgets_7 rfl (lv_at hl 0 rfl) ?_
  refine lv_if_eq (tgt := 17) hx hb dX7_forgets_8 (by decide) (fun c5 => ?_) (fun c5 => ?_)
  · rw [if_pos c5] at hf
    refine lv_aload_n hx hb dX7_forgets_17 rfl (lv_at hl 1 rfl) ?_
    obtain ⟨o6, h7, hf⟩ := obO hf
    obtain ⟨m9, g8, hf⟩ := ob hf
    refine r_callV X kw_X7_113 (ci := 7) rfl (c_X7_keep l B D cA m x0 m9 g8) ⟨Nat.le_of_ble_eq_true rfl, Nat.le_of_ble_eq_true rfl⟩ h7 hR hS hl.1 rfl rfl (Nat.le_of_ble_eq_true rfl) ⟨Nat.le_of_ble_eq_true rfl, Nat.le_of_ble_eq_true rfl⟩ dX7_forgets_18 (fun H locs hR hS => ?_)
    refine W.eq (g2 := F0 mt 21 ls []) rfl ?_
    refine lv_aload_n hx hb dX7_forgets_21 rfl (lv_at hl 1 rfl) ?_
    obtain ⟨v10, g11, hf⟩ := ob hf
    refine gR_X7_12 X hR g11 dX7_forgets_22 ?_
    obtain ⟨v12, g13, hf⟩ := ob hf
    refine gR_X7_160 X hR g13 dX7_forgets_25 ?_
    refine lv_iload_n hx hb dX7_forgets_28 rfl (lv_at hl 2 rfl) ?_
    obtain ⟨v14, g15, hf⟩ := ob hf
    refine r_lR (k := 3) (ty := .object RX5) X hR rfl rfl g15 dX7_forgets_29 ?_
    obtain ⟨v16, g17, hf⟩ := ob hf
    refine gI_X7_171 X hR g17 dX7_forgets_30 ?_
    refine lv_istore_n (lv' := [(3, .int v16), (2, .int v4), (0, .ref (B + x0)), (1, .int x1)]) hx hb dX7_forgets_33 rfl hl (by decide) rfl (fun ls hl => ?_)
    refine lv_aload_n hx hb dX7_forgets_34 rfl (lv_at hl 2 rfl) ?_
    obtain ⟨v18, g19, hf⟩ := ob hf
    refine gR_X7_12 X hR g19 dX7_forgets_35 ?_
    obtain ⟨v20, g21, hf⟩ := ob hf
    refine gR_X7_160 X hR g21 dX7_forgets_38 ?_
    refine lv_iload_n hx hb dX7_forgets_41 rfl (lv_at hl 3 rfl) ?_
    obtain ⟨v22, g23, hf⟩ := ob hf
    refine r_lR (k := 3) (ty := .object RX5) X hR rfl rfl g23 dX7_forgets_42 ?_
    refine lv_iconst (v := 0) hx hb dX7_forgets_43 (by decide) ?_
    obtain ⟨m24, g25, hf⟩ := ob hf
    refine pI_X7_171 X hR hS g25 dX7_forgets_44 (fun H locs hR hS => ?_)
    refine lv_iload_n hx hb dX7_forgets_47 rfl (lv_at hl 0 rfl) ?_
    obtain ⟨rfl, rfl⟩ := Prod.mk.inj (Option.some.inj hf)
    exact r_iret X hr hlocks hR hS rfl dX7_forgets_48
  · rw [if_neg c5] at hf
    refine lv_aload_n hx hb dX7_forgets_11 rfl (lv_at hl 1 rfl) ?_
    refine lv_iload_n hx hb dX7_forgets_12 rfl (lv_at hl 0 rfl) ?_
    obtain ⟨o26, h27, hf⟩ := obO hf
    obtain ⟨t29, g28, hf⟩ := ob hf
    refine r_callV X kw_X7_102 (ci := 7) rfl (c_X7_failed l B D cA m x0 v4 t29.1 t29.2 g28) ⟨Nat.le_of_ble_eq_true rfl, Nat.le_of_ble_eq_true rfl⟩ h27 hR hS hl.1 rfl rfl (Nat.le_of_ble_eq_true rfl) ⟨Nat.le_of_ble_eq_true rfl, Nat.le_of_ble_eq_true rfl⟩ dX7_forgets_13 (fun H locs hR hS => ?_)
    refine W.eq (g2 := F0 mt 16 ls [.int t29.1]) rfl ?_
    obtain ⟨rfl, rfl⟩ := Prod.mk.inj (Option.some.inj hf)
    exact r_iret X hr hlocks hR hS rfl dX7_forgets_16
/-! ===== TwigMatches.nodes(I)I ===== -/
theorem dX7_nodes_0 : decode cX7_nodes 0 = .ok (.iload_n 1, 1) := by decide +kernel
theorem dX7_nodes_1 : decode cX7_nodes 1 = .ok (.invokestatic 172, 3) := by decide +kernel
theorem dX7_nodes_4 : decode cX7_nodes 4 = .ok (.ifCond .eq 18, 3) := by decide +kernel
theorem dX7_nodes_7 : decode cX7_nodes 7 = .ok (.aload_n 0, 1) := by decide +kernel
theorem dX7_nodes_8 : decode cX7_nodes 8 = .ok (.getfield 12, 3) := by decide +kernel
theorem dX7_nodes_11 : decode cX7_nodes 11 = .ok (.getfield 160, 3) := by decide +kernel
theorem dX7_nodes_14 : decode cX7_nodes 14 = .ok (.iload_n 1, 1) := by decide +kernel
theorem dX7_nodes_15 : decode cX7_nodes 15 = .ok (.aaload, 1) := by decide +kernel
theorem dX7_nodes_16 : decode cX7_nodes 16 = .ok (.getfield 171, 3) := by decide +kernel
theorem dX7_nodes_19 : decode cX7_nodes 19 = .ok (.goto 9, 3) := by decide +kernel
theorem dX7_nodes_22 : decode cX7_nodes 22 = .ok (.aload_n 0, 1) := by decide +kernel
theorem dX7_nodes_23 : decode cX7_nodes 23 = .ok (.bipush (-2), 2) := by decide +kernel
theorem dX7_nodes_25 : decode cX7_nodes 25 = .ok (.invokevirtual 102, 3) := by decide +kernel
theorem dX7_nodes_28 : decode cX7_nodes 28 = .ok (.ireturn, 1) := by decide +kernel
set_option maxHeartbeats 4000000 in
set_option maxRecDepth 100000 in
theorem c_X7_nodes (l : Launch) (B : Nat) (D : va_G) (cA : Nat → ClassId) (m : Mm) (x0 : Nat) (x1 : Int32) (rZ : Int32) (mZ : Mm) (hf : f_X7_nodes m x0 x1 = some (rZ, mZ)) : Mt l B D cA yX7_nodes cX7_nodes 2 (some .int) 1 21 0 0 [.ref (B + x0), .int x1] m (some (.int rZ)) mZ := by
  refine r_start (by decide) (Nat.le_of_ble_eq_true rfl) ?_
  intro p e s mt args below meth c ls H locs X hr hlocks hnm hR hl hS
  have hx := X.1
  have hb := X.2.1
  have hl : lv_has ls 2 [(0, .ref (B + x0)), (1, .int x1)] := hl
  unfold f_X7_nodes at hf
  refine lv_iload_n hx hb dX7_nodes_0 rfl (lv_at hl 1 rfl) ?_
  obtain ⟨v2, g1, hf⟩ := ob hf
  refine r_callS X kw_X7_172 (c_X7_isTwigNumber l B D cA m x1 v2 g1) ⟨Nat.le_of_ble_eq_true rfl, Nat.le_of_ble_eq_true rfl⟩ hR hS hl.1 rfl rfl (Nat.le_of_ble_eq_true rfl) ⟨Nat.le_of_ble_eq_true rfl, Nat.le_of_ble_eq_true rfl⟩ dX7_nodes_1 (fun H locs hR hS => ?_)
  refine W.eq (g2 := F0 mt 4 ls [.int v2]) rfl ?_
  refine lv_if_eq (tgt := 22) hx hb dX7_nodes_4 (by decide) (fun c3 => ?_) (fun c3 => ?_)
  · rw [if_pos c3] at hf
    refine lv_aload_n hx hb dX7_nodes_22 rfl (lv_at hl 0 rfl) ?_
    refine lv_bipush (v := -2) hx hb dX7_nodes_23 (by decide) ?_
    obtain ⟨o4, h5, hf⟩ := obO hf
    obtain ⟨t7, g6, hf⟩ := ob hf
    refine r_callV X kw_X7_102 (ci := 7) rfl (c_X7_failed l B D cA m x0 (-2 : Int32) t7.1 t7.2 g6) ⟨Nat.le_of_ble_eq_true rfl, Nat.le_of_ble_eq_true rfl⟩ h5 hR hS hl.1 rfl rfl (Nat.le_of_ble_eq_true rfl) ⟨Nat.le_of_ble_eq_true rfl, Nat.le_of_ble_eq_true rfl⟩ dX7_nodes_25 (fun H locs hR hS => ?_)
    refine W.eq (g2 := F0 mt 28 ls [.int t7.1]) rfl ?_
    obtain ⟨rfl, rfl⟩ := Prod.mk.inj (Option.some.inj hf)
    exact r_iret X hr hlocks hR hS rfl dX7_nodes_28
  · rw [if_neg c3] at hf
    refine lv_aload_n hx hb dX7_nodes_7 rfl (lv_at hl 0 rfl) ?_
    obtain ⟨v8, g9, hf⟩ := ob hf
    refine gR_X7_12 X hR g9 dX7_nodes_8 ?_
    obtain ⟨v10, g11, hf⟩ := ob hf
    refine gR_X7_160 X hR g11 dX7_nodes_11 ?_
    refine lv_iload_n hx hb dX7_nodes_14 rfl (lv_at hl 1 rfl) ?_
    obtain ⟨v12, g13, hf⟩ := ob hf
    refine r_lR (k := 3) (ty := .object RX5) X hR rfl rfl g13 dX7_nodes_15 ?_
    obtain ⟨v14, g15, hf⟩ := ob hf
    refine gI_X7_171 X hR g15 dX7_nodes_16 ?_
    refine lv_goto (tgt := 28) hx hb dX7_nodes_19 (by decide) ?_
    obtain ⟨rfl, rfl⟩ := Prod.mk.inj (Option.some.inj hf)
    exact r_iret X hr hlocks hR hS rfl dX7_nodes_28
/-! ===== TwigMatches.folds(II)I ===== -/
theorem dX7_folds_0 : decode cX7_folds 0 = .ok (.iload_n 1, 1) := by decide +kernel
theorem dX7_folds_1 : decode cX7_folds 1 = .ok (.invokestatic 172, 3) := by decide +kernel
theorem dX7_folds_4 : decode cX7_folds 4 = .ok (.ifCond .eq 10, 3) := by decide +kernel
theorem dX7_folds_7 : decode cX7_folds 7 = .ok (.iload_n 2, 1) := by decide +kernel
theorem dX7_folds_8 : decode cX7_folds 8 = .ok (.invokestatic 172, 3) := by decide +kernel
theorem dX7_folds_11 : decode cX7_folds 11 = .ok (.ifCond .ne 10, 3) := by decide +kernel
theorem dX7_folds_14 : decode cX7_folds 14 = .ok (.aload_n 0, 1) := by decide +kernel
theorem dX7_folds_15 : decode cX7_folds 15 = .ok (.bipush (-2), 2) := by decide +kernel
theorem dX7_folds_17 : decode cX7_folds 17 = .ok (.invokevirtual 102, 3) := by decide +kernel
theorem dX7_folds_20 : decode cX7_folds 20 = .ok (.ireturn, 1) := by decide +kernel
theorem dX7_folds_21 : decode cX7_folds 21 = .ok (.aload_n 0, 1) := by decide +kernel
theorem dX7_folds_22 : decode cX7_folds 22 = .ok (.getfield 12, 3) := by decide +kernel
theorem dX7_folds_25 : decode cX7_folds 25 = .ok (.getfield 160, 3) := by decide +kernel
theorem dX7_folds_28 : decode cX7_folds 28 = .ok (.iload_n 1, 1) := by decide +kernel
theorem dX7_folds_29 : decode cX7_folds 29 = .ok (.aaload, 1) := by decide +kernel
theorem dX7_folds_30 : decode cX7_folds 30 = .ok (.astore_n 3, 1) := by decide +kernel
theorem dX7_folds_31 : decode cX7_folds 31 = .ok (.aload_n 0, 1) := by decide +kernel
theorem dX7_folds_32 : decode cX7_folds 32 = .ok (.getfield 12, 3) := by decide +kernel
theorem dX7_folds_35 : decode cX7_folds 35 = .ok (.getfield 160, 3) := by decide +kernel
theorem dX7_folds_38 : decode cX7_folds 38 = .ok (.iload_n 2, 1) := by decide +kernel
theorem dX7_folds_39 : decode cX7_folds 39 = .ok (.aaload, 1) := by decide +kernel
theorem dX7_folds_40 : decode cX7_folds 40 = .ok (.astore 4, 2) := by decide +kernel
theorem dX7_folds_42 : decode cX7_folds 42 = .ok (.aload_n 3, 1) := by decide +kernel
theorem dX7_folds_43 : decode cX7_folds 43 = .ok (.getfield 171, 3) := by decide +kernel
theorem dX7_folds_46 : decode cX7_folds 46 = .ok (.ifCond .eq 26, 3) := by decide +kernel
theorem dX7_folds_49 : decode cX7_folds 49 = .ok (.aload 4, 2) := by decide +kernel
theorem dX7_folds_51 : decode cX7_folds 51 = .ok (.getfield 171, 3) := by decide +kernel
theorem dX7_folds_54 : decode cX7_folds 54 = .ok (.ifCond .eq 18, 3) := by decide +kernel
theorem dX7_folds_57 : decode cX7_folds 57 = .ok (.aload_n 3, 1) := by decide +kernel
theorem dX7_folds_58 : decode cX7_folds 58 = .ok (.invokevirtual 175, 3) := by decide +kernel
theorem dX7_folds_61 : decode cX7_folds 61 = .ok (.ifCond .ne 11, 3) := by decide +kernel
theorem dX7_folds_64 : decode cX7_folds 64 = .ok (.aload 4, 2) := by decide +kernel
theorem dX7_folds_66 : decode cX7_folds 66 = .ok (.invokevirtual 175, 3) := by decide +kernel
theorem dX7_folds_69 : decode cX7_folds 69 = .ok (.ifCond .eq 10, 3) := by decide +kernel
theorem dX7_folds_72 : decode cX7_folds 72 = .ok (.aload_n 0, 1) := by decide +kernel
theorem dX7_folds_73 : decode cX7_folds 73 = .ok (.bipush (-3), 2) := by decide +kernel
theorem dX7_folds_75 : decode cX7_folds 75 = .ok (.invokevirtual 102, 3) := by decide +kernel
theorem dX7_folds_78 : decode cX7_folds 78 = .ok (.ireturn, 1) := by decide +kernel
theorem dX7_folds_79 : decode cX7_folds 79 = .ok (.aload_n 0, 1) := by decide +kernel
theorem dX7_folds_80 : decode cX7_folds 80 = .ok (.getfield 63, 3) := by decide +kernel
theorem dX7_folds_83 : decode cX7_folds 83 = .ok (.aload_n 3, 1) := by decide +kernel
theorem dX7_folds_84 : decode cX7_folds 84 = .ok (.aload 4, 2) := by decide +kernel
theorem dX7_folds_86 : decode cX7_folds 86 = .ok (.iconst 0, 1) := by decide +kernel
theorem dX7_folds_87 : decode cX7_folds 87 = .ok (.invokevirtual 179, 3) := by decide +kernel
theorem dX7_folds_90 : decode cX7_folds 90 = .ok (.ifCond .eq 7, 3) := by decide +kernel
theorem dX7_folds_93 : decode cX7_folds 93 = .ok (.iconst 1, 1) := by decide +kernel
theorem dX7_folds_94 : decode cX7_folds 94 = .ok (.goto 4, 3) := by decide +kernel
theorem dX7_folds_97 : decode cX7_folds 97 = .ok (.iconst 0, 1) := by decide +kernel
theorem dX7_folds_98 : decode cX7_folds 98 = .ok (.ireturn, 1) := by decide +kernel
set_option maxHeartbeats 4000000 in
set_option maxRecDepth 100000 in
theorem c_X7_folds (l : Launch) (B : Nat) (D : va_G) (cA : Nat → ClassId) (m : Mm) (x0 : Nat) (x1 : Int32) (x2 : Int32) (rZ : Int32) (mZ : Mm) (hf : f_X7_folds m x0 x1 x2 = some (rZ, mZ)) : Mt l B D cA yX7_folds cX7_folds 5 (some .int) 4 100 0 0 [.ref (B + x0), .int x1, .int x2] m (some (.int rZ)) mZ := by
  refine r_start (by decide) (Nat.le_of_ble_eq_true rfl) ?_
  intro p e s mt args below meth c ls H locs X hr hlocks hnm hR hl hS
  have hx := X.1
  have hb := X.2.1
  have hl : lv_has ls 5 [(0, .ref (B + x0)), (1, .int x1), (2, .int x2)] := hl
  unfold f_X7_folds at hf
  refine lv_iload_n hx hb dX7_folds_0 rfl (lv_at hl 1 rfl) ?_
  obtain ⟨v2, g1, hf⟩ := ob hf
  refine r_callS X kw_X7_172 (c_X7_isTwigNumber l B D cA m x1 v2 g1) ⟨Nat.le_of_ble_eq_true rfl, Nat.le_of_ble_eq_true rfl⟩ hR hS hl.1 rfl rfl (Nat.le_of_ble_eq_true rfl) ⟨Nat.le_of_ble_eq_true rfl, Nat.le_of_ble_eq_true rfl⟩ dX7_folds_1 (fun H locs hR hS => ?_)
  refine W.eq (g2 := F0 mt 4 ls [.int v2]) rfl ?_
  refine lv_if_eq (tgt := 14) hx hb dX7_folds_4 (by decide) (fun c3 => ?_) (fun c3 => ?_)
  · rw [if_pos c3] at hf
    refine lv_aload_n hx hb dX7_folds_14 rfl (lv_at hl 0 rfl) ?_
    refine lv_bipush (v := -2) hx hb dX7_folds_15 (by decide) ?_
    obtain ⟨o4, h5, hf⟩ := obO hf
    obtain ⟨t7, g6, hf⟩ := ob hf
    refine r_callV X kw_X7_102 (ci := 7) rfl (c_X7_failed l B D cA m x0 (-2 : Int32) t7.1 t7.2 g6) ⟨Nat.le_of_ble_eq_true rfl, Nat.le_of_ble_eq_true rfl⟩ h5 hR hS hl.1 rfl rfl (Nat.le_of_ble_eq_true rfl) ⟨Nat.le_of_ble_eq_true rfl, Nat.le_of_ble_eq_true rfl⟩ dX7_folds_17 (fun H locs hR hS => ?_)
    refine W.eq (g2 := F0 mt 20 ls [.int t7.1]) rfl ?_
    obtain ⟨rfl, rfl⟩ := Prod.mk.inj (Option.some.inj hf)
    exact r_iret X hr hlocks hR hS rfl dX7_folds_20
  · rw [if_neg c3] at hf
    refine lv_iload_n hx hb dX7_folds_7 rfl (lv_at hl 2 rfl) ?_
    obtain ⟨v9, g8, hf⟩ := ob hf
    refine r_callS X kw_X7_172 (c_X7_isTwigNumber l B D cA m x2 v9 g8) ⟨Nat.le_of_ble_eq_true rfl, Nat.le_of_ble_eq_true rfl⟩ hR hS hl.1 rfl rfl (Nat.le_of_ble_eq_true rfl) ⟨Nat.le_of_ble_eq_true rfl, Nat.le_of_ble_eq_true rfl⟩ dX7_folds_8 (fun H locs hR hS => ?_)
    refine W.eq (g2 := F0 mt 11 ls [.int v9]) rfl ?_
    refine lv_if_ne (tgt := 21) hx hb dX7_folds_11 (by decide) (fun c10 => ?_) (fun c10 => ?_)
    · rw [if_neg c10] at hf
      refine lv_aload_n hx hb dX7_folds_21 rfl (lv_at hl 0 rfl) ?_
      obtain ⟨v11, g12, hf⟩ := ob hf
      refine gR_X7_12 X hR g12 dX7_folds_22 ?_
      obtain ⟨v13, g14, hf⟩ := ob hf
      refine gR_X7_160 X hR g14 dX7_folds_25 ?_
      refine lv_iload_n hx hb dX7_folds_28 rfl (lv_at hl 1 rfl) ?_
      obtain ⟨v15, g16, hf⟩ := ob hf
      refine r_lR (k := 3) (ty := .object RX5) X hR rfl rfl g16 dX7_folds_29 ?_
      refine lv_astore_n (lv' := [(3, .ref (B + v15)), (0, .ref (B + x0)), (1, .int x1), (2, .int x2)]) hx hb dX7_folds_30 rfl hl (by decide) rfl (fun ls hl => ?_)
      refine lv_aload_n hx hb dX7_folds_31 rfl (lv_at hl 1 rfl) ?_
      obtain ⟨v17, g18, hf⟩ := ob hf
      refine gR_X7_12 X hR g18 dX7_folds_32 ?_
      obtain ⟨v19, g20, hf⟩ := ob hf
      refine gR_X7_160 X hR g20 dX7_folds_35 ?_
      refine lv_iload_n hx hb dX7_folds_38 rfl (lv_at hl 3 rfl) ?_
      obtain ⟨v21, g22, hf⟩ := ob hf
      refine r_lR (k := 3) (ty := .object RX5) X hR rfl rfl g22 dX7_folds_39 ?_
      refine lv_astore (lv' := [(4, .ref (B + v21)), (3, .ref (B + v15)), (0, .ref (B + x0)), (1, .int x1), (2, .int x2)]) hx hb dX7_folds_40 hl (by decide) rfl (fun ls hl => ?_)
      refine lv_aload_n hx hb dX7_folds_42 rfl (lv_at hl 1 rfl) ?_
      obtain ⟨v23, g24, hf⟩ := ob hf
      refine gI_X7_171 X hR g24 dX7_folds_43 ?_
      refine lv_if_eq (tgt := 72) hx hb dX7_folds_46 (by decide) (fun c25 => ?_) (fun c25 => ?_)
      · rw [if_pos c25] at hf
        refine lv_aload_n hx hb dX7_folds_72 rfl (lv_at hl 2 rfl) ?_
        refine lv_bipush (v := -3) hx hb dX7_folds_73 (by decide) ?_
        obtain ⟨o26, h27, hf⟩ := obO hf
        obtain ⟨t29, g28, hf⟩ := ob hf
        refine r_callV X kw_X7_102 (ci := 7) rfl (c_X7_failed l B D cA m x0 (-3 : Int32) t29.1 t29.2 g28) ⟨Nat.le_of_ble_eq_true rfl, Nat.le_of_ble_eq_true rfl⟩ h27 hR hS hl.1 rfl rfl (Nat.le_of_ble_eq_true rfl) ⟨Nat.le_of_ble_eq_true rfl, Nat.le_of_ble_eq_true rfl⟩ dX7_folds_75 (fun H locs hR hS => ?_)
        refine W.eq (g2 := F0 mt 78 ls [.int t29.1]) rfl ?_
        obtain ⟨rfl, rfl⟩ := Prod.mk.inj (Option.some.inj hf)
        exact r_iret X hr hlocks hR hS rfl dX7_folds_78
      · rw [if_neg c25] at hf
        refine lv_aload hx hb dX7_folds_49 (lv_at hl 0 rfl) ?_
        obtain ⟨v30, g31, hf⟩ := ob hf
        refine gI_X7_171 X hR g31 dX7_folds_51 ?_
        refine lv_if_eq (tgt := 72) hx hb dX7_folds_54 (by decide) (fun c32 => ?_) (fun c32 => ?_)
        · rw [if_pos c32] at hf
          refine lv_aload_n hx hb dX7_folds_72 rfl (lv_at hl 2 rfl) ?_
          refine lv_bipush (v := -3) hx hb dX7_folds_73 (by decide) ?_
          obtain ⟨o33, h34, hf⟩ := obO hf
          obtain ⟨t36, g35, hf⟩ := ob hf
          refine r_callV X kw_X7_102 (ci := 7) rfl (c_X7_failed l B D cA m x0 (-3 : Int32) t36.1 t36.2 g35) ⟨Nat.le_of_ble_eq_true rfl, Nat.le_of_ble_eq_true rfl⟩ h34 hR hS hl.1 rfl rfl (Nat.le_of_ble_eq_true rfl) ⟨Nat.le_of_ble_eq_true rfl, Nat.le_of_ble_eq_true rfl⟩ dX7_folds_75 (fun H locs hR hS => ?_)
          refine W.eq (g2 := F0 mt 78 ls [.int t36.1]) rfl ?_
          obtain ⟨rfl, rfl⟩ := Prod.mk.inj (Option.some.inj hf)
          exact r_iret X hr hlocks hR hS rfl dX7_folds_78
        · rw [if_neg c32] at hf
          refine lv_aload_n hx hb dX7_folds_57 rfl (lv_at hl 1 rfl) ?_
          obtain ⟨o37, h38, hf⟩ := obO hf
          obtain ⟨v40, g39, hf⟩ := ob hf
          refine r_callV X kw_X7_175 (ci := 5) rfl (c_X5_hasOrdered l B D cA m v15 v40 g39) ⟨Nat.le_of_ble_eq_true rfl, Nat.le_of_ble_eq_true rfl⟩ h38 hR hS hl.1 rfl rfl (Nat.le_of_ble_eq_true rfl) ⟨Nat.le_of_ble_eq_true rfl, Nat.le_of_ble_eq_true rfl⟩ dX7_folds_58 (fun H locs hR hS => ?_)
          refine W.eq (g2 := F0 mt 61 ls [.int v40]) rfl ?_
          refine lv_if_ne (tgt := 72) hx hb dX7_folds_61 (by decide) (fun c41 => ?_) (fun c41 => ?_)
          · rw [if_neg c41] at hf
            refine lv_aload_n hx hb dX7_folds_72 rfl (lv_at hl 2 rfl) ?_
            refine lv_bipush (v := -3) hx hb dX7_folds_73 (by decide) ?_
            obtain ⟨o42, h43, hf⟩ := obO hf
            obtain ⟨t45, g44, hf⟩ := ob hf
            refine r_callV X kw_X7_102 (ci := 7) rfl (c_X7_failed l B D cA m x0 (-3 : Int32) t45.1 t45.2 g44) ⟨Nat.le_of_ble_eq_true rfl, Nat.le_of_ble_eq_true rfl⟩ h43 hR hS hl.1 rfl rfl (Nat.le_of_ble_eq_true rfl) ⟨Nat.le_of_ble_eq_true rfl, Nat.le_of_ble_eq_true rfl⟩ dX7_folds_75 (fun H locs hR hS => ?_)
            refine W.eq (g2 := F0 mt 78 ls [.int t45.1]) rfl ?_
            obtain ⟨rfl, rfl⟩ := Prod.mk.inj (Option.some.inj hf)
            exact r_iret X hr hlocks hR hS rfl dX7_folds_78
          · rw [if_pos c41] at hf
            refine lv_aload hx hb dX7_folds_64 (lv_at hl 0 rfl) ?_
            obtain ⟨o46, h47, hf⟩ := obO hf
            obtain ⟨v49, g48, hf⟩ := ob hf
            refine r_callV X kw_X7_175 (ci := 5) rfl (c_X5_hasOrdered l B D cA m v21 v49 g48) ⟨Nat.le_of_ble_eq_true rfl, Nat.le_of_ble_eq_true rfl⟩ h47 hR hS hl.1 rfl rfl (Nat.le_of_ble_eq_true rfl) ⟨Nat.le_of_ble_eq_true rfl, Nat.le_of_ble_eq_true rfl⟩ dX7_folds_66 (fun H locs hR hS => ?_)
            refine W.eq (g2 := F0 mt 69 ls [.int v49]) rfl ?_
            refine lv_if_eq (tgt := 79) hx hb dX7_folds_69 (by decide) (fun c50 => ?_) (fun c50 => ?_)
            · rw [if_pos c50] at hf
              refine lv_aload_n hx hb dX7_folds_79 rfl (lv_at hl 2 rfl) ?_
              obtain ⟨v51, g52, hf⟩ := ob hf
              refine gR_X7_63 X hR g52 dX7_folds_80 ?_
              refine lv_aload_n hx hb dX7_folds_83 rfl (lv_at hl 1 rfl) ?_
              refine lv_aload hx hb dX7_folds_84 (lv_at hl 0 rfl) ?_
              refine lv_iconst (v := 0) hx hb dX7_folds_86 (by decide) ?_
              obtain ⟨o53, h54, hf⟩ := obO hf
              obtain ⟨t56, g55, hf⟩ := ob hf
              refine r_callV X kw_X7_179 (ci := 0) rfl (c_X0_rootTargets l B D cA m v51 v15 v21 (0 : Int32) t56.1 t56.2 g55) ⟨Nat.le_of_ble_eq_true rfl, Nat.le_of_ble_eq_true rfl⟩ h54 hR hS hl.1 rfl rfl (Nat.le_of_ble_eq_true rfl) ⟨Nat.le_of_ble_eq_true rfl, Nat.le_of_ble_eq_true rfl⟩ dX7_folds_87 (fun H locs hR hS => ?_)
              refine W.eq (g2 := F0 mt 90 ls [.int t56.1]) rfl ?_
              refine lv_if_eq (tgt := 97) hx hb dX7_folds_90 (by decide) (fun c57 => ?_) (fun c57 => ?_)
              · rw [if_pos c57] at hf
                refine lv_iconst (v := 0) hx hb dX7_folds_97 (by decide) ?_
                obtain ⟨rfl, rfl⟩ := Prod.mk.inj (Option.some.inj hf)
                exact r_iret X hr hlocks hR hS rfl dX7_folds_98
              · rw [if_neg c57] at hf
                refine lv_iconst (v := 1) hx hb dX7_folds_93 (by decide) ?_
                refine lv_goto (tgt := 98) hx hb dX7_folds_94 (by decide) ?_
                obtain ⟨rfl, rfl⟩ := Prod.mk.inj (Option.some.inj hf)
                exact r_iret X hr hlocks hR hS rfl dX7_folds_98
            · rw [if_neg c50] at hf
              refine lv_aload_n hx hb dX7_folds_72 rfl (lv_at hl 2 rfl) ?_
              refine lv_bipush (v := -3) hx hb dX7_folds_73 (by decide) ?_
              obtain ⟨o58, h59, hf⟩ := obO hf
              obtain ⟨t61, g60, hf⟩ := ob hf
              refine r_callV X kw_X7_102 (ci := 7) rfl (c_X7_failed l B D cA m x0 (-3 : Int32) t61.1 t61.2 g60) ⟨Nat.le_of_ble_eq_true rfl, Nat.le_of_ble_eq_true rfl⟩ h59 hR hS hl.1 rfl rfl (Nat.le_of_ble_eq_true rfl) ⟨Nat.le_of_ble_eq_true rfl, Nat.le_of_ble_eq_true rfl⟩ dX7_folds_75 (fun H locs hR hS => ?_)
              refine W.eq (g2 := F0 mt 78 ls [.int t61.1]) rfl ?_
              obtain ⟨rfl, rfl⟩ := Prod.mk.inj (Option.some.inj hf)
              exact r_iret X hr hlocks hR hS rfl dX7_folds_78
    · rw [if_pos c10] at hf
      refine lv_aload_n hx hb dX7_folds_14 rfl (lv_at hl 0 rfl) ?_
      refine lv_bipush (v := -2) hx hb dX7_folds_15 (by decide) ?_
      obtain ⟨o62, h63, hf⟩ := obO hf
      obtain ⟨t65, g64, hf⟩ := ob hf
      refine r_callV X kw_X7_102 (ci := 7) rfl (c_X7_failed l B D cA m x0 (-2 : Int32) t65.1 t65.2 g64) ⟨Nat.le_of_ble_eq_true rfl, Nat.le_of_ble_eq_true rfl⟩ h63 hR hS hl.1 rfl rfl (Nat.le_of_ble_eq_true rfl) ⟨Nat.le_of_ble_eq_true rfl, Nat.le_of_ble_eq_true rfl⟩ dX7_folds_17 (fun H locs hR hS => ?_)
      refine W.eq (g2 := F0 mt 20 ls [.int t65.1]) rfl ?_
      obtain ⟨rfl, rfl⟩ := Prod.mk.inj (Option.some.inj hf)
      exact r_iret X hr hlocks hR hS rfl dX7_folds_20
/-! ===== TwigMatches.span(II)I ===== -/
theorem dX7_span_0 : decode cX7_span 0 = .ok (.iconst (-1), 1) := by decide +kernel
theorem dX7_span_1 : decode cX7_span 1 = .ok (.iload_n 0, 1) := by decide +kernel
theorem dX7_span_2 : decode cX7_span 2 = .ok (.ishl, 1) := by decide +kernel
theorem dX7_span_3 : decode cX7_span 3 = .ok (.iconst (-1), 1) := by decide +kernel
theorem dX7_span_4 : decode cX7_span 4 = .ok (.bipush 31, 2) := by decide +kernel
theorem dX7_span_6 : decode cX7_span 6 = .ok (.iload_n 1, 1) := by decide +kernel
theorem dX7_span_7 : decode cX7_span 7 = .ok (.isub, 1) := by decide +kernel
theorem dX7_span_8 : decode cX7_span 8 = .ok (.iushr, 1) := by decide +kernel
theorem dX7_span_9 : decode cX7_span 9 = .ok (.iand, 1) := by decide +kernel
theorem dX7_span_10 : decode cX7_span 10 = .ok (.ireturn, 1) := by decide +kernel
set_option maxHeartbeats 4000000 in
set_option maxRecDepth 100000 in
theorem c_X7_span (l : Launch) (B : Nat) (D : va_G) (cA : Nat → ClassId) (m : Mm) (x0 : Int32) (x1 : Int32) (rZ : Int32) (hf : f_X7_span m x0 x1 = some rZ) : Mt l B D cA yX7_span cX7_span 2 (some .int) 0 0 0 0 [.int x0, .int x1] m (some (.int rZ)) m := by
  refine r_start (by decide) (Nat.le_of_ble_eq_true rfl) ?_
  intro p e s mt args below meth c ls H locs X hr hlocks hnm hR hl hS
  have hx := X.1
  have hb := X.2.1
  have hl : lv_has ls 2 [(0, .int x0), (1, .int x1)] := hl
  unfold f_X7_span at hf
  refine lv_iconst (v := -1) hx hb dX7_span_0 (by decide) ?_
  refine lv_iload_n hx hb dX7_span_1 rfl (lv_at hl 0 rfl) ?_
  refine lv_ishl hx hb dX7_span_2 ?_
  refine lv_iconst (v := -1) hx hb dX7_span_3 (by decide) ?_
  refine lv_bipush (v := 31) hx hb dX7_span_4 (by decide) ?_
  refine lv_iload_n hx hb dX7_span_6 rfl (lv_at hl 1 rfl) ?_
  refine lv_isub hx hb dX7_span_7 ?_
  refine lv_iushr (v := (iushrJ (-1 : Int32) ((31 : Int32) - x1))) hx hb dX7_span_8 rfl ?_
  refine lv_iand hx hb dX7_span_9 ?_
  obtain rfl := Option.some.inj hf
  exact r_iret X hr hlocks hR hS rfl dX7_span_10
