/-! ===== TwigMatches.told(I)I ===== -/
theorem dX7_told_0 : decode cX7_told 0 = .ok (.iload_n 1, 1) := by decide +kernel
theorem dX7_told_1 : decode cX7_told 1 = .ok (.ifCond .lt 17, 3) := by decide +kernel
theorem dX7_told_4 : decode cX7_told 4 = .ok (.iload_n 1, 1) := by decide +kernel
theorem dX7_told_5 : decode cX7_told 5 = .ok (.bipush 7, 2) := by decide +kernel
theorem dX7_told_7 : decode cX7_told 7 = .ok (.if_icmp .ge 11, 3) := by decide +kernel
theorem dX7_told_10 : decode cX7_told 10 = .ok (.aload_n 0, 1) := by decide +kernel
theorem dX7_told_11 : decode cX7_told 11 = .ok (.iload_n 1, 1) := by decide +kernel
theorem dX7_told_12 : decode cX7_told 12 = .ok (.invokevirtual 262, 3) := by decide +kernel
theorem dX7_told_15 : decode cX7_told 15 = .ok (.goto 9, 3) := by decide +kernel
theorem dX7_told_18 : decode cX7_told 18 = .ok (.aload_n 0, 1) := by decide +kernel
theorem dX7_told_19 : decode cX7_told 19 = .ok (.bipush (-2), 2) := by decide +kernel
theorem dX7_told_21 : decode cX7_told 21 = .ok (.invokevirtual 102, 3) := by decide +kernel
theorem dX7_told_24 : decode cX7_told 24 = .ok (.ireturn, 1) := by decide +kernel
set_option maxHeartbeats 4000000 in
set_option maxRecDepth 100000 in
theorem c_X7_told (l : Launch) (B : Nat) (D : va_G) (cA : Nat → ClassId) (m : Mm) (x0 : Nat) (x1 : Int32) (rZ : Int32) (mZ : Mm) (hf : f_X7_told m x0 x1 = some (rZ, mZ)) : Mt l B D cA yX7_told cX7_told 2 (some .int) 2 43 0 0 [.ref (B + x0), .int x1] m (some (.int rZ)) mZ := by
  refine r_start (by decide) (Nat.le_of_ble_eq_true rfl) ?_
  intro p e s mt args below meth c ls H locs X hr hlocks hnm hR hl hS
  have hx := X.1
  have hb := X.2.1
  have hl : lv_has ls 2 [(0, .ref (B + x0)), (1, .int x1)] := hl
  unfold f_X7_told at hf
  refine lv_iload_n hx hb dX7_told_0 rfl (lv_at hl 1 rfl) ?_
  refine lv_if_lt (tgt := 18) hx hb dX7_told_1 (by decide) (fun c1 => ?_) (fun c1 => ?_)
  · rw [if_pos c1] at hf
    refine lv_aload_n hx hb dX7_told_18 rfl (lv_at hl 0 rfl) ?_
    refine lv_bipush (v := -2) hx hb dX7_told_19 (by decide) ?_
    obtain ⟨o2, h3, hf⟩ := obO hf
    obtain ⟨t5, g4, hf⟩ := ob hf
    refine r_callV X kw_X7_102 (ci := 7) rfl (c_X7_failed l B D cA m x0 (-2 : Int32) t5.1 t5.2 g4) ⟨Nat.le_of_ble_eq_true rfl, Nat.le_of_ble_eq_true rfl⟩ h3 hR hS hl.1 rfl rfl (Nat.le_of_ble_eq_true rfl) ⟨Nat.le_of_ble_eq_true rfl, Nat.le_of_ble_eq_true rfl⟩ dX7_told_21 (fun H locs hR hS => ?_)
    refine W.eq (g2 := F0 mt 24 ls [.int t5.1]) rfl ?_
    obtain ⟨rfl, rfl⟩ := Prod.mk.inj (Option.some.inj hf)
    exact r_iret X hr hlocks hR hS rfl dX7_told_24
  · rw [if_neg c1] at hf
    refine lv_iload_n hx hb dX7_told_4 rfl (lv_at hl 1 rfl) ?_
    refine lv_bipush (v := 7) hx hb dX7_told_5 (by decide) ?_
    refine lv_icmp_ge (tgt := 18) hx hb dX7_told_7 (by decide) (fun c6 => ?_) (fun c6 => ?_)
    · rw [if_pos c6] at hf
      refine lv_aload_n hx hb dX7_told_18 rfl (lv_at hl 0 rfl) ?_
      refine lv_bipush (v := -2) hx hb dX7_told_19 (by decide) ?_
      obtain ⟨o7, h8, hf⟩ := obO hf
      obtain ⟨t10, g9, hf⟩ := ob hf
      refine r_callV X kw_X7_102 (ci := 7) rfl (c_X7_failed l B D cA m x0 (-2 : Int32) t10.1 t10.2 g9) ⟨Nat.le_of_ble_eq_true rfl, Nat.le_of_ble_eq_true rfl⟩ h8 hR hS hl.1 rfl rfl (Nat.le_of_ble_eq_true rfl) ⟨Nat.le_of_ble_eq_true rfl, Nat.le_of_ble_eq_true rfl⟩ dX7_told_21 (fun H locs hR hS => ?_)
      refine W.eq (g2 := F0 mt 24 ls [.int t10.1]) rfl ?_
      obtain ⟨rfl, rfl⟩ := Prod.mk.inj (Option.some.inj hf)
      exact r_iret X hr hlocks hR hS rfl dX7_told_24
    · rw [if_neg c6] at hf
      refine lv_aload_n hx hb dX7_told_10 rfl (lv_at hl 0 rfl) ?_
      refine lv_iload_n hx hb dX7_told_11 rfl (lv_at hl 1 rfl) ?_
      obtain ⟨o11, h12, hf⟩ := obO hf
      obtain ⟨v14, g13, hf⟩ := ob hf
      refine r_callV X kw_X7_262 (ci := 7) rfl (c_X7_tally l B D cA m x0 x1 v14 g13) ⟨Nat.le_of_ble_eq_true rfl, Nat.le_of_ble_eq_true rfl⟩ h12 hR hS hl.1 rfl rfl (Nat.le_of_ble_eq_true rfl) ⟨Nat.le_of_ble_eq_true rfl, Nat.le_of_ble_eq_true rfl⟩ dX7_told_12 (fun H locs hR hS => ?_)
      refine W.eq (g2 := F0 mt 15 ls [.int v14]) rfl ?_
      refine lv_goto (tgt := 24) hx hb dX7_told_15 (by decide) ?_
      obtain ⟨rfl, rfl⟩ := Prod.mk.inj (Option.some.inj hf)
      exact r_iret X hr hlocks hR hS rfl dX7_told_24
/-! ===== TwigMatches.digestTwig(JLTwigMatches$Twig;)J ===== -/
theorem dX7_digestTwig_0 : decode cX7_digestTwig 0 = .ok (.ldc2_w 267, 3) := by decide +kernel
theorem dX7_digestTwig_3 : decode cX7_digestTwig 3 = .ok (.lload_n 0, 1) := by decide +kernel
theorem dX7_digestTwig_4 : decode cX7_digestTwig 4 = .ok (.lmul, 1) := by decide +kernel
theorem dX7_digestTwig_5 : decode cX7_digestTwig 5 = .ok (.aload_n 2, 1) := by decide +kernel
theorem dX7_digestTwig_6 : decode cX7_digestTwig 6 = .ok (.getfield 171, 3) := by decide +kernel
theorem dX7_digestTwig_9 : decode cX7_digestTwig 9 = .ok (.i2l, 1) := by decide +kernel
theorem dX7_digestTwig_10 : decode cX7_digestTwig 10 = .ok (.ladd, 1) := by decide +kernel
theorem dX7_digestTwig_11 : decode cX7_digestTwig 11 = .ok (.lstore_n 3, 1) := by decide +kernel
theorem dX7_digestTwig_12 : decode cX7_digestTwig 12 = .ok (.iconst 0, 1) := by decide +kernel
theorem dX7_digestTwig_13 : decode cX7_digestTwig 13 = .ok (.istore 5, 2) := by decide +kernel
theorem dX7_digestTwig_15 : decode cX7_digestTwig 15 = .ok (.iload 5, 2) := by decide +kernel
theorem dX7_digestTwig_17 : decode cX7_digestTwig 17 = .ok (.aload_n 2, 1) := by decide +kernel
theorem dX7_digestTwig_18 : decode cX7_digestTwig 18 = .ok (.getfield 171, 3) := by decide +kernel
theorem dX7_digestTwig_21 : decode cX7_digestTwig 21 = .ok (.if_icmp .ge 40, 3) := by decide +kernel
theorem dX7_digestTwig_24 : decode cX7_digestTwig 24 = .ok (.iconst 0, 1) := by decide +kernel
theorem dX7_digestTwig_25 : decode cX7_digestTwig 25 = .ok (.istore 6, 2) := by decide +kernel
theorem dX7_digestTwig_27 : decode cX7_digestTwig 27 = .ok (.iload 6, 2) := by decide +kernel
theorem dX7_digestTwig_29 : decode cX7_digestTwig 29 = .ok (.iconst 5, 1) := by decide +kernel
theorem dX7_digestTwig_30 : decode cX7_digestTwig 30 = .ok (.if_icmp .ge 25, 3) := by decide +kernel
theorem dX7_digestTwig_33 : decode cX7_digestTwig 33 = .ok (.ldc2_w 267, 3) := by decide +kernel
theorem dX7_digestTwig_36 : decode cX7_digestTwig 36 = .ok (.lload_n 3, 1) := by decide +kernel
theorem dX7_digestTwig_37 : decode cX7_digestTwig 37 = .ok (.lmul, 1) := by decide +kernel
theorem dX7_digestTwig_38 : decode cX7_digestTwig 38 = .ok (.aload_n 2, 1) := by decide +kernel
theorem dX7_digestTwig_39 : decode cX7_digestTwig 39 = .ok (.iload 5, 2) := by decide +kernel
theorem dX7_digestTwig_41 : decode cX7_digestTwig 41 = .ok (.iload 6, 2) := by decide +kernel
theorem dX7_digestTwig_43 : decode cX7_digestTwig 43 = .ok (.invokevirtual 164, 3) := by decide +kernel
theorem dX7_digestTwig_46 : decode cX7_digestTwig 46 = .ok (.i2l, 1) := by decide +kernel
theorem dX7_digestTwig_47 : decode cX7_digestTwig 47 = .ok (.ladd, 1) := by decide +kernel
theorem dX7_digestTwig_48 : decode cX7_digestTwig 48 = .ok (.lstore_n 3, 1) := by decide +kernel
theorem dX7_digestTwig_49 : decode cX7_digestTwig 49 = .ok (.iinc 6 1, 3) := by decide +kernel
theorem dX7_digestTwig_52 : decode cX7_digestTwig 52 = .ok (.goto (-25), 3) := by decide +kernel
theorem dX7_digestTwig_55 : decode cX7_digestTwig 55 = .ok (.iinc 5 1, 3) := by decide +kernel
theorem dX7_digestTwig_58 : decode cX7_digestTwig 58 = .ok (.goto (-43), 3) := by decide +kernel
theorem dX7_digestTwig_61 : decode cX7_digestTwig 61 = .ok (.lload_n 3, 1) := by decide +kernel
theorem dX7_digestTwig_62 : decode cX7_digestTwig 62 = .ok (.lreturn, 1) := by decide +kernel
set_option maxHeartbeats 4000000 in
set_option maxRecDepth 100000 in
theorem c_X7_digestTwig (l : Launch) (B : Nat) (D : va_G) (cA : Nat → ClassId) (m : Mm) (x0 : Int64) (x2 : Nat) (rZ : Int64) (hf : f_X7_digestTwig m x0 x2 = some rZ) : Mt l B D cA yX7_digestTwig cX7_digestTwig 7 (some .long) 2 44 0 0 [.long x0, .ref (B + x2)] m (some (.long rZ)) m := by
  refine r_start (by decide) (Nat.le_of_ble_eq_true rfl) ?_
  intro p e s mt args below meth c ls H locs X hr hlocks hnm hR hl hS
  have hx := X.1
  have hb := X.2.1
  have hl : lv_has ls 7 [(0, .long x0), (2, .ref (B + x2))] := hl
  unfold f_X7_digestTwig at hf
  refine lv_ldc2 (v := 31) hx hb X.2.2.2.1 (X.2.2.2.2.1 _ (tb3 209 rfl rfl)) dX7_digestTwig_0 ?_
  refine lv_lload_n hx hb dX7_digestTwig_3 rfl (lv_at hl 0 rfl) ?_
  refine lv_lmul hx hb dX7_digestTwig_4 ?_
  refine lv_aload_n hx hb dX7_digestTwig_5 rfl (lv_at hl 1 rfl) ?_
  obtain ⟨v1, g2, hf⟩ := ob hf
  refine gI_X7_171 X hR g2 dX7_digestTwig_6 ?_
  refine lv_i2l (v := v1.toInt64) hx hb dX7_digestTwig_9 rfl ?_
  refine lv_ladd hx hb dX7_digestTwig_10 ?_
  refine lv_lstore_n (lv' := [(3, .long (((31 : Int64) * x0) + (v1.toInt64))), (0, .long x0), (2, .ref (B + x2))]) hx hb dX7_digestTwig_11 rfl hl (by decide) rfl (fun ls hl => ?_)
  refine lv_iconst (v := 0) hx hb dX7_digestTwig_12 (by decide) ?_
  refine lv_istore (lv' := [(5, .int (0 : Int32)), (3, .long (((31 : Int64) * x0) + (v1.toInt64))), (0, .long x0), (2, .ref (B + x2))]) hx hb dX7_digestTwig_13 hl (by decide) rfl (fun ls hl => ?_)
  obtain ⟨e4, hwe4, hf⟩ := ob hf
  refine whl_rule (P := (fun t3 => ∀ (H : Heap) (locs : List Loc) (ls : Array Slot), Rl B D cA m H → va_S (fun q => B ≤ q) s.heap H locs → lv_has ls 7 [(2, .ref (B + x2)), (3, .long t3.1), (5, .int t3.2)] → W p l e (rmm 2 0 0 44) s mt args below meth c H locs 0 0 (MQ below (mQ B D cA (some (.long rZ)) m) args s 0 0 (fun q => B ≤ q)) (F0 mt 15 ls []))) (Qx := (fun e4 => ∀ (H : Heap) (locs : List Loc) (ls : Array Slot), Rl B D cA m H → va_S (fun q => B ≤ q) s.heap H locs → lv_has ls 7 [(3, .long e4)] → W p l e (rmm 2 0 0 44) s mt args below meth c H locs 0 0 (MQ below (mQ B D cA (some (.long rZ)) m) args s 0 0 (fun q => B ≤ q)) (F0 mt 61 ls []))) ?_ FU _ e4 hwe4 ?_ H locs ls hR hS (lv_sub hl [3, 1, 0] rfl)
  · clear hwe4 hf
    intro t3 q5 hf hxlq5 hxrq5 H locs ls hR hS hl
    obtain ⟨z6, z7⟩ := t3
    have hf : f_X7_digestTwig_L15 m x2 z6 z7 = some q5 := hf
    have hR : Rl B D cA m H := hR
    have hl : lv_has ls 7 [(2, .ref (B + x2)), (3, .long z6), (5, .int z7)] := hl
    unfold f_X7_digestTwig_L15 at hf
    refine lv_iload hx hb dX7_digestTwig_15 (lv_at hl 2 rfl) ?_
    refine lv_aload_n hx hb dX7_digestTwig_17 rfl (lv_at hl 0 rfl) ?_
    obtain ⟨v8, g9, hf⟩ := ob hf
    refine gI_X7_171 X hR g9 dX7_digestTwig_18 ?_
    refine lv_icmp_ge (tgt := 61) hx hb dX7_digestTwig_21 (by decide) (fun c10 => ?_) (fun c10 => ?_)
    · rw [if_pos c10] at hf
      obtain rfl := Option.some.inj hf
      exact hxrq5 _ rfl H locs ls hR hS (lv_sub hl [1] rfl)
    · rw [if_neg c10] at hf
      refine lv_iconst (v := 0) hx hb dX7_digestTwig_24 (by decide) ?_
      refine lv_istore (lv' := [(6, .int (0 : Int32)), (2, .ref (B + x2)), (3, .long z6), (5, .int z7)]) hx hb dX7_digestTwig_25 hl (by decide) rfl (fun ls hl => ?_)
      obtain ⟨e12, hwe12, hf⟩ := ob hf
      refine whl_rule (P := (fun t11 => ∀ (H : Heap) (locs : List Loc) (ls : Array Slot), Rl B D cA m H → va_S (fun q => B ≤ q) s.heap H locs → lv_has ls 7 [(2, .ref (B + x2)), (3, .long t11.1), (5, .int z7), (6, .int t11.2)] → W p l e (rmm 2 0 0 44) s mt args below meth c H locs 0 0 (MQ below (mQ B D cA (some (.long rZ)) m) args s 0 0 (fun q => B ≤ q)) (F0 mt 27 ls []))) (Qx := (fun e12 => ∀ (H : Heap) (locs : List Loc) (ls : Array Slot), Rl B D cA m H → va_S (fun q => B ≤ q) s.heap H locs → lv_has ls 7 [(2, .ref (B + x2)), (3, .long e12), (5, .int z7)] → W p l e (rmm 2 0 0 44) s mt args below meth c H locs 0 0 (MQ below (mQ B D cA (some (.long rZ)) m) args s 0 0 (fun q => B ≤ q)) (F0 mt 55 ls []))) ?_ FU _ e12 hwe12 ?_ H locs ls hR hS (lv_sub hl [1, 2, 3, 0] rfl)
      · clear hwe12 hf
        intro t11 q13 hf hxlq13 hxrq13 H locs ls hR hS hl
        obtain ⟨z14, z15⟩ := t11
        have hf : f_X7_digestTwig_L27 m x2 z7 z14 z15 = some q13 := hf
        have hR : Rl B D cA m H := hR
        have hl : lv_has ls 7 [(2, .ref (B + x2)), (3, .long z14), (5, .int z7), (6, .int z15)] := hl
        unfold f_X7_digestTwig_L27 at hf
        refine lv_iload hx hb dX7_digestTwig_27 (lv_at hl 3 rfl) ?_
        refine lv_iconst (v := 5) hx hb dX7_digestTwig_29 (by decide) ?_
        refine lv_icmp_ge (tgt := 55) hx hb dX7_digestTwig_30 (by decide) (fun c16 => ?_) (fun c16 => ?_)
        · rw [if_pos c16] at hf
          obtain rfl := Option.some.inj hf
          exact hxrq13 _ rfl H locs ls hR hS (lv_sub hl [0, 1, 2] rfl)
        · rw [if_neg c16] at hf
          refine lv_ldc2 (v := 31) hx hb X.2.2.2.1 (X.2.2.2.2.1 _ (tb3 209 rfl rfl)) dX7_digestTwig_33 ?_
          refine lv_lload_n hx hb dX7_digestTwig_36 rfl (lv_at hl 1 rfl) ?_
          refine lv_lmul hx hb dX7_digestTwig_37 ?_
          refine lv_aload_n hx hb dX7_digestTwig_38 rfl (lv_at hl 0 rfl) ?_
          refine lv_iload hx hb dX7_digestTwig_39 (lv_at hl 2 rfl) ?_
          refine lv_iload hx hb dX7_digestTwig_41 (lv_at hl 3 rfl) ?_
          obtain ⟨o17, h18, hf⟩ := obO hf
          obtain ⟨v20, g19, hf⟩ := ob hf
          refine r_callV X kw_X7_164 (ci := 5) rfl (c_X5_property l B D cA m x2 z7 z15 v20 g19) ⟨Nat.le_of_ble_eq_true rfl, Nat.le_of_ble_eq_true rfl⟩ h18 hR hS hl.1 rfl rfl (Nat.le_of_ble_eq_true rfl) ⟨Nat.le_of_ble_eq_true rfl, Nat.le_of_ble_eq_true rfl⟩ dX7_digestTwig_43 (fun H locs hR hS => ?_)
          refine W.eq (g2 := F0 mt 46 ls [.int v20, .long ((31 : Int64) * z14)]) rfl ?_
          refine lv_i2l (v := v20.toInt64) hx hb dX7_digestTwig_46 rfl ?_
          refine lv_ladd hx hb dX7_digestTwig_47 ?_
          refine lv_lstore_n (lv' := [(3, .long (((31 : Int64) * z14) + (v20.toInt64))), (2, .ref (B + x2)), (5, .int z7), (6, .int z15)]) hx hb dX7_digestTwig_48 rfl hl (by decide) rfl (fun ls hl => ?_)
          refine lv_iinc (v := (z15 + 1)) (lv' := [(6, .int (z15 + 1)), (3, .long (((31 : Int64) * z14) + (v20.toInt64))), (2, .ref (B + x2)), (5, .int z7)]) hx hb dX7_digestTwig_49 hl (k := 3) rfl (congrArg (fun z => z15 + z) (by decide)) (by decide) rfl (fun ls hl => ?_)
          refine lv_goto (tgt := 27) hx hb dX7_digestTwig_52 (by decide) ?_
          obtain rfl := Option.some.inj hf
          exact hxlq13 _ rfl H locs ls hR hS (lv_sub hl [2, 1, 3, 0] rfl)
      · intro H locs ls hR hS hl
        refine lv_iinc (v := (z7 + 1)) (lv' := [(5, .int (z7 + 1)), (2, .ref (B + x2)), (3, .long e12)]) hx hb dX7_digestTwig_55 hl (k := 2) rfl (congrArg (fun z => z7 + z) (by decide)) (by decide) rfl (fun ls hl => ?_)
        refine lv_goto (tgt := 15) hx hb dX7_digestTwig_58 (by decide) ?_
        obtain rfl := Option.some.inj hf
        exact hxlq5 _ rfl H locs ls hR hS (lv_sub hl [1, 2, 0] rfl)
  · intro H locs ls hR hS hl
    refine lv_lload_n hx hb dX7_digestTwig_61 rfl (lv_at hl 0 rfl) ?_
    obtain rfl := Option.some.inj hf
    exact r_lret X hr hlocks hR hS dX7_digestTwig_62
/-! ===== TwigMatches.digest()J ===== -/
theorem dX7_digest_0 : decode cX7_digest 0 = .ok (.ldc2_w 265, 3) := by decide +kernel
theorem dX7_digest_3 : decode cX7_digest 3 = .ok (.lstore_n 1, 1) := by decide +kernel
theorem dX7_digest_4 : decode cX7_digest 4 = .ok (.iconst 0, 1) := by decide +kernel
theorem dX7_digest_5 : decode cX7_digest 5 = .ok (.istore_n 3, 1) := by decide +kernel
theorem dX7_digest_6 : decode cX7_digest 6 = .ok (.iload_n 3, 1) := by decide +kernel
theorem dX7_digest_7 : decode cX7_digest 7 = .ok (.bipush 7, 2) := by decide +kernel
theorem dX7_digest_9 : decode cX7_digest 9 = .ok (.if_icmp .ge 22, 3) := by decide +kernel
theorem dX7_digest_12 : decode cX7_digest 12 = .ok (.ldc2_w 267, 3) := by decide +kernel
theorem dX7_digest_15 : decode cX7_digest 15 = .ok (.lload_n 1, 1) := by decide +kernel
theorem dX7_digest_16 : decode cX7_digest 16 = .ok (.lmul, 1) := by decide +kernel
theorem dX7_digest_17 : decode cX7_digest 17 = .ok (.aload_n 0, 1) := by decide +kernel
theorem dX7_digest_18 : decode cX7_digest 18 = .ok (.iload_n 3, 1) := by decide +kernel
theorem dX7_digest_19 : decode cX7_digest 19 = .ok (.invokevirtual 262, 3) := by decide +kernel
theorem dX7_digest_22 : decode cX7_digest 22 = .ok (.i2l, 1) := by decide +kernel
theorem dX7_digest_23 : decode cX7_digest 23 = .ok (.ladd, 1) := by decide +kernel
theorem dX7_digest_24 : decode cX7_digest 24 = .ok (.lstore_n 1, 1) := by decide +kernel
theorem dX7_digest_25 : decode cX7_digest 25 = .ok (.iinc 3 1, 3) := by decide +kernel
theorem dX7_digest_28 : decode cX7_digest 28 = .ok (.goto (-22), 3) := by decide +kernel
theorem dX7_digest_31 : decode cX7_digest 31 = .ok (.ldc2_w 267, 3) := by decide +kernel
theorem dX7_digest_34 : decode cX7_digest 34 = .ok (.lload_n 1, 1) := by decide +kernel
theorem dX7_digest_35 : decode cX7_digest 35 = .ok (.lmul, 1) := by decide +kernel
theorem dX7_digest_36 : decode cX7_digest 36 = .ok (.aload_n 0, 1) := by decide +kernel
theorem dX7_digest_37 : decode cX7_digest 37 = .ok (.getfield 30, 3) := by decide +kernel
theorem dX7_digest_40 : decode cX7_digest 40 = .ok (.getfield 245, 3) := by decide +kernel
theorem dX7_digest_43 : decode cX7_digest 43 = .ok (.i2l, 1) := by decide +kernel
theorem dX7_digest_44 : decode cX7_digest 44 = .ok (.ladd, 1) := by decide +kernel
theorem dX7_digest_45 : decode cX7_digest 45 = .ok (.lstore_n 1, 1) := by decide +kernel
theorem dX7_digest_46 : decode cX7_digest 46 = .ok (.aload_n 0, 1) := by decide +kernel
theorem dX7_digest_47 : decode cX7_digest 47 = .ok (.getfield 12, 3) := by decide +kernel
theorem dX7_digest_50 : decode cX7_digest 50 = .ok (.getfield 50, 3) := by decide +kernel
theorem dX7_digest_53 : decode cX7_digest 53 = .ok (.astore_n 3, 1) := by decide +kernel
theorem dX7_digest_54 : decode cX7_digest 54 = .ok (.iconst 0, 1) := by decide +kernel
theorem dX7_digest_55 : decode cX7_digest 55 = .ok (.istore 4, 2) := by decide +kernel
theorem dX7_digest_57 : decode cX7_digest 57 = .ok (.iload 4, 2) := by decide +kernel
theorem dX7_digest_59 : decode cX7_digest 59 = .ok (.aload_n 3, 1) := by decide +kernel
theorem dX7_digest_60 : decode cX7_digest 60 = .ok (.getfield 110, 3) := by decide +kernel
theorem dX7_digest_63 : decode cX7_digest 63 = .ok (.if_icmp .ge 54, 3) := by decide +kernel
theorem dX7_digest_66 : decode cX7_digest 66 = .ok (.ldc2_w 267, 3) := by decide +kernel
theorem dX7_digest_69 : decode cX7_digest 69 = .ok (.lload_n 1, 1) := by decide +kernel
theorem dX7_digest_70 : decode cX7_digest 70 = .ok (.lmul, 1) := by decide +kernel
theorem dX7_digest_71 : decode cX7_digest 71 = .ok (.aload_n 3, 1) := by decide +kernel
theorem dX7_digest_72 : decode cX7_digest 72 = .ok (.getfield 130, 3) := by decide +kernel
theorem dX7_digest_75 : decode cX7_digest 75 = .ok (.iload 4, 2) := by decide +kernel
theorem dX7_digest_77 : decode cX7_digest 77 = .ok (.iaload, 1) := by decide +kernel
theorem dX7_digest_78 : decode cX7_digest 78 = .ok (.i2l, 1) := by decide +kernel
theorem dX7_digest_79 : decode cX7_digest 79 = .ok (.ladd, 1) := by decide +kernel
theorem dX7_digest_80 : decode cX7_digest 80 = .ok (.lstore_n 1, 1) := by decide +kernel
theorem dX7_digest_81 : decode cX7_digest 81 = .ok (.ldc2_w 267, 3) := by decide +kernel
theorem dX7_digest_84 : decode cX7_digest 84 = .ok (.lload_n 1, 1) := by decide +kernel
theorem dX7_digest_85 : decode cX7_digest 85 = .ok (.lmul, 1) := by decide +kernel
theorem dX7_digest_86 : decode cX7_digest 86 = .ok (.aload_n 3, 1) := by decide +kernel
theorem dX7_digest_87 : decode cX7_digest 87 = .ok (.getfield 133, 3) := by decide +kernel
theorem dX7_digest_90 : decode cX7_digest 90 = .ok (.iload 4, 2) := by decide +kernel
theorem dX7_digest_92 : decode cX7_digest 92 = .ok (.iaload, 1) := by decide +kernel
theorem dX7_digest_93 : decode cX7_digest 93 = .ok (.i2l, 1) := by decide +kernel
theorem dX7_digest_94 : decode cX7_digest 94 = .ok (.ladd, 1) := by decide +kernel
theorem dX7_digest_95 : decode cX7_digest 95 = .ok (.lstore_n 1, 1) := by decide +kernel
theorem dX7_digest_96 : decode cX7_digest 96 = .ok (.ldc2_w 267, 3) := by decide +kernel
theorem dX7_digest_99 : decode cX7_digest 99 = .ok (.lload_n 1, 1) := by decide +kernel
theorem dX7_digest_100 : decode cX7_digest 100 = .ok (.lmul, 1) := by decide +kernel
theorem dX7_digest_101 : decode cX7_digest 101 = .ok (.aload_n 3, 1) := by decide +kernel
theorem dX7_digest_102 : decode cX7_digest 102 = .ok (.getfield 147, 3) := by decide +kernel
theorem dX7_digest_105 : decode cX7_digest 105 = .ok (.iload 4, 2) := by decide +kernel
theorem dX7_digest_107 : decode cX7_digest 107 = .ok (.iaload, 1) := by decide +kernel
theorem dX7_digest_108 : decode cX7_digest 108 = .ok (.i2l, 1) := by decide +kernel
theorem dX7_digest_109 : decode cX7_digest 109 = .ok (.ladd, 1) := by decide +kernel
theorem dX7_digest_110 : decode cX7_digest 110 = .ok (.lstore_n 1, 1) := by decide +kernel
theorem dX7_digest_111 : decode cX7_digest 111 = .ok (.iinc 4 1, 3) := by decide +kernel
theorem dX7_digest_114 : decode cX7_digest 114 = .ok (.goto (-57), 3) := by decide +kernel
theorem dX7_digest_117 : decode cX7_digest 117 = .ok (.iconst 0, 1) := by decide +kernel
theorem dX7_digest_118 : decode cX7_digest 118 = .ok (.istore 4, 2) := by decide +kernel
theorem dX7_digest_120 : decode cX7_digest 120 = .ok (.iload 4, 2) := by decide +kernel
theorem dX7_digest_122 : decode cX7_digest 122 = .ok (.iconst 4, 1) := by decide +kernel
theorem dX7_digest_123 : decode cX7_digest 123 = .ok (.if_icmp .ge 51, 3) := by decide +kernel
theorem dX7_digest_126 : decode cX7_digest 126 = .ok (.aload_n 0, 1) := by decide +kernel
theorem dX7_digest_127 : decode cX7_digest 127 = .ok (.getfield 12, 3) := by decide +kernel
theorem dX7_digest_130 : decode cX7_digest 130 = .ok (.getfield 160, 3) := by decide +kernel
theorem dX7_digest_133 : decode cX7_digest 133 = .ok (.iload 4, 2) := by decide +kernel
theorem dX7_digest_135 : decode cX7_digest 135 = .ok (.aaload, 1) := by decide +kernel
theorem dX7_digest_136 : decode cX7_digest 136 = .ok (.getfield 171, 3) := by decide +kernel
theorem dX7_digest_139 : decode cX7_digest 139 = .ok (.ifCond .le 29, 3) := by decide +kernel
theorem dX7_digest_142 : decode cX7_digest 142 = .ok (.ldc2_w 267, 3) := by decide +kernel
theorem dX7_digest_145 : decode cX7_digest 145 = .ok (.lload_n 1, 1) := by decide +kernel
theorem dX7_digest_146 : decode cX7_digest 146 = .ok (.aload_n 0, 1) := by decide +kernel
theorem dX7_digest_147 : decode cX7_digest 147 = .ok (.getfield 12, 3) := by decide +kernel
theorem dX7_digest_150 : decode cX7_digest 150 = .ok (.getfield 160, 3) := by decide +kernel
theorem dX7_digest_153 : decode cX7_digest 153 = .ok (.iload 4, 2) := by decide +kernel
theorem dX7_digest_155 : decode cX7_digest 155 = .ok (.aaload, 1) := by decide +kernel
theorem dX7_digest_156 : decode cX7_digest 156 = .ok (.invokestatic 269, 3) := by decide +kernel
theorem dX7_digest_159 : decode cX7_digest 159 = .ok (.lmul, 1) := by decide +kernel
theorem dX7_digest_160 : decode cX7_digest 160 = .ok (.aload_n 0, 1) := by decide +kernel
theorem dX7_digest_161 : decode cX7_digest 161 = .ok (.iload 4, 2) := by decide +kernel
theorem dX7_digest_163 : decode cX7_digest 163 = .ok (.invokevirtual 188, 3) := by decide +kernel
theorem dX7_digest_166 : decode cX7_digest 166 = .ok (.ladd, 1) := by decide +kernel
theorem dX7_digest_167 : decode cX7_digest 167 = .ok (.lstore_n 1, 1) := by decide +kernel
theorem dX7_digest_168 : decode cX7_digest 168 = .ok (.iinc 4 1, 3) := by decide +kernel
theorem dX7_digest_171 : decode cX7_digest 171 = .ok (.goto (-51), 3) := by decide +kernel
theorem dX7_digest_174 : decode cX7_digest 174 = .ok (.lload_n 1, 1) := by decide +kernel
theorem dX7_digest_175 : decode cX7_digest 175 = .ok (.lreturn, 1) := by decide +kernel
set_option maxHeartbeats 4000000 in
set_option maxRecDepth 100000 in
theorem c_X7_digest (l : Launch) (B : Nat) (D : va_G) (cA : Nat → ClassId) (m : Mm) (x0 : Nat) (rZ : Int64) (mZ : Mm) (hf : f_X7_digest m x0 = some (rZ, mZ)) : Mt l B D cA yX7_digest cX7_digest 5 (some .long) 6 137 0 0 [.ref (B + x0)] m (some (.long rZ)) mZ := by
  refine r_start (by decide) (Nat.le_of_ble_eq_true rfl) ?_
  intro p e s mt args below meth c ls H locs X hr hlocks hnm hR hl hS
  have hx := X.1
  have hb := X.2.1
  have hl : lv_has ls 5 [(0, .ref (B + x0))] := hl
  unfold f_X7_digest at hf
  refine lv_ldc2 (v := 1716) hx hb X.2.2.2.1 (X.2.2.2.2.1 _ (tb3 208 rfl rfl)) dX7_digest_0 ?_
  refine lv_lstore_n (lv' := [(1, .long (1716 : Int64)), (0, .ref (B + x0))]) hx hb dX7_digest_3 rfl hl (by decide) rfl (fun ls hl => ?_)
  refine lv_iconst (v := 0) hx hb dX7_digest_4 (by decide) ?_
  refine lv_istore_n (lv' := [(3, .int (0 : Int32)), (1, .long (1716 : Int64)), (0, .ref (B + x0))]) hx hb dX7_digest_5 rfl hl (by decide) rfl (fun ls hl => ?_)
  obtain ⟨e2, hwe2, hf⟩ := ob hf
  refine whl_rule (P := (fun t1 => ∀ (H : Heap) (locs : List Loc) (ls : Array Slot), Rl B D cA m H → va_S (fun q => B ≤ q) s.heap H locs → lv_has ls 5 [(0, .ref (B + x0)), (1, .long t1.1), (3, .int t1.2)] → W p l e (rmm 6 0 0 137) s mt args below meth c H locs 0 0 (MQ below (mQ B D cA (some (.long rZ)) mZ) args s 0 0 (fun q => B ≤ q)) (F0 mt 6 ls []))) (Qx := (fun e2 => ∀ (H : Heap) (locs : List Loc) (ls : Array Slot), Rl B D cA m H → va_S (fun q => B ≤ q) s.heap H locs → lv_has ls 5 [(0, .ref (B + x0)), (1, .long e2)] → W p l e (rmm 6 0 0 137) s mt args below meth c H locs 0 0 (MQ below (mQ B D cA (some (.long rZ)) mZ) args s 0 0 (fun q => B ≤ q)) (F0 mt 31 ls []))) ?_ FU _ e2 hwe2 ?_ H locs ls hR hS (lv_sub hl [2, 1, 0] rfl)
  · clear hwe2 hf
    intro t1 q3 hf hxlq3 hxrq3 H locs ls hR hS hl
    obtain ⟨z4, z5⟩ := t1
    have hf : f_X7_digest_L6 m x0 z4 z5 = some q3 := hf
    have hR : Rl B D cA m H := hR
    have hl : lv_has ls 5 [(0, .ref (B + x0)), (1, .long z4), (3, .int z5)] := hl
    unfold f_X7_digest_L6 at hf
    refine lv_iload_n hx hb dX7_digest_6 rfl (lv_at hl 2 rfl) ?_
    refine lv_bipush (v := 7) hx hb dX7_digest_7 (by decide) ?_
    refine lv_icmp_ge (tgt := 31) hx hb dX7_digest_9 (by decide) (fun c6 => ?_) (fun c6 => ?_)
    · rw [if_pos c6] at hf
      obtain rfl := Option.some.inj hf
      exact hxrq3 _ rfl H locs ls hR hS (lv_sub hl [0, 1] rfl)
    · rw [if_neg c6] at hf
      refine lv_ldc2 (v := 31) hx hb X.2.2.2.1 (X.2.2.2.2.1 _ (tb3 209 rfl rfl)) dX7_digest_12 ?_
      refine lv_lload_n hx hb dX7_digest_15 rfl (lv_at hl 1 rfl) ?_
      refine lv_lmul hx hb dX7_digest_16 ?_
      refine lv_aload_n hx hb dX7_digest_17 rfl (lv_at hl 0 rfl) ?_
      refine lv_iload_n hx hb dX7_digest_18 rfl (lv_at hl 2 rfl) ?_
      obtain ⟨o7, h8, hf⟩ := obO hf
      obtain ⟨v10, g9, hf⟩ := ob hf
      refine r_callV X kw_X7_262 (ci := 7) rfl (c_X7_tally l B D cA m x0 z5 v10 g9) ⟨Nat.le_of_ble_eq_true rfl, Nat.le_of_ble_eq_true rfl⟩ h8 hR hS hl.1 rfl rfl (Nat.le_of_ble_eq_true rfl) ⟨Nat.le_of_ble_eq_true rfl, Nat.le_of_ble_eq_true rfl⟩ dX7_digest_19 (fun H locs hR hS => ?_)
      refine W.eq (g2 := F0 mt 22 ls [.int v10, .long ((31 : Int64) * z4)]) rfl ?_
      refine lv_i2l (v := v10.toInt64) hx hb dX7_digest_22 rfl ?_
      refine lv_ladd hx hb dX7_digest_23 ?_
      refine lv_lstore_n (lv' := [(1, .long (((31 : Int64) * z4) + (v10.toInt64))), (0, .ref (B + x0)), (3, .int z5)]) hx hb dX7_digest_24 rfl hl (by decide) rfl (fun ls hl => ?_)
      refine lv_iinc (v := (z5 + 1)) (lv' := [(3, .int (z5 + 1)), (1, .long (((31 : Int64) * z4) + (v10.toInt64))), (0, .ref (B + x0))]) hx hb dX7_digest_25 hl (k := 2) rfl (congrArg (fun z => z5 + z) (by decide)) (by decide) rfl (fun ls hl => ?_)
      refine lv_goto (tgt := 6) hx hb dX7_digest_28 (by decide) ?_
      obtain rfl := Option.some.inj hf
      exact hxlq3 _ rfl H locs ls hR hS (lv_sub hl [2, 1, 0] rfl)
  · intro H locs ls hR hS hl
    refine lv_ldc2 (v := 31) hx hb X.2.2.2.1 (X.2.2.2.2.1 _ (tb3 209 rfl rfl)) dX7_digest_31 ?_
    refine lv_lload_n hx hb dX7_digest_34 rfl (lv_at hl 1 rfl) ?_
    refine lv_lmul hx hb dX7_digest_35 ?_
    refine lv_aload_n hx hb dX7_digest_36 rfl (lv_at hl 0 rfl) ?_
    obtain ⟨v11, g12, hf⟩ := ob hf
    refine gR_X7_30 X hR g12 dX7_digest_37 ?_
    obtain ⟨v13, g14, hf⟩ := ob hf
    refine gI_X7_245 X hR g14 dX7_digest_40 ?_
    refine lv_i2l (v := v13.toInt64) hx hb dX7_digest_43 rfl ?_
    refine lv_ladd hx hb dX7_digest_44 ?_
    refine lv_lstore_n (lv' := [(1, .long (((31 : Int64) * e2) + (v13.toInt64))), (0, .ref (B + x0))]) hx hb dX7_digest_45 rfl hl (by decide) rfl (fun ls hl => ?_)
    refine lv_aload_n hx hb dX7_digest_46 rfl (lv_at hl 1 rfl) ?_
    obtain ⟨v15, g16, hf⟩ := ob hf
    refine gR_X7_12 X hR g16 dX7_digest_47 ?_
    obtain ⟨v17, g18, hf⟩ := ob hf
    refine gR_X7_50 X hR g18 dX7_digest_50 ?_
    refine lv_astore_n (lv' := [(3, .ref (B + v17)), (1, .long (((31 : Int64) * e2) + (v13.toInt64))), (0, .ref (B + x0))]) hx hb dX7_digest_53 rfl hl (by decide) rfl (fun ls hl => ?_)
    refine lv_iconst (v := 0) hx hb dX7_digest_54 (by decide) ?_
    refine lv_istore (lv' := [(4, .int (0 : Int32)), (3, .ref (B + v17)), (1, .long (((31 : Int64) * e2) + (v13.toInt64))), (0, .ref (B + x0))]) hx hb dX7_digest_55 hl (by decide) rfl (fun ls hl => ?_)
    obtain ⟨e20, hwe20, hf⟩ := ob hf
    refine whl_rule (P := (fun t19 => ∀ (H : Heap) (locs : List Loc) (ls : Array Slot), Rl B D cA m H → va_S (fun q => B ≤ q) s.heap H locs → lv_has ls 5 [(0, .ref (B + x0)), (1, .long t19.1), (3, .ref (B + v17)), (4, .int t19.2)] → W p l e (rmm 6 0 0 137) s mt args below meth c H locs 0 0 (MQ below (mQ B D cA (some (.long rZ)) mZ) args s 0 0 (fun q => B ≤ q)) (F0 mt 57 ls []))) (Qx := (fun e20 => ∀ (H : Heap) (locs : List Loc) (ls : Array Slot), Rl B D cA m H → va_S (fun q => B ≤ q) s.heap H locs → lv_has ls 5 [(0, .ref (B + x0)), (1, .long e20)] → W p l e (rmm 6 0 0 137) s mt args below meth c H locs 0 0 (MQ below (mQ B D cA (some (.long rZ)) mZ) args s 0 0 (fun q => B ≤ q)) (F0 mt 117 ls []))) ?_ FU _ e20 hwe20 ?_ H locs ls hR hS (lv_sub hl [3, 2, 1, 0] rfl)
    · clear hwe20 hf
      intro t19 q21 hf hxlq21 hxrq21 H locs ls hR hS hl
      obtain ⟨z22, z23⟩ := t19
      have hf : f_X7_digest_L57 m x0 v17 z22 z23 = some q21 := hf
      have hR : Rl B D cA m H := hR
      have hl : lv_has ls 5 [(0, .ref (B + x0)), (1, .long z22), (3, .ref (B + v17)), (4, .int z23)] := hl
      unfold f_X7_digest_L57 at hf
      refine lv_iload hx hb dX7_digest_57 (lv_at hl 3 rfl) ?_
      refine lv_aload_n hx hb dX7_digest_59 rfl (lv_at hl 2 rfl) ?_
      obtain ⟨v24, g25, hf⟩ := ob hf
      refine gI_X7_110 X hR g25 dX7_digest_60 ?_
      refine lv_icmp_ge (tgt := 117) hx hb dX7_digest_63 (by decide) (fun c26 => ?_) (fun c26 => ?_)
      · rw [if_pos c26] at hf
        obtain rfl := Option.some.inj hf
        exact hxrq21 _ rfl H locs ls hR hS (lv_sub hl [0, 1] rfl)
      · rw [if_neg c26] at hf
        refine lv_ldc2 (v := 31) hx hb X.2.2.2.1 (X.2.2.2.2.1 _ (tb3 209 rfl rfl)) dX7_digest_66 ?_
        refine lv_lload_n hx hb dX7_digest_69 rfl (lv_at hl 1 rfl) ?_
        refine lv_lmul hx hb dX7_digest_70 ?_
        refine lv_aload_n hx hb dX7_digest_71 rfl (lv_at hl 2 rfl) ?_
        obtain ⟨v27, g28, hf⟩ := ob hf
        refine gR_X7_130 X hR g28 dX7_digest_72 ?_
        refine lv_iload hx hb dX7_digest_75 (lv_at hl 3 rfl) ?_
        obtain ⟨v29, g30, hf⟩ := ob hf
        refine r_lI X hR g30 dX7_digest_77 ?_
        refine lv_i2l (v := v29.toInt64) hx hb dX7_digest_78 rfl ?_
        refine lv_ladd hx hb dX7_digest_79 ?_
        refine lv_lstore_n (lv' := [(1, .long (((31 : Int64) * z22) + (v29.toInt64))), (0, .ref (B + x0)), (3, .ref (B + v17)), (4, .int z23)]) hx hb dX7_digest_80 rfl hl (by decide) rfl (fun ls hl => ?_)
        refine lv_ldc2 (v := 31) hx hb X.2.2.2.1 (X.2.2.2.2.1 _ (tb3 209 rfl rfl)) dX7_digest_81 ?_
        refine lv_lload_n hx hb dX7_digest_84 rfl (lv_at hl 0 rfl) ?_
        refine lv_lmul hx hb dX7_digest_85 ?_
        refine lv_aload_n hx hb dX7_digest_86 rfl (lv_at hl 2 rfl) ?_
        obtain ⟨v31, g32, hf⟩ := ob hf
        refine gR_X7_133 X hR g32 dX7_digest_87 ?_
        refine lv_iload hx hb dX7_digest_90 (lv_at hl 3 rfl) ?_
        obtain ⟨v33, g34, hf⟩ := ob hf
        refine r_lI X hR g34 dX7_digest_92 ?_
        refine lv_i2l (v := v33.toInt64) hx hb dX7_digest_93 rfl ?_
        refine lv_ladd hx hb dX7_digest_94 ?_
        refine lv_lstore_n (lv' := [(1, .long (((31 : Int64) * (((31 : Int64) * z22) + (v29.toInt64))) + (v33.toInt64))), (0, .ref (B + x0)), (3, .ref (B + v17)), (4, .int z23)]) hx hb dX7_digest_95 rfl hl (by decide) rfl (fun ls hl => ?_)
        refine lv_ldc2 (v := 31) hx hb X.2.2.2.1 (X.2.2.2.2.1 _ (tb3 209 rfl rfl)) dX7_digest_96 ?_
        refine lv_lload_n hx hb dX7_digest_99 rfl (lv_at hl 0 rfl) ?_
        refine lv_lmul hx hb dX7_digest_100 ?_
        refine lv_aload_n hx hb dX7_digest_101 rfl (lv_at hl 2 rfl) ?_
        obtain ⟨v35, g36, hf⟩ := ob hf
        refine gR_X7_147 X hR g36 dX7_digest_102 ?_
        refine lv_iload hx hb dX7_digest_105 (lv_at hl 3 rfl) ?_
        obtain ⟨v37, g38, hf⟩ := ob hf
        refine r_lI X hR g38 dX7_digest_107 ?_
        refine lv_i2l (v := v37.toInt64) hx hb dX7_digest_108 rfl ?_
        refine lv_ladd hx hb dX7_digest_109 ?_
        refine lv_lstore_n (lv' := [(1, .long (((31 : Int64) * (((31 : Int64) * (((31 : Int64) * z22) + (v29.toInt64))) + (v33.toInt64))) + (v37.toInt64))), (0, .ref (B + x0)), (3, .ref (B + v17)), (4, .int z23)]) hx hb dX7_digest_110 rfl hl (by decide) rfl (fun ls hl => ?_)
        refine lv_iinc (v := (z23 + 1)) (lv' := [(4, .int (z23 + 1)), (1, .long (((31 : Int64) * (((31 : Int64) * (((31 : Int64) * z22) + (v29.toInt64))) + (v33.toInt64))) + (v37.toInt64))), (0, .ref (B + x0)), (3, .ref (B + v17))]) hx hb dX7_digest_111 hl (k := 3) rfl (congrArg (fun z => z23 + z) (by decide)) (by decide) rfl (fun ls hl => ?_)
        refine lv_goto (tgt := 57) hx hb dX7_digest_114 (by decide) ?_
        obtain rfl := Option.some.inj hf
        exact hxlq21 _ rfl H locs ls hR hS (lv_sub hl [2, 1, 3, 0] rfl)
    · intro H locs ls hR hS hl
      refine lv_iconst (v := 0) hx hb dX7_digest_117 (by decide) ?_
      refine lv_istore (lv' := [(4, .int (0 : Int32)), (0, .ref (B + x0)), (1, .long e20)]) hx hb dX7_digest_118 hl (by decide) rfl (fun ls hl => ?_)
      obtain ⟨e40, hwe40, hf⟩ := ob hf
      refine whl_rule (P := (fun t39 => ∀ (H : Heap) (locs : List Loc) (ls : Array Slot), Rl B D cA t39.2.2 H → va_S (fun q => B ≤ q) s.heap H locs → lv_has ls 5 [(0, .ref (B + x0)), (1, .long t39.1), (4, .int t39.2.1)] → W p l e (rmm 6 0 0 137) s mt args below meth c H locs 0 0 (MQ below (mQ B D cA (some (.long rZ)) mZ) args s 0 0 (fun q => B ≤ q)) (F0 mt 120 ls []))) (Qx := (fun e40 => ∀ (H : Heap) (locs : List Loc) (ls : Array Slot), Rl B D cA e40.2 H → va_S (fun q => B ≤ q) s.heap H locs → lv_has ls 5 [(1, .long e40.1)] → W p l e (rmm 6 0 0 137) s mt args below meth c H locs 0 0 (MQ below (mQ B D cA (some (.long rZ)) mZ) args s 0 0 (fun q => B ≤ q)) (F0 mt 174 ls []))) ?_ FU _ e40 hwe40 ?_ H locs ls hR hS (lv_sub hl [1, 2, 0] rfl)
      · clear hwe40 hf
        intro t39 q41 hf hxlq41 hxrq41 H locs ls hR hS hl
        obtain ⟨z42, z43, m44⟩ := t39
        have hf : f_X7_digest_L120 m44 x0 z42 z43 = some q41 := hf
        have hR : Rl B D cA m44 H := hR
        have hl : lv_has ls 5 [(0, .ref (B + x0)), (1, .long z42), (4, .int z43)] := hl
        unfold f_X7_digest_L120 at hf
        refine lv_iload hx hb dX7_digest_120 (lv_at hl 2 rfl) ?_
        refine lv_iconst (v := 4) hx hb dX7_digest_122 (by decide) ?_
        refine lv_icmp_ge (tgt := 174) hx hb dX7_digest_123 (by decide) (fun c45 => ?_) (fun c45 => ?_)
        · rw [if_pos c45] at hf
          obtain rfl := Option.some.inj hf
          exact hxrq41 _ rfl H locs ls hR hS (lv_sub hl [1] rfl)
        · rw [if_neg c45] at hf
          refine lv_aload_n hx hb dX7_digest_126 rfl (lv_at hl 0 rfl) ?_
          obtain ⟨v46, g47, hf⟩ := ob hf
          refine gR_X7_12 X hR g47 dX7_digest_127 ?_
          obtain ⟨v48, g49, hf⟩ := ob hf
          refine gR_X7_160 X hR g49 dX7_digest_130 ?_
          refine lv_iload hx hb dX7_digest_133 (lv_at hl 2 rfl) ?_
          obtain ⟨v50, g51, hf⟩ := ob hf
          refine r_lR (k := 3) (ty := .object RX5) X hR rfl rfl g51 dX7_digest_135 ?_
          obtain ⟨v52, g53, hf⟩ := ob hf
          refine gI_X7_171 X hR g53 dX7_digest_136 ?_
          refine lv_if_le (tgt := 168) hx hb dX7_digest_139 (by decide) (fun c54 => ?_) (fun c54 => ?_)
          · rw [if_pos c54] at hf
            refine lv_iinc (v := (z43 + 1)) (lv' := [(4, .int (z43 + 1)), (0, .ref (B + x0)), (1, .long z42)]) hx hb dX7_digest_168 hl (k := 2) rfl (congrArg (fun z => z43 + z) (by decide)) (by decide) rfl (fun ls hl => ?_)
            refine lv_goto (tgt := 120) hx hb dX7_digest_171 (by decide) ?_
            obtain rfl := Option.some.inj hf
            exact hxlq41 _ rfl H locs ls hR hS (lv_sub hl [1, 2, 0] rfl)
          · rw [if_neg c54] at hf
            refine lv_ldc2 (v := 31) hx hb X.2.2.2.1 (X.2.2.2.2.1 _ (tb3 209 rfl rfl)) dX7_digest_142 ?_
            refine lv_lload_n hx hb dX7_digest_145 rfl (lv_at hl 1 rfl) ?_
            refine lv_aload_n hx hb dX7_digest_146 rfl (lv_at hl 0 rfl) ?_
            obtain ⟨v55, g56, hf⟩ := ob hf
            refine gR_X7_12 X hR g56 dX7_digest_147 ?_
            obtain ⟨v57, g58, hf⟩ := ob hf
            refine gR_X7_160 X hR g58 dX7_digest_150 ?_
            refine lv_iload hx hb dX7_digest_153 (lv_at hl 2 rfl) ?_
            obtain ⟨v59, g60, hf⟩ := ob hf
            refine r_lR (k := 3) (ty := .object RX5) X hR rfl rfl g60 dX7_digest_155 ?_
            obtain ⟨v62, g61, hf⟩ := ob hf
            refine r_callS X kw_X7_269 (c_X7_digestTwig l B D cA m44 z42 v59 v62 g61) ⟨Nat.le_of_ble_eq_true rfl, Nat.le_of_ble_eq_true rfl⟩ hR hS hl.1 rfl rfl (Nat.le_of_ble_eq_true rfl) ⟨Nat.le_of_ble_eq_true rfl, Nat.le_of_ble_eq_true rfl⟩ dX7_digest_156 (fun H locs hR hS => ?_)
            refine W.eq (g2 := F0 mt 159 ls [.long v62, .long (31 : Int64)]) rfl ?_
            refine lv_lmul hx hb dX7_digest_159 ?_
            refine lv_aload_n hx hb dX7_digest_160 rfl (lv_at hl 0 rfl) ?_
            refine lv_iload hx hb dX7_digest_161 (lv_at hl 2 rfl) ?_
            obtain ⟨o63, h64, hf⟩ := obO hf
            obtain ⟨t66, g65, hf⟩ := ob hf
            refine r_callV X kw_X7_188 (ci := 7) rfl (c_X7_countMatches l B D cA m44 x0 z43 t66.1 t66.2 g65) ⟨Nat.le_of_ble_eq_true rfl, Nat.le_of_ble_eq_true rfl⟩ h64 hR hS hl.1 rfl rfl (Nat.le_of_ble_eq_true rfl) ⟨Nat.le_of_ble_eq_true rfl, Nat.le_of_ble_eq_true rfl⟩ dX7_digest_163 (fun H locs hR hS => ?_)
            refine W.eq (g2 := F0 mt 166 ls [.long t66.1, .long ((31 : Int64) * v62)]) rfl ?_
            refine lv_ladd hx hb dX7_digest_166 ?_
            refine lv_lstore_n (lv' := [(1, .long (((31 : Int64) * v62) + t66.1)), (0, .ref (B + x0)), (4, .int z43)]) hx hb dX7_digest_167 rfl hl (by decide) rfl (fun ls hl => ?_)
            refine lv_iinc (v := (z43 + 1)) (lv' := [(4, .int (z43 + 1)), (1, .long (((31 : Int64) * v62) + t66.1)), (0, .ref (B + x0))]) hx hb dX7_digest_168 hl (k := 2) rfl (congrArg (fun z => z43 + z) (by decide)) (by decide) rfl (fun ls hl => ?_)
            refine lv_goto (tgt := 120) hx hb dX7_digest_171 (by decide) ?_
            obtain rfl := Option.some.inj hf
            exact hxlq41 _ rfl H locs ls hR hS (lv_sub hl [2, 1, 0] rfl)
      · intro H locs ls hR hS hl
        refine lv_lload_n hx hb dX7_digest_174 rfl (lv_at hl 0 rfl) ?_
        obtain ⟨rfl, rfl⟩ := Prod.mk.inj (Option.some.inj hf)
        exact r_lret X hr hlocks hR hS dX7_digest_175
/-! ===== TwigMatchesModel.bad()I ===== -/
theorem dX8_bad_0 : decode cX8_bad 0 = .ok (.aload_n 0, 1) := by decide +kernel
theorem dX8_bad_1 : decode cX8_bad 1 = .ok (.getfield 7, 3) := by decide +kernel
theorem dX8_bad_4 : decode cX8_bad 4 = .ok (.iconst 0, 1) := by decide +kernel
theorem dX8_bad_5 : decode cX8_bad 5 = .ok (.dup2, 1) := by decide +kernel
theorem dX8_bad_6 : decode cX8_bad 6 = .ok (.iaload, 1) := by decide +kernel
theorem dX8_bad_7 : decode cX8_bad 7 = .ok (.iconst 1, 1) := by decide +kernel
theorem dX8_bad_8 : decode cX8_bad 8 = .ok (.iadd, 1) := by decide +kernel
theorem dX8_bad_9 : decode cX8_bad 9 = .ok (.iastore, 1) := by decide +kernel
theorem dX8_bad_10 : decode cX8_bad 10 = .ok (.bipush (-2), 2) := by decide +kernel
theorem dX8_bad_12 : decode cX8_bad 12 = .ok (.ireturn, 1) := by decide +kernel
set_option maxHeartbeats 4000000 in
set_option maxRecDepth 100000 in
theorem c_X8_bad (l : Launch) (B : Nat) (D : va_G) (cA : Nat → ClassId) (m : Mm) (x0 : Nat) (rZ : Int32) (mZ : Mm) (hf : f_X8_bad m x0 = some (rZ, mZ)) : Mt l B D cA yX8_bad cX8_bad 1 (some .int) 0 0 0 0 [.ref (B + x0)] m (some (.int rZ)) mZ := by
  refine r_start (by decide) (Nat.le_of_ble_eq_true rfl) ?_
  intro p e s mt args below meth c ls H locs X hr hlocks hnm hR hl hS
  have hx := X.1
  have hb := X.2.1
  have hl : lv_has ls 1 [(0, .ref (B + x0))] := hl
  unfold f_X8_bad at hf
  refine lv_aload_n hx hb dX8_bad_0 rfl (lv_at hl 0 rfl) ?_
  obtain ⟨v1, g2, hf⟩ := ob hf
  refine gR_X8_7 X hR g2 dX8_bad_1 ?_
  refine lv_iconst (v := 0) hx hb dX8_bad_4 (by decide) ?_
  refine lv_dup2_11 hx hb dX8_bad_5 rfl rfl ?_
  obtain ⟨v3, g4, hf⟩ := ob hf
  refine r_lI X hR g4 dX8_bad_6 ?_
  refine lv_iconst (v := 1) hx hb dX8_bad_7 (by decide) ?_
  refine lv_iadd hx hb dX8_bad_8 ?_
  obtain ⟨m5, g6, hf⟩ := ob hf
  refine r_sI X hR hS g6 dX8_bad_9 (fun H locs hR hS => ?_)
  refine lv_bipush (v := -2) hx hb dX8_bad_10 (by decide) ?_
  obtain ⟨rfl, rfl⟩ := Prod.mk.inj (Option.some.inj hf)
  exact r_iret X hr hlocks hR hS rfl dX8_bad_12
/-! ===== TwigMatchesModel.no()I ===== -/
theorem dX8_no_0 : decode cX8_no 0 = .ok (.aload_n 0, 1) := by decide +kernel
theorem dX8_no_1 : decode cX8_no 1 = .ok (.getfield 7, 3) := by decide +kernel
theorem dX8_no_4 : decode cX8_no 4 = .ok (.iconst 1, 1) := by decide +kernel
theorem dX8_no_5 : decode cX8_no 5 = .ok (.dup2, 1) := by decide +kernel
theorem dX8_no_6 : decode cX8_no 6 = .ok (.iaload, 1) := by decide +kernel
theorem dX8_no_7 : decode cX8_no 7 = .ok (.iconst 1, 1) := by decide +kernel
theorem dX8_no_8 : decode cX8_no 8 = .ok (.iadd, 1) := by decide +kernel
theorem dX8_no_9 : decode cX8_no 9 = .ok (.iastore, 1) := by decide +kernel
theorem dX8_no_10 : decode cX8_no 10 = .ok (.bipush (-3), 2) := by decide +kernel
theorem dX8_no_12 : decode cX8_no 12 = .ok (.ireturn, 1) := by decide +kernel
set_option maxHeartbeats 4000000 in
set_option maxRecDepth 100000 in
theorem c_X8_no (l : Launch) (B : Nat) (D : va_G) (cA : Nat → ClassId) (m : Mm) (x0 : Nat) (rZ : Int32) (mZ : Mm) (hf : f_X8_no m x0 = some (rZ, mZ)) : Mt l B D cA yX8_no cX8_no 1 (some .int) 0 0 0 0 [.ref (B + x0)] m (some (.int rZ)) mZ := by
  refine r_start (by decide) (Nat.le_of_ble_eq_true rfl) ?_
  intro p e s mt args below meth c ls H locs X hr hlocks hnm hR hl hS
  have hx := X.1
  have hb := X.2.1
  have hl : lv_has ls 1 [(0, .ref (B + x0))] := hl
  unfold f_X8_no at hf
  refine lv_aload_n hx hb dX8_no_0 rfl (lv_at hl 0 rfl) ?_
  obtain ⟨v1, g2, hf⟩ := ob hf
  refine gR_X8_7 X hR g2 dX8_no_1 ?_
  refine lv_iconst (v := 1) hx hb dX8_no_4 (by decide) ?_
  refine lv_dup2_11 hx hb dX8_no_5 rfl rfl ?_
  obtain ⟨v3, g4, hf⟩ := ob hf
  refine r_lI X hR g4 dX8_no_6 ?_
  refine lv_iconst (v := 1) hx hb dX8_no_7 (by decide) ?_
  refine lv_iadd hx hb dX8_no_8 ?_
  obtain ⟨m5, g6, hf⟩ := ob hf
  refine r_sI X hR hS g6 dX8_no_9 (fun H locs hR hS => ?_)
  refine lv_bipush (v := -3) hx hb dX8_no_10 (by decide) ?_
  obtain ⟨rfl, rfl⟩ := Prod.mk.inj (Option.some.inj hf)
  exact r_iret X hr hlocks hR hS rfl dX8_no_12
/-! ===== TwigMatchesModel.full()I ===== -/
theorem dX8_full_0 : decode cX8_full 0 = .ok (.aload_n 0, 1) := by decide +kernel
theorem dX8_full_1 : decode cX8_full 1 = .ok (.getfield 7, 3) := by decide +kernel
theorem dX8_full_4 : decode cX8_full 4 = .ok (.iconst 2, 1) := by decide +kernel
theorem dX8_full_5 : decode cX8_full 5 = .ok (.dup2, 1) := by decide +kernel
theorem dX8_full_6 : decode cX8_full 6 = .ok (.iaload, 1) := by decide +kernel
theorem dX8_full_7 : decode cX8_full 7 = .ok (.iconst 1, 1) := by decide +kernel
theorem dX8_full_8 : decode cX8_full 8 = .ok (.iadd, 1) := by decide +kernel
theorem dX8_full_9 : decode cX8_full 9 = .ok (.iastore, 1) := by decide +kernel
theorem dX8_full_10 : decode cX8_full 10 = .ok (.bipush (-4), 2) := by decide +kernel
theorem dX8_full_12 : decode cX8_full 12 = .ok (.ireturn, 1) := by decide +kernel
set_option maxHeartbeats 4000000 in
set_option maxRecDepth 100000 in
theorem c_X8_full (l : Launch) (B : Nat) (D : va_G) (cA : Nat → ClassId) (m : Mm) (x0 : Nat) (rZ : Int32) (mZ : Mm) (hf : f_X8_full m x0 = some (rZ, mZ)) : Mt l B D cA yX8_full cX8_full 1 (some .int) 0 0 0 0 [.ref (B + x0)] m (some (.int rZ)) mZ := by
  refine r_start (by decide) (Nat.le_of_ble_eq_true rfl) ?_
  intro p e s mt args below meth c ls H locs X hr hlocks hnm hR hl hS
  have hx := X.1
  have hb := X.2.1
  have hl : lv_has ls 1 [(0, .ref (B + x0))] := hl
  unfold f_X8_full at hf
  refine lv_aload_n hx hb dX8_full_0 rfl (lv_at hl 0 rfl) ?_
  obtain ⟨v1, g2, hf⟩ := ob hf
  refine gR_X8_7 X hR g2 dX8_full_1 ?_
  refine lv_iconst (v := 2) hx hb dX8_full_4 (by decide) ?_
  refine lv_dup2_11 hx hb dX8_full_5 rfl rfl ?_
  obtain ⟨v3, g4, hf⟩ := ob hf
  refine r_lI X hR g4 dX8_full_6 ?_
  refine lv_iconst (v := 1) hx hb dX8_full_7 (by decide) ?_
  refine lv_iadd hx hb dX8_full_8 ?_
  obtain ⟨m5, g6, hf⟩ := ob hf
  refine r_sI X hR hS g6 dX8_full_9 (fun H locs hR hS => ?_)
  refine lv_bipush (v := -4) hx hb dX8_full_10 (by decide) ?_
  obtain ⟨rfl, rfl⟩ := Prod.mk.inj (Option.some.inj hf)
  exact r_iret X hr hlocks hR hS rfl dX8_full_12
/-! ===== TwigMatchesModel.in(III)Z ===== -/
theorem dX8_in_0 : decode cX8_in 0 = .ok (.iload_n 0, 1) := by decide +kernel
theorem dX8_in_1 : decode cX8_in 1 = .ok (.iload_n 1, 1) := by decide +kernel
theorem dX8_in_2 : decode cX8_in 2 = .ok (.if_icmp .lt 12, 3) := by decide +kernel
theorem dX8_in_5 : decode cX8_in 5 = .ok (.iload_n 0, 1) := by decide +kernel
theorem dX8_in_6 : decode cX8_in 6 = .ok (.iload_n 2, 1) := by decide +kernel
theorem dX8_in_7 : decode cX8_in 7 = .ok (.if_icmp .gt 7, 3) := by decide +kernel
theorem dX8_in_10 : decode cX8_in 10 = .ok (.iconst 1, 1) := by decide +kernel
theorem dX8_in_11 : decode cX8_in 11 = .ok (.goto 4, 3) := by decide +kernel
theorem dX8_in_14 : decode cX8_in 14 = .ok (.iconst 0, 1) := by decide +kernel
theorem dX8_in_15 : decode cX8_in 15 = .ok (.ireturn, 1) := by decide +kernel
set_option maxHeartbeats 4000000 in
set_option maxRecDepth 100000 in
theorem c_X8_in (l : Launch) (B : Nat) (D : va_G) (cA : Nat → ClassId) (m : Mm) (x0 : Int32) (x1 : Int32) (x2 : Int32) (rZ : Int32) (hf : f_X8_in m x0 x1 x2 = some rZ) : Mt l B D cA yX8_in cX8_in 3 (some .boolean) 0 0 0 0 [.int x0, .int x1, .int x2] m (some (.int rZ)) m := by
  refine r_start (by decide) (Nat.le_of_ble_eq_true rfl) ?_
  intro p e s mt args below meth c ls H locs X hr hlocks hnm hR hl hS
  have hx := X.1
  have hb := X.2.1
  have hl : lv_has ls 3 [(0, .int x0), (1, .int x1), (2, .int x2)] := hl
  unfold f_X8_in at hf
  refine lv_iload_n hx hb dX8_in_0 rfl (lv_at hl 0 rfl) ?_
  refine lv_iload_n hx hb dX8_in_1 rfl (lv_at hl 1 rfl) ?_
  refine lv_icmp_lt (tgt := 14) hx hb dX8_in_2 (by decide) (fun c1 => ?_) (fun c1 => ?_)
  · rw [if_pos c1] at hf
    refine lv_iconst (v := 0) hx hb dX8_in_14 (by decide) ?_
    obtain rfl := Option.some.inj hf
    exact r_iret X hr hlocks hR hS rfl dX8_in_15
  · rw [if_neg c1] at hf
    refine lv_iload_n hx hb dX8_in_5 rfl (lv_at hl 0 rfl) ?_
    refine lv_iload_n hx hb dX8_in_6 rfl (lv_at hl 2 rfl) ?_
    refine lv_icmp_gt (tgt := 14) hx hb dX8_in_7 (by decide) (fun c2 => ?_) (fun c2 => ?_)
    · rw [if_pos c2] at hf
      refine lv_iconst (v := 0) hx hb dX8_in_14 (by decide) ?_
      obtain rfl := Option.some.inj hf
      exact r_iret X hr hlocks hR hS rfl dX8_in_15
    · rw [if_neg c2] at hf
      refine lv_iconst (v := 1) hx hb dX8_in_10 (by decide) ?_
      refine lv_goto (tgt := 15) hx hb dX8_in_11 (by decide) ?_
      obtain rfl := Option.some.inj hf
      exact r_iret X hr hlocks hR hS rfl dX8_in_15
/-! ===== TwigMatchesModel.isElement(I)Z ===== -/
theorem dX8_isElement_0 : decode cX8_isElement 0 = .ok (.iload_n 1, 1) := by decide +kernel
theorem dX8_isElement_1 : decode cX8_isElement 1 = .ok (.iconst 0, 1) := by decide +kernel
theorem dX8_isElement_2 : decode cX8_isElement 2 = .ok (.aload_n 0, 1) := by decide +kernel
theorem dX8_isElement_3 : decode cX8_isElement 3 = .ok (.getfield 13, 3) := by decide +kernel
theorem dX8_isElement_6 : decode cX8_isElement 6 = .ok (.iconst 1, 1) := by decide +kernel
theorem dX8_isElement_7 : decode cX8_isElement 7 = .ok (.isub, 1) := by decide +kernel
theorem dX8_isElement_8 : decode cX8_isElement 8 = .ok (.invokestatic 90, 3) := by decide +kernel
theorem dX8_isElement_11 : decode cX8_isElement 11 = .ok (.ireturn, 1) := by decide +kernel
set_option maxHeartbeats 4000000 in
set_option maxRecDepth 100000 in
theorem c_X8_isElement (l : Launch) (B : Nat) (D : va_G) (cA : Nat → ClassId) (m : Mm) (x0 : Nat) (x1 : Int32) (rZ : Int32) (hf : f_X8_isElement m x0 x1 = some rZ) : Mt l B D cA yX8_isElement cX8_isElement 2 (some .boolean) 1 22 0 0 [.ref (B + x0), .int x1] m (some (.int rZ)) m := by
  refine r_start (by decide) (Nat.le_of_ble_eq_true rfl) ?_
  intro p e s mt args below meth c ls H locs X hr hlocks hnm hR hl hS
  have hx := X.1
  have hb := X.2.1
  have hl : lv_has ls 2 [(0, .ref (B + x0)), (1, .int x1)] := hl
  unfold f_X8_isElement at hf
  refine lv_iload_n hx hb dX8_isElement_0 rfl (lv_at hl 1 rfl) ?_
  refine lv_iconst (v := 0) hx hb dX8_isElement_1 (by decide) ?_
  refine lv_aload_n hx hb dX8_isElement_2 rfl (lv_at hl 0 rfl) ?_
  obtain ⟨v1, g2, hf⟩ := ob hf
  refine gI_X8_13 X hR g2 dX8_isElement_3 ?_
  refine lv_iconst (v := 1) hx hb dX8_isElement_6 (by decide) ?_
  refine lv_isub hx hb dX8_isElement_7 ?_
  obtain ⟨v4, g3, hf⟩ := ob hf
  refine r_callS X kw_X8_90 (c_X8_in l B D cA m x1 (0 : Int32) (v1 - (1 : Int32)) v4 g3) ⟨Nat.le_of_ble_eq_true rfl, Nat.le_of_ble_eq_true rfl⟩ hR hS hl.1 rfl rfl (Nat.le_of_ble_eq_true rfl) ⟨Nat.le_of_ble_eq_true rfl, Nat.le_of_ble_eq_true rfl⟩ dX8_isElement_8 (fun H locs hR hS => ?_)
  refine W.eq (g2 := F0 mt 11 ls [.int v4]) rfl ?_
  obtain ⟨h5, hf⟩ := obB hf
  obtain rfl := Option.some.inj hf
  exact r_iret X hr hlocks hR hS h5 dX8_isElement_11
/-! ===== TwigMatchesModel.tellsTree()V ===== -/
theorem dX8_tellsTree_0 : decode cX8_tellsTree 0 = .ok (.iconst 0, 1) := by decide +kernel
theorem dX8_tellsTree_1 : decode cX8_tellsTree 1 = .ok (.istore_n 1, 1) := by decide +kernel
theorem dX8_tellsTree_2 : decode cX8_tellsTree 2 = .ok (.iload_n 1, 1) := by decide +kernel
theorem dX8_tellsTree_3 : decode cX8_tellsTree 3 = .ok (.aload_n 0, 1) := by decide +kernel
theorem dX8_tellsTree_4 : decode cX8_tellsTree 4 = .ok (.getfield 13, 3) := by decide +kernel
theorem dX8_tellsTree_7 : decode cX8_tellsTree 7 = .ok (.if_icmp .ge 85, 3) := by decide +kernel
theorem dX8_tellsTree_10 : decode cX8_tellsTree 10 = .ok (.iload_n 1, 1) := by decide +kernel
theorem dX8_tellsTree_11 : decode cX8_tellsTree 11 = .ok (.iconst 1, 1) := by decide +kernel
theorem dX8_tellsTree_12 : decode cX8_tellsTree 12 = .ok (.iadd, 1) := by decide +kernel
theorem dX8_tellsTree_13 : decode cX8_tellsTree 13 = .ok (.istore_n 2, 1) := by decide +kernel
theorem dX8_tellsTree_14 : decode cX8_tellsTree 14 = .ok (.iload_n 2, 1) := by decide +kernel
theorem dX8_tellsTree_15 : decode cX8_tellsTree 15 = .ok (.aload_n 0, 1) := by decide +kernel
theorem dX8_tellsTree_16 : decode cX8_tellsTree 16 = .ok (.getfield 13, 3) := by decide +kernel
theorem dX8_tellsTree_19 : decode cX8_tellsTree 19 = .ok (.if_icmp .ge 24, 3) := by decide +kernel
theorem dX8_tellsTree_22 : decode cX8_tellsTree 22 = .ok (.aload_n 0, 1) := by decide +kernel
theorem dX8_tellsTree_23 : decode cX8_tellsTree 23 = .ok (.getfield 23, 3) := by decide +kernel
theorem dX8_tellsTree_26 : decode cX8_tellsTree 26 = .ok (.iload_n 2, 1) := by decide +kernel
theorem dX8_tellsTree_27 : decode cX8_tellsTree 27 = .ok (.iaload, 1) := by decide +kernel
theorem dX8_tellsTree_28 : decode cX8_tellsTree 28 = .ok (.aload_n 0, 1) := by decide +kernel
theorem dX8_tellsTree_29 : decode cX8_tellsTree 29 = .ok (.getfield 23, 3) := by decide +kernel
theorem dX8_tellsTree_32 : decode cX8_tellsTree 32 = .ok (.iload_n 1, 1) := by decide +kernel
theorem dX8_tellsTree_33 : decode cX8_tellsTree 33 = .ok (.iaload, 1) := by decide +kernel
theorem dX8_tellsTree_34 : decode cX8_tellsTree 34 = .ok (.if_icmp .le 9, 3) := by decide +kernel
theorem dX8_tellsTree_37 : decode cX8_tellsTree 37 = .ok (.iinc 2 1, 3) := by decide +kernel
theorem dX8_tellsTree_40 : decode cX8_tellsTree 40 = .ok (.goto (-26), 3) := by decide +kernel
theorem dX8_tellsTree_43 : decode cX8_tellsTree 43 = .ok (.aload_n 0, 1) := by decide +kernel
theorem dX8_tellsTree_44 : decode cX8_tellsTree 44 = .ok (.getfield 26, 3) := by decide +kernel
theorem dX8_tellsTree_47 : decode cX8_tellsTree 47 = .ok (.iload_n 1, 1) := by decide +kernel
theorem dX8_tellsTree_48 : decode cX8_tellsTree 48 = .ok (.iload_n 2, 1) := by decide +kernel
theorem dX8_tellsTree_49 : decode cX8_tellsTree 49 = .ok (.iastore, 1) := by decide +kernel
theorem dX8_tellsTree_50 : decode cX8_tellsTree 50 = .ok (.iload_n 1, 1) := by decide +kernel
theorem dX8_tellsTree_51 : decode cX8_tellsTree 51 = .ok (.iconst 1, 1) := by decide +kernel
theorem dX8_tellsTree_52 : decode cX8_tellsTree 52 = .ok (.isub, 1) := by decide +kernel
theorem dX8_tellsTree_53 : decode cX8_tellsTree 53 = .ok (.istore_n 3, 1) := by decide +kernel
theorem dX8_tellsTree_54 : decode cX8_tellsTree 54 = .ok (.iload_n 3, 1) := by decide +kernel
theorem dX8_tellsTree_55 : decode cX8_tellsTree 55 = .ok (.ifCond .lt 24, 3) := by decide +kernel
theorem dX8_tellsTree_58 : decode cX8_tellsTree 58 = .ok (.aload_n 0, 1) := by decide +kernel
theorem dX8_tellsTree_59 : decode cX8_tellsTree 59 = .ok (.getfield 23, 3) := by decide +kernel
theorem dX8_tellsTree_62 : decode cX8_tellsTree 62 = .ok (.iload_n 3, 1) := by decide +kernel
theorem dX8_tellsTree_63 : decode cX8_tellsTree 63 = .ok (.iaload, 1) := by decide +kernel
theorem dX8_tellsTree_64 : decode cX8_tellsTree 64 = .ok (.aload_n 0, 1) := by decide +kernel
theorem dX8_tellsTree_65 : decode cX8_tellsTree 65 = .ok (.getfield 23, 3) := by decide +kernel
theorem dX8_tellsTree_68 : decode cX8_tellsTree 68 = .ok (.iload_n 1, 1) := by decide +kernel
theorem dX8_tellsTree_69 : decode cX8_tellsTree 69 = .ok (.iaload, 1) := by decide +kernel
theorem dX8_tellsTree_70 : decode cX8_tellsTree 70 = .ok (.if_icmp .lt 9, 3) := by decide +kernel
theorem dX8_tellsTree_73 : decode cX8_tellsTree 73 = .ok (.iinc 3 (-1), 3) := by decide +kernel
theorem dX8_tellsTree_76 : decode cX8_tellsTree 76 = .ok (.goto (-22), 3) := by decide +kernel
theorem dX8_tellsTree_79 : decode cX8_tellsTree 79 = .ok (.aload_n 0, 1) := by decide +kernel
theorem dX8_tellsTree_80 : decode cX8_tellsTree 80 = .ok (.getfield 29, 3) := by decide +kernel
theorem dX8_tellsTree_83 : decode cX8_tellsTree 83 = .ok (.iload_n 1, 1) := by decide +kernel
theorem dX8_tellsTree_84 : decode cX8_tellsTree 84 = .ok (.iload_n 3, 1) := by decide +kernel
theorem dX8_tellsTree_85 : decode cX8_tellsTree 85 = .ok (.iastore, 1) := by decide +kernel
theorem dX8_tellsTree_86 : decode cX8_tellsTree 86 = .ok (.iinc 1 1, 3) := by decide +kernel
theorem dX8_tellsTree_89 : decode cX8_tellsTree 89 = .ok (.goto (-87), 3) := by decide +kernel
theorem dX8_tellsTree_92 : decode cX8_tellsTree 92 = .ok (.return_, 1) := by decide +kernel
set_option maxHeartbeats 4000000 in
set_option maxRecDepth 100000 in
theorem c_X8_tellsTree (l : Launch) (B : Nat) (D : va_G) (cA : Nat → ClassId) (m : Mm) (x0 : Nat) (mZ : Mm) (hf : f_X8_tellsTree m x0 = some mZ) : Mt l B D cA yX8_tellsTree cX8_tellsTree 4 none 0 0 0 0 [.ref (B + x0)] m none mZ := by
  refine r_start (by decide) (Nat.le_of_ble_eq_true rfl) ?_
  intro p e s mt args below meth c ls H locs X hr hlocks hnm hR hl hS
  have hx := X.1
  have hb := X.2.1
  have hl : lv_has ls 4 [(0, .ref (B + x0))] := hl
  unfold f_X8_tellsTree at hf
  refine lv_iconst (v := 0) hx hb dX8_tellsTree_0 (by decide) ?_
  refine lv_istore_n (lv' := [(1, .int (0 : Int32)), (0, .ref (B + x0))]) hx hb dX8_tellsTree_1 rfl hl (by decide) rfl (fun ls hl => ?_)
  obtain ⟨e2, hwe2, hf⟩ := ob hf
  refine whl_rule (P := (fun t1 => ∀ (H : Heap) (locs : List Loc) (ls : Array Slot), Rl B D cA t1.2 H → va_S (fun q => B ≤ q) s.heap H locs → lv_has ls 4 [(0, .ref (B + x0)), (1, .int t1.1)] → W p l e (rmm 0 0 0 0) s mt args below meth c H locs 0 0 (MQ below (mQ B D cA none mZ) args s 0 0 (fun q => B ≤ q)) (F0 mt 2 ls []))) (Qx := (fun e2 => ∀ (H : Heap) (locs : List Loc) (ls : Array Slot), Rl B D cA e2 H → va_S (fun q => B ≤ q) s.heap H locs → lv_has ls 4 [] → W p l e (rmm 0 0 0 0) s mt args below meth c H locs 0 0 (MQ below (mQ B D cA none mZ) args s 0 0 (fun q => B ≤ q)) (F0 mt 92 ls []))) ?_ FU _ e2 hwe2 ?_ H locs ls hR hS (lv_sub hl [1, 0] rfl)
  · clear hwe2 hf
    intro t1 q3 hf hxlq3 hxrq3 H locs ls hR hS hl
    obtain ⟨z4, m5⟩ := t1
    have hf : f_X8_tellsTree_L2 m5 x0 z4 = some q3 := hf
    have hR : Rl B D cA m5 H := hR
    have hl : lv_has ls 4 [(0, .ref (B + x0)), (1, .int z4)] := hl
    unfold f_X8_tellsTree_L2 at hf
    refine lv_iload_n hx hb dX8_tellsTree_2 rfl (lv_at hl 1 rfl) ?_
    refine lv_aload_n hx hb dX8_tellsTree_3 rfl (lv_at hl 0 rfl) ?_
    obtain ⟨v6, g7, hf⟩ := ob hf
    refine gI_X8_13 X hR g7 dX8_tellsTree_4 ?_
    refine lv_icmp_ge (tgt := 92) hx hb dX8_tellsTree_7 (by decide) (fun c8 => ?_) (fun c8 => ?_)
    · rw [if_pos c8] at hf
      obtain rfl := Option.some.inj hf
      exact hxrq3 _ rfl H locs ls hR hS (lv_sub hl [] rfl)
    · rw [if_neg c8] at hf
      refine lv_iload_n hx hb dX8_tellsTree_10 rfl (lv_at hl 1 rfl) ?_
      refine lv_iconst (v := 1) hx hb dX8_tellsTree_11 (by decide) ?_
      refine lv_iadd hx hb dX8_tellsTree_12 ?_
      refine lv_istore_n (lv' := [(2, .int (z4 + (1 : Int32))), (0, .ref (B + x0)), (1, .int z4)]) hx hb dX8_tellsTree_13 rfl hl (by decide) rfl (fun ls hl => ?_)
      obtain ⟨e10, hwe10, hf⟩ := ob hf
      refine whl_rule (P := (fun t9 => ∀ (H : Heap) (locs : List Loc) (ls : Array Slot), Rl B D cA m5 H → va_S (fun q => B ≤ q) s.heap H locs → lv_has ls 4 [(0, .ref (B + x0)), (1, .int z4), (2, .int t9)] → W p l e (rmm 0 0 0 0) s mt args below meth c H locs 0 0 (MQ below (mQ B D cA none mZ) args s 0 0 (fun q => B ≤ q)) (F0 mt 14 ls []))) (Qx := (fun e10 => ∀ (H : Heap) (locs : List Loc) (ls : Array Slot), Rl B D cA m5 H → va_S (fun q => B ≤ q) s.heap H locs → lv_has ls 4 [(0, .ref (B + x0)), (1, .int z4), (2, .int e10)] → W p l e (rmm 0 0 0 0) s mt args below meth c H locs 0 0 (MQ below (mQ B D cA none mZ) args s 0 0 (fun q => B ≤ q)) (F0 mt 43 ls []))) ?_ FU _ e10 hwe10 ?_ H locs ls hR hS (lv_sub hl [1, 2, 0] rfl)
      · clear hwe10 hf
        intro t9 q11 hf hxlq11 hxrq11 H locs ls hR hS hl
        have hf : f_X8_tellsTree_L14 m5 x0 z4 t9 = some q11 := hf
        have hR : Rl B D cA m5 H := hR
        have hl : lv_has ls 4 [(0, .ref (B + x0)), (1, .int z4), (2, .int t9)] := hl
        unfold f_X8_tellsTree_L14 at hf
        refine lv_iload_n hx hb dX8_tellsTree_14 rfl (lv_at hl 2 rfl) ?_
        refine lv_aload_n hx hb dX8_tellsTree_15 rfl (lv_at hl 0 rfl) ?_
        obtain ⟨v13, g14, hf⟩ := ob hf
        refine gI_X8_13 X hR g14 dX8_tellsTree_16 ?_
        refine lv_icmp_ge (tgt := 43) hx hb dX8_tellsTree_19 (by decide) (fun c15 => ?_) (fun c15 => ?_)
        · rw [if_pos c15] at hf
          obtain rfl := Option.some.inj hf
          exact hxrq11 _ rfl H locs ls hR hS (lv_sub hl [0, 1, 2] rfl)
        · rw [if_neg c15] at hf
          refine lv_aload_n hx hb dX8_tellsTree_22 rfl (lv_at hl 0 rfl) ?_
          obtain ⟨v16, g17, hf⟩ := ob hf
          refine gR_X8_23 X hR g17 dX8_tellsTree_23 ?_
          refine lv_iload_n hx hb dX8_tellsTree_26 rfl (lv_at hl 2 rfl) ?_
          obtain ⟨v18, g19, hf⟩ := ob hf
          refine r_lI X hR g19 dX8_tellsTree_27 ?_
          refine lv_aload_n hx hb dX8_tellsTree_28 rfl (lv_at hl 0 rfl) ?_
          obtain ⟨v20, g21, hf⟩ := ob hf
          refine gR_X8_23 X hR g21 dX8_tellsTree_29 ?_
          refine lv_iload_n hx hb dX8_tellsTree_32 rfl (lv_at hl 1 rfl) ?_
          obtain ⟨v22, g23, hf⟩ := ob hf
          refine r_lI X hR g23 dX8_tellsTree_33 ?_
          refine lv_icmp_le (tgt := 43) hx hb dX8_tellsTree_34 (by decide) (fun c24 => ?_) (fun c24 => ?_)
          · rw [if_pos c24] at hf
            obtain rfl := Option.some.inj hf
            exact hxrq11 _ rfl H locs ls hR hS (lv_sub hl [0, 1, 2] rfl)
          · rw [if_neg c24] at hf
            refine lv_iinc (v := (t9 + 1)) (lv' := [(2, .int (t9 + 1)), (0, .ref (B + x0)), (1, .int z4)]) hx hb dX8_tellsTree_37 hl (k := 2) rfl (congrArg (fun z => t9 + z) (by decide)) (by decide) rfl (fun ls hl => ?_)
            refine lv_goto (tgt := 14) hx hb dX8_tellsTree_40 (by decide) ?_
            obtain rfl := Option.some.inj hf
            exact hxlq11 _ rfl H locs ls hR hS (lv_sub hl [1, 2, 0] rfl)
      · intro H locs ls hR hS hl
        refine lv_aload_n hx hb dX8_tellsTree_43 rfl (lv_at hl 0 rfl) ?_
        obtain ⟨v25, g26, hf⟩ := ob hf
        refine gR_X8_26 X hR g26 dX8_tellsTree_44 ?_
        refine lv_iload_n hx hb dX8_tellsTree_47 rfl (lv_at hl 1 rfl) ?_
        refine lv_iload_n hx hb dX8_tellsTree_48 rfl (lv_at hl 2 rfl) ?_
        obtain ⟨m27, g28, hf⟩ := ob hf
        refine r_sI X hR hS g28 dX8_tellsTree_49 (fun H locs hR hS => ?_)
        refine lv_iload_n hx hb dX8_tellsTree_50 rfl (lv_at hl 1 rfl) ?_
        refine lv_iconst (v := 1) hx hb dX8_tellsTree_51 (by decide) ?_
        refine lv_isub hx hb dX8_tellsTree_52 ?_
        refine lv_istore_n (lv' := [(3, .int (z4 - (1 : Int32))), (0, .ref (B + x0)), (1, .int z4), (2, .int e10)]) hx hb dX8_tellsTree_53 rfl hl (by decide) rfl (fun ls hl => ?_)
        obtain ⟨e30, hwe30, hf⟩ := ob hf
        refine whl_rule (P := (fun t29 => ∀ (H : Heap) (locs : List Loc) (ls : Array Slot), Rl B D cA m27 H → va_S (fun q => B ≤ q) s.heap H locs → lv_has ls 4 [(0, .ref (B + x0)), (1, .int z4), (3, .int t29)] → W p l e (rmm 0 0 0 0) s mt args below meth c H locs 0 0 (MQ below (mQ B D cA none mZ) args s 0 0 (fun q => B ≤ q)) (F0 mt 54 ls []))) (Qx := (fun e30 => ∀ (H : Heap) (locs : List Loc) (ls : Array Slot), Rl B D cA m27 H → va_S (fun q => B ≤ q) s.heap H locs → lv_has ls 4 [(0, .ref (B + x0)), (1, .int z4), (3, .int e30)] → W p l e (rmm 0 0 0 0) s mt args below meth c H locs 0 0 (MQ below (mQ B D cA none mZ) args s 0 0 (fun q => B ≤ q)) (F0 mt 79 ls []))) ?_ FU _ e30 hwe30 ?_ H locs ls hR hS (lv_sub hl [1, 2, 0] rfl)
        · clear hwe30 hf
          intro t29 q31 hf hxlq31 hxrq31 H locs ls hR hS hl
          have hf : f_X8_tellsTree_L54 m27 x0 z4 t29 = some q31 := hf
          have hR : Rl B D cA m27 H := hR
          have hl : lv_has ls 4 [(0, .ref (B + x0)), (1, .int z4), (3, .int t29)] := hl
          unfold f_X8_tellsTree_L54 at hf
          refine lv_iload_n hx hb dX8_tellsTree_54 rfl (lv_at hl 2 rfl) ?_
          refine lv_if_lt (tgt := 79) hx hb dX8_tellsTree_55 (by decide) (fun c33 => ?_) (fun c33 => ?_)
          · rw [if_pos c33] at hf
            obtain rfl := Option.some.inj hf
            exact hxrq31 _ rfl H locs ls hR hS (lv_sub hl [0, 1, 2] rfl)
          · rw [if_neg c33] at hf
            refine lv_aload_n hx hb dX8_tellsTree_58 rfl (lv_at hl 0 rfl) ?_
            obtain ⟨v34, g35, hf⟩ := ob hf
            refine gR_X8_23 X hR g35 dX8_tellsTree_59 ?_
            refine lv_iload_n hx hb dX8_tellsTree_62 rfl (lv_at hl 2 rfl) ?_
            obtain ⟨v36, g37, hf⟩ := ob hf
            refine r_lI X hR g37 dX8_tellsTree_63 ?_
            refine lv_aload_n hx hb dX8_tellsTree_64 rfl (lv_at hl 0 rfl) ?_
            obtain ⟨v38, g39, hf⟩ := ob hf
            refine gR_X8_23 X hR g39 dX8_tellsTree_65 ?_
            refine lv_iload_n hx hb dX8_tellsTree_68 rfl (lv_at hl 1 rfl) ?_
            obtain ⟨v40, g41, hf⟩ := ob hf
            refine r_lI X hR g41 dX8_tellsTree_69 ?_
            refine lv_icmp_lt (tgt := 79) hx hb dX8_tellsTree_70 (by decide) (fun c42 => ?_) (fun c42 => ?_)
            · rw [if_pos c42] at hf
              obtain rfl := Option.some.inj hf
              exact hxrq31 _ rfl H locs ls hR hS (lv_sub hl [0, 1, 2] rfl)
            · rw [if_neg c42] at hf
              refine lv_iinc (v := (t29 + (-1))) (lv' := [(3, .int (t29 + (-1))), (0, .ref (B + x0)), (1, .int z4)]) hx hb dX8_tellsTree_73 hl (k := 2) rfl (congrArg (fun z => t29 + z) (by decide)) (by decide) rfl (fun ls hl => ?_)
              refine lv_goto (tgt := 54) hx hb dX8_tellsTree_76 (by decide) ?_
              obtain rfl := Option.some.inj hf
              exact hxlq31 _ rfl H locs ls hR hS (lv_sub hl [1, 2, 0] rfl)
        · intro H locs ls hR hS hl
          refine lv_aload_n hx hb dX8_tellsTree_79 rfl (lv_at hl 0 rfl) ?_
          obtain ⟨v43, g44, hf⟩ := ob hf
          refine gR_X8_29 X hR g44 dX8_tellsTree_80 ?_
          refine lv_iload_n hx hb dX8_tellsTree_83 rfl (lv_at hl 1 rfl) ?_
          refine lv_iload_n hx hb dX8_tellsTree_84 rfl (lv_at hl 2 rfl) ?_
          obtain ⟨m45, g46, hf⟩ := ob hf
          refine r_sI X hR hS g46 dX8_tellsTree_85 (fun H locs hR hS => ?_)
          refine lv_iinc (v := (z4 + 1)) (lv' := [(1, .int (z4 + 1)), (0, .ref (B + x0)), (3, .int e30)]) hx hb dX8_tellsTree_86 hl (k := 1) rfl (congrArg (fun z => z4 + z) (by decide)) (by decide) rfl (fun ls hl => ?_)
          refine lv_goto (tgt := 2) hx hb dX8_tellsTree_89 (by decide) ?_
          obtain rfl := Option.some.inj hf
          exact hxlq3 _ rfl H locs ls hR hS (lv_sub hl [1, 0] rfl)
  · intro H locs ls hR hS hl
    obtain rfl := Option.some.inj hf
    exact r_vret X hr hlocks hR hS dX8_tellsTree_92
/-! ===== TwigMatchesModel.children(I)I ===== -/
theorem dX8_children_0 : decode cX8_children 0 = .ok (.iconst 0, 1) := by decide +kernel
theorem dX8_children_1 : decode cX8_children 1 = .ok (.istore_n 2, 1) := by decide +kernel
theorem dX8_children_2 : decode cX8_children 2 = .ok (.iload_n 1, 1) := by decide +kernel
theorem dX8_children_3 : decode cX8_children 3 = .ok (.iconst 1, 1) := by decide +kernel
theorem dX8_children_4 : decode cX8_children 4 = .ok (.iadd, 1) := by decide +kernel
theorem dX8_children_5 : decode cX8_children 5 = .ok (.istore_n 3, 1) := by decide +kernel
theorem dX8_children_6 : decode cX8_children 6 = .ok (.iload_n 3, 1) := by decide +kernel
theorem dX8_children_7 : decode cX8_children 7 = .ok (.aload_n 0, 1) := by decide +kernel
theorem dX8_children_8 : decode cX8_children 8 = .ok (.getfield 26, 3) := by decide +kernel
theorem dX8_children_11 : decode cX8_children 11 = .ok (.iload_n 1, 1) := by decide +kernel
theorem dX8_children_12 : decode cX8_children 12 = .ok (.iaload, 1) := by decide +kernel
theorem dX8_children_13 : decode cX8_children 13 = .ok (.if_icmp .ge 27, 3) := by decide +kernel
theorem dX8_children_16 : decode cX8_children 16 = .ok (.iload_n 2, 1) := by decide +kernel
theorem dX8_children_17 : decode cX8_children 17 = .ok (.aload_n 0, 1) := by decide +kernel
theorem dX8_children_18 : decode cX8_children 18 = .ok (.getfield 29, 3) := by decide +kernel
theorem dX8_children_21 : decode cX8_children 21 = .ok (.iload_n 3, 1) := by decide +kernel
theorem dX8_children_22 : decode cX8_children 22 = .ok (.iaload, 1) := by decide +kernel
theorem dX8_children_23 : decode cX8_children 23 = .ok (.iload_n 1, 1) := by decide +kernel
theorem dX8_children_24 : decode cX8_children 24 = .ok (.if_icmp .ne 7, 3) := by decide +kernel
theorem dX8_children_27 : decode cX8_children 27 = .ok (.iconst 1, 1) := by decide +kernel
theorem dX8_children_28 : decode cX8_children 28 = .ok (.goto 4, 3) := by decide +kernel
theorem dX8_children_31 : decode cX8_children 31 = .ok (.iconst 0, 1) := by decide +kernel
theorem dX8_children_32 : decode cX8_children 32 = .ok (.iadd, 1) := by decide +kernel
theorem dX8_children_33 : decode cX8_children 33 = .ok (.istore_n 2, 1) := by decide +kernel
theorem dX8_children_34 : decode cX8_children 34 = .ok (.iinc 3 1, 3) := by decide +kernel
theorem dX8_children_37 : decode cX8_children 37 = .ok (.goto (-31), 3) := by decide +kernel
theorem dX8_children_40 : decode cX8_children 40 = .ok (.iload_n 2, 1) := by decide +kernel
theorem dX8_children_41 : decode cX8_children 41 = .ok (.ireturn, 1) := by decide +kernel
set_option maxHeartbeats 4000000 in
set_option maxRecDepth 100000 in
theorem c_X8_children (l : Launch) (B : Nat) (D : va_G) (cA : Nat → ClassId) (m : Mm) (x0 : Nat) (x1 : Int32) (rZ : Int32) (hf : f_X8_children m x0 x1 = some rZ) : Mt l B D cA yX8_children cX8_children 4 (some .int) 0 0 0 0 [.ref (B + x0), .int x1] m (some (.int rZ)) m := by
  refine r_start (by decide) (Nat.le_of_ble_eq_true rfl) ?_
  intro p e s mt args below meth c ls H locs X hr hlocks hnm hR hl hS
  have hx := X.1
  have hb := X.2.1
  have hl : lv_has ls 4 [(0, .ref (B + x0)), (1, .int x1)] := hl
  unfold f_X8_children at hf
  refine lv_iconst (v := 0) hx hb dX8_children_0 (by decide) ?_
  refine lv_istore_n (lv' := [(2, .int (0 : Int32)), (0, .ref (B + x0)), (1, .int x1)]) hx hb dX8_children_1 rfl hl (by decide) rfl (fun ls hl => ?_)
  refine lv_iload_n hx hb dX8_children_2 rfl (lv_at hl 2 rfl) ?_
  refine lv_iconst (v := 1) hx hb dX8_children_3 (by decide) ?_
  refine lv_iadd hx hb dX8_children_4 ?_
  refine lv_istore_n (lv' := [(3, .int (x1 + (1 : Int32))), (2, .int (0 : Int32)), (0, .ref (B + x0)), (1, .int x1)]) hx hb dX8_children_5 rfl hl (by decide) rfl (fun ls hl => ?_)
  obtain ⟨e2, hwe2, hf⟩ := ob hf
  refine whl_rule (P := (fun t1 => ∀ (H : Heap) (locs : List Loc) (ls : Array Slot), Rl B D cA m H → va_S (fun q => B ≤ q) s.heap H locs → lv_has ls 4 [(0, .ref (B + x0)), (1, .int x1), (2, .int t1.1), (3, .int t1.2)] → W p l e (rmm 0 0 0 0) s mt args below meth c H locs 0 0 (MQ below (mQ B D cA (some (.int rZ)) m) args s 0 0 (fun q => B ≤ q)) (F0 mt 6 ls []))) (Qx := (fun e2 => ∀ (H : Heap) (locs : List Loc) (ls : Array Slot), Rl B D cA m H → va_S (fun q => B ≤ q) s.heap H locs → lv_has ls 4 [(2, .int e2)] → W p l e (rmm 0 0 0 0) s mt args below meth c H locs 0 0 (MQ below (mQ B D cA (some (.int rZ)) m) args s 0 0 (fun q => B ≤ q)) (F0 mt 40 ls []))) ?_ FU _ e2 hwe2 ?_ H locs ls hR hS (lv_sub hl [2, 3, 1, 0] rfl)
  · clear hwe2 hf
    intro t1 q3 hf hxlq3 hxrq3 H locs ls hR hS hl
    obtain ⟨z4, z5⟩ := t1
    have hf : f_X8_children_L6 m x0 x1 z4 z5 = some q3 := hf
    have hR : Rl B D cA m H := hR
    have hl : lv_has ls 4 [(0, .ref (B + x0)), (1, .int x1), (2, .int z4), (3, .int z5)] := hl
    unfold f_X8_children_L6 at hf
    refine lv_iload_n hx hb dX8_children_6 rfl (lv_at hl 3 rfl) ?_
    refine lv_aload_n hx hb dX8_children_7 rfl (lv_at hl 0 rfl) ?_
    obtain ⟨v6, g7, hf⟩ := ob hf
    refine gR_X8_26 X hR g7 dX8_children_8 ?_
    refine lv_iload_n hx hb dX8_children_11 rfl (lv_at hl 1 rfl) ?_
    obtain ⟨v8, g9, hf⟩ := ob hf
    refine r_lI X hR g9 dX8_children_12 ?_
    refine lv_icmp_ge (tgt := 40) hx hb dX8_children_13 (by decide) (fun c10 => ?_) (fun c10 => ?_)
    · rw [if_pos c10] at hf
      obtain rfl := Option.some.inj hf
      exact hxrq3 _ rfl H locs ls hR hS (lv_sub hl [2] rfl)
    · rw [if_neg c10] at hf
      refine lv_iload_n hx hb dX8_children_16 rfl (lv_at hl 2 rfl) ?_
      refine lv_aload_n hx hb dX8_children_17 rfl (lv_at hl 0 rfl) ?_
      obtain ⟨v11, g12, hf⟩ := ob hf
      refine gR_X8_29 X hR g12 dX8_children_18 ?_
      refine lv_iload_n hx hb dX8_children_21 rfl (lv_at hl 3 rfl) ?_
      obtain ⟨v13, g14, hf⟩ := ob hf
      refine r_lI X hR g14 dX8_children_22 ?_
      refine lv_iload_n hx hb dX8_children_23 rfl (lv_at hl 1 rfl) ?_
      refine lv_icmp_ne (tgt := 31) hx hb dX8_children_24 (by decide) (fun c15 => ?_) (fun c15 => ?_)
      · rw [if_neg c15] at hf
        refine lv_iconst (v := 0) hx hb dX8_children_31 (by decide) ?_
        refine lv_iadd hx hb dX8_children_32 ?_
        refine lv_istore_n (lv' := [(2, .int (z4 + (0 : Int32))), (0, .ref (B + x0)), (1, .int x1), (3, .int z5)]) hx hb dX8_children_33 rfl hl (by decide) rfl (fun ls hl => ?_)
        refine lv_iinc (v := (z5 + 1)) (lv' := [(3, .int (z5 + 1)), (2, .int (z4 + (0 : Int32))), (0, .ref (B + x0)), (1, .int x1)]) hx hb dX8_children_34 hl (k := 3) rfl (congrArg (fun z => z5 + z) (by decide)) (by decide) rfl (fun ls hl => ?_)
        refine lv_goto (tgt := 6) hx hb dX8_children_37 (by decide) ?_
        obtain rfl := Option.some.inj hf
        exact hxlq3 _ rfl H locs ls hR hS (lv_sub hl [2, 3, 1, 0] rfl)
      · rw [if_pos c15] at hf
        refine lv_iconst (v := 1) hx hb dX8_children_27 (by decide) ?_
        refine lv_goto (tgt := 32) hx hb dX8_children_28 (by decide) ?_
        refine lv_iadd hx hb dX8_children_32 ?_
        refine lv_istore_n (lv' := [(2, .int (z4 + (1 : Int32))), (0, .ref (B + x0)), (1, .int x1), (3, .int z5)]) hx hb dX8_children_33 rfl hl (by decide) rfl (fun ls hl => ?_)
        refine lv_iinc (v := (z5 + 1)) (lv' := [(3, .int (z5 + 1)), (2, .int (z4 + (1 : Int32))), (0, .ref (B + x0)), (1, .int x1)]) hx hb dX8_children_34 hl (k := 3) rfl (congrArg (fun z => z5 + z) (by decide)) (by decide) rfl (fun ls hl => ?_)
        refine lv_goto (tgt := 6) hx hb dX8_children_37 (by decide) ?_
        obtain rfl := Option.some.inj hf
        exact hxlq3 _ rfl H locs ls hR hS (lv_sub hl [2, 3, 1, 0] rfl)
  · intro H locs ls hR hS hl
    refine lv_iload_n hx hb dX8_children_40 rfl (lv_at hl 0 rfl) ?_
    obtain rfl := Option.some.inj hf
    exact r_iret X hr hlocks hR hS rfl dX8_children_41
/-! ===== TwigMatchesModel.spot(II)I ===== -/
theorem dX8_spot_0 : decode cX8_spot 0 = .ok (.iload_n 2, 1) := by decide +kernel
theorem dX8_spot_1 : decode cX8_spot 1 = .ok (.istore_n 3, 1) := by decide +kernel
theorem dX8_spot_2 : decode cX8_spot 2 = .ok (.iload_n 1, 1) := by decide +kernel
theorem dX8_spot_3 : decode cX8_spot 3 = .ok (.iconst 1, 1) := by decide +kernel
theorem dX8_spot_4 : decode cX8_spot 4 = .ok (.iadd, 1) := by decide +kernel
theorem dX8_spot_5 : decode cX8_spot 5 = .ok (.istore 4, 2) := by decide +kernel
theorem dX8_spot_7 : decode cX8_spot 7 = .ok (.iload 4, 2) := by decide +kernel
theorem dX8_spot_9 : decode cX8_spot 9 = .ok (.aload_n 0, 1) := by decide +kernel
theorem dX8_spot_10 : decode cX8_spot 10 = .ok (.getfield 26, 3) := by decide +kernel
theorem dX8_spot_13 : decode cX8_spot 13 = .ok (.iload_n 1, 1) := by decide +kernel
theorem dX8_spot_14 : decode cX8_spot 14 = .ok (.iaload, 1) := by decide +kernel
theorem dX8_spot_15 : decode cX8_spot 15 = .ok (.if_icmp .ge 30, 3) := by decide +kernel
theorem dX8_spot_18 : decode cX8_spot 18 = .ok (.aload_n 0, 1) := by decide +kernel
theorem dX8_spot_19 : decode cX8_spot 19 = .ok (.getfield 29, 3) := by decide +kernel
theorem dX8_spot_22 : decode cX8_spot 22 = .ok (.iload 4, 2) := by decide +kernel
theorem dX8_spot_24 : decode cX8_spot 24 = .ok (.iaload, 1) := by decide +kernel
theorem dX8_spot_25 : decode cX8_spot 25 = .ok (.iload_n 1, 1) := by decide +kernel
theorem dX8_spot_26 : decode cX8_spot 26 = .ok (.if_icmp .ne 13, 3) := by decide +kernel
theorem dX8_spot_29 : decode cX8_spot 29 = .ok (.iload_n 3, 1) := by decide +kernel
theorem dX8_spot_30 : decode cX8_spot 30 = .ok (.ifCond .ne 6, 3) := by decide +kernel
theorem dX8_spot_33 : decode cX8_spot 33 = .ok (.iload 4, 2) := by decide +kernel
theorem dX8_spot_35 : decode cX8_spot 35 = .ok (.ireturn, 1) := by decide +kernel
theorem dX8_spot_36 : decode cX8_spot 36 = .ok (.iinc 3 (-1), 3) := by decide +kernel
theorem dX8_spot_39 : decode cX8_spot 39 = .ok (.iinc 4 1, 3) := by decide +kernel
theorem dX8_spot_42 : decode cX8_spot 42 = .ok (.goto (-35), 3) := by decide +kernel
theorem dX8_spot_45 : decode cX8_spot 45 = .ok (.aload_n 0, 1) := by decide +kernel
theorem dX8_spot_46 : decode cX8_spot 46 = .ok (.getfield 26, 3) := by decide +kernel
theorem dX8_spot_49 : decode cX8_spot 49 = .ok (.iload_n 1, 1) := by decide +kernel
theorem dX8_spot_50 : decode cX8_spot 50 = .ok (.iaload, 1) := by decide +kernel
theorem dX8_spot_51 : decode cX8_spot 51 = .ok (.ireturn, 1) := by decide +kernel
set_option maxHeartbeats 4000000 in
set_option maxRecDepth 100000 in
theorem c_X8_spot (l : Launch) (B : Nat) (D : va_G) (cA : Nat → ClassId) (m : Mm) (x0 : Nat) (x1 : Int32) (x2 : Int32) (rZ : Int32) (hf : f_X8_spot m x0 x1 x2 = some rZ) : Mt l B D cA yX8_spot cX8_spot 5 (some .int) 0 0 0 0 [.ref (B + x0), .int x1, .int x2] m (some (.int rZ)) m := by
  refine r_start (by decide) (Nat.le_of_ble_eq_true rfl) ?_
  intro p e s mt args below meth c ls H locs X hr hlocks hnm hR hl hS
  have hx := X.1
  have hb := X.2.1
  have hl : lv_has ls 5 [(0, .ref (B + x0)), (1, .int x1), (2, .int x2)] := hl
  unfold f_X8_spot at hf
  refine lv_iload_n hx hb dX8_spot_0 rfl (lv_at hl 2 rfl) ?_
  refine lv_istore_n (lv' := [(3, .int x2), (0, .ref (B + x0)), (1, .int x1), (2, .int x2)]) hx hb dX8_spot_1 rfl hl (by decide) rfl (fun ls hl => ?_)
  refine lv_iload_n hx hb dX8_spot_2 rfl (lv_at hl 2 rfl) ?_
  refine lv_iconst (v := 1) hx hb dX8_spot_3 (by decide) ?_
  refine lv_iadd hx hb dX8_spot_4 ?_
  refine lv_istore (lv' := [(4, .int (x1 + (1 : Int32))), (3, .int x2), (0, .ref (B + x0)), (1, .int x1), (2, .int x2)]) hx hb dX8_spot_5 hl (by decide) rfl (fun ls hl => ?_)
  obtain ⟨e2, hwe2, hf⟩ := ob hf
  refine whl_rule (P := (fun t1 => ∀ (H : Heap) (locs : List Loc) (ls : Array Slot), Rl B D cA m H → va_S (fun q => B ≤ q) s.heap H locs → lv_has ls 5 [(0, .ref (B + x0)), (1, .int x1), (3, .int t1.1), (4, .int t1.2)] → W p l e (rmm 0 0 0 0) s mt args below meth c H locs 0 0 (MQ below (mQ B D cA (some (.int rZ)) m) args s 0 0 (fun q => B ≤ q)) (F0 mt 7 ls []))) (Qx := (fun e2 => (match e2 with | .inl a0 => (∀ (H : Heap) (locs : List Loc) (ls : Array Slot), Rl B D cA m H → va_S (fun q => B ≤ q) s.heap H locs → lv_has ls 5 [(0, .ref (B + x0)), (1, .int x1)] → W p l e (rmm 0 0 0 0) s mt args below meth c H locs 0 0 (MQ below (mQ B D cA (some (.int rZ)) m) args s 0 0 (fun q => B ≤ q)) (F0 mt 45 ls [])) | .inr b0 => ∀ (H : Heap) (locs : List Loc) (ls : Array Slot), Rl B D cA m H → va_S (fun q => B ≤ q) s.heap H locs → lv_has ls 5 [(4, .int b0)] → W p l e (rmm 0 0 0 0) s mt args below meth c H locs 0 0 (MQ below (mQ B D cA (some (.int rZ)) m) args s 0 0 (fun q => B ≤ q)) (F0 mt 33 ls [])))) ?_ FU _ e2 hwe2 ?_ H locs ls hR hS (lv_sub hl [2, 3, 1, 0] rfl)
  · clear hwe2 hf
    intro t1 q3 hf hxlq3 hxrq3 H locs ls hR hS hl
    obtain ⟨z4, z5⟩ := t1
    have hf : f_X8_spot_L7 m x0 x1 z4 z5 = some q3 := hf
    have hR : Rl B D cA m H := hR
    have hl : lv_has ls 5 [(0, .ref (B + x0)), (1, .int x1), (3, .int z4), (4, .int z5)] := hl
    unfold f_X8_spot_L7 at hf
    refine lv_iload hx hb dX8_spot_7 (lv_at hl 3 rfl) ?_
    refine lv_aload_n hx hb dX8_spot_9 rfl (lv_at hl 0 rfl) ?_
    obtain ⟨v6, g7, hf⟩ := ob hf
    refine gR_X8_26 X hR g7 dX8_spot_10 ?_
    refine lv_iload_n hx hb dX8_spot_13 rfl (lv_at hl 1 rfl) ?_
    obtain ⟨v8, g9, hf⟩ := ob hf
    refine r_lI X hR g9 dX8_spot_14 ?_
    refine lv_icmp_ge (tgt := 45) hx hb dX8_spot_15 (by decide) (fun c10 => ?_) (fun c10 => ?_)
    · rw [if_pos c10] at hf
      obtain rfl := Option.some.inj hf
      exact hxrq3 _ rfl H locs ls hR hS (lv_sub hl [0, 1] rfl)
    · rw [if_neg c10] at hf
      refine lv_aload_n hx hb dX8_spot_18 rfl (lv_at hl 0 rfl) ?_
      obtain ⟨v11, g12, hf⟩ := ob hf
      refine gR_X8_29 X hR g12 dX8_spot_19 ?_
      refine lv_iload hx hb dX8_spot_22 (lv_at hl 3 rfl) ?_
      obtain ⟨v13, g14, hf⟩ := ob hf
      refine r_lI X hR g14 dX8_spot_24 ?_
      refine lv_iload_n hx hb dX8_spot_25 rfl (lv_at hl 1 rfl) ?_
      refine lv_icmp_ne (tgt := 39) hx hb dX8_spot_26 (by decide) (fun c15 => ?_) (fun c15 => ?_)
      · rw [if_neg c15] at hf
        refine lv_iinc (v := (z5 + 1)) (lv' := [(4, .int (z5 + 1)), (0, .ref (B + x0)), (1, .int x1), (3, .int z4)]) hx hb dX8_spot_39 hl (k := 3) rfl (congrArg (fun z => z5 + z) (by decide)) (by decide) rfl (fun ls hl => ?_)
        refine lv_goto (tgt := 7) hx hb dX8_spot_42 (by decide) ?_
        obtain rfl := Option.some.inj hf
        exact hxlq3 _ rfl H locs ls hR hS (lv_sub hl [1, 2, 3, 0] rfl)
      · rw [if_pos c15] at hf
        refine lv_iload_n hx hb dX8_spot_29 rfl (lv_at hl 2 rfl) ?_
        refine lv_if_ne (tgt := 36) hx hb dX8_spot_30 (by decide) (fun c16 => ?_) (fun c16 => ?_)
        · rw [if_neg c16] at hf
          refine lv_iinc (v := (z4 + (-1))) (lv' := [(3, .int (z4 + (-1))), (0, .ref (B + x0)), (1, .int x1), (4, .int z5)]) hx hb dX8_spot_36 hl (k := 2) rfl (congrArg (fun z => z4 + z) (by decide)) (by decide) rfl (fun ls hl => ?_)
          refine lv_iinc (v := (z5 + 1)) (lv' := [(4, .int (z5 + 1)), (3, .int (z4 + (-1))), (0, .ref (B + x0)), (1, .int x1)]) hx hb dX8_spot_39 hl (k := 3) rfl (congrArg (fun z => z5 + z) (by decide)) (by decide) rfl (fun ls hl => ?_)
          refine lv_goto (tgt := 7) hx hb dX8_spot_42 (by decide) ?_
          obtain rfl := Option.some.inj hf
          exact hxlq3 _ rfl H locs ls hR hS (lv_sub hl [2, 3, 1, 0] rfl)
        · rw [if_pos c16] at hf
          obtain rfl := Option.some.inj hf
          exact hxrq3 _ rfl H locs ls hR hS (lv_sub hl [3] rfl)
  · clear hwe2
    revert hf
    cases e2 with
    | inl a0e2 =>
      intro hf H locs ls hR hS hl
      refine lv_aload_n hx hb dX8_spot_45 rfl (lv_at hl 0 rfl) ?_
      obtain ⟨v17, g18, hf⟩ := ob hf
      refine gR_X8_26 X hR g18 dX8_spot_46 ?_
      refine lv_iload_n hx hb dX8_spot_49 rfl (lv_at hl 1 rfl) ?_
      obtain ⟨v19, g20, hf⟩ := ob hf
      refine r_lI X hR g20 dX8_spot_50 ?_
      obtain rfl := Option.some.inj hf
      exact r_iret X hr hlocks hR hS rfl dX8_spot_51
    | inr b0e2 =>
      intro hf H locs ls hR hS hl
      refine lv_iload hx hb dX8_spot_33 (lv_at hl 0 rfl) ?_
      obtain rfl := Option.some.inj hf
      exact r_iret X hr hlocks hR hS rfl dX8_spot_35
/-! ===== TwigMatchesModel.copies(II)V ===== -/
theorem dX8_copies_0 : decode cX8_copies 0 = .ok (.aload_n 0, 1) := by decide +kernel
theorem dX8_copies_1 : decode cX8_copies 1 = .ok (.getfield 17, 3) := by decide +kernel
theorem dX8_copies_4 : decode cX8_copies 4 = .ok (.iload_n 1, 1) := by decide +kernel
theorem dX8_copies_5 : decode cX8_copies 5 = .ok (.aload_n 0, 1) := by decide +kernel
theorem dX8_copies_6 : decode cX8_copies 6 = .ok (.getfield 17, 3) := by decide +kernel
theorem dX8_copies_9 : decode cX8_copies 9 = .ok (.iload_n 2, 1) := by decide +kernel
theorem dX8_copies_10 : decode cX8_copies 10 = .ok (.iaload, 1) := by decide +kernel
theorem dX8_copies_11 : decode cX8_copies 11 = .ok (.iastore, 1) := by decide +kernel
theorem dX8_copies_12 : decode cX8_copies 12 = .ok (.aload_n 0, 1) := by decide +kernel
theorem dX8_copies_13 : decode cX8_copies 13 = .ok (.getfield 20, 3) := by decide +kernel
theorem dX8_copies_16 : decode cX8_copies 16 = .ok (.iload_n 1, 1) := by decide +kernel
theorem dX8_copies_17 : decode cX8_copies 17 = .ok (.aload_n 0, 1) := by decide +kernel
theorem dX8_copies_18 : decode cX8_copies 18 = .ok (.getfield 20, 3) := by decide +kernel
theorem dX8_copies_21 : decode cX8_copies 21 = .ok (.iload_n 2, 1) := by decide +kernel
theorem dX8_copies_22 : decode cX8_copies 22 = .ok (.iaload, 1) := by decide +kernel
theorem dX8_copies_23 : decode cX8_copies 23 = .ok (.iastore, 1) := by decide +kernel
theorem dX8_copies_24 : decode cX8_copies 24 = .ok (.aload_n 0, 1) := by decide +kernel
theorem dX8_copies_25 : decode cX8_copies 25 = .ok (.getfield 23, 3) := by decide +kernel
theorem dX8_copies_28 : decode cX8_copies 28 = .ok (.iload_n 1, 1) := by decide +kernel
theorem dX8_copies_29 : decode cX8_copies 29 = .ok (.aload_n 0, 1) := by decide +kernel
theorem dX8_copies_30 : decode cX8_copies 30 = .ok (.getfield 23, 3) := by decide +kernel
theorem dX8_copies_33 : decode cX8_copies 33 = .ok (.iload_n 2, 1) := by decide +kernel
theorem dX8_copies_34 : decode cX8_copies 34 = .ok (.iaload, 1) := by decide +kernel
theorem dX8_copies_35 : decode cX8_copies 35 = .ok (.iastore, 1) := by decide +kernel
theorem dX8_copies_36 : decode cX8_copies 36 = .ok (.return_, 1) := by decide +kernel
set_option maxHeartbeats 4000000 in
set_option maxRecDepth 100000 in
theorem c_X8_copies (l : Launch) (B : Nat) (D : va_G) (cA : Nat → ClassId) (m : Mm) (x0 : Nat) (x1 : Int32) (x2 : Int32) (mZ : Mm) (hf : f_X8_copies m x0 x1 x2 = some mZ) : Mt l B D cA yX8_copies cX8_copies 3 none 0 0 0 0 [.ref (B + x0), .int x1, .int x2] m none mZ := by
  refine r_start (by decide) (Nat.le_of_ble_eq_true rfl) ?_
  intro p e s mt args below meth c ls H locs X hr hlocks hnm hR hl hS
  have hx := X.1
  have hb := X.2.1
  have hl : lv_has ls 3 [(0, .ref (B + x0)), (1, .int x1), (2, .int x2)] := hl
  unfold f_X8_copies at hf
  refine lv_aload_n hx hb dX8_copies_0 rfl (lv_at hl 0 rfl) ?_
  obtain ⟨v1, g2, hf⟩ := ob hf
  refine gR_X8_17 X hR g2 dX8_copies_1 ?_
  refine lv_iload_n hx hb dX8_copies_4 rfl (lv_at hl 1 rfl) ?_
  refine lv_aload_n hx hb dX8_copies_5 rfl (lv_at hl 0 rfl) ?_
  obtain ⟨v3, g4, hf⟩ := ob hf
  refine gR_X8_17 X hR g4 dX8_copies_6 ?_
  refine lv_iload_n hx hb dX8_copies_9 rfl (lv_at hl 2 rfl) ?_
  obtain ⟨v5, g6, hf⟩ := ob hf
  refine r_lI X hR g6 dX8_copies_10 ?_
  obtain ⟨m7, g8, hf⟩ := ob hf
  refine r_sI X hR hS g8 dX8_copies_11 (fun H locs hR hS => ?_)
  refine lv_aload_n hx hb dX8_copies_12 rfl (lv_at hl 0 rfl) ?_
  obtain ⟨v9, g10, hf⟩ := ob hf
  refine gR_X8_20 X hR g10 dX8_copies_13 ?_
  refine lv_iload_n hx hb dX8_copies_16 rfl (lv_at hl 1 rfl) ?_
  refine lv_aload_n hx hb dX8_copies_17 rfl (lv_at hl 0 rfl) ?_
  obtain ⟨v11, g12, hf⟩ := ob hf
  refine gR_X8_20 X hR g12 dX8_copies_18 ?_
  refine lv_iload_n hx hb dX8_copies_21 rfl (lv_at hl 2 rfl) ?_
  obtain ⟨v13, g14, hf⟩ := ob hf
  refine r_lI X hR g14 dX8_copies_22 ?_
  obtain ⟨m15, g16, hf⟩ := ob hf
  refine r_sI X hR hS g16 dX8_copies_23 (fun H locs hR hS => ?_)
  refine lv_aload_n hx hb dX8_copies_24 rfl (lv_at hl 0 rfl) ?_
  obtain ⟨v17, g18, hf⟩ := ob hf
  refine gR_X8_23 X hR g18 dX8_copies_25 ?_
  refine lv_iload_n hx hb dX8_copies_28 rfl (lv_at hl 1 rfl) ?_
  refine lv_aload_n hx hb dX8_copies_29 rfl (lv_at hl 0 rfl) ?_
  obtain ⟨v19, g20, hf⟩ := ob hf
  refine gR_X8_23 X hR g20 dX8_copies_30 ?_
  refine lv_iload_n hx hb dX8_copies_33 rfl (lv_at hl 2 rfl) ?_
  obtain ⟨v21, g22, hf⟩ := ob hf
  refine r_lI X hR g22 dX8_copies_34 ?_
  obtain ⟨m23, g24, hf⟩ := ob hf
  refine r_sI X hR hS g24 dX8_copies_35 (fun H locs hR hS => ?_)
  obtain rfl := Option.some.inj hf
  exact r_vret X hr hlocks hR hS dX8_copies_36
/-! ===== TwigMatchesModel.makesRoom(II)V ===== -/
theorem dX8_makesRoom_0 : decode cX8_makesRoom 0 = .ok (.aload_n 0, 1) := by decide +kernel
theorem dX8_makesRoom_1 : decode cX8_makesRoom 1 = .ok (.getfield 13, 3) := by decide +kernel
theorem dX8_makesRoom_4 : decode cX8_makesRoom 4 = .ok (.iconst 1, 1) := by decide +kernel
theorem dX8_makesRoom_5 : decode cX8_makesRoom 5 = .ok (.isub, 1) := by decide +kernel
theorem dX8_makesRoom_6 : decode cX8_makesRoom 6 = .ok (.istore_n 3, 1) := by decide +kernel
theorem dX8_makesRoom_7 : decode cX8_makesRoom 7 = .ok (.iload_n 3, 1) := by decide +kernel
theorem dX8_makesRoom_8 : decode cX8_makesRoom 8 = .ok (.iload_n 1, 1) := by decide +kernel
theorem dX8_makesRoom_9 : decode cX8_makesRoom 9 = .ok (.if_icmp .lt 17, 3) := by decide +kernel
theorem dX8_makesRoom_12 : decode cX8_makesRoom 12 = .ok (.aload_n 0, 1) := by decide +kernel
theorem dX8_makesRoom_13 : decode cX8_makesRoom 13 = .ok (.iload_n 3, 1) := by decide +kernel
theorem dX8_makesRoom_14 : decode cX8_makesRoom 14 = .ok (.iload_n 2, 1) := by decide +kernel
theorem dX8_makesRoom_15 : decode cX8_makesRoom 15 = .ok (.iadd, 1) := by decide +kernel
theorem dX8_makesRoom_16 : decode cX8_makesRoom 16 = .ok (.iload_n 3, 1) := by decide +kernel
theorem dX8_makesRoom_17 : decode cX8_makesRoom 17 = .ok (.invokevirtual 94, 3) := by decide +kernel
theorem dX8_makesRoom_20 : decode cX8_makesRoom 20 = .ok (.iinc 3 (-1), 3) := by decide +kernel
theorem dX8_makesRoom_23 : decode cX8_makesRoom 23 = .ok (.goto (-16), 3) := by decide +kernel
theorem dX8_makesRoom_26 : decode cX8_makesRoom 26 = .ok (.aload_n 0, 1) := by decide +kernel
theorem dX8_makesRoom_27 : decode cX8_makesRoom 27 = .ok (.dup, 1) := by decide +kernel
theorem dX8_makesRoom_28 : decode cX8_makesRoom 28 = .ok (.getfield 13, 3) := by decide +kernel
theorem dX8_makesRoom_31 : decode cX8_makesRoom 31 = .ok (.iload_n 2, 1) := by decide +kernel
theorem dX8_makesRoom_32 : decode cX8_makesRoom 32 = .ok (.iadd, 1) := by decide +kernel
theorem dX8_makesRoom_33 : decode cX8_makesRoom 33 = .ok (.putfield 13, 3) := by decide +kernel
theorem dX8_makesRoom_36 : decode cX8_makesRoom 36 = .ok (.return_, 1) := by decide +kernel
set_option maxHeartbeats 4000000 in
set_option maxRecDepth 100000 in
theorem c_X8_makesRoom (l : Launch) (B : Nat) (D : va_G) (cA : Nat → ClassId) (m : Mm) (x0 : Nat) (x1 : Int32) (x2 : Int32) (mZ : Mm) (hf : f_X8_makesRoom m x0 x1 x2 = some mZ) : Mt l B D cA yX8_makesRoom cX8_makesRoom 4 none 1 22 0 0 [.ref (B + x0), .int x1, .int x2] m none mZ := by
  refine r_start (by decide) (Nat.le_of_ble_eq_true rfl) ?_
  intro p e s mt args below meth c ls H locs X hr hlocks hnm hR hl hS
  have hx := X.1
  have hb := X.2.1
  have hl : lv_has ls 4 [(0, .ref (B + x0)), (1, .int x1), (2, .int x2)] := hl
  unfold f_X8_makesRoom at hf
  refine lv_aload_n hx hb dX8_makesRoom_0 rfl (lv_at hl 0 rfl) ?_
  obtain ⟨v1, g2, hf⟩ := ob hf
  refine gI_X8_13 X hR g2 dX8_makesRoom_1 ?_
  refine lv_iconst (v := 1) hx hb dX8_makesRoom_4 (by decide) ?_
  refine lv_isub hx hb dX8_makesRoom_5 ?_
  refine lv_istore_n (lv' := [(3, .int (v1 - (1 : Int32))), (0, .ref (B + x0)), (1, .int x1), (2, .int x2)]) hx hb dX8_makesRoom_6 rfl hl (by decide) rfl (fun ls hl => ?_)
  obtain ⟨e4, hwe4, hf⟩ := ob hf
  refine whl_rule (P := (fun t3 => ∀ (H : Heap) (locs : List Loc) (ls : Array Slot), Rl B D cA t3.2 H → va_S (fun q => B ≤ q) s.heap H locs → lv_has ls 4 [(0, .ref (B + x0)), (1, .int x1), (2, .int x2), (3, .int t3.1)] → W p l e (rmm 1 0 0 22) s mt args below meth c H locs 0 0 (MQ below (mQ B D cA none mZ) args s 0 0 (fun q => B ≤ q)) (F0 mt 7 ls []))) (Qx := (fun e4 => ∀ (H : Heap) (locs : List Loc) (ls : Array Slot), Rl B D cA e4 H → va_S (fun q => B ≤ q) s.heap H locs → lv_has ls 4 [(0, .ref (B + x0)), (2, .int x2)] → W p l e (rmm 1 0 0 22) s mt args below meth c H locs 0 0 (MQ below (mQ B D cA none mZ) args s 0 0 (fun q => B ≤ q)) (F0 mt 26 ls []))) ?_ FU _ e4 hwe4 ?_ H locs ls hR hS (lv_sub hl [1, 2, 3, 0] rfl)
  · clear hwe4 hf
    intro t3 q5 hf hxlq5 hxrq5 H locs ls hR hS hl
    obtain ⟨z6, m7⟩ := t3
    have hf : f_X8_makesRoom_L7 m7 x0 x1 x2 z6 = some q5 := hf
    have hR : Rl B D cA m7 H := hR
    have hl : lv_has ls 4 [(0, .ref (B + x0)), (1, .int x1), (2, .int x2), (3, .int z6)] := hl
    unfold f_X8_makesRoom_L7 at hf
    refine lv_iload_n hx hb dX8_makesRoom_7 rfl (lv_at hl 3 rfl) ?_
    refine lv_iload_n hx hb dX8_makesRoom_8 rfl (lv_at hl 1 rfl) ?_
    refine lv_icmp_lt (tgt := 26) hx hb dX8_makesRoom_9 (by decide) (fun c8 => ?_) (fun c8 => ?_)
    · rw [if_pos c8] at hf
      obtain rfl := Option.some.inj hf
      exact hxrq5 _ rfl H locs ls hR hS (lv_sub hl [0, 2] rfl)
    · rw [if_neg c8] at hf
      refine lv_aload_n hx hb dX8_makesRoom_12 rfl (lv_at hl 0 rfl) ?_
      refine lv_iload_n hx hb dX8_makesRoom_13 rfl (lv_at hl 3 rfl) ?_
      refine lv_iload_n hx hb dX8_makesRoom_14 rfl (lv_at hl 2 rfl) ?_
      refine lv_iadd hx hb dX8_makesRoom_15 ?_
      refine lv_iload_n hx hb dX8_makesRoom_16 rfl (lv_at hl 3 rfl) ?_
      obtain ⟨o9, h10, hf⟩ := obO hf
      obtain ⟨m12, g11, hf⟩ := ob hf
      refine r_callV X kw_X8_94 (ci := 8) rfl (c_X8_copies l B D cA m7 x0 (z6 + x2) z6 m12 g11) ⟨Nat.le_of_ble_eq_true rfl, Nat.le_of_ble_eq_true rfl⟩ h10 hR hS hl.1 rfl rfl (Nat.le_of_ble_eq_true rfl) ⟨Nat.le_of_ble_eq_true rfl, Nat.le_of_ble_eq_true rfl⟩ dX8_makesRoom_17 (fun H locs hR hS => ?_)
      refine W.eq (g2 := F0 mt 20 ls []) rfl ?_
      refine lv_iinc (v := (z6 + (-1))) (lv' := [(3, .int (z6 + (-1))), (0, .ref (B + x0)), (1, .int x1), (2, .int x2)]) hx hb dX8_makesRoom_20 hl (k := 3) rfl (congrArg (fun z => z6 + z) (by decide)) (by decide) rfl (fun ls hl => ?_)
      refine lv_goto (tgt := 7) hx hb dX8_makesRoom_23 (by decide) ?_
      obtain rfl := Option.some.inj hf
      exact hxlq5 _ rfl H locs ls hR hS (lv_sub hl [1, 2, 3, 0] rfl)
  · intro H locs ls hR hS hl
    refine lv_aload_n hx hb dX8_makesRoom_26 rfl (lv_at hl 0 rfl) ?_
    refine lv_dup hx hb dX8_makesRoom_27 rfl ?_
    obtain ⟨v13, g14, hf⟩ := ob hf
    refine gI_X8_13 X hR g14 dX8_makesRoom_28 ?_
    refine lv_iload_n hx hb dX8_makesRoom_31 rfl (lv_at hl 1 rfl) ?_
    refine lv_iadd hx hb dX8_makesRoom_32 ?_
    obtain ⟨m15, g16, hf⟩ := ob hf
    refine pI_X8_13 X hR hS g16 dX8_makesRoom_33 (fun H locs hR hS => ?_)
    obtain rfl := Option.some.inj hf
    exact r_vret X hr hlocks hR hS dX8_makesRoom_36
/-! ===== TwigMatchesModel.closes(II)V ===== -/
theorem dX8_closes_0 : decode cX8_closes 0 = .ok (.iload_n 1, 1) := by decide +kernel
theorem dX8_closes_1 : decode cX8_closes 1 = .ok (.istore_n 3, 1) := by decide +kernel
theorem dX8_closes_2 : decode cX8_closes 2 = .ok (.iload_n 3, 1) := by decide +kernel
theorem dX8_closes_3 : decode cX8_closes 3 = .ok (.iload_n 2, 1) := by decide +kernel
theorem dX8_closes_4 : decode cX8_closes 4 = .ok (.iadd, 1) := by decide +kernel
theorem dX8_closes_5 : decode cX8_closes 5 = .ok (.aload_n 0, 1) := by decide +kernel
theorem dX8_closes_6 : decode cX8_closes 6 = .ok (.getfield 13, 3) := by decide +kernel
theorem dX8_closes_9 : decode cX8_closes 9 = .ok (.if_icmp .ge 17, 3) := by decide +kernel
theorem dX8_closes_12 : decode cX8_closes 12 = .ok (.aload_n 0, 1) := by decide +kernel
theorem dX8_closes_13 : decode cX8_closes 13 = .ok (.iload_n 3, 1) := by decide +kernel
theorem dX8_closes_14 : decode cX8_closes 14 = .ok (.iload_n 3, 1) := by decide +kernel
theorem dX8_closes_15 : decode cX8_closes 15 = .ok (.iload_n 2, 1) := by decide +kernel
theorem dX8_closes_16 : decode cX8_closes 16 = .ok (.iadd, 1) := by decide +kernel
theorem dX8_closes_17 : decode cX8_closes 17 = .ok (.invokevirtual 94, 3) := by decide +kernel
theorem dX8_closes_20 : decode cX8_closes 20 = .ok (.iinc 3 1, 3) := by decide +kernel
theorem dX8_closes_23 : decode cX8_closes 23 = .ok (.goto (-21), 3) := by decide +kernel
theorem dX8_closes_26 : decode cX8_closes 26 = .ok (.aload_n 0, 1) := by decide +kernel
theorem dX8_closes_27 : decode cX8_closes 27 = .ok (.dup, 1) := by decide +kernel
theorem dX8_closes_28 : decode cX8_closes 28 = .ok (.getfield 13, 3) := by decide +kernel
theorem dX8_closes_31 : decode cX8_closes 31 = .ok (.iload_n 2, 1) := by decide +kernel
theorem dX8_closes_32 : decode cX8_closes 32 = .ok (.isub, 1) := by decide +kernel
theorem dX8_closes_33 : decode cX8_closes 33 = .ok (.putfield 13, 3) := by decide +kernel
theorem dX8_closes_36 : decode cX8_closes 36 = .ok (.return_, 1) := by decide +kernel
set_option maxHeartbeats 4000000 in
set_option maxRecDepth 100000 in
theorem c_X8_closes (l : Launch) (B : Nat) (D : va_G) (cA : Nat → ClassId) (m : Mm) (x0 : Nat) (x1 : Int32) (x2 : Int32) (mZ : Mm) (hf : f_X8_closes m x0 x1 x2 = some mZ) : Mt l B D cA yX8_closes cX8_closes 4 none 1 22 0 0 [.ref (B + x0), .int x1, .int x2] m none mZ := by
  refine r_start (by decide) (Nat.le_of_ble_eq_true rfl) ?_
  intro p e s mt args below meth c ls H locs X hr hlocks hnm hR hl hS
  have hx := X.1
  have hb := X.2.1
  have hl : lv_has ls 4 [(0, .ref (B + x0)), (1, .int x1), (2, .int x2)] := hl
  unfold f_X8_closes at hf
  refine lv_iload_n hx hb dX8_closes_0 rfl (lv_at hl 1 rfl) ?_
  refine lv_istore_n (lv' := [(3, .int x1), (0, .ref (B + x0)), (1, .int x1), (2, .int x2)]) hx hb dX8_closes_1 rfl hl (by decide) rfl (fun ls hl => ?_)
  obtain ⟨e2, hwe2, hf⟩ := ob hf
  refine whl_rule (P := (fun t1 => ∀ (H : Heap) (locs : List Loc) (ls : Array Slot), Rl B D cA t1.2 H → va_S (fun q => B ≤ q) s.heap H locs → lv_has ls 4 [(0, .ref (B + x0)), (2, .int x2), (3, .int t1.1)] → W p l e (rmm 1 0 0 22) s mt args below meth c H locs 0 0 (MQ below (mQ B D cA none mZ) args s 0 0 (fun q => B ≤ q)) (F0 mt 2 ls []))) (Qx := (fun e2 => ∀ (H : Heap) (locs : List Loc) (ls : Array Slot), Rl B D cA e2 H → va_S (fun q => B ≤ q) s.heap H locs → lv_has ls 4 [(0, .ref (B + x0)), (2, .int x2)] → W p l e (rmm 1 0 0 22) s mt args below meth c H locs 0 0 (MQ below (mQ B D cA none mZ) args s 0 0 (fun q => B ≤ q)) (F0 mt 26 ls []))) ?_ FU _ e2 hwe2 ?_ H locs ls hR hS (lv_sub hl [1, 3, 0] rfl)
  · clear hwe2 hf
    intro t1 q3 hf hxlq3 hxrq3 H locs ls hR hS hl
    obtain ⟨z4, m5⟩ := t1
    have hf : f_X8_closes_L2 m5 x0 x2 z4 = some q3 := hf
    have hR : Rl B D cA m5 H := hR
    have hl : lv_has ls 4 [(0, .ref (B + x0)), (2, .int x2), (3, .int z4)] := hl
    unfold f_X8_closes_L2 at hf
    refine lv_iload_n hx hb dX8_closes_2 rfl (lv_at hl 2 rfl) ?_
    refine lv_iload_n hx hb dX8_closes_3 rfl (lv_at hl 1 rfl) ?_
    refine lv_iadd hx hb dX8_closes_4 ?_
    refine lv_aload_n hx hb dX8_closes_5 rfl (lv_at hl 0 rfl) ?_
    obtain ⟨v6, g7, hf⟩ := ob hf
    refine gI_X8_13 X hR g7 dX8_closes_6 ?_
    refine lv_icmp_ge (tgt := 26) hx hb dX8_closes_9 (by decide) (fun c8 => ?_) (fun c8 => ?_)
    · rw [if_pos c8] at hf
      obtain rfl := Option.some.inj hf
      exact hxrq3 _ rfl H locs ls hR hS (lv_sub hl [0, 1] rfl)
    · rw [if_neg c8] at hf
      refine lv_aload_n hx hb dX8_closes_12 rfl (lv_at hl 0 rfl) ?_
      refine lv_iload_n hx hb dX8_closes_13 rfl (lv_at hl 2 rfl) ?_
      refine lv_iload_n hx hb dX8_closes_14 rfl (lv_at hl 2 rfl) ?_
      refine lv_iload_n hx hb dX8_closes_15 rfl (lv_at hl 1 rfl) ?_
      refine lv_iadd hx hb dX8_closes_16 ?_
      obtain ⟨o9, h10, hf⟩ := obO hf
      obtain ⟨m12, g11, hf⟩ := ob hf
      refine r_callV X kw_X8_94 (ci := 8) rfl (c_X8_copies l B D cA m5 x0 z4 (z4 + x2) m12 g11) ⟨Nat.le_of_ble_eq_true rfl, Nat.le_of_ble_eq_true rfl⟩ h10 hR hS hl.1 rfl rfl (Nat.le_of_ble_eq_true rfl) ⟨Nat.le_of_ble_eq_true rfl, Nat.le_of_ble_eq_true rfl⟩ dX8_closes_17 (fun H locs hR hS => ?_)
      refine W.eq (g2 := F0 mt 20 ls []) rfl ?_
      refine lv_iinc (v := (z4 + 1)) (lv' := [(3, .int (z4 + 1)), (0, .ref (B + x0)), (2, .int x2)]) hx hb dX8_closes_20 hl (k := 2) rfl (congrArg (fun z => z4 + z) (by decide)) (by decide) rfl (fun ls hl => ?_)
      refine lv_goto (tgt := 2) hx hb dX8_closes_23 (by decide) ?_
      obtain rfl := Option.some.inj hf
      exact hxlq3 _ rfl H locs ls hR hS (lv_sub hl [1, 2, 0] rfl)
  · intro H locs ls hR hS hl
    refine lv_aload_n hx hb dX8_closes_26 rfl (lv_at hl 0 rfl) ?_
    refine lv_dup hx hb dX8_closes_27 rfl ?_
    obtain ⟨v13, g14, hf⟩ := ob hf
    refine gI_X8_13 X hR g14 dX8_closes_28 ?_
    refine lv_iload_n hx hb dX8_closes_31 rfl (lv_at hl 1 rfl) ?_
    refine lv_isub hx hb dX8_closes_32 ?_
    obtain ⟨m15, g16, hf⟩ := ob hf
    refine pI_X8_13 X hR hS g16 dX8_closes_33 (fun H locs hR hS => ?_)
    obtain rfl := Option.some.inj hf
    exact r_vret X hr hlocks hR hS dX8_closes_36
/-! ===== TwigMatchesModel.cell(III)I ===== -/
theorem dX8_cell_0 : decode cX8_cell 0 = .ok (.bipush 36, 2) := by decide +kernel
theorem dX8_cell_2 : decode cX8_cell 2 = .ok (.iload_n 0, 1) := by decide +kernel
theorem dX8_cell_3 : decode cX8_cell 3 = .ok (.imul, 1) := by decide +kernel
theorem dX8_cell_4 : decode cX8_cell 4 = .ok (.bipush 6, 2) := by decide +kernel
theorem dX8_cell_6 : decode cX8_cell 6 = .ok (.iload_n 1, 1) := by decide +kernel
theorem dX8_cell_7 : decode cX8_cell 7 = .ok (.imul, 1) := by decide +kernel
theorem dX8_cell_8 : decode cX8_cell 8 = .ok (.iadd, 1) := by decide +kernel
theorem dX8_cell_9 : decode cX8_cell 9 = .ok (.iload_n 2, 1) := by decide +kernel
theorem dX8_cell_10 : decode cX8_cell 10 = .ok (.iadd, 1) := by decide +kernel
theorem dX8_cell_11 : decode cX8_cell 11 = .ok (.ireturn, 1) := by decide +kernel
set_option maxHeartbeats 4000000 in
set_option maxRecDepth 100000 in
theorem c_X8_cell (l : Launch) (B : Nat) (D : va_G) (cA : Nat → ClassId) (m : Mm) (x0 : Int32) (x1 : Int32) (x2 : Int32) (rZ : Int32) (hf : f_X8_cell m x0 x1 x2 = some rZ) : Mt l B D cA yX8_cell cX8_cell 3 (some .int) 0 0 0 0 [.int x0, .int x1, .int x2] m (some (.int rZ)) m := by
  refine r_start (by decide) (Nat.le_of_ble_eq_true rfl) ?_
  intro p e s mt args below meth c ls H locs X hr hlocks hnm hR hl hS
  have hx := X.1
  have hb := X.2.1
  have hl : lv_has ls 3 [(0, .int x0), (1, .int x1), (2, .int x2)] := hl
  unfold f_X8_cell at hf
  refine lv_bipush (v := 36) hx hb dX8_cell_0 (by decide) ?_
  refine lv_iload_n hx hb dX8_cell_2 rfl (lv_at hl 0 rfl) ?_
  refine lv_imul hx hb dX8_cell_3 ?_
  refine lv_bipush (v := 6) hx hb dX8_cell_4 (by decide) ?_
  refine lv_iload_n hx hb dX8_cell_6 rfl (lv_at hl 1 rfl) ?_
  refine lv_imul hx hb dX8_cell_7 ?_
  refine lv_iadd hx hb dX8_cell_8 ?_
  refine lv_iload_n hx hb dX8_cell_9 rfl (lv_at hl 2 rfl) ?_
  refine lv_iadd hx hb dX8_cell_10 ?_
  obtain rfl := Option.some.inj hf
  exact r_iret X hr hlocks hR hS rfl dX8_cell_11
/-! ===== TwigMatchesModel.tagOf(II)I ===== -/
theorem dX8_tagOf_0 : decode cX8_tagOf 0 = .ok (.aload_n 0, 1) := by decide +kernel
theorem dX8_tagOf_1 : decode cX8_tagOf 1 = .ok (.getfield 35, 3) := by decide +kernel
theorem dX8_tagOf_4 : decode cX8_tagOf 4 = .ok (.iload_n 1, 1) := by decide +kernel
theorem dX8_tagOf_5 : decode cX8_tagOf 5 = .ok (.iload_n 2, 1) := by decide +kernel
theorem dX8_tagOf_6 : decode cX8_tagOf 6 = .ok (.iconst 0, 1) := by decide +kernel
theorem dX8_tagOf_7 : decode cX8_tagOf 7 = .ok (.invokestatic 98, 3) := by decide +kernel
theorem dX8_tagOf_10 : decode cX8_tagOf 10 = .ok (.iaload, 1) := by decide +kernel
theorem dX8_tagOf_11 : decode cX8_tagOf 11 = .ok (.ireturn, 1) := by decide +kernel
set_option maxHeartbeats 4000000 in
set_option maxRecDepth 100000 in
theorem c_X8_tagOf (l : Launch) (B : Nat) (D : va_G) (cA : Nat → ClassId) (m : Mm) (x0 : Nat) (x1 : Int32) (x2 : Int32) (rZ : Int32) (hf : f_X8_tagOf m x0 x1 x2 = some rZ) : Mt l B D cA yX8_tagOf cX8_tagOf 3 (some .int) 1 22 0 0 [.ref (B + x0), .int x1, .int x2] m (some (.int rZ)) m := by
  refine r_start (by decide) (Nat.le_of_ble_eq_true rfl) ?_
  intro p e s mt args below meth c ls H locs X hr hlocks hnm hR hl hS
  have hx := X.1
  have hb := X.2.1
  have hl : lv_has ls 3 [(0, .ref (B + x0)), (1, .int x1), (2, .int x2)] := hl
  unfold f_X8_tagOf at hf
  refine lv_aload_n hx hb dX8_tagOf_0 rfl (lv_at hl 0 rfl) ?_
  obtain ⟨v1, g2, hf⟩ := ob hf
  refine gR_X8_35 X hR g2 dX8_tagOf_1 ?_
  refine lv_iload_n hx hb dX8_tagOf_4 rfl (lv_at hl 1 rfl) ?_
  refine lv_iload_n hx hb dX8_tagOf_5 rfl (lv_at hl 2 rfl) ?_
  refine lv_iconst (v := 0) hx hb dX8_tagOf_6 (by decide) ?_
  obtain ⟨v4, g3, hf⟩ := ob hf
  refine r_callS X kw_X8_98 (c_X8_cell l B D cA m x1 x2 (0 : Int32) v4 g3) ⟨Nat.le_of_ble_eq_true rfl, Nat.le_of_ble_eq_true rfl⟩ hR hS hl.1 rfl rfl (Nat.le_of_ble_eq_true rfl) ⟨Nat.le_of_ble_eq_true rfl, Nat.le_of_ble_eq_true rfl⟩ dX8_tagOf_7 (fun H locs hR hS => ?_)
  refine W.eq (g2 := F0 mt 10 ls [.int v4, .ref (B + v1)]) rfl ?_
  obtain ⟨v5, g6, hf⟩ := ob hf
  refine r_lI X hR g6 dX8_tagOf_10 ?_
  obtain rfl := Option.some.inj hf
  exact r_iret X hr hlocks hR hS rfl dX8_tagOf_11
/-! ===== TwigMatchesModel.jointOf(II)I ===== -/
theorem dX8_jointOf_0 : decode cX8_jointOf 0 = .ok (.aload_n 0, 1) := by decide +kernel
theorem dX8_jointOf_1 : decode cX8_jointOf 1 = .ok (.getfield 35, 3) := by decide +kernel
theorem dX8_jointOf_4 : decode cX8_jointOf 4 = .ok (.iload_n 1, 1) := by decide +kernel
theorem dX8_jointOf_5 : decode cX8_jointOf 5 = .ok (.iload_n 2, 1) := by decide +kernel
theorem dX8_jointOf_6 : decode cX8_jointOf 6 = .ok (.iconst 3, 1) := by decide +kernel
theorem dX8_jointOf_7 : decode cX8_jointOf 7 = .ok (.invokestatic 98, 3) := by decide +kernel
theorem dX8_jointOf_10 : decode cX8_jointOf 10 = .ok (.iaload, 1) := by decide +kernel
theorem dX8_jointOf_11 : decode cX8_jointOf 11 = .ok (.ireturn, 1) := by decide +kernel
set_option maxHeartbeats 4000000 in
set_option maxRecDepth 100000 in
theorem c_X8_jointOf (l : Launch) (B : Nat) (D : va_G) (cA : Nat → ClassId) (m : Mm) (x0 : Nat) (x1 : Int32) (x2 : Int32) (rZ : Int32) (hf : f_X8_jointOf m x0 x1 x2 = some rZ) : Mt l B D cA yX8_jointOf cX8_jointOf 3 (some .int) 1 22 0 0 [.ref (B + x0), .int x1, .int x2] m (some (.int rZ)) m := by
  refine r_start (by decide) (Nat.le_of_ble_eq_true rfl) ?_
  intro p e s mt args below meth c ls H locs X hr hlocks hnm hR hl hS
  have hx := X.1
  have hb := X.2.1
  have hl : lv_has ls 3 [(0, .ref (B + x0)), (1, .int x1), (2, .int x2)] := hl
  unfold f_X8_jointOf at hf
  refine lv_aload_n hx hb dX8_jointOf_0 rfl (lv_at hl 0 rfl) ?_
  obtain ⟨v1, g2, hf⟩ := ob hf
  refine gR_X8_35 X hR g2 dX8_jointOf_1 ?_
  refine lv_iload_n hx hb dX8_jointOf_4 rfl (lv_at hl 1 rfl) ?_
  refine lv_iload_n hx hb dX8_jointOf_5 rfl (lv_at hl 2 rfl) ?_
  refine lv_iconst (v := 3) hx hb dX8_jointOf_6 (by decide) ?_
  obtain ⟨v4, g3, hf⟩ := ob hf
  refine r_callS X kw_X8_98 (c_X8_cell l B D cA m x1 x2 (3 : Int32) v4 g3) ⟨Nat.le_of_ble_eq_true rfl, Nat.le_of_ble_eq_true rfl⟩ hR hS hl.1 rfl rfl (Nat.le_of_ble_eq_true rfl) ⟨Nat.le_of_ble_eq_true rfl, Nat.le_of_ble_eq_true rfl⟩ dX8_jointOf_7 (fun H locs hR hS => ?_)
  refine W.eq (g2 := F0 mt 10 ls [.int v4, .ref (B + v1)]) rfl ?_
  obtain ⟨v5, g6, hf⟩ := ob hf
  refine r_lI X hR g6 dX8_jointOf_10 ?_
  obtain rfl := Option.some.inj hf
  exact r_iret X hr hlocks hR hS rfl dX8_jointOf_11
/-! ===== TwigMatchesModel.isOrdered(II)Z ===== -/
theorem dX8_isOrdered_0 : decode cX8_isOrdered 0 = .ok (.aload_n 0, 1) := by decide +kernel
theorem dX8_isOrdered_1 : decode cX8_isOrdered 1 = .ok (.getfield 35, 3) := by decide +kernel
theorem dX8_isOrdered_4 : decode cX8_isOrdered 4 = .ok (.iload_n 1, 1) := by decide +kernel
theorem dX8_isOrdered_5 : decode cX8_isOrdered 5 = .ok (.iload_n 2, 1) := by decide +kernel
theorem dX8_isOrdered_6 : decode cX8_isOrdered 6 = .ok (.iconst 4, 1) := by decide +kernel
theorem dX8_isOrdered_7 : decode cX8_isOrdered 7 = .ok (.invokestatic 98, 3) := by decide +kernel
theorem dX8_isOrdered_10 : decode cX8_isOrdered 10 = .ok (.iaload, 1) := by decide +kernel
theorem dX8_isOrdered_11 : decode cX8_isOrdered 11 = .ok (.iconst 1, 1) := by decide +kernel
theorem dX8_isOrdered_12 : decode cX8_isOrdered 12 = .ok (.if_icmp .ne 7, 3) := by decide +kernel
theorem dX8_isOrdered_15 : decode cX8_isOrdered 15 = .ok (.iconst 1, 1) := by decide +kernel
theorem dX8_isOrdered_16 : decode cX8_isOrdered 16 = .ok (.goto 4, 3) := by decide +kernel
theorem dX8_isOrdered_19 : decode cX8_isOrdered 19 = .ok (.iconst 0, 1) := by decide +kernel
theorem dX8_isOrdered_20 : decode cX8_isOrdered 20 = .ok (.ireturn, 1) := by decide +kernel
set_option maxHeartbeats 4000000 in
set_option maxRecDepth 100000 in
theorem c_X8_isOrdered (l : Launch) (B : Nat) (D : va_G) (cA : Nat → ClassId) (m : Mm) (x0 : Nat) (x1 : Int32) (x2 : Int32) (rZ : Int32) (hf : f_X8_isOrdered m x0 x1 x2 = some rZ) : Mt l B D cA yX8_isOrdered cX8_isOrdered 3 (some .boolean) 1 22 0 0 [.ref (B + x0), .int x1, .int x2] m (some (.int rZ)) m := by
  refine r_start (by decide) (Nat.le_of_ble_eq_true rfl) ?_
  intro p e s mt args below meth c ls H locs X hr hlocks hnm hR hl hS
  have hx := X.1
  have hb := X.2.1
  have hl : lv_has ls 3 [(0, .ref (B + x0)), (1, .int x1), (2, .int x2)] := hl
  unfold f_X8_isOrdered at hf
  refine lv_aload_n hx hb dX8_isOrdered_0 rfl (lv_at hl 0 rfl) ?_
  obtain ⟨v1, g2, hf⟩ := ob hf
  refine gR_X8_35 X hR g2 dX8_isOrdered_1 ?_
  refine lv_iload_n hx hb dX8_isOrdered_4 rfl (lv_at hl 1 rfl) ?_
  refine lv_iload_n hx hb dX8_isOrdered_5 rfl (lv_at hl 2 rfl) ?_
  refine lv_iconst (v := 4) hx hb dX8_isOrdered_6 (by decide) ?_
  obtain ⟨v4, g3, hf⟩ := ob hf
  refine r_callS X kw_X8_98 (c_X8_cell l B D cA m x1 x2 (4 : Int32) v4 g3) ⟨Nat.le_of_ble_eq_true rfl, Nat.le_of_ble_eq_true rfl⟩ hR hS hl.1 rfl rfl (Nat.le_of_ble_eq_true rfl) ⟨Nat.le_of_ble_eq_true rfl, Nat.le_of_ble_eq_true rfl⟩ dX8_isOrdered_7 (fun H locs hR hS => ?_)
  refine W.eq (g2 := F0 mt 10 ls [.int v4, .ref (B + v1)]) rfl ?_
  obtain ⟨v5, g6, hf⟩ := ob hf
  refine r_lI X hR g6 dX8_isOrdered_10 ?_
  refine lv_iconst (v := 1) hx hb dX8_isOrdered_11 (by decide) ?_
  refine lv_icmp_ne (tgt := 19) hx hb dX8_isOrdered_12 (by decide) (fun c7 => ?_) (fun c7 => ?_)
  · rw [if_neg c7] at hf
    refine lv_iconst (v := 0) hx hb dX8_isOrdered_19 (by decide) ?_
    obtain rfl := Option.some.inj hf
    exact r_iret X hr hlocks hR hS rfl dX8_isOrdered_20
  · rw [if_pos c7] at hf
    refine lv_iconst (v := 1) hx hb dX8_isOrdered_15 (by decide) ?_
    refine lv_goto (tgt := 20) hx hb dX8_isOrdered_16 (by decide) ?_
    obtain rfl := Option.some.inj hf
    exact r_iret X hr hlocks hR hS rfl dX8_isOrdered_20
/-! ===== TwigMatchesModel.ofNode(II)I ===== -/
theorem dX8_ofNode_0 : decode cX8_ofNode 0 = .ok (.aload_n 0, 1) := by decide +kernel
theorem dX8_ofNode_1 : decode cX8_ofNode 1 = .ok (.getfield 35, 3) := by decide +kernel
theorem dX8_ofNode_4 : decode cX8_ofNode 4 = .ok (.iload_n 1, 1) := by decide +kernel
theorem dX8_ofNode_5 : decode cX8_ofNode 5 = .ok (.iload_n 2, 1) := by decide +kernel
theorem dX8_ofNode_6 : decode cX8_ofNode 6 = .ok (.iconst 5, 1) := by decide +kernel
theorem dX8_ofNode_7 : decode cX8_ofNode 7 = .ok (.invokestatic 98, 3) := by decide +kernel
theorem dX8_ofNode_10 : decode cX8_ofNode 10 = .ok (.iaload, 1) := by decide +kernel
theorem dX8_ofNode_11 : decode cX8_ofNode 11 = .ok (.ireturn, 1) := by decide +kernel
set_option maxHeartbeats 4000000 in
set_option maxRecDepth 100000 in
theorem c_X8_ofNode (l : Launch) (B : Nat) (D : va_G) (cA : Nat → ClassId) (m : Mm) (x0 : Nat) (x1 : Int32) (x2 : Int32) (rZ : Int32) (hf : f_X8_ofNode m x0 x1 x2 = some rZ) : Mt l B D cA yX8_ofNode cX8_ofNode 3 (some .int) 1 22 0 0 [.ref (B + x0), .int x1, .int x2] m (some (.int rZ)) m := by
  refine r_start (by decide) (Nat.le_of_ble_eq_true rfl) ?_
  intro p e s mt args below meth c ls H locs X hr hlocks hnm hR hl hS
  have hx := X.1
  have hb := X.2.1
  have hl : lv_has ls 3 [(0, .ref (B + x0)), (1, .int x1), (2, .int x2)] := hl
  unfold f_X8_ofNode at hf
  refine lv_aload_n hx hb dX8_ofNode_0 rfl (lv_at hl 0 rfl) ?_
  obtain ⟨v1, g2, hf⟩ := ob hf
  refine gR_X8_35 X hR g2 dX8_ofNode_1 ?_
  refine lv_iload_n hx hb dX8_ofNode_4 rfl (lv_at hl 1 rfl) ?_
  refine lv_iload_n hx hb dX8_ofNode_5 rfl (lv_at hl 2 rfl) ?_
  refine lv_iconst (v := 5) hx hb dX8_ofNode_6 (by decide) ?_
  obtain ⟨v4, g3, hf⟩ := ob hf
  refine r_callS X kw_X8_98 (c_X8_cell l B D cA m x1 x2 (5 : Int32) v4 g3) ⟨Nat.le_of_ble_eq_true rfl, Nat.le_of_ble_eq_true rfl⟩ hR hS hl.1 rfl rfl (Nat.le_of_ble_eq_true rfl) ⟨Nat.le_of_ble_eq_true rfl, Nat.le_of_ble_eq_true rfl⟩ dX8_ofNode_7 (fun H locs hR hS => ?_)
  refine W.eq (g2 := F0 mt 10 ls [.int v4, .ref (B + v1)]) rfl ?_
  obtain ⟨v5, g6, hf⟩ := ob hf
  refine r_lI X hR g6 dX8_ofNode_10 ?_
  obtain rfl := Option.some.inj hf
  exact r_iret X hr hlocks hR hS rfl dX8_ofNode_11
/-! ===== TwigMatchesModel.isTwig(I)Z ===== -/
theorem dX8_isTwig_0 : decode cX8_isTwig 0 = .ok (.iload_n 0, 1) := by decide +kernel
theorem dX8_isTwig_1 : decode cX8_isTwig 1 = .ok (.iconst 0, 1) := by decide +kernel
theorem dX8_isTwig_2 : decode cX8_isTwig 2 = .ok (.iconst 3, 1) := by decide +kernel
theorem dX8_isTwig_3 : decode cX8_isTwig 3 = .ok (.invokestatic 90, 3) := by decide +kernel
theorem dX8_isTwig_6 : decode cX8_isTwig 6 = .ok (.ireturn, 1) := by decide +kernel
set_option maxHeartbeats 4000000 in
set_option maxRecDepth 100000 in
theorem c_X8_isTwig (l : Launch) (B : Nat) (D : va_G) (cA : Nat → ClassId) (m : Mm) (x0 : Int32) (rZ : Int32) (hf : f_X8_isTwig m x0 = some rZ) : Mt l B D cA yX8_isTwig cX8_isTwig 1 (some .boolean) 1 22 0 0 [.int x0] m (some (.int rZ)) m := by
  refine r_start (by decide) (Nat.le_of_ble_eq_true rfl) ?_
  intro p e s mt args below meth c ls H locs X hr hlocks hnm hR hl hS
  have hx := X.1
  have hb := X.2.1
  have hl : lv_has ls 1 [(0, .int x0)] := hl
  unfold f_X8_isTwig at hf
  refine lv_iload_n hx hb dX8_isTwig_0 rfl (lv_at hl 0 rfl) ?_
  refine lv_iconst (v := 0) hx hb dX8_isTwig_1 (by decide) ?_
  refine lv_iconst (v := 3) hx hb dX8_isTwig_2 (by decide) ?_
  obtain ⟨v2, g1, hf⟩ := ob hf
  refine r_callS X kw_X8_90 (c_X8_in l B D cA m x0 (0 : Int32) (3 : Int32) v2 g1) ⟨Nat.le_of_ble_eq_true rfl, Nat.le_of_ble_eq_true rfl⟩ hR hS hl.1 rfl rfl (Nat.le_of_ble_eq_true rfl) ⟨Nat.le_of_ble_eq_true rfl, Nat.le_of_ble_eq_true rfl⟩ dX8_isTwig_3 (fun H locs hR hS => ?_)
  refine W.eq (g2 := F0 mt 6 ls [.int v2]) rfl ?_
  obtain ⟨h3, hf⟩ := obB hf
  obtain rfl := Option.some.inj hf
  exact r_iret X hr hlocks hR hS h3 dX8_isTwig_6
/-! ===== TwigMatchesModel.passes(III)Z ===== -/
theorem dX8_passes_0 : decode cX8_passes 0 = .ok (.aload_n 0, 1) := by decide +kernel
theorem dX8_passes_1 : decode cX8_passes 1 = .ok (.getfield 35, 3) := by decide +kernel
theorem dX8_passes_4 : decode cX8_passes 4 = .ok (.iload_n 1, 1) := by decide +kernel
theorem dX8_passes_5 : decode cX8_passes 5 = .ok (.iload_n 2, 1) := by decide +kernel
theorem dX8_passes_6 : decode cX8_passes 6 = .ok (.iconst 1, 1) := by decide +kernel
theorem dX8_passes_7 : decode cX8_passes 7 = .ok (.invokestatic 98, 3) := by decide +kernel
theorem dX8_passes_10 : decode cX8_passes 10 = .ok (.iaload, 1) := by decide +kernel
theorem dX8_passes_11 : decode cX8_passes 11 = .ok (.istore 4, 2) := by decide +kernel
theorem dX8_passes_13 : decode cX8_passes 13 = .ok (.aload_n 0, 1) := by decide +kernel
theorem dX8_passes_14 : decode cX8_passes 14 = .ok (.getfield 35, 3) := by decide +kernel
theorem dX8_passes_17 : decode cX8_passes 17 = .ok (.iload_n 1, 1) := by decide +kernel
theorem dX8_passes_18 : decode cX8_passes 18 = .ok (.iload_n 2, 1) := by decide +kernel
theorem dX8_passes_19 : decode cX8_passes 19 = .ok (.iconst 2, 1) := by decide +kernel
theorem dX8_passes_20 : decode cX8_passes 20 = .ok (.invokestatic 98, 3) := by decide +kernel
theorem dX8_passes_23 : decode cX8_passes 23 = .ok (.iaload, 1) := by decide +kernel
theorem dX8_passes_24 : decode cX8_passes 24 = .ok (.istore 5, 2) := by decide +kernel
theorem dX8_passes_26 : decode cX8_passes 26 = .ok (.iload 4, 2) := by decide +kernel
theorem dX8_passes_28 : decode cX8_passes 28 = .ok (.ifCond .eq 39, 3) := by decide +kernel
theorem dX8_passes_31 : decode cX8_passes 31 = .ok (.iload 4, 2) := by decide +kernel
theorem dX8_passes_33 : decode cX8_passes 33 = .ok (.iconst 1, 1) := by decide +kernel
theorem dX8_passes_34 : decode cX8_passes 34 = .ok (.if_icmp .ne 9, 3) := by decide +kernel
theorem dX8_passes_37 : decode cX8_passes 37 = .ok (.iload_n 3, 1) := by decide +kernel
theorem dX8_passes_38 : decode cX8_passes 38 = .ok (.iload 5, 2) := by decide +kernel
theorem dX8_passes_40 : decode cX8_passes 40 = .ok (.if_icmp .eq 27, 3) := by decide +kernel
theorem dX8_passes_43 : decode cX8_passes 43 = .ok (.iload 4, 2) := by decide +kernel
theorem dX8_passes_45 : decode cX8_passes 45 = .ok (.iconst 2, 1) := by decide +kernel
theorem dX8_passes_46 : decode cX8_passes 46 = .ok (.if_icmp .ne 9, 3) := by decide +kernel
theorem dX8_passes_49 : decode cX8_passes 49 = .ok (.iload_n 3, 1) := by decide +kernel
theorem dX8_passes_50 : decode cX8_passes 50 = .ok (.iload 5, 2) := by decide +kernel
theorem dX8_passes_52 : decode cX8_passes 52 = .ok (.if_icmp .lt 15, 3) := by decide +kernel
theorem dX8_passes_55 : decode cX8_passes 55 = .ok (.iload 4, 2) := by decide +kernel
theorem dX8_passes_57 : decode cX8_passes 57 = .ok (.iconst 3, 1) := by decide +kernel
theorem dX8_passes_58 : decode cX8_passes 58 = .ok (.if_icmp .ne 13, 3) := by decide +kernel
theorem dX8_passes_61 : decode cX8_passes 61 = .ok (.iload_n 3, 1) := by decide +kernel
theorem dX8_passes_62 : decode cX8_passes 62 = .ok (.iload 5, 2) := by decide +kernel
theorem dX8_passes_64 : decode cX8_passes 64 = .ok (.if_icmp .le 7, 3) := by decide +kernel
theorem dX8_passes_67 : decode cX8_passes 67 = .ok (.iconst 1, 1) := by decide +kernel
theorem dX8_passes_68 : decode cX8_passes 68 = .ok (.goto 4, 3) := by decide +kernel
theorem dX8_passes_71 : decode cX8_passes 71 = .ok (.iconst 0, 1) := by decide +kernel
theorem dX8_passes_72 : decode cX8_passes 72 = .ok (.ireturn, 1) := by decide +kernel
set_option maxHeartbeats 4000000 in
set_option maxRecDepth 100000 in
theorem c_X8_passes (l : Launch) (B : Nat) (D : va_G) (cA : Nat → ClassId) (m : Mm) (x0 : Nat) (x1 : Int32) (x2 : Int32) (x3 : Int32) (rZ : Int32) (hf : f_X8_passes m x0 x1 x2 x3 = some rZ) : Mt l B D cA yX8_passes cX8_passes 6 (some .boolean) 1 22 0 0 [.ref (B + x0), .int x1, .int x2, .int x3] m (some (.int rZ)) m := by
  refine r_start (by decide) (Nat.le_of_ble_eq_true rfl) ?_
  intro p e s mt args below meth c ls H locs X hr hlocks hnm hR hl hS
  have hx := X.1
  have hb := X.2.1
  have hl : lv_has ls 6 [(0, .ref (B + x0)), (1, .int x1), (2, .int x2), (3, .int x3)] := hl
  unfold f_X8_passes at hf
  refine lv_aload_n hx hb dX8_passes_0 rfl (lv_at hl 0 rfl) ?_
  obtain ⟨v1, g2, hf⟩ := ob hf
  refine gR_X8_35 X hR g2 dX8_passes_1 ?_
  refine lv_iload_n hx hb dX8_passes_4 rfl (lv_at hl 1 rfl) ?_
  refine lv_iload_n hx hb dX8_passes_5 rfl (lv_at hl 2 rfl) ?_
  refine lv_iconst (v := 1) hx hb dX8_passes_6 (by decide) ?_
  obtain ⟨v4, g3, hf⟩ := ob hf
  refine r_callS X kw_X8_98 (c_X8_cell l B D cA m x1 x2 (1 : Int32) v4 g3) ⟨Nat.le_of_ble_eq_true rfl, Nat.le_of_ble_eq_true rfl⟩ hR hS hl.1 rfl rfl (Nat.le_of_ble_eq_true rfl) ⟨Nat.le_of_ble_eq_true rfl, Nat.le_of_ble_eq_true rfl⟩ dX8_passes_7 (fun H locs hR hS => ?_)
  refine W.eq (g2 := F0 mt 10 ls [.int v4, .ref (B + v1)]) rfl ?_
  obtain ⟨v5, g6, hf⟩ := ob hf
  refine r_lI X hR g6 dX8_passes_10 ?_
  refine lv_istore (lv' := [(4, .int v5), (0, .ref (B + x0)), (1, .int x1), (2, .int x2), (3, .int x3)]) hx hb dX8_passes_11 hl (by decide) rfl (fun ls hl => ?_)
  refine lv_aload_n hx hb dX8_passes_13 rfl (lv_at hl 1 rfl) ?_
  obtain ⟨v7, g8, hf⟩ := ob hf
  refine gR_X8_35 X hR g8 dX8_passes_14 ?_
  refine lv_iload_n hx hb dX8_passes_17 rfl (lv_at hl 2 rfl) ?_
  refine lv_iload_n hx hb dX8_passes_18 rfl (lv_at hl 3 rfl) ?_
  refine lv_iconst (v := 2) hx hb dX8_passes_19 (by decide) ?_
  obtain ⟨v10, g9, hf⟩ := ob hf
  refine r_callS X kw_X8_98 (c_X8_cell l B D cA m x1 x2 (2 : Int32) v10 g9) ⟨Nat.le_of_ble_eq_true rfl, Nat.le_of_ble_eq_true rfl⟩ hR hS hl.1 rfl rfl (Nat.le_of_ble_eq_true rfl) ⟨Nat.le_of_ble_eq_true rfl, Nat.le_of_ble_eq_true rfl⟩ dX8_passes_20 (fun H locs hR hS => ?_)
  refine W.eq (g2 := F0 mt 23 ls [.int v10, .ref (B + v7)]) rfl ?_
  obtain ⟨v11, g12, hf⟩ := ob hf
  refine r_lI X hR g12 dX8_passes_23 ?_
  refine lv_istore (lv' := [(5, .int v11), (4, .int v5), (0, .ref (B + x0)), (1, .int x1), (2, .int x2), (3, .int x3)]) hx hb dX8_passes_24 hl (by decide) rfl (fun ls hl => ?_)
  refine lv_iload hx hb dX8_passes_26 (lv_at hl 1 rfl) ?_
  refine lv_if_eq (tgt := 67) hx hb dX8_passes_28 (by decide) (fun c13 => ?_) (fun c13 => ?_)
  · rw [if_pos c13] at hf
    refine lv_iconst (v := 1) hx hb dX8_passes_67 (by decide) ?_
    refine lv_goto (tgt := 72) hx hb dX8_passes_68 (by decide) ?_
    obtain rfl := Option.some.inj hf
    exact r_iret X hr hlocks hR hS rfl dX8_passes_72
  · rw [if_neg c13] at hf
    refine lv_iload hx hb dX8_passes_31 (lv_at hl 1 rfl) ?_
    refine lv_iconst (v := 1) hx hb dX8_passes_33 (by decide) ?_
    have hJ43 : ∀  (H : Heap) (locs : List Loc) (ls : Array Slot), f_X8_passes_J43 m x3 v5 v11 = some rZ → Rl B D cA m H → va_S (fun q => B ≤ q) s.heap H locs → lv_has ls 6 [(3, .int x3), (4, .int v5), (5, .int v11)] → W p l e (rmm 1 0 0 22) s mt args below meth c H locs 0 0 (MQ below (mQ B D cA (some (.int rZ)) m) args s 0 0 (fun q => B ≤ q)) (F0 mt 43 ls []) := by
      intro  H locs ls hf hR hS hl
      unfold f_X8_passes_J43 at hf
      refine lv_iload hx hb dX8_passes_43 (lv_at hl 1 rfl) ?_
      refine lv_iconst (v := 2) hx hb dX8_passes_45 (by decide) ?_
      have hJ55 : ∀  (H : Heap) (locs : List Loc) (ls : Array Slot), f_X8_passes_J55 m x3 v5 v11 = some rZ → Rl B D cA m H → va_S (fun q => B ≤ q) s.heap H locs → lv_has ls 6 [(3, .int x3), (4, .int v5), (5, .int v11)] → W p l e (rmm 1 0 0 22) s mt args below meth c H locs 0 0 (MQ below (mQ B D cA (some (.int rZ)) m) args s 0 0 (fun q => B ≤ q)) (F0 mt 55 ls []) := by
        intro  H locs ls hf hR hS hl
        unfold f_X8_passes_J55 at hf
        refine lv_iload hx hb dX8_passes_55 (lv_at hl 1 rfl) ?_
        refine lv_iconst (v := 3) hx hb dX8_passes_57 (by decide) ?_
        refine lv_icmp_ne (tgt := 71) hx hb dX8_passes_58 (by decide) (fun c14 => ?_) (fun c14 => ?_)
        · rw [if_neg c14] at hf
          refine lv_iconst (v := 0) hx hb dX8_passes_71 (by decide) ?_
          obtain rfl := Option.some.inj hf
          exact r_iret X hr hlocks hR hS rfl dX8_passes_72
        · rw [if_pos c14] at hf
          refine lv_iload_n hx hb dX8_passes_61 rfl (lv_at hl 0 rfl) ?_
          refine lv_iload hx hb dX8_passes_62 (lv_at hl 2 rfl) ?_
          refine lv_icmp_le (tgt := 71) hx hb dX8_passes_64 (by decide) (fun c15 => ?_) (fun c15 => ?_)
          · rw [if_pos c15] at hf
            refine lv_iconst (v := 0) hx hb dX8_passes_71 (by decide) ?_
            obtain rfl := Option.some.inj hf
            exact r_iret X hr hlocks hR hS rfl dX8_passes_72
          · rw [if_neg c15] at hf
            refine lv_iconst (v := 1) hx hb dX8_passes_67 (by decide) ?_
            refine lv_goto (tgt := 72) hx hb dX8_passes_68 (by decide) ?_
            obtain rfl := Option.some.inj hf
            exact r_iret X hr hlocks hR hS rfl dX8_passes_72
      refine lv_icmp_ne (tgt := 55) hx hb dX8_passes_46 (by decide) (fun c16 => ?_) (fun c16 => ?_)
      · rw [if_neg c16] at hf
        exact hJ55  H locs ls hf hR hS (lv_sub hl [0, 1, 2] rfl)
      · rw [if_pos c16] at hf
        refine lv_iload_n hx hb dX8_passes_49 rfl (lv_at hl 0 rfl) ?_
        refine lv_iload hx hb dX8_passes_50 (lv_at hl 2 rfl) ?_
        refine lv_icmp_lt (tgt := 67) hx hb dX8_passes_52 (by decide) (fun c17 => ?_) (fun c17 => ?_)
        · rw [if_pos c17] at hf
          refine lv_iconst (v := 1) hx hb dX8_passes_67 (by decide) ?_
          refine lv_goto (tgt := 72) hx hb dX8_passes_68 (by decide) ?_
          obtain rfl := Option.some.inj hf
          exact r_iret X hr hlocks hR hS rfl dX8_passes_72
        · rw [if_neg c17] at hf
          exact hJ55  H locs ls hf hR hS (lv_sub hl [0, 1, 2] rfl)
    refine lv_icmp_ne (tgt := 43) hx hb dX8_passes_34 (by decide) (fun c18 => ?_) (fun c18 => ?_)
    · rw [if_neg c18] at hf
      exact hJ43  H locs ls hf hR hS (lv_sub hl [5, 1, 0] rfl)
    · rw [if_pos c18] at hf
      refine lv_iload_n hx hb dX8_passes_37 rfl (lv_at hl 5 rfl) ?_
      refine lv_iload hx hb dX8_passes_38 (lv_at hl 0 rfl) ?_
      refine lv_icmp_eq (tgt := 67) hx hb dX8_passes_40 (by decide) (fun c19 => ?_) (fun c19 => ?_)
      · rw [if_pos c19] at hf
        refine lv_iconst (v := 1) hx hb dX8_passes_67 (by decide) ?_
        refine lv_goto (tgt := 72) hx hb dX8_passes_68 (by decide) ?_
        obtain rfl := Option.some.inj hf
        exact r_iret X hr hlocks hR hS rfl dX8_passes_72
      · rw [if_neg c19] at hf
        exact hJ43  H locs ls hf hR hS (lv_sub hl [5, 1, 0] rfl)
/-! ===== TwigMatchesModel.passing(II)I ===== -/
theorem dX8_passing_0 : decode cX8_passing 0 = .ok (.iconst 0, 1) := by decide +kernel
theorem dX8_passing_1 : decode cX8_passing 1 = .ok (.istore_n 3, 1) := by decide +kernel
theorem dX8_passing_2 : decode cX8_passing 2 = .ok (.iconst 0, 1) := by decide +kernel
theorem dX8_passing_3 : decode cX8_passing 3 = .ok (.istore 4, 2) := by decide +kernel
theorem dX8_passing_5 : decode cX8_passing 5 = .ok (.iload 4, 2) := by decide +kernel
theorem dX8_passing_7 : decode cX8_passing 7 = .ok (.bipush 10, 2) := by decide +kernel
theorem dX8_passing_9 : decode cX8_passing 9 = .ok (.if_icmp .ge 31, 3) := by decide +kernel
theorem dX8_passing_12 : decode cX8_passing 12 = .ok (.iload_n 3, 1) := by decide +kernel
theorem dX8_passing_13 : decode cX8_passing 13 = .ok (.aload_n 0, 1) := by decide +kernel
theorem dX8_passing_14 : decode cX8_passing 14 = .ok (.iload_n 1, 1) := by decide +kernel
theorem dX8_passing_15 : decode cX8_passing 15 = .ok (.iload_n 2, 1) := by decide +kernel
theorem dX8_passing_16 : decode cX8_passing 16 = .ok (.iload 4, 2) := by decide +kernel
theorem dX8_passing_18 : decode cX8_passing 18 = .ok (.invokevirtual 102, 3) := by decide +kernel
theorem dX8_passing_21 : decode cX8_passing 21 = .ok (.ifCond .eq 10, 3) := by decide +kernel
theorem dX8_passing_24 : decode cX8_passing 24 = .ok (.iconst 1, 1) := by decide +kernel
theorem dX8_passing_25 : decode cX8_passing 25 = .ok (.iload 4, 2) := by decide +kernel
theorem dX8_passing_27 : decode cX8_passing 27 = .ok (.ishl, 1) := by decide +kernel
theorem dX8_passing_28 : decode cX8_passing 28 = .ok (.goto 4, 3) := by decide +kernel
theorem dX8_passing_31 : decode cX8_passing 31 = .ok (.iconst 0, 1) := by decide +kernel
theorem dX8_passing_32 : decode cX8_passing 32 = .ok (.ior, 1) := by decide +kernel
theorem dX8_passing_33 : decode cX8_passing 33 = .ok (.istore_n 3, 1) := by decide +kernel
theorem dX8_passing_34 : decode cX8_passing 34 = .ok (.iinc 4 1, 3) := by decide +kernel
theorem dX8_passing_37 : decode cX8_passing 37 = .ok (.goto (-32), 3) := by decide +kernel
theorem dX8_passing_40 : decode cX8_passing 40 = .ok (.iload_n 3, 1) := by decide +kernel
theorem dX8_passing_41 : decode cX8_passing 41 = .ok (.ireturn, 1) := by decide +kernel
set_option maxHeartbeats 4000000 in
set_option maxRecDepth 100000 in
theorem c_X8_passing (l : Launch) (B : Nat) (D : va_G) (cA : Nat → ClassId) (m : Mm) (x0 : Nat) (x1 : Int32) (x2 : Int32) (rZ : Int32) (hf : f_X8_passing m x0 x1 x2 = some rZ) : Mt l B D cA yX8_passing cX8_passing 5 (some .int) 2 47 0 0 [.ref (B + x0), .int x1, .int x2] m (some (.int rZ)) m := by
  refine r_start (by decide) (Nat.le_of_ble_eq_true rfl) ?_
  intro p e s mt args below meth c ls H locs X hr hlocks hnm hR hl hS
  have hx := X.1
  have hb := X.2.1
  have hl : lv_has ls 5 [(0, .ref (B + x0)), (1, .int x1), (2, .int x2)] := hl
  unfold f_X8_passing at hf
  refine lv_iconst (v := 0) hx hb dX8_passing_0 (by decide) ?_
  refine lv_istore_n (lv' := [(3, .int (0 : Int32)), (0, .ref (B + x0)), (1, .int x1), (2, .int x2)]) hx hb dX8_passing_1 rfl hl (by decide) rfl (fun ls hl => ?_)
  refine lv_iconst (v := 0) hx hb dX8_passing_2 (by decide) ?_
  refine lv_istore (lv' := [(4, .int (0 : Int32)), (3, .int (0 : Int32)), (0, .ref (B + x0)), (1, .int x1), (2, .int x2)]) hx hb dX8_passing_3 hl (by decide) rfl (fun ls hl => ?_)
  obtain ⟨e2, hwe2, hf⟩ := ob hf
  refine whl_rule (P := (fun t1 => ∀ (H : Heap) (locs : List Loc) (ls : Array Slot), Rl B D cA m H → va_S (fun q => B ≤ q) s.heap H locs → lv_has ls 5 [(0, .ref (B + x0)), (1, .int x1), (2, .int x2), (3, .int t1.1), (4, .int t1.2)] → W p l e (rmm 2 0 0 47) s mt args below meth c H locs 0 0 (MQ below (mQ B D cA (some (.int rZ)) m) args s 0 0 (fun q => B ≤ q)) (F0 mt 5 ls []))) (Qx := (fun e2 => ∀ (H : Heap) (locs : List Loc) (ls : Array Slot), Rl B D cA m H → va_S (fun q => B ≤ q) s.heap H locs → lv_has ls 5 [(3, .int e2)] → W p l e (rmm 2 0 0 47) s mt args below meth c H locs 0 0 (MQ below (mQ B D cA (some (.int rZ)) m) args s 0 0 (fun q => B ≤ q)) (F0 mt 40 ls []))) ?_ FU _ e2 hwe2 ?_ H locs ls hR hS (lv_sub hl [2, 3, 4, 1, 0] rfl)
  · clear hwe2 hf
    intro t1 q3 hf hxlq3 hxrq3 H locs ls hR hS hl
    obtain ⟨z4, z5⟩ := t1
    have hf : f_X8_passing_L5 m x0 x1 x2 z4 z5 = some q3 := hf
    have hR : Rl B D cA m H := hR
    have hl : lv_has ls 5 [(0, .ref (B + x0)), (1, .int x1), (2, .int x2), (3, .int z4), (4, .int z5)] := hl
    unfold f_X8_passing_L5 at hf
    refine lv_iload hx hb dX8_passing_5 (lv_at hl 4 rfl) ?_
    refine lv_bipush (v := 10) hx hb dX8_passing_7 (by decide) ?_
    refine lv_icmp_ge (tgt := 40) hx hb dX8_passing_9 (by decide) (fun c6 => ?_) (fun c6 => ?_)
    · rw [if_pos c6] at hf
      obtain rfl := Option.some.inj hf
      exact hxrq3 _ rfl H locs ls hR hS (lv_sub hl [3] rfl)
    · rw [if_neg c6] at hf
      refine lv_iload_n hx hb dX8_passing_12 rfl (lv_at hl 3 rfl) ?_
      refine lv_aload_n hx hb dX8_passing_13 rfl (lv_at hl 0 rfl) ?_
      refine lv_iload_n hx hb dX8_passing_14 rfl (lv_at hl 1 rfl) ?_
      refine lv_iload_n hx hb dX8_passing_15 rfl (lv_at hl 2 rfl) ?_
      refine lv_iload hx hb dX8_passing_16 (lv_at hl 4 rfl) ?_
      obtain ⟨o7, h8, hf⟩ := obO hf
      obtain ⟨v10, g9, hf⟩ := ob hf
      refine r_callV X kw_X8_102 (ci := 8) rfl (c_X8_passes l B D cA m x0 x1 x2 z5 v10 g9) ⟨Nat.le_of_ble_eq_true rfl, Nat.le_of_ble_eq_true rfl⟩ h8 hR hS hl.1 rfl rfl (Nat.le_of_ble_eq_true rfl) ⟨Nat.le_of_ble_eq_true rfl, Nat.le_of_ble_eq_true rfl⟩ dX8_passing_18 (fun H locs hR hS => ?_)
      refine W.eq (g2 := F0 mt 21 ls [.int v10, .int z4]) rfl ?_
      refine lv_if_eq (tgt := 31) hx hb dX8_passing_21 (by decide) (fun c11 => ?_) (fun c11 => ?_)
      · rw [if_pos c11] at hf
        refine lv_iconst (v := 0) hx hb dX8_passing_31 (by decide) ?_
        refine lv_ior hx hb dX8_passing_32 ?_
        refine lv_istore_n (lv' := [(3, .int (z4 ||| (0 : Int32))), (0, .ref (B + x0)), (1, .int x1), (2, .int x2), (4, .int z5)]) hx hb dX8_passing_33 rfl hl (by decide) rfl (fun ls hl => ?_)
        refine lv_iinc (v := (z5 + 1)) (lv' := [(4, .int (z5 + 1)), (3, .int (z4 ||| (0 : Int32))), (0, .ref (B + x0)), (1, .int x1), (2, .int x2)]) hx hb dX8_passing_34 hl (k := 4) rfl (congrArg (fun z => z5 + z) (by decide)) (by decide) rfl (fun ls hl => ?_)
        refine lv_goto (tgt := 5) hx hb dX8_passing_37 (by decide) ?_
        obtain rfl := Option.some.inj hf
        exact hxlq3 _ rfl H locs ls hR hS (lv_sub hl [2, 3, 4, 1, 0] rfl)
      · rw [if_neg c11] at hf
        refine lv_iconst (v := 1) hx hb dX8_passing_24 (by decide) ?_
        refine lv_iload hx hb dX8_passing_25 (lv_at hl 4 rfl) ?_
        refine lv_ishl hx hb dX8_passing_27 ?_
        refine lv_goto (tgt := 32) hx hb dX8_passing_28 (by decide) ?_
        refine lv_ior hx hb dX8_passing_32 ?_
        refine lv_istore_n (lv' := [(3, .int (z4 ||| ((1 : Int32) <<< (z5 &&& 31)))), (0, .ref (B + x0)), (1, .int x1), (2, .int x2), (4, .int z5)]) hx hb dX8_passing_33 rfl hl (by decide) rfl (fun ls hl => ?_)
        refine lv_iinc (v := (z5 + 1)) (lv' := [(4, .int (z5 + 1)), (3, .int (z4 ||| ((1 : Int32) <<< (z5 &&& 31)))), (0, .ref (B + x0)), (1, .int x1), (2, .int x2)]) hx hb dX8_passing_34 hl (k := 4) rfl (congrArg (fun z => z5 + z) (by decide)) (by decide) rfl (fun ls hl => ?_)
        refine lv_goto (tgt := 5) hx hb dX8_passing_37 (by decide) ?_
        obtain rfl := Option.some.inj hf
        exact hxlq3 _ rfl H locs ls hR hS (lv_sub hl [2, 3, 4, 1, 0] rfl)
  · intro H locs ls hR hS hl
    refine lv_iload_n hx hb dX8_passing_40 rfl (lv_at hl 0 rfl) ?_
    obtain rfl := Option.some.inj hf
    exact r_iret X hr hlocks hR hS rfl dX8_passing_41
