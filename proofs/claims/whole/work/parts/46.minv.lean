/-! ===== the reference's memory that holds the state ===== -/
/-- a state in a row of ints, from b on -/
def KB (K : Int → Int) (b : Int) (S : TS) : Prop := K b = tn S ∧ WL (tn S) (tlv S) ∧ (∀ k, 0 ≤ k → k < tn S → K (b + 1 + k) = ttg S k ∧ K (b + 33 + k) = tvl S k ∧ K (b + 65 + k) = tlv S k ∧ 0 ≤ ttg S k ∧ ttg S k ≤ 5 ∧ 0 ≤ tvl S k ∧ tvl S k ≤ 9) ∧ ∀ i, 0 ≤ i → i < 4 → K (b + 97 + i) = tqn S i ∧ WW (tqn S i) (tnd S i) ∧ ∀ q w, 0 ≤ q → q < tqn S i → 0 ≤ w → w < 6 → K (b + 101 + (36 * i + 6 * q + w)) = tnd S i q w
theorem KB.to {K K' : Int → Int} {b b' : Int} {S : TS} (h : KB K b S) (he : ∀ x, 0 ≤ x → x < 245 → K' (b' + x) = K (b + x)) : KB K' b' S := by
  obtain ⟨h1, h2, h3, h4⟩ := h
  have hn := h2.2.1
  have hn1 := h2.1
  refine ⟨?_, h2, fun k k0 k1 => ?_, fun i i0 i1 => ?_⟩
  · have := he 0 (by omega) (by omega); simp only [Int.add_zero] at this; rw [this]; exact h1
  · obtain ⟨a1, a2, a3, a4⟩ := h3 k k0 k1
    have e1 := he (1 + k) (by omega) (by omega)
    have e2 := he (33 + k) (by omega) (by omega)
    have e3 := he (65 + k) (by omega) (by omega)
    simp only [← Int.add_assoc] at e1 e2 e3
    exact ⟨e1.trans a1, e2.trans a2, e3.trans a3, a4⟩
  · obtain ⟨a1, a2, a3⟩ := h4 i i0 i1
    have hq := a2.2.1
    have e1 := he (97 + i) (by omega) (by omega)
    rw [← Int.add_assoc, ← Int.add_assoc] at e1
    refine ⟨e1.trans a1, a2, fun q w q0 q1 w0 w1 => ?_⟩
    have e2 := he (101 + (36 * i + 6 * q + w)) (by omega) (by omega)
    rw [← Int.add_assoc, ← Int.add_assoc b 101] at e2
    exact e2.trans (a3 q w q0 q1 w0 w1)
def MW (A : Nat → Int → Int) (S : TS) : Prop := ∀ i, 0 ≤ i → i < 4 → A 7 i = tqn S i ∧ WW (tqn S i) (tnd S i) ∧ ∀ q w, 0 ≤ q → q < tqn S i → 0 ≤ w → w < 6 → A 8 (36 * i + 6 * q + w) = tnd S i q w
/-- the reference's fields and rows hold the state -/
def MB (F : Nat → Int) (A : Nat → Int → Int) (X : FS) : Prop := MT F A (tn (fS X)) (ttg (fS X)) (tvl (fS X)) (tlv (fS X)) ∧ MW A (fS X) ∧ (F 9 = fks X ∧ 0 ≤ fks X ∧ fks X ≤ 8 ∧ ∀ j, 0 ≤ j → j < fks X → KB (A 9) (245 * j) (fkp X j)) ∧ (F 22 = fln X ∧ 0 ≤ fln X ∧ fln X ≤ 120 ∧ F 23 = fwy X ∧ ∀ k, 0 ≤ k → k < fln X → A 20 k = ftx X k ∧ 0 ≤ ftx X k ∧ ftx X k ≤ 127) ∧ A 1 0 = fb0 X ∧ A 1 1 = fb1 X ∧ A 1 2 = fb2 X
theorem MT.congr {F F' : Nat → Int} {A A' : Nat → Int → Int} {n : Int} {tg vl lv : Int → Int} (h : MT F A n tg vl lv) (hF : F' 1 = F 1) (hA : ∀ i, 2 ≤ i → i ≤ 6 → A' i = A i) : MT F' A' n tg vl lv := by
  refine ⟨by rw [hF]; exact h.1, h.2.1, ?_⟩
  rw [hA 2 (by omega) (by omega), hA 3 (by omega) (by omega), hA 4 (by omega) (by omega), hA 5 (by omega) (by omega), hA 6 (by omega) (by omega)]
  exact h.2.2
/-- changes of rows that hold nothing of the state -/
theorem MB.congr {F F' : Nat → Int} {A A' : Nat → Int → Int} {X : FS} (h : MB F A X) (hF : ∀ i, i = 1 ∨ i = 9 ∨ i = 22 ∨ i = 23 → F' i = F i) (hA : ∀ i, i ≤ 9 ∨ i = 20 → A' i = A i) : MB F' A' X := by
  obtain ⟨h1, h2, h3, h4, h5⟩ := h
  refine ⟨h1.congr (hF 1 (by omega)) (fun i _ _ => hA i (by omega)), ?_, ?_, ?_, ?_⟩
  · unfold MW; rw [hA 7 (by omega), hA 8 (by omega)]; exact h2
  · rw [hF 9 (by omega), hA 9 (by omega)]; exact h3
  · rw [hF 22 (by omega), hF 23 (by omega), hA 20 (by omega)]; exact h4
  · rw [hA 1 (by omega)]; exact h5
section MINV
variable {m : Mm} {a : Nat} {F : Nat → Int} {A : Nat → Int → Int} {X : FS}
theorem MB.inc (h : MB F A X) {c : Int} (hc : c = -2 ∨ c = -3 ∨ c = -4) : MB F (upN A 1 (upZ (A 1) (-2 - c) (A 1 (-2 - c) + 1))) (incB X c) := by
  obtain ⟨h1, h2, h3, h4, h5, h6, h7⟩ := h
  have hA : ∀ i, i ≠ 1 → upN A 1 (upZ (A 1) (-2 - c) (A 1 (-2 - c) + 1)) i = A i := fun i hi => upN_ne hi
  have hS : fS (incB X c) = fS X ∧ fks (incB X c) = fks X ∧ fkp (incB X c) = fkp X ∧ fln (incB X c) = fln X ∧ ftx (incB X c) = ftx X ∧ fwy (incB X c) = fwy X := by
    unfold incB; split
    · exact ⟨rfl, rfl, rfl, rfl, rfl, rfl⟩
    · split <;> exact ⟨rfl, rfl, rfl, rfl, rfl, rfl⟩
  obtain ⟨e1, e2, e3, e4, e5, e6⟩ := hS
  refine ⟨?_, ?_, ?_, ?_, ?_⟩
  · rw [e1]; exact h1.congr rfl (fun i i0 _ => hA i (by omega))
  · rw [e1]; unfold MW; rw [hA 7 (by decide), hA 8 (by decide)]; exact h2
  · rw [e2, e3, hA 9 (by decide)]; exact h3
  · rw [e4, e5, e6, hA 20 (by decide)]; exact h4
  · rcases hc with rfl | rfl | rfl
    · simp [upN, upZ, incB, h5, h6, h7]
    · simp [upN, upZ, incB, h5, h6, h7]
    · simp [upN, upZ, incB, h5, h6, h7]
theorem M_bad (hl : a + 25 < m.length) (h : MB F A X) : Ok (f_X8_bad (ov m a (o8 a F A)) a) (fun t => t.1 = I (-2) ∧ ∃ A', t.2 = ov m a (o8 a F A') ∧ MB F A' (incB X (-2))) := by
  unfold f_X8_bad
  simp (disch := omega) only [L0, L1, L2, L3, L4, L5, L6, L7, L8, L9, L10, L11, L12, L13, L14, L15, L16, L17, L18, L19, L20, L21, L22, L23, L24, L25, L26, L27, L31, L32, L33, L36, L40, L41, L42, L47, L48, L57, L58, L59, L60, L61, L62, L65, L97, L101, L102, L103, L120, L126, L127, L144, L245, L1023, L1715, I_add, I_sub, I_mul, I_neg, I_lt, I_le, I_eq, o8_g0, o8_l1, o8_s1, Option.bind_some, if_pos, if_neg, if_true, if_false, ite_true, ite_false]
  exact Ok.pure ⟨rfl, _, rfl, h.inc (c := -2) (by omega)⟩
theorem M_no (hl : a + 25 < m.length) (h : MB F A X) : Ok (f_X8_no (ov m a (o8 a F A)) a) (fun t => t.1 = I (-3) ∧ ∃ A', t.2 = ov m a (o8 a F A') ∧ MB F A' (incB X (-3))) := by
  unfold f_X8_no
  simp (disch := omega) only [L0, L1, L2, L3, L4, L5, L6, L7, L8, L9, L10, L11, L12, L13, L14, L15, L16, L17, L18, L19, L20, L21, L22, L23, L24, L25, L26, L27, L31, L32, L33, L36, L40, L41, L42, L47, L48, L57, L58, L59, L60, L61, L62, L65, L97, L101, L102, L103, L120, L126, L127, L144, L245, L1023, L1715, I_add, I_sub, I_mul, I_neg, I_lt, I_le, I_eq, o8_g0, o8_l1, o8_s1, Option.bind_some, if_pos, if_neg, if_true, if_false, ite_true, ite_false]
  exact Ok.pure ⟨rfl, _, rfl, h.inc (c := -3) (by omega)⟩
theorem M_full (hl : a + 25 < m.length) (h : MB F A X) : Ok (f_X8_full (ov m a (o8 a F A)) a) (fun t => t.1 = I (-4) ∧ ∃ A', t.2 = ov m a (o8 a F A') ∧ MB F A' (incB X (-4))) := by
  unfold f_X8_full
  simp (disch := omega) only [L0, L1, L2, L3, L4, L5, L6, L7, L8, L9, L10, L11, L12, L13, L14, L15, L16, L17, L18, L19, L20, L21, L22, L23, L24, L25, L26, L27, L31, L32, L33, L36, L40, L41, L42, L47, L48, L57, L58, L59, L60, L61, L62, L65, L97, L101, L102, L103, L120, L126, L127, L144, L245, L1023, L1715, I_add, I_sub, I_mul, I_neg, I_lt, I_le, I_eq, o8_g0, o8_l1, o8_s1, Option.bind_some, if_pos, if_neg, if_true, if_false, ite_true, ite_false]
  exact Ok.pure ⟨rfl, _, rfl, h.inc (c := -4) (by omega)⟩
theorem upN9 {A : Nat → Int → Int} {K K' : Int → Int} : upN (upN A 9 K) 9 K' = upN A 9 K' := by
  funext i
  unfold upN
  split <;> rfl
theorem upN_self {α : Type} {f : Nat → α} {k : Nat} : upN f k (f k) = f := by
  funext i
  unfold upN
  split
  · rename_i h; rw [h]
  · rfl
/-- the oldest state goes -/
theorem M_shift (hl : a + 25 < m.length) : Ok (whl FU (fun t5 : Int32 × Mm => f_X8_leavesState_L11 t5.2 a t5.1) ((0 : Int32), ov m a (o8 a F A))) (fun m' => ∃ K, m' = ov m a (o8 a F (upN A 9 K)) ∧ ∀ x, 0 ≤ x → x < 1715 → K x = A 9 (x + 245)) := by
  refine Ok.whl (fun j s => ∃ k K, s = (I k, ov m a (o8 a F (upN A 9 K))) ∧ 0 ≤ k ∧ k ≤ 1715 ∧ j = (1715 - k).toNat ∧ (∀ x, 0 ≤ x → x < k → K x = A 9 (x + 245)) ∧ ∀ x, k ≤ x → x < 1960 → K x = A 9 x) _ (j := 1715) ?_ ⟨0, A 9, by rw [upN_self]; rfl, by omega, by omega, rfl, fun x _ _ => by omega, fun _ _ _ => rfl⟩ (FU_lt (by omega))
  rintro j s ⟨k, K, rfl, h0, h1, rfl, hA, hB⟩
  dsimp only
  unfold f_X8_leavesState_L11
  by_cases hk : 1715 ≤ k
  · simp (disch := omega) only [L0, L1, L2, L3, L4, L5, L6, L7, L8, L9, L10, L11, L12, L13, L14, L15, L16, L17, L18, L19, L20, L21, L22, L23, L24, L25, L26, L27, L31, L32, L33, L36, L40, L41, L42, L47, L48, L57, L58, L59, L60, L61, L62, L65, L97, L101, L102, L103, L120, L126, L127, L144, L245, L1023, L1715, I_add, I_sub, I_mul, I_neg, I_lt, I_le, I_eq, Option.bind_some, if_pos, if_neg, if_true, if_false, ite_true, ite_false]
    exact Ok.pure (Or.inr ⟨_, rfl, K, rfl, fun x x0 x1 => hA x x0 (by omega)⟩)
  · simp (disch := omega) only [L0, L1, L2, L3, L4, L5, L6, L7, L8, L9, L10, L11, L12, L13, L14, L15, L16, L17, L18, L19, L20, L21, L22, L23, L24, L25, L26, L27, L31, L32, L33, L36, L40, L41, L42, L47, L48, L57, L58, L59, L60, L61, L62, L65, L97, L101, L102, L103, L120, L126, L127, L144, L245, L1023, L1715, I_add, I_sub, I_mul, I_neg, I_lt, I_le, I_eq, o8_g10, o8_l9, o8_s9, upN_at, upN9, Option.bind_some, if_pos, if_neg, if_true, if_false, ite_true, ite_false]
    refine Ok.pure (Or.inl ⟨_, (1715 - (k + 1)).toNat, rfl, ⟨k + 1, _, rfl, by omega, by omega, rfl, fun x x0 x1 => ?_, fun x x0 x1 => ?_⟩, by omega⟩)
    · by_cases hx : x = k
      · subst hx; rw [upZ_at]; exact hB (x + 245) (by omega) (by omega)
      · rw [upZ_ne hx]; exact hA x x0 (by omega)
    · rw [upZ_ne (by omega)]; exact hB x (by omega) x1
/-- the state goes into the row, from b on -/
theorem M_write (hl : a + 25 < m.length) {K0 : Int → Int} {b : Int} (hb0 : 0 ≤ b) (hb1 : b + 245 ≤ 1960) : Ok ((whl FU (fun t31 : Int32 × Mm => f_X8_leavesState_L71 t31.2 a (I b) t31.1) ((0 : Int32), ov m a (o8 a F (upN A 9 K0)))).bind fun e32 => (whl FU (fun t61 : Int32 × Mm => f_X8_leavesState_L135 t61.2 a (I b) t61.1) ((0 : Int32), e32)).bind fun e62 => (whl FU (fun t75 : Int32 × Mm => f_X8_leavesState_L165 t75.2 a (I b) t75.1) ((0 : Int32), e62))) (fun m' => ∃ K, m' = ov m a (o8 a F (upN A 9 K)) ∧ (∀ x, x ≤ b ∨ b + 245 ≤ x → K x = K0 x) ∧ (∀ k, 0 ≤ k → k < 32 → K (b + 1 + k) = A 2 k ∧ K (b + 33 + k) = A 3 k ∧ K (b + 65 + k) = A 4 k) ∧ (∀ i, 0 ≤ i → i < 4 → K (b + 97 + i) = A 7 i) ∧ ∀ k, 0 ≤ k → k < 144 → K (b + 101 + k) = A 8 k) := by
  have e2 : ∀ K : Int → Int, upN A 9 K 2 = A 2 := fun _ => rfl
  have e3 : ∀ K : Int → Int, upN A 9 K 3 = A 3 := fun _ => rfl
  have e4 : ∀ K : Int → Int, upN A 9 K 4 = A 4 := fun _ => rfl
  have e7 : ∀ K : Int → Int, upN A 9 K 7 = A 7 := fun _ => rfl
  have e8 : ∀ K : Int → Int, upN A 9 K 8 = A 8 := fun _ => rfl
  refine Ok.bind (P := fun m' => ∃ K, m' = ov m a (o8 a F (upN A 9 K)) ∧ (∀ x, x ≤ b ∨ b + 97 ≤ x → K x = K0 x) ∧ ∀ k, 0 ≤ k → k < 32 → K (b + 1 + k) = A 2 k ∧ K (b + 33 + k) = A 3 k ∧ K (b + 65 + k) = A 4 k) ?_ ?_
  · refine Ok.whl (fun j s => ∃ k K, s = (I k, ov m a (o8 a F (upN A 9 K))) ∧ 0 ≤ k ∧ k ≤ 32 ∧ j = (32 - k).toNat ∧ (∀ x, x ≤ b ∨ b + 97 ≤ x → K x = K0 x) ∧ ∀ x, 0 ≤ x → x < k → K (b + 1 + x) = A 2 x ∧ K (b + 33 + x) = A 3 x ∧ K (b + 65 + x) = A 4 x) _ (j := 32) ?_ ⟨0, K0, rfl, by omega, by omega, rfl, fun _ _ => rfl, fun x _ _ => by omega⟩ (FU_lt (by omega))
    rintro j s ⟨k, K, rfl, h0, h1, rfl, hA, hB⟩
    dsimp only
    unfold f_X8_leavesState_L71
    by_cases hk : 32 ≤ k
    · simp (disch := omega) only [L0, L1, L2, L3, L4, L5, L6, L7, L8, L9, L10, L11, L12, L13, L14, L15, L16, L17, L18, L19, L20, L21, L22, L23, L24, L25, L26, L27, L31, L32, L33, L36, L40, L41, L42, L47, L48, L57, L58, L59, L60, L61, L62, L65, L97, L101, L102, L103, L120, L126, L127, L144, L245, L1023, L1715, I_add, I_sub, I_mul, I_neg, I_lt, I_le, I_eq, Option.bind_some, if_pos, if_neg, if_true, if_false, ite_true, ite_false]
      exact Ok.pure (Or.inr ⟨_, rfl, K, rfl, hA, fun x x0 x1 => hB x x0 (by omega)⟩)
    · simp (disch := omega) only [L0, L1, L2, L3, L4, L5, L6, L7, L8, L9, L10, L11, L12, L13, L14, L15, L16, L17, L18, L19, L20, L21, L22, L23, L24, L25, L26, L27, L31, L32, L33, L36, L40, L41, L42, L47, L48, L57, L58, L59, L60, L61, L62, L65, L97, L101, L102, L103, L120, L126, L127, L144, L245, L1023, L1715, I_add, I_sub, I_mul, I_neg, I_lt, I_le, I_eq, o8_g10, o8_g2, o8_g3, o8_g4, o8_l2, o8_l3, o8_l4, o8_s9, upN_at, upN9, e2, e3, e4, Option.bind_some, if_pos, if_neg, if_true, if_false, ite_true, ite_false]
      refine Ok.pure (Or.inl ⟨_, (32 - (k + 1)).toNat, rfl, ⟨k + 1, _, rfl, by omega, by omega, rfl, fun x hx => ?_, fun x x0 x1 => ?_⟩, by omega⟩)
      · rw [upZ_ne (by omega), upZ_ne (by omega), upZ_ne (by omega)]; exact hA x hx
      · by_cases hx : x = k
        · subst hx
          refine ⟨?_, ?_, ?_⟩
          · rw [upZ_ne (by omega), upZ_ne (by omega), upZ_at]
          · rw [upZ_ne (by omega), upZ_at]
          · rw [upZ_at]
        · obtain ⟨b1, b2, b3⟩ := hB x x0 (by omega)
          refine ⟨?_, ?_, ?_⟩
          · rw [upZ_ne (by omega), upZ_ne (by omega), upZ_ne (by omega)]; exact b1
          · rw [upZ_ne (by omega), upZ_ne (by omega), upZ_ne (by omega)]; exact b2
          · rw [upZ_ne (by omega), upZ_ne (by omega), upZ_ne (by omega)]; exact b3
  · rintro m' ⟨K1, rfl, hK1, hK1'⟩
    refine Ok.bind (P := fun m' => ∃ K, m' = ov m a (o8 a F (upN A 9 K)) ∧ (∀ x, x < b + 97 ∨ b + 101 ≤ x → K x = K1 x) ∧ ∀ i, 0 ≤ i → i < 4 → K (b + 97 + i) = A 7 i) ?_ ?_
    · refine Ok.whl (fun j s => ∃ k K, s = (I k, ov m a (o8 a F (upN A 9 K))) ∧ 0 ≤ k ∧ k ≤ 4 ∧ j = (4 - k).toNat ∧ (∀ x, x < b + 97 ∨ b + 101 ≤ x → K x = K1 x) ∧ ∀ x, 0 ≤ x → x < k → K (b + 97 + x) = A 7 x) _ (j := 4) ?_ ⟨0, K1, rfl, by omega, by omega, rfl, fun _ _ => rfl, fun x _ _ => by omega⟩ (FU_lt (by omega))
      rintro j s ⟨k, K, rfl, h0, h1, rfl, hA, hB⟩
      dsimp only
      unfold f_X8_leavesState_L135
      by_cases hk : 4 ≤ k
      · simp (disch := omega) only [L0, L1, L2, L3, L4, L5, L6, L7, L8, L9, L10, L11, L12, L13, L14, L15, L16, L17, L18, L19, L20, L21, L22, L23, L24, L25, L26, L27, L31, L32, L33, L36, L40, L41, L42, L47, L48, L57, L58, L59, L60, L61, L62, L65, L97, L101, L102, L103, L120, L126, L127, L144, L245, L1023, L1715, I_add, I_sub, I_mul, I_neg, I_lt, I_le, I_eq, Option.bind_some, if_pos, if_neg, if_true, if_false, ite_true, ite_false]
        exact Ok.pure (Or.inr ⟨_, rfl, K, rfl, hA, fun x x0 x1 => hB x x0 (by omega)⟩)
      · simp (disch := omega) only [L0, L1, L2, L3, L4, L5, L6, L7, L8, L9, L10, L11, L12, L13, L14, L15, L16, L17, L18, L19, L20, L21, L22, L23, L24, L25, L26, L27, L31, L32, L33, L36, L40, L41, L42, L47, L48, L57, L58, L59, L60, L61, L62, L65, L97, L101, L102, L103, L120, L126, L127, L144, L245, L1023, L1715, I_add, I_sub, I_mul, I_neg, I_lt, I_le, I_eq, o8_g10, o8_g7, o8_l7, o8_s9, upN_at, upN9, e7, Option.bind_some, if_pos, if_neg, if_true, if_false, ite_true, ite_false]
        refine Ok.pure (Or.inl ⟨_, (4 - (k + 1)).toNat, rfl, ⟨k + 1, _, rfl, by omega, by omega, rfl, fun x hx => ?_, fun x x0 x1 => ?_⟩, by omega⟩)
        · rw [upZ_ne (by omega)]; exact hA x hx
        · by_cases hx : x = k
          · subst hx; rw [upZ_at]
          · rw [upZ_ne (by omega)]; exact hB x x0 (by omega)
    · rintro m' ⟨K2, rfl, hK2, hK2'⟩
      refine Ok.whl (fun j s => ∃ k K, s = (I k, ov m a (o8 a F (upN A 9 K))) ∧ 0 ≤ k ∧ k ≤ 144 ∧ j = (144 - k).toNat ∧ (∀ x, x < b + 101 ∨ b + 245 ≤ x → K x = K2 x) ∧ ∀ x, 0 ≤ x → x < k → K (b + 101 + x) = A 8 x) _ (j := 144) ?_ ⟨0, K2, rfl, by omega, by omega, rfl, fun _ _ => rfl, fun x _ _ => by omega⟩ (FU_lt (by omega))
      rintro j s ⟨k, K, rfl, h0, h1, rfl, hA, hB⟩
      dsimp only
      unfold f_X8_leavesState_L165
      by_cases hk : 144 ≤ k
      · simp (disch := omega) only [L0, L1, L2, L3, L4, L5, L6, L7, L8, L9, L10, L11, L12, L13, L14, L15, L16, L17, L18, L19, L20, L21, L22, L23, L24, L25, L26, L27, L31, L32, L33, L36, L40, L41, L42, L47, L48, L57, L58, L59, L60, L61, L62, L65, L97, L101, L102, L103, L120, L126, L127, L144, L245, L1023, L1715, I_add, I_sub, I_mul, I_neg, I_lt, I_le, I_eq, Option.bind_some, if_pos, if_neg, if_true, if_false, ite_true, ite_false]
        refine Ok.pure (Or.inr ⟨_, rfl, K, rfl, fun x hx => ?_, fun x x0 x1 => ?_, fun i i0 i1 => ?_, fun x x0 x1 => hB x x0 (by omega)⟩)
        · rw [hA x (by omega), hK2 x (by omega), hK1 x (by omega)]
        · obtain ⟨b1, b2, b3⟩ := hK1' x x0 x1
          rw [hA _ (by omega), hA _ (by omega), hA _ (by omega), hK2 _ (by omega), hK2 _ (by omega), hK2 _ (by omega)]
          exact ⟨b1, b2, b3⟩
        · rw [hA _ (by omega)]; exact hK2' i i0 i1
      · simp (disch := omega) only [L0, L1, L2, L3, L4, L5, L6, L7, L8, L9, L10, L11, L12, L13, L14, L15, L16, L17, L18, L19, L20, L21, L22, L23, L24, L25, L26, L27, L31, L32, L33, L36, L40, L41, L42, L47, L48, L57, L58, L59, L60, L61, L62, L65, L97, L101, L102, L103, L120, L126, L127, L144, L245, L1023, L1715, I_add, I_sub, I_mul, I_neg, I_lt, I_le, I_eq, o8_g10, o8_g8, o8_l8, o8_s9, upN_at, upN9, e8, Option.bind_some, if_pos, if_neg, if_true, if_false, ite_true, ite_false]
        refine Ok.pure (Or.inl ⟨_, (144 - (k + 1)).toNat, rfl, ⟨k + 1, _, rfl, by omega, by omega, rfl, fun x hx => ?_, fun x x0 x1 => ?_⟩, by omega⟩)
        · rw [upZ_ne (by omega)]; exact hA x hx
        · by_cases hx : x = k
          · subst hx; rw [upZ_at]
          · rw [upZ_ne (by omega)]; exact hB x x0 (by omega)
end MINV
