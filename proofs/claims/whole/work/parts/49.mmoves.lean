/-! ===== the reference: moves; back of both ===== -/
section MMV
variable {m : Mm} {a : Nat} {F : Nat → Int} {A : Nat → Int → Int} {X : FS}
/-- what is moved goes into the row 'moving' -/
theorem M_takes (hl : a + 25 < m.length) {e s d t b : Int} (he : 0 ≤ e) (hs0 : 0 ≤ s) (hs : e + s ≤ 32) : Ok (whl FU (fun t22 : Int32 × Mm => f_X8_moves_L126 t22.2 a (I e) (I t) (I b) (I d) (I s) t22.1) (I 0, ov m a (o8 a F A))) (fun m' => ∃ K, m' = ov m a (o8 a F (upN A 10 K)) ∧ ∀ k, 0 ≤ k → k < s → K (3 * k) = A 2 (e + k) ∧ K (3 * k + 1) = A 3 (e + k) ∧ K (3 * k + 2) = A 4 (e + k) + d) := by
  have e2 : ∀ K : Int → Int, upN A 10 K 2 = A 2 := fun _ => rfl
  have e3 : ∀ K : Int → Int, upN A 10 K 3 = A 3 := fun _ => rfl
  have e4 : ∀ K : Int → Int, upN A 10 K 4 = A 4 := fun _ => rfl
  have e10 : ∀ K K' : Int → Int, upN (upN A 10 K) 10 K' = upN A 10 K' := fun K K' => by funext i; unfold upN; split <;> rfl
  refine Ok.whl (fun j st => ∃ k K, st = (I k, ov m a (o8 a F (upN A 10 K))) ∧ 0 ≤ k ∧ k ≤ s ∧ j = (s - k).toNat ∧ ∀ x, 0 ≤ x → x < k → K (3 * x) = A 2 (e + x) ∧ K (3 * x + 1) = A 3 (e + x) ∧ K (3 * x + 2) = A 4 (e + x) + d) _ (j := (s - 0).toNat) ?_ ⟨0, A 10, by rw [upN_self], by omega, by omega, rfl, fun x _ _ => by omega⟩ (FU_lt (by omega))
  rintro j st ⟨k, K, rfl, h0, h1, rfl, hB⟩
  dsimp only
  unfold f_X8_moves_L126
  by_cases hk : s ≤ k
  · simp (disch := omega) only [L0, L1, L2, L3, L4, L5, L6, L7, L8, L9, L10, L11, L12, L13, L14, L15, L16, L17, L18, L19, L20, L21, L22, L23, L24, L25, L26, L27, L31, L32, L33, L36, L40, L41, L42, L47, L48, L57, L58, L59, L60, L61, L62, L65, L97, L101, L102, L103, L120, L126, L127, L144, L245, L1023, L1715, I_add, I_sub, I_mul, I_neg, I_lt, I_le, I_eq, Option.bind_some, if_pos, if_neg, if_true, if_false, ite_true, ite_false]
    exact Ok.pure (Or.inr ⟨_, rfl, K, rfl, fun x x0 x1 => hB x x0 (by omega)⟩)
  · simp (disch := omega) only [L0, L1, L2, L3, L4, L5, L6, L7, L8, L9, L10, L11, L12, L13, L14, L15, L16, L17, L18, L19, L20, L21, L22, L23, L24, L25, L26, L27, L31, L32, L33, L36, L40, L41, L42, L47, L48, L57, L58, L59, L60, L61, L62, L65, L97, L101, L102, L103, L120, L126, L127, L144, L245, L1023, L1715, I_add, I_sub, I_mul, I_neg, I_lt, I_le, I_eq, o8_g11, o8_g2, o8_g3, o8_g4, o8_l2, o8_l3, o8_l4, o8_s10, upN_at, e10, e2, e3, e4, Option.bind_some, if_pos, if_neg, if_true, if_false, ite_true, ite_false]
    refine Ok.pure (Or.inl ⟨_, (s - (k + 1)).toNat, rfl, ⟨k + 1, _, rfl, by omega, by omega, rfl, fun x x0 x1 => ?_⟩, by omega⟩)
    by_cases hx : x = k
    · subst hx
      refine ⟨?_, ?_, ?_⟩
      · rw [upZ_ne (by omega), upZ_ne (by omega), upZ_at]
      · rw [upZ_ne (by omega), upZ_at]
      · rw [upZ_at]
    · obtain ⟨b1, b2, b3⟩ := hB x x0 (by omega)
      refine ⟨?_, ?_, ?_⟩
      · rw [upZ_ne (by omega), upZ_ne (by omega), upZ_ne (by omega)]; exact b1
      · rw [upZ_ne (by omega), upZ_ne (by omega), upZ_ne (by omega)]; exact b2
      · rw [upZ_ne (by omega), upZ_ne (by omega), upZ_ne (by omega)]; exact b3
/-- and back from it -/
theorem M_puts (hl : a + 25 < m.length) {s p : Int} (hp : 0 ≤ p) (hs0 : 0 ≤ s) (hs : p + s ≤ 32) : Ok (whl FU (fun t70 : Int32 × Mm => f_X8_moves_L242 t70.2 a (I s) (I p) t70.1) (I 0, ov m a (o8 a F A))) (fun m' => ∃ A', m' = ov m a (o8 a F A') ∧ (∀ i, i ≠ 2 → i ≠ 3 → i ≠ 4 → A' i = A i) ∧ (∀ k, k < p ∨ p + s ≤ k → A' 2 k = A 2 k ∧ A' 3 k = A 3 k ∧ A' 4 k = A 4 k) ∧ ∀ k, 0 ≤ k → k < s → A' 2 (p + k) = A 10 (3 * k) ∧ A' 3 (p + k) = A 10 (3 * k + 1) ∧ A' 4 (p + k) = A 10 (3 * k + 2)) := by
  refine Ok.whl (fun j st => ∃ k A', st = (I k, ov m a (o8 a F A')) ∧ 0 ≤ k ∧ k ≤ s ∧ j = (s - k).toNat ∧ (∀ i, i ≠ 2 → i ≠ 3 → i ≠ 4 → A' i = A i) ∧ (∀ x, x < p ∨ p + s ≤ x → A' 2 x = A 2 x ∧ A' 3 x = A 3 x ∧ A' 4 x = A 4 x) ∧ ∀ x, 0 ≤ x → x < k → A' 2 (p + x) = A 10 (3 * x) ∧ A' 3 (p + x) = A 10 (3 * x + 1) ∧ A' 4 (p + x) = A 10 (3 * x + 2)) _ (j := (s - 0).toNat) ?_ ⟨0, A, rfl, by omega, by omega, rfl, fun _ _ _ _ => rfl, fun _ _ => ⟨rfl, rfl, rfl⟩, fun x _ _ => by omega⟩ (FU_lt (by omega))
  rintro j st ⟨k, A', rfl, h0, h1, rfl, hA, hB, hC⟩
  dsimp only
  unfold f_X8_moves_L242
  by_cases hk : s ≤ k
  · simp (disch := omega) only [L0, L1, L2, L3, L4, L5, L6, L7, L8, L9, L10, L11, L12, L13, L14, L15, L16, L17, L18, L19, L20, L21, L22, L23, L24, L25, L26, L27, L31, L32, L33, L36, L40, L41, L42, L47, L48, L57, L58, L59, L60, L61, L62, L65, L97, L101, L102, L103, L120, L126, L127, L144, L245, L1023, L1715, I_add, I_sub, I_mul, I_neg, I_lt, I_le, I_eq, Option.bind_some, if_pos, if_neg, if_true, if_false, ite_true, ite_false]
    exact Ok.pure (Or.inr ⟨_, rfl, A', rfl, hA, hB, fun x x0 x1 => hC x x0 (by omega)⟩)
  · have e10 := hA 10 (by decide) (by decide) (by decide)
    simp (disch := omega) only [L0, L1, L2, L3, L4, L5, L6, L7, L8, L9, L10, L11, L12, L13, L14, L15, L16, L17, L18, L19, L20, L21, L22, L23, L24, L25, L26, L27, L31, L32, L33, L36, L40, L41, L42, L47, L48, L57, L58, L59, L60, L61, L62, L65, L97, L101, L102, L103, L120, L126, L127, L144, L245, L1023, L1715, I_add, I_sub, I_mul, I_neg, I_lt, I_le, I_eq, o8_g11, o8_g2, o8_g3, o8_g4, o8_l10, o8_s2, o8_s3, o8_s4, Option.bind_some, if_pos, if_neg, if_true, if_false, ite_true, ite_false]
    generalize hA5 : upN (upN (upN A' 2 (upZ (A' 2) (p + k) (A' 10 (3 * k)))) 3 (upZ (upN A' 2 (upZ (A' 2) (p + k) (A' 10 (3 * k))) 3) (p + k) (upN A' 2 (upZ (A' 2) (p + k) (A' 10 (3 * k))) 10 (3 * k + 1)))) 4 (upZ (upN (upN A' 2 (upZ (A' 2) (p + k) (A' 10 (3 * k)))) 3 (upZ (upN A' 2 (upZ (A' 2) (p + k) (A' 10 (3 * k))) 3) (p + k) (upN A' 2 (upZ (A' 2) (p + k) (A' 10 (3 * k))) 10 (3 * k + 1))) 4) (p + k) (upN (upN A' 2 (upZ (A' 2) (p + k) (A' 10 (3 * k)))) 3 (upZ (upN A' 2 (upZ (A' 2) (p + k) (A' 10 (3 * k))) 3) (p + k) (upN A' 2 (upZ (A' 2) (p + k) (A' 10 (3 * k))) 10 (3 * k + 1))) 10 (3 * k + 2))) = A5
    have f2 : A5 2 = upZ (A' 2) (p + k) (A' 10 (3 * k)) := by rw [← hA5]; rfl
    have f3 : A5 3 = upZ (A' 3) (p + k) (A' 10 (3 * k + 1)) := by rw [← hA5]; rfl
    have f4 : A5 4 = upZ (A' 4) (p + k) (A' 10 (3 * k + 2)) := by rw [← hA5]; rfl
    have fo : ∀ i, i ≠ 2 → i ≠ 3 → i ≠ 4 → A5 i = A' i := fun i i2 i3 i4 => by rw [← hA5]; unfold upN; rw [if_neg i4, if_neg i3, if_neg i2]
    refine Ok.pure (Or.inl ⟨_, (s - (k + 1)).toNat, rfl, ⟨k + 1, A5, rfl, by omega, by omega, rfl, fun i i2 i3 i4 => (fo i i2 i3 i4).trans (hA i i2 i3 i4), fun x hx => ?_, fun x x0 x1 => ?_⟩, by omega⟩)
    · rw [f2, f3, f4, upZ_ne (by omega), upZ_ne (by omega), upZ_ne (by omega)]; exact hB x hx
    · rw [f2, f3, f4]
      by_cases hx : x = k
      · subst hx; rw [upZ_at, upZ_at, upZ_at, e10]; exact ⟨rfl, rfl, rfl⟩
      · rw [upZ_ne (by omega), upZ_ne (by omega), upZ_ne (by omega)]; exact hC x x0 (by omega)
theorem M_moves (hl : a + 25 < m.length) (h : MB F A X) {e t b : Int} (he1 : -2147483648 ≤ e) (he2 : e < 2147483648) (ht1 : -2147483648 ≤ t) (ht2 : t < 2147483648) (hb1 : -2147483648 ≤ b) (hb2 : b < 2147483648) : Ok (f_X8_moves (ov m a (o8 a F A)) a (I e) (I t) (I b)) (fun q => ∃ r X', q.1 = I r ∧ MP m a q.2 X' ∧ SMoves X e t b r X') := by
  have hT := h.1
  have hF := hT.1
  have hw := hT.2.1
  have hn1 := hw.1
  have hn2 := hw.2.1
  have hAt := o8_At (m := m) (a := a) (F := F) (A := A) hl
  have hhe := D_isElement hAt he1 he2 (by omega) (by omega)
  have hht := D_isElement hAt ht1 ht2 (by omega) (by omega)
  unfold f_X8_moves
  by_cases c1 : 0 ≤ e ∧ e < F 1
  · rw [ind_t c1] at hhe
    by_cases c2 : 0 ≤ t ∧ t < F 1
    · rw [ind_t c2] at hht
      have hcc : f_X8_children (ov m a (o8 a F A)) a (I t) = some (I (chN (fS X) t)) := D_children hAt hT (by omega) (by omega)
      have hcb := chN_le hw (show 0 ≤ t by omega) (by omega)
      have hcx := chX_eq hw (show 0 ≤ t by omega) (by omega) (show 0 ≤ e by omega) (by omega)
      obtain ⟨y1, y2, y3, y4, y5, -⟩ := hT.2.2 e (by omega) (by omega)
      obtain ⟨w1, w2, w3, w4, w5, -⟩ := hT.2.2 t (by omega) (by omega)
      obtain ⟨g1, g2, -, -⟩ := prF_spec (tlv (fS X)) (show 0 ≤ e by omega)
      have hge := hw.ge1 (k := e) (by omega) (by omega)
      have hgt := hw.ge1 (k := t) (by omega) (by omega)
      have hi0 := ind_nn (p := prF (tlv (fS X)) e = t)
      have hi1 := ind_le (p := prF (tlv (fS X)) e = t)
      have hpar : Option.bind (α := Int32) (if I (A 6 e) = I t then some (1 : Int32) else some (0 : Int32)) = Option.bind (some (I (ind (prF (tlv (fS X)) e = t)))) (β := Int32 × Mm) := by
        congr 1
        by_cases z : prF (tlv (fS X)) e = t
        · rw [ind_t z]; simp (disch := omega) only [L0, L1, L2, L3, L4, L5, L6, L7, L8, L9, L10, L11, L12, L13, L14, L15, L16, L17, L18, L19, L20, L21, L22, L23, L24, L25, L26, L27, L31, L32, L33, L36, L40, L41, L42, L47, L48, L57, L58, L59, L60, L61, L62, L65, L97, L101, L102, L103, L120, L126, L127, L144, L245, L1023, L1715, I_add, I_sub, I_mul, I_neg, I_lt, I_le, I_eq, Option.bind_some, if_pos, if_neg, if_true, if_false, ite_true, ite_false]
        · rw [ind_f z]; simp (disch := omega) only [L0, L1, L2, L3, L4, L5, L6, L7, L8, L9, L10, L11, L12, L13, L14, L15, L16, L17, L18, L19, L20, L21, L22, L23, L24, L25, L26, L27, L31, L32, L33, L36, L40, L41, L42, L47, L48, L57, L58, L59, L60, L61, L62, L65, L97, L101, L102, L103, L120, L126, L127, L144, L245, L1023, L1715, I_add, I_sub, I_mul, I_neg, I_lt, I_le, I_eq, Option.bind_some, if_pos, if_neg, if_true, if_false, ite_true, ite_false]
      have hhb : f_X8_in (ov m a (o8 a F A)) (I b) (0 : Int32) (I (chX (fS X) t e)) = some (I (ind (0 ≤ b ∧ b ≤ chX (fS X) t e))) := D_in (m := ov m a (o8 a F A)) (x := b) (y := 0) (z := chX (fS X) t e) hb1 hb2 (by omega) (by omega) (by omega) (by omega)
      simp only [o8_cO hl, hhe, hht, hcc, o8_g6 hl, o8_l6 hl (show 0 ≤ e by omega) (show e < 32 by omega), Option.bind_some, hpar]
      rw [if_neg (show ¬ I 1 = (0 : Int32) by decide), if_neg (show ¬ I 1 = (0 : Int32) by decide)]
      simp only [I_sub, ← hcx, hhb, Option.bind_some]
      obtain ⟨r1, r2, r3, r4⟩ := enF_spec (tlv (fS X)) (show e < tn (fS X) by omega)
      by_cases c3 : 0 ≤ b ∧ b ≤ chX (fS X) t e
      · rw [ind_t c3, if_neg (show ¬ I 1 = (0 : Int32) by decide)]
        have hC : (0 ≤ e ∧ e < tn (fS X)) ∧ (0 ≤ t ∧ t < tn (fS X)) ∧ 0 ≤ b ∧ b ≤ chX (fS X) t e := by omega
        by_cases c5 : e = 0
        · simp (disch := omega) only [L0, L1, L2, L3, L4, L5, L6, L7, L8, L9, L10, L11, L12, L13, L14, L15, L16, L17, L18, L19, L20, L21, L22, L23, L24, L25, L26, L27, L31, L32, L33, L36, L40, L41, L42, L47, L48, L57, L58, L59, L60, L61, L62, L65, L97, L101, L102, L103, L120, L126, L127, L144, L245, L1023, L1715, I_add, I_sub, I_mul, I_neg, I_lt, I_le, I_eq, Option.bind_some, if_pos, if_neg, if_true, if_false, ite_true, ite_false]
          exact (M_noR hl h).mono (fun q hq => ⟨-3, _, hq.1, hq.2, Or.inr ⟨hC, Or.inl ⟨Or.inl c5, rfl, rfl⟩⟩⟩)
        · by_cases c6 : e ≤ t ∧ t < enF (tn (fS X)) (tlv (fS X)) e
          · simp (disch := omega) only [L0, L1, L2, L3, L4, L5, L6, L7, L8, L9, L10, L11, L12, L13, L14, L15, L16, L17, L18, L19, L20, L21, L22, L23, L24, L25, L26, L27, L31, L32, L33, L36, L40, L41, L42, L47, L48, L57, L58, L59, L60, L61, L62, L65, L97, L101, L102, L103, L120, L126, L127, L144, L245, L1023, L1715, I_add, I_sub, I_mul, I_neg, I_lt, I_le, I_eq, o8_g5, o8_l5, Option.bind_some, if_pos, if_neg, if_true, if_false, ite_true, ite_false]
            exact (M_noR hl h).mono (fun q hq => ⟨-3, _, hq.1, hq.2, Or.inr ⟨hC, Or.inl ⟨Or.inr (Or.inl c6), rfl, rfl⟩⟩⟩)
          · have hJ : Ok (f_X8_moves_J74 (ov m a (o8 a F A)) a (I e) (I t) (I b)) (fun q => ∃ r X', q.1 = I r ∧ MP m a q.2 X' ∧ SMoves X e t b r X') := by
              obtain ⟨d, hd, hd1, hd2, kd, hd3, hd4, hd5⟩ := D_deepest hAt hT (e := e) (by omega) (by omega)
              have hdl : tlv (fS X) e ≤ d := hd2 e (Int.le_refl _) (by omega)
              unfold f_X8_moves_J74
              by_cases c7 : d + (tlv (fS X) t + 1 - tlv (fS X) e) ≤ 10
              · have hflat : flat (fS X) e t := fun k k0 k1 => by have := hd2 k k0 k1; omega
                simp (disch := omega) only [o8_cO, o8_g4, o8_l4, hd, L0, L1, L2, L3, L4, L5, L6, L7, L8, L9, L10, L11, L12, L13, L14, L15, L16, L17, L18, L19, L20, L21, L22, L23, L24, L25, L26, L27, L31, L32, L33, L36, L40, L41, L42, L47, L48, L57, L58, L59, L60, L61, L62, L65, L97, L101, L102, L103, L120, L126, L127, L144, L245, L1023, L1715, I_add, I_sub, I_mul, I_neg, I_lt, I_le, I_eq, Option.bind_some, if_pos, if_neg, if_true, if_false, ite_true, ite_false]
                refine Ok.bind (M_leaves hl h) ?_
                rintro m1 ⟨F1, A1, rfl, h', hA1, hF1⟩
                have hT1 := h'.1
                rw [pushK_S] at hT1
                obtain ⟨x1, x2, x3, x4, x5, -⟩ := hT1.2.2 e (by omega) (by omega)
                have hte : t < e ∨ enF (tn (fS X)) (tlv (fS X)) e ≤ t := by omega
                have hwd := WL_del hw (show 0 < e by omega) (show e < tn (fS X) by omega)
                obtain ⟨ed1, ed2, -⟩ := en_del (lv := tlv (fS X)) (n := tn (fS X)) (e := e) (t := t) (by omega) (by omega) (by omega) hte (by omega)
                have hmvw : ∀ p, Spot (tn (fS X) - (enF (tn (fS X)) (tlv (fS X)) e - e)) (delZ (tlv (fS X)) e (enF (tn (fS X)) (tlv (fS X)) e - e)) (if e < t then t - (enF (tn (fS X)) (tlv (fS X)) e - e) else t) b p → _ := fun p hs => WL_mv hw (show 0 < e by omega) (by omega) (by omega) (by omega) hte hs (fun k k0 k1 => hflat k k0 k1)
                generalize hsz : enF (tn (fS X)) (tlv (fS X)) e - e = s at *
                simp (disch := omega) only [o8_g5, o8_l5, I_add, I_sub, I_mul, I_neg, I_lt, I_le, I_eq, Option.bind_some, if_pos, if_neg, if_true, if_false, ite_true, ite_false]
                rw [show A1 5 e - e = s by omega, show A 4 t + 1 - A 4 e = tlv (fS X) t + 1 - tlv (fS X) e by omega]
                refine Ok.bind (M_takes hl (by omega) (by omega) (by omega)) ?_
                rintro m2 ⟨K, rfl, hK⟩
                simp (disch := omega) only [o8_cO]
                refine Ok.bind (D_closes hl hT1.1 hn2 (p := e) (s := s) (by omega) (by omega) (by omega)) ?_
                rintro m3 ⟨A3, rfl, q1, q2⟩
                simp (disch := omega) only [o8_cO]
                have hdel : ∀ (g g' : Int → Int), (∀ k, 0 ≤ k → k < tn (fS X) → g k = g' k) → ∀ k, 0 ≤ k → k < tn (fS X) - s → delZ g e s k = delZ g' e s k := by
                  intro g g' hg k k0 k1
                  unfold delZ
                  split
                  · exact hg k k0 (by omega)
                  · exact hg (k + s) (by omega) (by omega)
                have hA3 : ∀ k, 0 ≤ k → k < tn (fS X) - s → A3 2 k = delZ (ttg (fS X)) e s k ∧ A3 3 k = delZ (tvl (fS X)) e s k ∧ A3 4 k = delZ (tlv (fS X)) e s k ∧ 0 ≤ delZ (ttg (fS X)) e s k ∧ delZ (ttg (fS X)) e s k ≤ 5 ∧ 0 ≤ delZ (tvl (fS X)) e s k ∧ delZ (tvl (fS X)) e s k ≤ 9 := by
                  intro k k0 k1
                  obtain ⟨z1, z2, z3⟩ := q2 k k0 k1
                  refine ⟨z1.trans (hdel _ _ (fun k k0 k1 => (hT1.2.2 k k0 k1).1) k k0 k1), z2.trans (hdel _ _ (fun k k0 k1 => (hT1.2.2 k k0 k1).2.1) k k0 k1), z3.trans (hdel _ _ (fun k k0 k1 => (hT1.2.2 k k0 k1).2.2.1) k k0 k1), ?_⟩
                  unfold delZ
                  split
                  · exact (hT1.2.2 k k0 (by omega)).2.2.2.2.2
                  · exact (hT1.2.2 (k + s) (by omega) (by omega)).2.2.2.2.2
                refine Ok.bind (D_tellsTree hl (n := tn (fS X) - s) upN_at (by omega) (by omega) (fun k k0 k1 => by rw [(hA3 k k0 k1).2.2.1]; have := hwd.ge1 k0 k1; omega)) ?_
                rintro m4 ⟨A4, rfl, q3, q4⟩
                have hT4 := MT.of (F' := upN F1 1 (tn (fS X) - s)) upN_at hwd hA3 q3 q4
                have hto : (if t ≤ e then some (I t) else some (I (t - s))) = some (I (if e < t then t - s else t)) := by
                  by_cases z : e < t
                  · rw [if_pos z, if_neg (by omega)]
                  · rw [if_neg z, if_pos (by omega)]
                simp (disch := omega) only [o8_cO, I_add, I_sub, I_mul, I_neg, I_lt, I_le, I_eq, hto, Option.bind_some, if_pos, if_neg, if_true, if_false, ite_true, ite_false]
                have hAt4 := o8_At (m := m) (a := a) (F := upN F1 1 (tn (fS X) - s)) (A := A4) hl
                -- the count of the children that are left
                have hcnt : b ≤ Sm (fun g => ind (delZ (tlv (fS X)) e s g = delZ (tlv (fS X)) e s (if e < t then t - s else t) + 1)) ((if e < t then t - s else t) + 1) (enF (tn (fS X) - s) (delZ (tlv (fS X)) e s) (if e < t then t - s else t)) := by
                  obtain ⟨qq1, qq2, -, -⟩ := enF_spec (tlv (fS X)) (show t < tn (fS X) by omega)
                  have hb0 : enF (tn (fS X)) (tlv (fS X)) t = t + 1 ∨ ∃ c, t < c ∧ c < enF (tn (fS X)) (tlv (fS X)) t ∧ tlv (fS X) c = tlv (fS X) t + 1 ∧ enF (tn (fS X)) (tlv (fS X)) t = enF (tn (fS X)) (tlv (fS X)) c := by
                    by_cases z : t + 1 < enF (tn (fS X)) (tlv (fS X)) t
                    · obtain ⟨c, k1, k2, k3, k4⟩ := last_child hw (show 0 ≤ t by omega) (by omega) z
                      exact Or.inr ⟨c, k1, k2, k3, k4.symm⟩
                    · left; omega
                  obtain ⟨⟨-, -, k3, -⟩, -⟩ := move_spot hw (show 0 < e by omega) (by omega) (by omega) (by omega) hte qq1 (Int.le_refl _) (at_ := chX (fS X) t e) rfl hb0
                  rw [hsz] at k3
                  rw [ed2, k3]
                  exact c3.2
                obtain ⟨p, hp, hsp⟩ := D_spot hAt4 hT4 (t := if e < t then t - s else t) (at_ := b) (by split <;> omega) (by split <;> omega) c3.1 hcnt
                obtain ⟨hwm, hp0, hpn⟩ := hmvw p hsp
                rw [hp]
                simp (disch := omega) only [o8_cO, Option.bind_some]
                refine Ok.bind (D_makesRoom hl (n := tn (fS X) - s) upN_at (p := p) (s := s) (by omega) (by omega) (by omega) (by omega)) ?_
                rintro m5 ⟨A5, rfl, q5, q6, q7⟩
                rw [show tn (fS X) - s + s = tn (fS X) by omega] at q7 ⊢
                refine Ok.bind (M_puts hl (by omega) (by omega) (by omega)) ?_
                rintro m6 ⟨A6, rfl, q8, q9, q10⟩
                simp (disch := omega) only [o8_cO]
                have hmv10 : A5 10 = K := by rw [q5 10 (by decide) (by decide) (by decide), q3 10 (by decide) (by decide), q1 10 (by decide) (by decide) (by decide)]; rfl
                have hA6 : ∀ k, 0 ≤ k → k < tn (fS X) → A6 2 k = mvZ (ttg (fS X)) e s p 0 k ∧ A6 3 k = mvZ (tvl (fS X)) e s p 0 k ∧ A6 4 k = mvZ (tlv (fS X)) e s p (tlv (fS X) t + 1 - tlv (fS X) e) k ∧ 0 ≤ mvZ (ttg (fS X)) e s p 0 k ∧ mvZ (ttg (fS X)) e s p 0 k ≤ 5 ∧ 0 ≤ mvZ (tvl (fS X)) e s p 0 k ∧ mvZ (tvl (fS X)) e s p 0 k ≤ 9 := by
                  intro k k0 k1
                  have b1 := mv_bound (lo := 0) (hi := 5) (fun k k0 k1 => by have := (hT1.2.2 k k0 k1).2.2.2.2.2; exact ⟨this.1, this.2.1⟩) (show 0 ≤ e by omega) (show 0 ≤ s by omega) (show e + s ≤ tn (fS X) by omega) (show 0 ≤ p by omega) hpn k k0 k1
                  have b2 := mv_bound (lo := 0) (hi := 9) (fun k k0 k1 => (hT1.2.2 k k0 k1).2.2.2.2.2.2.2) (show 0 ≤ e by omega) (show 0 ≤ s by omega) (show e + s ≤ tn (fS X) by omega) (show 0 ≤ p by omega) hpn k k0 k1
                  have e4 : ∀ i, i = 2 ∨ i = 3 ∨ i = 4 → A4 i = A3 i := fun i hi => q3 i (by omega) (by omega)
                  by_cases z1 : k < p
                  · obtain ⟨u1, u2, u3⟩ := q9 k (by omega)
                    obtain ⟨v1, v2, v3⟩ := q6 k k0 z1
                    obtain ⟨o1, o2, o3, -⟩ := hA3 k k0 (by omega)
                    rw [e4 2 (by omega)] at v1
                    rw [e4 3 (by omega)] at v2
                    rw [e4 4 (by omega)] at v3
                    refine ⟨?_, ?_, ?_, b1.1, b1.2, b2.1, b2.2⟩
                    · rw [mv_lo z1, u1, v1, o1]
                    · rw [mv_lo z1, u2, v2, o2]
                    · rw [mv_lo z1, u3, v3, o3]
                  · by_cases z2 : k < p + s
                    · obtain ⟨u1, u2, u3⟩ := q10 (k - p) (by omega) (by omega)
                      obtain ⟨v1, v2, v3⟩ := hK (k - p) (by omega) (by omega)
                      obtain ⟨o1, o2, o3, -⟩ := hT1.2.2 (k - p + e) (by omega) (by omega)
                      rw [hmv10] at u1 u2 u3
                      rw [show p + (k - p) = k by omega] at u1 u2 u3
                      rw [show e + (k - p) = k - p + e by omega] at v1 v2 v3
                      refine ⟨?_, ?_, ?_, b1.1, b1.2, b2.1, b2.2⟩
                      · rw [mv_in (by omega), u1, v1, o1, Int.add_zero]
                      · rw [mv_in (by omega), u2, v2, o2, Int.add_zero]
                      · rw [mv_in (by omega), u3, v3, o3]
                    · obtain ⟨u1, u2, u3⟩ := q9 k (by omega)
                      obtain ⟨v1, v2, v3⟩ := q7 k (by omega) (by omega)
                      obtain ⟨o1, o2, o3, -⟩ := hA3 (k - s) (by omega) (by omega)
                      rw [e4 2 (by omega)] at v1
                      rw [e4 3 (by omega)] at v2
                      rw [e4 4 (by omega)] at v3
                      refine ⟨?_, ?_, ?_, b1.1, b1.2, b2.1, b2.2⟩
                      · rw [mv_hi (by omega) (by omega), u1, v1, o1]
                      · rw [mv_hi (by omega) (by omega), u2, v2, o2]
                      · rw [mv_hi (by omega) (by omega), u3, v3, o3]
                refine Ok.bind (D_tellsTree hl (n := tn (fS X)) upN_at (by omega) (by omega) (fun k k0 k1 => by rw [(hA6 k k0 k1).2.2.1]; have := hwm.ge1 k0 k1; omega)) ?_
                rintro m7 ⟨A7, rfl, q11, q12⟩
                have hT7 := MT.of (F' := upN (upN F1 1 (tn (fS X) - s)) 1 (tn (fS X))) upN_at hwm hA6 q11 q12
                refine Ok.pure ⟨p, _, rfl, ⟨_, _, rfl, ?_⟩, Or.inr ⟨hC, Or.inr ⟨fun z => ?_, by rw [hsz]; exact hsp, rfl⟩⟩⟩
                · have := h'.newT hT7 (fun i hi => by rw [upN_ne (by omega), upN_ne (by omega)]) (fun i hi => by rw [q11 i (by omega) (by omega), q8 i (by omega) (by omega) (by omega), q5 i (by omega) (by omega) (by omega), q3 i (by omega) (by omega), q1 i (by omega) (by omega) (by omega), upN_ne (by omega)])
                  rw [pushK_S, ← hsz] at this
                  exact this
                · rcases z with z | z | z
                  · exact c5 z
                  · exact c6 z
                  · exact z hflat
              · have hnf : ¬ flat (fS X) e t := fun z => by have := z kd hd3 hd4; omega
                simp (disch := omega) only [o8_cO, o8_g4, o8_l4, hd, L0, L1, L2, L3, L4, L5, L6, L7, L8, L9, L10, L11, L12, L13, L14, L15, L16, L17, L18, L19, L20, L21, L22, L23, L24, L25, L26, L27, L31, L32, L33, L36, L40, L41, L42, L47, L48, L57, L58, L59, L60, L61, L62, L65, L97, L101, L102, L103, L120, L126, L127, L144, L245, L1023, L1715, I_add, I_sub, I_mul, I_neg, I_lt, I_le, I_eq, Option.bind_some, if_pos, if_neg, if_true, if_false, ite_true, ite_false]
                exact (M_noR hl h).mono (fun q hq => ⟨-3, _, hq.1, hq.2, Or.inr ⟨hC, Or.inl ⟨Or.inr (Or.inr hnf), rfl, rfl⟩⟩⟩)
            by_cases c8 : t < e
            · simp (disch := omega) only [L0, L1, L2, L3, L4, L5, L6, L7, L8, L9, L10, L11, L12, L13, L14, L15, L16, L17, L18, L19, L20, L21, L22, L23, L24, L25, L26, L27, L31, L32, L33, L36, L40, L41, L42, L47, L48, L57, L58, L59, L60, L61, L62, L65, L97, L101, L102, L103, L120, L126, L127, L144, L245, L1023, L1715, I_add, I_sub, I_mul, I_neg, I_lt, I_le, I_eq, Option.bind_some, if_pos, if_neg, if_true, if_false, ite_true, ite_false]
              exact hJ
            · simp (disch := omega) only [L0, L1, L2, L3, L4, L5, L6, L7, L8, L9, L10, L11, L12, L13, L14, L15, L16, L17, L18, L19, L20, L21, L22, L23, L24, L25, L26, L27, L31, L32, L33, L36, L40, L41, L42, L47, L48, L57, L58, L59, L60, L61, L62, L65, L97, L101, L102, L103, L120, L126, L127, L144, L245, L1023, L1715, I_add, I_sub, I_mul, I_neg, I_lt, I_le, I_eq, o8_g5, o8_l5, Option.bind_some, if_pos, if_neg, if_true, if_false, ite_true, ite_false]
              exact hJ
      · rw [ind_f c3, if_pos (show I 0 = (0 : Int32) from rfl)]
        exact (M_badR hl h).mono (fun q hq => ⟨-2, _, hq.1, hq.2, Or.inl ⟨by omega, rfl, rfl⟩⟩)
    · rw [ind_f c2] at hht
      simp only [o8_cO hl, hhe, hht, Option.bind_some]
      rw [if_neg (show ¬ I 1 = (0 : Int32) by decide), if_pos (show I 0 = (0 : Int32) from rfl)]
      exact (M_badR hl h).mono (fun q hq => ⟨-2, _, hq.1, hq.2, Or.inl ⟨by omega, rfl, rfl⟩⟩)
  · rw [ind_f c1] at hhe
    simp only [o8_cO hl, hhe, Option.bind_some]
    rw [if_pos (show I 0 = (0 : Int32) from rfl)]
    exact (M_badR hl h).mono (fun q hq => ⟨-2, _, hq.1, hq.2, Or.inl ⟨by omega, rfl, rfl⟩⟩)
end MMV
