/-! ===== Tree.link ===== -/
section LINK
variable {m : Mm} {a : Nat} {F : Nat → Int} {A : Nat → Int → Int}
theorem T_linkIn (hl : a + 5 < m.length) {e : Int} (h0 : 0 ≤ e) (h1 : e < 32) (hb : ∀ k, 0 ≤ k → k ≤ e → -1000 ≤ A 3 k ∧ A 3 k ≤ 1000) : whl FU (fun t => f_X4_link_L14 (ov m a (o4 a F A)) a (I e) t) (I (e - 1)) = some (I (prF (A 3) e)) := by
  obtain ⟨g1, g2, g3, g4⟩ := prF_spec (A 3) h0
  have hbe := hb e h0 (Int.le_refl _)
  have key := whl_iter (f := fun t => f_X4_link_L14 (ov m a (o4 a F A)) a (I e) t) (r := I (prF (A 3) e)) (fun j => I (e - 1 - j)) (e - 1 - prF (A 3) e).toNat ?_ ?_ FU (FU_lt (by omega))
  · simpa using key
  · intro j hj
    have hg := g4 (e - 1 - j) (by omega) (by omega) (by omega)
    have hbk := hb (e - 1 - j) (by omega) (by omega)
    simp (disch := omega) only [f_X4_link_L14, L0, L1, L2, L3, L4, L5, L6, L7, L8, L9, L10, L11, L12, L13, L14, L15, L16, L17, L18, L19, L20, L21, L22, L23, L24, L25, L26, L27, L31, L32, L33, L36, L40, L41, L42, L47, L48, L57, L58, L59, L60, L61, L62, L65, L97, L101, L102, L103, L120, L126, L127, L144, L245, L1023, L1715, I_add, I_sub, I_mul, I_neg, I_lt, I_le, I_eq, o4_cO, o4_g0, o4_p0, o4_g1, o4_g2, o4_g3, o4_g4, o4_g5, o4_l1, o4_s1, o4_l2, o4_s2, o4_l3, o4_s3, o4_l4, o4_s4, o4_l5, o4_s5, Option.bind_some, if_pos, if_neg, if_true, if_false, ite_true, ite_false]
    exact congrArg (fun z => some (Sum.inl (I z))) (by omega)
  · rw [show e - 1 - ((e - 1 - prF (A 3) e).toNat : Int) = prF (A 3) e by omega]
    by_cases hq : prF (A 3) e < 0
    · simp (disch := omega) only [f_X4_link_L14, L0, L1, L2, L3, L4, L5, L6, L7, L8, L9, L10, L11, L12, L13, L14, L15, L16, L17, L18, L19, L20, L21, L22, L23, L24, L25, L26, L27, L31, L32, L33, L36, L40, L41, L42, L47, L48, L57, L58, L59, L60, L61, L62, L65, L97, L101, L102, L103, L120, L126, L127, L144, L245, L1023, L1715, I_add, I_sub, I_mul, I_neg, I_lt, I_le, I_eq, o4_cO, o4_g0, o4_p0, o4_g1, o4_g2, o4_g3, o4_g4, o4_g5, o4_l1, o4_s1, o4_l2, o4_s2, o4_l3, o4_s3, o4_l4, o4_s4, o4_l5, o4_s5, Option.bind_some, if_pos, if_neg, if_true, if_false, ite_true, ite_false]
    · have hg := g3 (by omega)
      have hbk := hb (prF (A 3) e) (by omega) (by omega)
      simp (disch := omega) only [f_X4_link_L14, L0, L1, L2, L3, L4, L5, L6, L7, L8, L9, L10, L11, L12, L13, L14, L15, L16, L17, L18, L19, L20, L21, L22, L23, L24, L25, L26, L27, L31, L32, L33, L36, L40, L41, L42, L47, L48, L57, L58, L59, L60, L61, L62, L65, L97, L101, L102, L103, L120, L126, L127, L144, L245, L1023, L1715, I_add, I_sub, I_mul, I_neg, I_lt, I_le, I_eq, o4_cO, o4_g0, o4_p0, o4_g1, o4_g2, o4_g3, o4_g4, o4_g5, o4_l1, o4_s1, o4_l2, o4_s2, o4_l3, o4_s3, o4_l4, o4_s4, o4_l5, o4_s5, Option.bind_some, if_pos, if_neg, if_true, if_false, ite_true, ite_false]
theorem T_link1 (hl : a + 5 < m.length) (hn0 : 0 ≤ F 0) (hn : F 0 ≤ 32) (hb : ∀ k, 0 ≤ k → k < F 0 → -1000 ≤ A 3 k ∧ A 3 k ≤ 1000) : Ok (whl FU (fun t : Int32 × Mm => f_X4_link_L2 t.2 a t.1) ((0 : Int32), ov m a (o4 a F A))) (fun m' => ∃ A', m' = ov m a (o4 a F A') ∧ (∀ i, i ≠ 4 → i ≠ 5 → A' i = A i) ∧ ∀ k, 0 ≤ k → k < F 0 → A' 4 k = prF (A 3) k ∧ A' 5 k = k) := by
  refine Ok.whl (fun j s => ∃ k A', s = (I k, ov m a (o4 a F A')) ∧ 0 ≤ k ∧ k ≤ F 0 ∧ j = (F 0 - k).toNat ∧ (∀ i, i ≠ 4 → i ≠ 5 → A' i = A i) ∧ ∀ x, 0 ≤ x → x < k → A' 4 x = prF (A 3) x ∧ A' 5 x = x) _ (j := (F 0 - 0).toNat) ?_ ⟨0, A, rfl, by omega, hn0, rfl, fun _ _ _ => rfl, fun x h1 h2 => by omega⟩ (FU_lt (by omega))
  rintro j s ⟨k, A', rfl, h0, h1, rfl, hA, hx⟩
  dsimp only
  unfold f_X4_link_L2
  by_cases hk : F 0 ≤ k
  · simp (disch := omega) only [L0, L1, L2, L3, L4, L5, L6, L7, L8, L9, L10, L11, L12, L13, L14, L15, L16, L17, L18, L19, L20, L21, L22, L23, L24, L25, L26, L27, L31, L32, L33, L36, L40, L41, L42, L47, L48, L57, L58, L59, L60, L61, L62, L65, L97, L101, L102, L103, L120, L126, L127, L144, L245, L1023, L1715, I_add, I_sub, I_mul, I_neg, I_lt, I_le, I_eq, o4_cO, o4_g0, o4_p0, o4_g1, o4_g2, o4_g3, o4_g4, o4_g5, o4_l1, o4_s1, o4_l2, o4_s2, o4_l3, o4_s3, o4_l4, o4_s4, o4_l5, o4_s5, Option.bind_some, if_pos, if_neg, if_true, if_false, ite_true, ite_false]
    refine Ok.pure (Or.inr ⟨_, rfl, A', rfl, hA, fun x p q => hx x p (by omega)⟩)
  · have e3 : A' 3 = A 3 := hA 3 (by decide) (by decide)
    have hin := T_linkIn (m := m) (a := a) (F := F) (A := A') hl h0 (by omega) (fun x p q => by rw [e3]; exact hb x p (by omega))
    simp (disch := omega) only [L0, L1, L2, L3, L4, L5, L6, L7, L8, L9, L10, L11, L12, L13, L14, L15, L16, L17, L18, L19, L20, L21, L22, L23, L24, L25, L26, L27, L31, L32, L33, L36, L40, L41, L42, L47, L48, L57, L58, L59, L60, L61, L62, L65, L97, L101, L102, L103, L120, L126, L127, L144, L245, L1023, L1715, I_add, I_sub, I_mul, I_neg, I_lt, I_le, I_eq, o4_cO, o4_g0, o4_p0, o4_g1, o4_g2, o4_g3, o4_g4, o4_g5, o4_l1, o4_s1, o4_l2, o4_s2, o4_l3, o4_s3, o4_l4, o4_s4, o4_l5, o4_s5, Option.bind_some, if_pos, if_neg, if_true, if_false, ite_true, ite_false]
    rw [hin]
    simp (disch := omega) only [L0, L1, L2, L3, L4, L5, L6, L7, L8, L9, L10, L11, L12, L13, L14, L15, L16, L17, L18, L19, L20, L21, L22, L23, L24, L25, L26, L27, L31, L32, L33, L36, L40, L41, L42, L47, L48, L57, L58, L59, L60, L61, L62, L65, L97, L101, L102, L103, L120, L126, L127, L144, L245, L1023, L1715, I_add, I_sub, I_mul, I_neg, I_lt, I_le, I_eq, o4_cO, o4_g0, o4_p0, o4_g1, o4_g2, o4_g3, o4_g4, o4_g5, o4_l1, o4_s1, o4_l2, o4_s2, o4_l3, o4_s3, o4_l4, o4_s4, o4_l5, o4_s5, Option.bind_some, if_pos, if_neg, if_true, if_false, ite_true, ite_false]
    refine Ok.pure (Or.inl ⟨_, (F 0 - (k + 1)).toNat, rfl, ⟨k + 1, _, rfl, by omega, by omega, rfl, fun i p q => ?_, fun x p q => ?_⟩, by omega⟩)
    · simp only [upN, if_neg p, if_neg q]; exact hA i p q
    · have := hx x p
      by_cases hxk : x = k
      · subst hxk; simp [upN, upZ, e3]
      · have := hx x p (by omega); simpa [upN, upZ, hxk] using this
theorem T_link2 (hl : a + 5 < m.length) {n : Int} {lv : Int → Int} (hw : WL n lv) (hF : F 0 = n) (hA : ∀ k, 0 ≤ k → k < n → A 4 k = prF lv k ∧ A 5 k = k) : Ok (whl FU (fun t : Int32 × Mm => f_X4_link_L66 t.2 a t.1) (I (n - 1), ov m a (o4 a F A))) (fun m' => ∃ A', m' = ov m a (o4 a F A') ∧ (∀ i, i ≠ 5 → A' i = A i) ∧ ∀ k, 0 ≤ k → k < n → A' 5 k = enF n lv k - 1) := by
  have hn1 := hw.1
  have hn2 := hw.2.1
  -- with all children known, the end is known
  have fin : ∀ (B : Int → Int) (k j : Int), 0 ≤ j → j < n → k ≤ j → (j ≤ B j ∧ B j ≤ enF n lv j - 1) → (∀ f, k < f → f < n → prF lv f = j → enF n lv f - 1 ≤ B j) → B j = enF n lv j - 1 := by
    intro B k j h0 h1 hkj hb hc
    obtain ⟨r1, r2, r3, r4⟩ := enF_spec lv h1
    by_cases hq : j + 1 < enF n lv j
    · obtain ⟨f, a1, a2, a3, a4⟩ := last_child hw h0 h1 hq
      have := hc f (by omega) (by omega) ((pr_iff hw h0 h1 (by omega) (by omega)).mpr ⟨a1, a2, a3⟩)
      omega
    · omega
  refine Ok.whl (fun j s => ∃ k A', s = (I k, ov m a (o4 a F A')) ∧ 0 ≤ k ∧ k < n ∧ j = k.toNat ∧ (∀ i, i ≠ 5 → A' i = A i) ∧ (∀ x, 0 ≤ x → x < n → x ≤ A' 5 x ∧ A' 5 x ≤ enF n lv x - 1) ∧ ∀ f, k < f → f < n → ∀ x, prF lv f = x → 0 ≤ x → enF n lv f - 1 ≤ A' 5 x) _ (j := (n - 1).toNat) ?_ ⟨n - 1, A, rfl, by omega, by omega, rfl, fun _ _ => rfl, fun x h1 h2 => ?_, fun f h1 h2 => by omega⟩ (FU_lt (by omega))
  · rintro j s ⟨k, A', rfl, h0, h1, rfl, hA', hr, hc⟩
    dsimp only
    unfold f_X4_link_L66
    by_cases hk : k ≤ 0
    · simp (disch := omega) only [L0, L1, L2, L3, L4, L5, L6, L7, L8, L9, L10, L11, L12, L13, L14, L15, L16, L17, L18, L19, L20, L21, L22, L23, L24, L25, L26, L27, L31, L32, L33, L36, L40, L41, L42, L47, L48, L57, L58, L59, L60, L61, L62, L65, L97, L101, L102, L103, L120, L126, L127, L144, L245, L1023, L1715, I_add, I_sub, I_mul, I_neg, I_lt, I_le, I_eq, o4_cO, o4_g0, o4_p0, o4_g1, o4_g2, o4_g3, o4_g4, o4_g5, o4_l1, o4_s1, o4_l2, o4_s2, o4_l3, o4_s3, o4_l4, o4_s4, o4_l5, o4_s5, Option.bind_some, if_pos, if_neg, if_true, if_false, ite_true, ite_false]
      refine Ok.pure (Or.inr ⟨_, rfl, A', rfl, hA', fun x p q => ?_⟩)
      exact fin (A' 5) 0 x p q p (hr x p q) (fun f p1 p2 p3 => hc f (by omega) p2 x p3 p)
    · have e4 : A' 4 = A 4 := hA' 4 (by decide)
      have hpk : A' 4 k = prF lv k := by rw [e4]; exact (hA k h0 h1).1
      obtain ⟨g1, g2, g3, g4⟩ := prF_spec lv h0
      have hp0 := pr_ge hw (show 0 < k by omega) h1
      have hfk := fin (A' 5) k k h0 h1 (Int.le_refl _) (hr k h0 h1) (fun f p1 p2 p3 => hc f p1 p2 k p3 h0)
      have hrp := hr (prF lv k) hp0 (by omega)
      have hiff := (pr_iff hw hp0 (by omega) h0 h1).mp rfl
      have hel := en_le (lv := lv) (show prF lv k < n by omega) hiff.1 hiff.2.1
      obtain ⟨r1, r2, -, -⟩ := enF_spec lv h1
      obtain ⟨r5, r6, -, -⟩ := enF_spec lv (show prF lv k < n by omega)
      simp (disch := omega) only [L0, L1, L2, L3, L4, L5, L6, L7, L8, L9, L10, L11, L12, L13, L14, L15, L16, L17, L18, L19, L20, L21, L22, L23, L24, L25, L26, L27, L31, L32, L33, L36, L40, L41, L42, L47, L48, L57, L58, L59, L60, L61, L62, L65, L97, L101, L102, L103, L120, L126, L127, L144, L245, L1023, L1715, I_add, I_sub, I_mul, I_neg, I_lt, I_le, I_eq, o4_cO, o4_g0, o4_p0, o4_g1, o4_g2, o4_g3, o4_g4, o4_g5, o4_l1, o4_s1, o4_l2, o4_s2, o4_l3, o4_s3, o4_l4, o4_s4, o4_l5, o4_s5, Option.bind_some, if_pos, if_neg, if_true, if_false, ite_true, ite_false, hpk]
      have hst : (if A' 5 (prF lv k) < A' 5 k then I (A' 5 k) else I (A' 5 (prF lv k))) = I (if A' 5 (prF lv k) < A' 5 k then A' 5 k else A' 5 (prF lv k)) := by split <;> rfl
      rw [hst]
      simp (disch := omega) only [L0, L1, L2, L3, L4, L5, L6, L7, L8, L9, L10, L11, L12, L13, L14, L15, L16, L17, L18, L19, L20, L21, L22, L23, L24, L25, L26, L27, L31, L32, L33, L36, L40, L41, L42, L47, L48, L57, L58, L59, L60, L61, L62, L65, L97, L101, L102, L103, L120, L126, L127, L144, L245, L1023, L1715, I_add, I_sub, I_mul, I_neg, I_lt, I_le, I_eq, o4_cO, o4_g0, o4_p0, o4_g1, o4_g2, o4_g3, o4_g4, o4_g5, o4_l1, o4_s1, o4_l2, o4_s2, o4_l3, o4_s3, o4_l4, o4_s4, o4_l5, o4_s5, Option.bind_some, if_pos, if_neg, if_true, if_false, ite_true, ite_false]
      refine Ok.pure (Or.inl ⟨_, (k - 1).toNat, rfl, ⟨k - 1, _, by rw [show k + -1 = k - 1 by omega], by omega, by omega, rfl, fun i p => ?_, fun x p q => ?_, fun f p q x p3 p4 => ?_⟩, by omega⟩)
      · simp only [upN, if_neg p]; exact hA' i p
      · simp only [upN, if_true, upZ]
        by_cases hx : x = prF lv k
        · subst hx; rw [if_pos rfl]; split <;> omega
        · rw [if_neg hx]; exact hr x p q
      · simp only [upN, if_true, upZ]
        by_cases hx : x = prF lv k
        · rw [if_pos hx]
          by_cases hf : f = k
          · subst hf; split <;> omega
          · have := hc f (by omega) q x p3 p4
            rw [hx] at this
            split <;> omega
        · rw [if_neg hx]
          by_cases hf : f = k
          · subst hf; exact absurd p3.symm hx
          · exact hc f (by omega) q x p3 p4
  · have := (hA x h1 h2).2
    obtain ⟨r1, r2, -, -⟩ := enF_spec lv h2
    omega
theorem T_link (hl : a + 5 < m.length) {n : Int} (hF : F 0 = n) (hw : WL n (A 3)) : Ok (f_X4_link (ov m a (o4 a F A)) a) (fun m' => ∃ A', m' = ov m a (o4 a F A') ∧ (∀ i, i ≠ 4 → i ≠ 5 → A' i = A i) ∧ ∀ k, 0 ≤ k → k < n → A' 4 k = prF (A 3) k ∧ A' 5 k = enF n (A 3) k - 1) := by
  have hn1 := hw.1
  have hn2 := hw.2.1
  unfold f_X4_link
  refine Ok.bind (T_link1 hl (by omega) (by omega) (fun k p q => by have := hw.ge1 p (by omega); omega)) ?_
  rintro m' ⟨A1, rfl, h1, h2⟩
  simp (disch := omega) only [L0, L1, L2, L3, L4, L5, L6, L7, L8, L9, L10, L11, L12, L13, L14, L15, L16, L17, L18, L19, L20, L21, L22, L23, L24, L25, L26, L27, L31, L32, L33, L36, L40, L41, L42, L47, L48, L57, L58, L59, L60, L61, L62, L65, L97, L101, L102, L103, L120, L126, L127, L144, L245, L1023, L1715, I_add, I_sub, I_mul, I_neg, I_lt, I_le, I_eq, o4_cO, o4_g0, o4_p0, o4_g1, o4_g2, o4_g3, o4_g4, o4_g5, o4_l1, o4_s1, o4_l2, o4_s2, o4_l3, o4_s3, o4_l4, o4_s4, o4_l5, o4_s5, Option.bind_some, if_pos, if_neg, if_true, if_false, ite_true, ite_false]
  rw [hF]
  refine Ok.bind (T_link2 hl hw hF (fun k p q => h2 k p (by omega))) ?_
  rintro m' ⟨A2, rfl, h3, h4⟩
  refine Ok.pure ⟨A2, rfl, fun i p q => by rw [h3 i q, h1 i p q], fun k p q => ⟨?_, h4 k p q⟩⟩
  rw [h3 4 (by decide)]
  exact (h2 k p (by omega)).1
end LINK
