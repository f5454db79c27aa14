/-! ===== Tree: insert, remove, relocate, slot, deepest, copyFrom ===== -/
section TREE2
variable {m : Mm} {a : Nat} {F : Nat → Int} {A : Nat → Int → Int} {n : Int}
theorem T_append (hl : a + 5 < m.length) {t l : Int} (h0 : 0 ≤ F 0) (h1 : F 0 < 32) : f_X4_append (ov m a (o4 a F A)) a (I t) (I l) = some (ov m a (o4 a (upN F 0 (F 0 + 1)) (put3 A (F 0) t 0 l))) := by
  unfold f_X4_append
  simp (disch := omega) only [L0, L1, L2, L3, L4, L5, L6, L7, L8, L9, L10, L11, L12, L13, L14, L15, L16, L17, L18, L19, L20, L21, L22, L23, L24, L25, L26, L27, L31, L32, L33, L36, L40, L41, L42, L47, L48, L57, L58, L59, L60, L61, L62, L65, L97, L101, L102, L103, L120, L126, L127, L144, L245, L1023, L1715, I_add, I_sub, I_mul, I_neg, I_lt, I_le, I_eq, o4_cO, o4_g0, o4_p0, o4_g1, o4_g2, o4_g3, o4_g4, o4_g5, o4_l1, o4_s1, o4_l2, o4_s2, o4_l3, o4_s3, o4_l4, o4_s4, o4_l5, o4_s5, Option.bind_some, if_pos, if_neg, if_true, if_false, ite_true, ite_false, T_put]
theorem T_insert (hl : a + 5 < m.length) {p t v L : Int} (hF : F 0 = n) (hn : n < 32) (h0 : 0 ≤ p) (h1 : p ≤ n) (hw : WL (n + 1) (insZ (A 3) p L)) : Ok (f_X4_insert (ov m a (o4 a F A)) a (I p) (I L) (I t) (I v)) (fun m' => ∃ F' A', m' = ov m a (o4 a F' A') ∧ F' 0 = n + 1 ∧ ∀ k, 0 ≤ k → k < n + 1 → A' 1 k = insZ (A 1) p t k ∧ A' 2 k = insZ (A 2) p v k ∧ A' 3 k = insZ (A 3) p L k ∧ A' 4 k = prF (insZ (A 3) p L) k ∧ A' 5 k = enF (n + 1) (insZ (A 3) p L) k - 1) := by
  unfold f_X4_insert
  simp (disch := omega) only [L0, L1, L2, L3, L4, L5, L6, L7, L8, L9, L10, L11, L12, L13, L14, L15, L16, L17, L18, L19, L20, L21, L22, L23, L24, L25, L26, L27, L31, L32, L33, L36, L40, L41, L42, L47, L48, L57, L58, L59, L60, L61, L62, L65, L97, L101, L102, L103, L120, L126, L127, L144, L245, L1023, L1715, I_add, I_sub, I_mul, I_neg, I_lt, I_le, I_eq, o4_cO, o4_g0, o4_p0, o4_g1, o4_g2, o4_g3, o4_g4, o4_g5, o4_l1, o4_s1, o4_l2, o4_s2, o4_l3, o4_s3, o4_l4, o4_s4, o4_l5, o4_s5, Option.bind_some, if_pos, if_neg, if_true, if_false, ite_true, ite_false]
  rw [hF]
  refine Ok.bind (P := fun m' => ∃ A', m' = ov m a (o4 a F A') ∧ ∀ k, 0 ≤ k → k ≤ n → (A' 1 k = if p < k then A 1 (k - 1) else A 1 k) ∧ (A' 2 k = if p < k then A 2 (k - 1) else A 2 k) ∧ (A' 3 k = if p < k then A 3 (k - 1) else A 3 k)) ?_ ?_
  · refine Ok.whl (fun j s => ∃ e A', s = (I e, ov m a (o4 a F A')) ∧ p ≤ e ∧ e ≤ n ∧ j = (e - p).toNat ∧ ∀ k, 0 ≤ k → k ≤ n → (A' 1 k = if e < k then A 1 (k - 1) else A 1 k) ∧ (A' 2 k = if e < k then A 2 (k - 1) else A 2 k) ∧ (A' 3 k = if e < k then A 3 (k - 1) else A 3 k)) _ (j := (n - p).toNat) ?_ ⟨n, A, rfl, h1, Int.le_refl _, rfl, fun k p q => by rw [if_neg (by omega), if_neg (by omega), if_neg (by omega)]; exact ⟨rfl, rfl, rfl⟩⟩ (FU_lt (by omega))
    rintro j s ⟨e, A', rfl, he1, he2, rfl, hA⟩
    dsimp only
    by_cases he : e ≤ p
    · simp (disch := omega) only [f_X4_insert_L6, L0, L1, L2, L3, L4, L5, L6, L7, L8, L9, L10, L11, L12, L13, L14, L15, L16, L17, L18, L19, L20, L21, L22, L23, L24, L25, L26, L27, L31, L32, L33, L36, L40, L41, L42, L47, L48, L57, L58, L59, L60, L61, L62, L65, L97, L101, L102, L103, L120, L126, L127, L144, L245, L1023, L1715, I_add, I_sub, I_mul, I_neg, I_lt, I_le, I_eq, o4_cO, o4_g0, o4_p0, o4_g1, o4_g2, o4_g3, o4_g4, o4_g5, o4_l1, o4_s1, o4_l2, o4_s2, o4_l3, o4_s3, o4_l4, o4_s4, o4_l5, o4_s5, Option.bind_some, if_pos, if_neg, if_true, if_false, ite_true, ite_false]
      refine Ok.pure (Or.inr ⟨_, rfl, A', rfl, fun k p1 p2 => ?_⟩)
      have : e = p := by omega
      subst this
      exact hA k p1 p2
    · simp (disch := omega) only [f_X4_insert_L6, L0, L1, L2, L3, L4, L5, L6, L7, L8, L9, L10, L11, L12, L13, L14, L15, L16, L17, L18, L19, L20, L21, L22, L23, L24, L25, L26, L27, L31, L32, L33, L36, L40, L41, L42, L47, L48, L57, L58, L59, L60, L61, L62, L65, L97, L101, L102, L103, L120, L126, L127, L144, L245, L1023, L1715, I_add, I_sub, I_mul, I_neg, I_lt, I_le, I_eq, o4_cO, o4_g0, o4_p0, o4_g1, o4_g2, o4_g3, o4_g4, o4_g5, o4_l1, o4_s1, o4_l2, o4_s2, o4_l3, o4_s3, o4_l4, o4_s4, o4_l5, o4_s5, Option.bind_some, if_pos, if_neg, if_true, if_false, ite_true, ite_false, T_put]
      refine Ok.pure (Or.inl ⟨_, (e - 1 - p).toNat, rfl, ⟨e - 1, _, by rw [show e + -1 = e - 1 by omega], by omega, by omega, rfl, fun k p1 p2 => ?_⟩, by omega⟩)
      rw [put3_1, put3_2, put3_3]
      have hk := hA k p1 p2
      have hk1 := hA (e - 1) (by omega) (by omega)
      by_cases hke : k = e
      · subst hke
        rw [upZ_at, upZ_at, upZ_at, if_pos (by omega), if_pos (by omega), if_pos (by omega), hk1.1, hk1.2.1, hk1.2.2, if_neg (by omega), if_neg (by omega), if_neg (by omega)]
        exact ⟨rfl, rfl, rfl⟩
      · rw [upZ_ne hke, upZ_ne hke, upZ_ne hke, hk.1, hk.2.1, hk.2.2]
        by_cases hlt : e < k
        · simp only [if_pos hlt, if_pos (show e - 1 < k by omega), and_self]
        · simp only [if_neg hlt, if_neg (show ¬ e - 1 < k by omega), and_self]
  · rintro m' ⟨A1, rfl, hA1⟩
    simp (disch := omega) only [L0, L1, L2, L3, L4, L5, L6, L7, L8, L9, L10, L11, L12, L13, L14, L15, L16, L17, L18, L19, L20, L21, L22, L23, L24, L25, L26, L27, L31, L32, L33, L36, L40, L41, L42, L47, L48, L57, L58, L59, L60, L61, L62, L65, L97, L101, L102, L103, L120, L126, L127, L144, L245, L1023, L1715, I_add, I_sub, I_mul, I_neg, I_lt, I_le, I_eq, o4_cO, o4_g0, o4_p0, o4_g1, o4_g2, o4_g3, o4_g4, o4_g5, o4_l1, o4_s1, o4_l2, o4_s2, o4_l3, o4_s3, o4_l4, o4_s4, o4_l5, o4_s5, Option.bind_some, if_pos, if_neg, if_true, if_false, ite_true, ite_false, T_put]
    have h3 : ∀ k, 0 ≤ k → k < n + 1 → put3 A1 p t v L 1 k = insZ (A 1) p t k ∧ put3 A1 p t v L 2 k = insZ (A 2) p v k ∧ put3 A1 p t v L 3 k = insZ (A 3) p L k := by
      intro k p1 p2
      have hk := hA1 k p1 (by omega)
      rw [put3_1, put3_2, put3_3]
      unfold insZ upZ
      by_cases c1 : k = p
      · subst c1; simp
      · rw [if_neg c1, if_neg c1, if_neg c1, hk.1, hk.2.1, hk.2.2]
        by_cases c2 : k < p
        · simp [c1, c2, show ¬ p < k by omega]
        · simp [c1, c2, show p < k by omega]
    have hw' : WL (n + 1) (put3 A1 p t v L 3) := WL_congr hw (fun k p1 p2 => (h3 k p1 p2).2.2)
    have hl2 : upN F 0 (F 0 + 1) 0 = n + 1 := by rw [upN_at, hF]
    refine Ok.bind (T_link hl hl2 hw') ?_
    rintro m' ⟨A2, rfl, g1, g2⟩
    refine Ok.pure ⟨_, A2, rfl, hl2, fun k p1 p2 => ?_⟩
    rw [g1 1 (by decide) (by decide), g1 2 (by decide) (by decide), g1 3 (by decide) (by decide)]
    obtain ⟨a1, a2, a3⟩ := h3 k p1 p2
    refine ⟨a1, a2, a3, ?_, ?_⟩
    · rw [(g2 k p1 p2).1]
      exact prF_congr p1 (fun j q1 q2 => (h3 j q1 (by omega)).2.2)
    · rw [(g2 k p1 p2).2, enF_congr p1 p2 (fun j q1 q2 => (h3 j q1 q2).2.2)]
theorem T_remove (hl : a + 5 < m.length) {p s : Int} (hF : F 0 = n) (hn : n ≤ 32) (h0 : 0 ≤ p) (hs : 0 < s) (h1 : p + s ≤ n) (hw : WL (n - s) (delZ (A 3) p s)) : Ok (f_X4_remove (ov m a (o4 a F A)) a (I p) (I s)) (fun m' => ∃ F' A', m' = ov m a (o4 a F' A') ∧ F' 0 = n - s ∧ ∀ k, 0 ≤ k → k < n - s → A' 1 k = delZ (A 1) p s k ∧ A' 2 k = delZ (A 2) p s k ∧ A' 3 k = delZ (A 3) p s k ∧ A' 4 k = prF (delZ (A 3) p s) k ∧ A' 5 k = enF (n - s) (delZ (A 3) p s) k - 1) := by
  unfold f_X4_remove
  simp (disch := omega) only [L0, L1, L2, L3, L4, L5, L6, L7, L8, L9, L10, L11, L12, L13, L14, L15, L16, L17, L18, L19, L20, L21, L22, L23, L24, L25, L26, L27, L31, L32, L33, L36, L40, L41, L42, L47, L48, L57, L58, L59, L60, L61, L62, L65, L97, L101, L102, L103, L120, L126, L127, L144, L245, L1023, L1715, I_add, I_sub, I_mul, I_neg, I_lt, I_le, I_eq, o4_cO, o4_g0, o4_p0, o4_g1, o4_g2, o4_g3, o4_g4, o4_g5, o4_l1, o4_s1, o4_l2, o4_s2, o4_l3, o4_s3, o4_l4, o4_s4, o4_l5, o4_s5, Option.bind_some, if_pos, if_neg, if_true, if_false, ite_true, ite_false]
  have hF' : upN F 0 (F 0 - s) 0 = n - s := by rw [upN_at, hF]
  generalize upN F 0 (F 0 - s) = F1 at hF' ⊢
  refine Ok.bind (P := fun m' => ∃ A', m' = ov m a (o4 a F1 A') ∧ ∀ k, 0 ≤ k → k < n - s → A' 1 k = delZ (A 1) p s k ∧ A' 2 k = delZ (A 2) p s k ∧ A' 3 k = delZ (A 3) p s k) ?_ ?_
  · refine Ok.whl (fun j st => ∃ e A', st = (I e, ov m a (o4 a F1 A')) ∧ p ≤ e ∧ e ≤ n - s ∧ j = (n - s - e).toNat ∧ (∀ k, 0 ≤ k → k < e → A' 1 k = delZ (A 1) p s k ∧ A' 2 k = delZ (A 2) p s k ∧ A' 3 k = delZ (A 3) p s k) ∧ ∀ k, e ≤ k → k < n → A' 1 k = A 1 k ∧ A' 2 k = A 2 k ∧ A' 3 k = A 3 k) _ (j := (n - s - p).toNat) ?_ ⟨p, A, rfl, Int.le_refl _, by omega, rfl, fun k p q => by unfold delZ; rw [if_pos q, if_pos q, if_pos q]; exact ⟨rfl, rfl, rfl⟩, fun _ _ _ => ⟨rfl, rfl, rfl⟩⟩ (FU_lt (by omega))
    rintro j st ⟨e, A', rfl, he1, he2, rfl, hA, hB⟩
    dsimp only
    by_cases he : n - s ≤ e
    · simp (disch := omega) only [f_X4_remove_L12, L0, L1, L2, L3, L4, L5, L6, L7, L8, L9, L10, L11, L12, L13, L14, L15, L16, L17, L18, L19, L20, L21, L22, L23, L24, L25, L26, L27, L31, L32, L33, L36, L40, L41, L42, L47, L48, L57, L58, L59, L60, L61, L62, L65, L97, L101, L102, L103, L120, L126, L127, L144, L245, L1023, L1715, I_add, I_sub, I_mul, I_neg, I_lt, I_le, I_eq, o4_cO, o4_g0, o4_p0, o4_g1, o4_g2, o4_g3, o4_g4, o4_g5, o4_l1, o4_s1, o4_l2, o4_s2, o4_l3, o4_s3, o4_l4, o4_s4, o4_l5, o4_s5, Option.bind_some, if_pos, if_neg, if_true, if_false, ite_true, ite_false]
      exact Ok.pure (Or.inr ⟨_, rfl, A', rfl, fun k p1 p2 => hA k p1 (by omega)⟩)
    · simp (disch := omega) only [f_X4_remove_L12, L0, L1, L2, L3, L4, L5, L6, L7, L8, L9, L10, L11, L12, L13, L14, L15, L16, L17, L18, L19, L20, L21, L22, L23, L24, L25, L26, L27, L31, L32, L33, L36, L40, L41, L42, L47, L48, L57, L58, L59, L60, L61, L62, L65, L97, L101, L102, L103, L120, L126, L127, L144, L245, L1023, L1715, I_add, I_sub, I_mul, I_neg, I_lt, I_le, I_eq, o4_cO, o4_g0, o4_p0, o4_g1, o4_g2, o4_g3, o4_g4, o4_g5, o4_l1, o4_s1, o4_l2, o4_s2, o4_l3, o4_s3, o4_l4, o4_s4, o4_l5, o4_s5, Option.bind_some, if_pos, if_neg, if_true, if_false, ite_true, ite_false, T_put]
      refine Ok.pure (Or.inl ⟨_, (n - s - (e + 1)).toNat, rfl, ⟨e + 1, _, rfl, by omega, by omega, rfl, fun k p1 p2 => ?_, fun k p1 p2 => ?_⟩, by omega⟩)
      · rw [put3_1, put3_2, put3_3]
        have hk1 := hB (e + s) (by omega) (by omega)
        by_cases hke : k = e
        · subst hke
          rw [upZ_at, upZ_at, upZ_at, hk1.1, hk1.2.1, hk1.2.2]
          unfold delZ
          rw [if_neg (by omega), if_neg (by omega), if_neg (by omega)]
          exact ⟨rfl, rfl, rfl⟩
        · rw [upZ_ne hke, upZ_ne hke, upZ_ne hke]
          exact hA k p1 (by omega)
      · rw [put3_1, put3_2, put3_3, upZ_ne (by omega), upZ_ne (by omega), upZ_ne (by omega)]
        exact hB k (by omega) p2
  · rintro m' ⟨A1, rfl, h3⟩
    simp (disch := omega) only [L0, L1, L2, L3, L4, L5, L6, L7, L8, L9, L10, L11, L12, L13, L14, L15, L16, L17, L18, L19, L20, L21, L22, L23, L24, L25, L26, L27, L31, L32, L33, L36, L40, L41, L42, L47, L48, L57, L58, L59, L60, L61, L62, L65, L97, L101, L102, L103, L120, L126, L127, L144, L245, L1023, L1715, I_add, I_sub, I_mul, I_neg, I_lt, I_le, I_eq, o4_cO, o4_g0, o4_p0, o4_g1, o4_g2, o4_g3, o4_g4, o4_g5, o4_l1, o4_s1, o4_l2, o4_s2, o4_l3, o4_s3, o4_l4, o4_s4, o4_l5, o4_s5, Option.bind_some, if_pos, if_neg, if_true, if_false, ite_true, ite_false]
    have hw' : WL (n - s) (A1 3) := WL_congr hw (fun k p1 p2 => (h3 k p1 p2).2.2)
    refine Ok.bind (T_link hl hF' hw') ?_
    rintro m' ⟨A2, rfl, g1, g2⟩
    refine Ok.pure ⟨_, A2, rfl, hF', fun k p1 p2 => ?_⟩
    rw [g1 1 (by decide) (by decide), g1 2 (by decide) (by decide), g1 3 (by decide) (by decide)]
    obtain ⟨a1, a2, a3⟩ := h3 k p1 p2
    refine ⟨a1, a2, a3, ?_, ?_⟩
    · rw [(g2 k p1 p2).1]
      exact prF_congr p1 (fun j q1 q2 => (h3 j q1 (by omega)).2.2)
    · rw [(g2 k p1 p2).2, enF_congr p1 p2 (fun j q1 q2 => (h3 j q1 q2).2.2)]
theorem T_deepest (h : At m a (o4 a F A)) {tg vl lv : Int → Int} (hT : TR F A n tg vl lv) {e : Int} (h0 : 0 ≤ e) (h1 : e < n) : ∃ d, f_X4_deepest m a (I e) = some (I d) ∧ d ≤ 10 ∧ (∀ k, e ≤ k → k < enF n lv e → lv k ≤ d) ∧ ∃ k, e ≤ k ∧ k < enF n lv e ∧ lv k = d := by
  obtain ⟨hF, hw, hA⟩ := hT
  have hn2 := hw.2.1
  obtain ⟨r1, r2, -, -⟩ := enF_spec lv h1
  have hla : A 5 e = enF n lv e - 1 := (hA e h0 h1).2.2.2.2.1
  have hle : A 3 e = lv e := (hA e h0 h1).2.2.1
  unfold f_X4_deepest
  simp (disch := omega) only [L0, L1, L2, L3, L4, L5, L6, L7, L8, L9, L10, L11, L12, L13, L14, L15, L16, L17, L18, L19, L20, L21, L22, L23, L24, L25, L26, L27, L31, L32, L33, L36, L40, L41, L42, L47, L48, L57, L58, L59, L60, L61, L62, L65, L97, L101, L102, L103, L120, L126, L127, L144, L245, L1023, L1715, I_add, I_sub, I_mul, I_neg, I_lt, I_le, I_eq, a4_cO h, a4_g0 h, a4_g1 h, a4_g2 h, a4_g3 h, a4_g4 h, a4_g5 h, a4_l1 h, a4_l2 h, a4_l3 h, a4_l4 h, a4_l5 h, Option.bind_some, if_pos, if_neg, if_true, if_false, ite_true, ite_false]
  have key : Ok (whl FU (fun t5 : Int32 × Int32 => f_X4_deepest_L11 m a (I e) t5.1 t5.2) (I (A 3 e), I (e + 1))) (fun r => ∃ d, r = I d ∧ d ≤ 10 ∧ (∀ k, e ≤ k → k < enF n lv e → lv k ≤ d) ∧ ∃ k, e ≤ k ∧ k < enF n lv e ∧ lv k = d) := by
    refine Ok.whl (fun j s => ∃ d f, s = (I d, I f) ∧ e < f ∧ f ≤ enF n lv e ∧ j = (enF n lv e - f).toNat ∧ 1 ≤ d ∧ d ≤ 10 ∧ (∀ k, e ≤ k → k < f → lv k ≤ d) ∧ ∃ k, e ≤ k ∧ k < f ∧ lv k = d) _ (j := (enF n lv e - (e + 1)).toNat) ?_ ⟨_, e + 1, rfl, by omega, by omega, rfl, by have := hw.ge1 h0 h1; omega, by have := hw.ge1 h0 h1; omega, fun k p q => ?_, ⟨e, by omega, by omega, hle.symm⟩⟩ (FU_lt (by omega))
    · rintro j s ⟨d, f, rfl, hf1, hf2, rfl, hd0, hd, hmax, hex⟩
      dsimp only
      by_cases hc : A 5 e < f
      · simp (disch := omega) only [f_X4_deepest_L11, L0, L1, L2, L3, L4, L5, L6, L7, L8, L9, L10, L11, L12, L13, L14, L15, L16, L17, L18, L19, L20, L21, L22, L23, L24, L25, L26, L27, L31, L32, L33, L36, L40, L41, L42, L47, L48, L57, L58, L59, L60, L61, L62, L65, L97, L101, L102, L103, L120, L126, L127, L144, L245, L1023, L1715, I_add, I_sub, I_mul, I_neg, I_lt, I_le, I_eq, a4_cO h, a4_g0 h, a4_g1 h, a4_g2 h, a4_g3 h, a4_g4 h, a4_g5 h, a4_l1 h, a4_l2 h, a4_l3 h, a4_l4 h, a4_l5 h, Option.bind_some, if_pos, if_neg, if_true, if_false, ite_true, ite_false]
        have hfe : f = enF n lv e := by omega
        subst hfe
        exact Ok.pure (Or.inr ⟨_, rfl, d, rfl, hd, hmax, hex⟩)
      · have hlf : A 3 f = lv f := (hA f (by omega) (by omega)).2.2.1
        have hg := hw.ge1 (k := f) (by omega) (by omega)
        simp (disch := omega) only [f_X4_deepest_L11, L0, L1, L2, L3, L4, L5, L6, L7, L8, L9, L10, L11, L12, L13, L14, L15, L16, L17, L18, L19, L20, L21, L22, L23, L24, L25, L26, L27, L31, L32, L33, L36, L40, L41, L42, L47, L48, L57, L58, L59, L60, L61, L62, L65, L97, L101, L102, L103, L120, L126, L127, L144, L245, L1023, L1715, I_add, I_sub, I_mul, I_neg, I_lt, I_le, I_eq, a4_cO h, a4_g0 h, a4_g1 h, a4_g2 h, a4_g3 h, a4_g4 h, a4_g5 h, a4_l1 h, a4_l2 h, a4_l3 h, a4_l4 h, a4_l5 h, Option.bind_some, if_pos, if_neg, if_true, if_false, ite_true, ite_false]
        rw [show (if d < A 3 f then I (A 3 f) else I d) = I (if d < A 3 f then A 3 f else d) by split <;> rfl]
        refine Ok.pure (Or.inl ⟨_, (enF n lv e - (f + 1)).toNat, rfl, ⟨_, f + 1, rfl, by omega, by omega, rfl, ?_, ?_, fun k p q => ?_, ?_⟩, by omega⟩)
        · split <;> omega
        · split <;> omega
        · by_cases hk : k = f
          · subst hk; split <;> omega
          · have := hmax k p (by omega); split <;> omega
        · obtain ⟨k, a1, a2, a3⟩ := hex
          by_cases hlt : d < A 3 f
          · rw [if_pos hlt]; exact ⟨f, by omega, by omega, by omega⟩
          · rw [if_neg hlt]; exact ⟨k, a1, by omega, a3⟩
    · have : k = e := by omega
      subst this; omega
  obtain ⟨r, hr, d, rfl, hd⟩ := key
  rw [hr]
  exact ⟨d, rfl, hd⟩
def cpz (n : Int) (A1 A2 : Int → Int) : Int → Int := fun k => if 0 ≤ k ∧ k < n then A1 k else A2 k
theorem cI_c {M : Mm} {x y nn : Nat} {A1 A2 : Int → Int} (h1 : M[x]? = some (eI nn (cv A1))) (h2 : M[y]? = some (eI nn (cv A2))) (hn : nn < 2000000) : cI M x (I 0) y (I 0) (I nn) = some (M.set y (eI nn (cv (cpz nn A1 A2)))) := by
  simp only [cI, h1, h2]
  have e0 : (I 0).toNatClampNeg = 0 := I_clamp (by omega) (by omega)
  have en : (I nn).toNatClampNeg = nn := by rw [I_clamp (by omega) (by omega)]; omega
  rw [if_neg]
  · rw [e0, en]
    refine congrArg (fun z => some (M.set y (eI nn z))) (funext fun k => ?_)
    unfold va_cpy cv cpz
    by_cases hk : k < nn
    · rw [if_pos (by omega), if_pos (by omega), show 0 + (k - 0) = k by omega]
    · rw [if_neg (by omega), if_neg (by omega)]
  · rw [e0, en, show (0 : Int32) = I 0 from rfl, I_lt (by omega) (by omega) (by omega) (by omega), I_lt (by omega) (by omega) (by omega) (by omega)]
    omega
theorem T_copyFrom (hl : a + 5 < m.length) {b : Nat} {F' : Nat → Int} {A' : Nat → Int → Int} (hb : At m b (o4 b F' A')) (hd : a + 5 < b ∨ b + 5 < a) : ∃ A'', f_X4_copyFrom (ov m a (o4 a F A)) a b = some (ov m a (o4 a (upN F 0 (F' 0)) A'')) ∧ ∀ i, 1 ≤ i → i ≤ 5 → ∀ k, 0 ≤ k → k < 32 → A'' i k = A' i k := by
  have hB : ∀ F0 A0, At (ov m a (o4 a F0 A0)) b (o4 b F' A') := fun F0 A0 => hb.keep (fun off h => o4_N off h) (fun off h => o4_N off h) hd
  have cp : ∀ (j : Nat) (F0 : Nat → Int) (A0 : Nat → Int → Int), 1 ≤ j → j ≤ 5 → cI (ov m a (o4 a F0 A0)) (b + j) (I 0) (a + j) (I 0) (I 32) = some (ov m a (o4 a F0 (upN A0 j (cpz 32 (A' j) (A0 j))))) := by
    intro j F0 A0 h1 h2
    have hAt := o4_At (m := m) (a := a) (F := F0) (A := A0) hl
    match j, h1, h2 with
    | 1, _, _ => rw [show (32 : Int) = ((32 : Nat) : Int) from rfl, cI_c (hB F0 A0 1 _ rfl) (hAt 1 _ rfl) (by omega), ov_set, o4_w1]
    | 2, _, _ => rw [show (32 : Int) = ((32 : Nat) : Int) from rfl, cI_c (hB F0 A0 2 _ rfl) (hAt 2 _ rfl) (by omega), ov_set, o4_w2]
    | 3, _, _ => rw [show (32 : Int) = ((32 : Nat) : Int) from rfl, cI_c (hB F0 A0 3 _ rfl) (hAt 3 _ rfl) (by omega), ov_set, o4_w3]
    | 4, _, _ => rw [show (32 : Int) = ((32 : Nat) : Int) from rfl, cI_c (hB F0 A0 4 _ rfl) (hAt 4 _ rfl) (by omega), ov_set, o4_w4]
    | 5, _, _ => rw [show (32 : Int) = ((32 : Nat) : Int) from rfl, cI_c (hB F0 A0 5 _ rfl) (hAt 5 _ rfl) (by omega), ov_set, o4_w5]
    | k + 6, h1, h2 => omega
  unfold f_X4_copyFrom
  simp (disch := omega) only [L0, L1, L2, L3, L4, L5, L6, L7, L8, L9, L10, L11, L12, L13, L14, L15, L16, L17, L18, L19, L20, L21, L22, L23, L24, L25, L26, L27, L31, L32, L33, L36, L40, L41, L42, L47, L48, L57, L58, L59, L60, L61, L62, L65, L97, L101, L102, L103, L120, L126, L127, L144, L245, L1023, L1715, o4_cO, o4_g0, o4_p0, o4_g1, o4_g2, o4_g3, o4_g4, o4_g5, o4_l1, o4_s1, o4_l2, o4_s2, o4_l3, o4_s3, o4_l4, o4_s4, o4_l5, o4_s5, Option.bind_some, if_pos, if_neg, if_true, if_false, ite_true, ite_false, a4_g0 (hB _ _), a4_g1 (hB _ _), a4_g2 (hB _ _), a4_g3 (hB _ _), a4_g4 (hB _ _), a4_g5 (hB _ _), cp]
  refine ⟨_, rfl, fun i h1 h2 k h3 h4 => ?_⟩
  match i, h1, h2 with
  | 1, _, _ => simp [upN, cpz, h3, h4]
  | 2, _, _ => simp [upN, cpz, h3, h4]
  | 3, _, _ => simp [upN, cpz, h3, h4]
  | 4, _, _ => simp [upN, cpz, h3, h4]
  | 5, _, _ => simp [upN, cpz, h3, h4]
  | k + 6, h1, h2 => omega
end TREE2
