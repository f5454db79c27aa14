/-! ===== the reference: builds ===== -/
section MBD
variable {m : Mm} {a : Nat} {F : Nat → Int} {A : Nat → Int → Int} {X : FS}
theorem MB.tx (h : MB F A X) : TX F A (fln X) (ftx X) := by
  obtain ⟨-, -, -, ⟨h1, h2, h3, h4, h5⟩, -⟩ := h
  exact ⟨h1, h2, h3, h5⟩
theorem MB.rsn (h : MB F A X) {F' : Nat → Int} {A' : Nat → Int → Int} (hq : RQ F A F' A') {r : Int} (h23 : F' 23 = r) : MB F' A' (X.1, X.2.1, X.2.2.1, X.2.2.2.1, X.2.2.2.2.1, r, X.2.2.2.2.2.2) := by
  obtain ⟨h1, h2, h3, h4, h5⟩ := h
  have hA : ∀ i, i ≤ 9 ∨ i = 20 → A' i = A i := fun i hi => hq.2 i (by omega) (by omega) (by omega) (by omega)
  have hF : ∀ i, i = 1 ∨ i = 9 ∨ i = 22 → F' i = F i := fun i hi => hq.1 i (by omega) (by omega) (by omega) (by omega) (by omega)
  refine ⟨h1.congr (hF 1 (by omega)) (fun i _ _ => hA i (by omega)), ?_, ?_, ?_, ?_⟩
  · unfold MW; rw [hA 7 (by omega), hA 8 (by omega)]; exact h2
  · rw [hF 9 (by omega), hA 9 (by omega)]; exact h3
  · rw [hF 22 (by omega), hA 20 (by omega)]; exact ⟨h4.1, h4.2.1, h4.2.2.1, h23, h4.2.2.2.2⟩
  · rw [hA 1 (by omega)]; exact h5
theorem MB.rq (h : MB F A X) {F' : Nat → Int} {A' : Nat → Int → Int} (hq : RQ F A F' A') (h23 : F' 23 = F 23) : MB F' A' X := h.congr (fun i hi => by
    by_cases z : i = 23
    · rw [z]; exact h23
    · exact hq.1 i z (by omega) (by omega) (by omega) (by omega)) (fun i hi => hq.2 i (by omega) (by omega) (by omega) (by omega))
theorem M_builds (hl : a + 25 < m.length) (h : MB F A X) : Ok (f_X8_builds (ov m a (o8 a F A)) a) (fun t => t.1 = I (rBuilds X).1 ∧ MP m a t.2 (rBuilds X).2) := by
  unfold f_X8_builds
  simp (disch := omega) only [o8_cO]
  refine Ok.bind (M_readsDoc hl h.tx) ?_
  rintro ⟨g, M⟩ (⟨e1, p, r, F', A', rfl, q1, q2, q3, q4, q5, q6⟩ | ⟨n, tg, vl, lv, F', A', he, q1, q2, q3, q4, q5, q6⟩)
  · have hrb : rBuilds X = (-10 - p, (X.1, X.2.1, X.2.2.1, X.2.2.2.1, X.2.2.2.2.1, r, X.2.2.2.2.2.2)) := by unfold rBuilds; rw [q6]
    rw [hrb]
    dsimp only at e1 ⊢
    rw [e1]
    simp (disch := omega) only [L0, L1, L2, L3, L4, L5, L6, L7, L8, L9, L10, L11, L12, L13, L14, L15, L16, L17, L18, L19, L20, L21, L22, L23, L24, L25, L26, L27, L31, L32, L33, L36, L40, L41, L42, L47, L48, L57, L58, L59, L60, L61, L62, L65, L97, L101, L102, L103, L120, L126, L127, L144, L245, L1023, L1715, if_true, o8_g24, q2, I_add, I_sub, I_mul, I_neg, I_lt, I_le, I_eq, Option.bind_some]
    exact Ok.pure ⟨rfl, F', A', rfl, h.rsn q1 q3⟩
  · obtain ⟨rfl, rfl⟩ := Prod.mk.inj he
    have hrb : rBuilds X = (n, ((n, tg, vl, lv, tqn (fS X), tnd (fS X)), (pushK X).2)) := by unfold rBuilds; rw [q3]
    rw [hrb]
    have h1 := h.rq q1 q2
    obtain ⟨w1, w2, w3, w4, w5⟩ := id q4
    dsimp only
    simp (disch := omega) only [L0, L1, L2, L3, L4, L5, L6, L7, L8, L9, L10, L11, L12, L13, L14, L15, L16, L17, L18, L19, L20, L21, L22, L23, L24, L25, L26, L27, L31, L32, L33, L36, L40, L41, L42, L47, L48, L57, L58, L59, L60, L61, L62, L65, L97, L101, L102, L103, L120, L126, L127, L144, L245, L1023, L1715, I_add, I_sub, I_mul, I_neg, I_lt, I_le, I_eq, Option.bind_some, if_pos, if_neg, if_true, if_false, ite_true, ite_false, o8_cO]
    refine Ok.bind (M_leaves hl h1) ?_
    rintro m1 ⟨F1, A1, rfl, h', hA1, hF1⟩
    have h29 : F1 29 = n := by rw [hF1 29 (by omega)]; exact q6.1
    simp (disch := omega) only [o8_g29, h29, o8_p1, Option.bind_some]
    have hrow : ∀ j, 0 ≤ j → j < n → A1 21 j = tg j ∧ A1 22 j = vl j ∧ A1 23 j = lv j := fun j j0 j1 => by
      rw [hA1 21 (by omega), hA1 22 (by omega), hA1 23 (by omega)]; exact q6.2 j j0 j1
    refine Ok.bind (P := fun m' => ∃ A2, m' = ov m a (o8 a (upN F1 1 n) A2) ∧ (∀ i, i ≠ 2 → i ≠ 3 → i ≠ 4 → A2 i = A1 i) ∧ ∀ j, 0 ≤ j → j < n → A2 2 j = tg j ∧ A2 3 j = vl j ∧ A2 4 j = lv j) ?_ ?_
    · refine Ok.whl (fun j s => ∃ e A2, s = (I e, ov m a (o8 a (upN F1 1 n) A2)) ∧ 0 ≤ e ∧ e ≤ n ∧ j = (n - e).toNat ∧ (∀ i, i ≠ 2 → i ≠ 3 → i ≠ 4 → A2 i = A1 i) ∧ ∀ k, 0 ≤ k → k < e → A2 2 k = tg k ∧ A2 3 k = vl k ∧ A2 4 k = lv k) _ (j := (n - 0).toNat) ?_ ⟨0, A1, rfl, by omega, by omega, rfl, fun _ _ _ _ => rfl, fun k k0 k1 => by omega⟩ (FU_lt (by omega))
      rintro j s ⟨e, A2, rfl, e0, e1, rfl, hi, hk⟩
      dsimp only
      unfold f_X8_builds_L29
      by_cases d1 : n ≤ e
      · simp (disch := omega) only [o8_g1, upN_at, I_add, I_sub, I_mul, I_neg, I_lt, I_le, I_eq, if_pos d1, Option.bind_some]
        exact Ok.pure (Or.inr ⟨_, rfl, A2, rfl, hi, fun k k0 k1 => hk k k0 (by omega)⟩)
      · obtain ⟨r1, r2, r3⟩ := hrow e e0 (by omega)
        have s21 : A2 21 e = tg e := by rw [hi 21 (by omega) (by omega) (by omega)]; exact r1
        have s22 : upN A2 2 (upZ (A2 2) e (tg e)) 22 e = vl e := by rw [upN_ne (by omega), hi 22 (by omega) (by omega) (by omega)]; exact r2
        have s3 : upN A2 2 (upZ (A2 2) e (tg e)) 3 = A2 3 := upN_ne (by omega)
        have s23 : upN (upN A2 2 (upZ (A2 2) e (tg e))) 3 (upZ (A2 3) e (vl e)) 23 e = lv e := by rw [upN_ne (by omega), upN_ne (by omega), hi 23 (by omega) (by omega) (by omega)]; exact r3
        have s4 : upN (upN A2 2 (upZ (A2 2) e (tg e))) 3 (upZ (A2 3) e (vl e)) 4 = A2 4 := by rw [upN_ne (by omega), upN_ne (by omega)]
        simp (disch := omega) only [o8_g1, upN_at, I_add, I_sub, I_mul, I_neg, I_lt, I_le, I_eq, if_neg d1, o8_g2, o8_g26, o8_l21, s21, o8_s2, o8_g3, o8_g27, o8_l22, s22, s3, o8_s3, o8_g4, o8_g28, o8_l23, s23, s4, o8_s4, L0, L1, L2, L3, L4, L5, L6, L7, L8, L9, L10, L11, L12, L13, L14, L15, L16, L17, L18, L19, L20, L21, L22, L23, L24, L25, L26, L27, L31, L32, L33, L36, L40, L41, L42, L47, L48, L57, L58, L59, L60, L61, L62, L65, L97, L101, L102, L103, L120, L126, L127, L144, L245, L1023, L1715, Option.bind_some]
        refine Ok.pure (Or.inl ⟨_, (n - (e + 1)).toNat, rfl, ⟨e + 1, _, rfl, by omega, by omega, rfl, fun i g1 g2 g3 => ?_, fun k k0 k1 => ?_⟩, by omega⟩)
        · rw [upN_ne g3, upN_ne g2, upN_ne g1]; exact hi i g1 g2 g3
        · rw [upN_ne (by omega), upN_ne (by omega), upN_at, upN_ne (by omega), upN_at, upN_at]
          by_cases z : k = e
          · rw [z, upZ_at, upZ_at, upZ_at]; exact ⟨rfl, rfl, rfl⟩
          · rw [upZ_ne z, upZ_ne z, upZ_ne z]; exact hk k k0 (by omega)
    rintro m2 ⟨A2, rfl, hi, hk⟩
    simp (disch := omega) only [o8_cO]
    refine Ok.bind (D_tellsTree hl (n := n) upN_at (by omega) w2 (fun k k0 k1 => by
      rw [(hk k k0 k1).2.2]
      have := w5 k k0 k1
      by_cases z : k = 0
      · rw [z, w3]; omega
      · have := w4 k (by omega) k1; omega)) ?_
    rintro m3 ⟨A3, rfl, hi3, hk3⟩
    simp (disch := omega) only [o8_g1, upN_at, Option.bind_some]
    have hlv : ∀ j, 0 ≤ j → j < n → A2 4 j = lv j := fun j j0 j1 => (hk j j0 j1).2.2
    have hT : MT (upN F1 1 n) A3 n tg vl lv := by
      refine ⟨upN_at, q4, fun k k0 k1 => ?_⟩
      obtain ⟨d1, d2, d3⟩ := hk k k0 k1
      obtain ⟨e5, e6⟩ := hk3 k k0 k1
      rw [hi3 2 (by omega) (by omega), hi3 3 (by omega) (by omega), hi3 4 (by omega) (by omega), e5, e6]
      refine ⟨d1, d2, d3, ?_, prF_congr k0 (fun j j0 j1 => hlv j j0 (by omega)), q5 k k0 k1⟩
      rw [enF_congr k0 k1 hlv]
    have := h'.newT hT (fun i hi' => upN_ne (by omega)) (fun i hi' => by rw [hi3 i (by omega) (by omega), hi i (by omega) (by omega) (by omega)])
    rw [pushK_S] at this
    exact Ok.pure ⟨rfl, _, _, rfl, this⟩
end MBD
