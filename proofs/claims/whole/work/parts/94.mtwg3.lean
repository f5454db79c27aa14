/-! ===== the reference: the call twigs ===== -/
section MTG
variable {m : Mm} {a : Nat} {F : Nat → Int} {A : Nat → Int → Int} {X : FS}
theorem M_twigs (hl : a + 25 < m.length) (h : MB F A X) {i : Int} (h1 : -2147483648 ≤ i) (h2 : i < 2147483648) : Ok (f_X8_twigs (ov m a (o8 a F A)) a (I i)) (fun t => t.1 = I (rTwigs X i).1 ∧ MP m a t.2 (rTwigs X i).2) := by
  unfold f_X8_twigs
  simp only [N_isTwig h1 h2, Option.bind_some]
  by_cases c : 0 ≤ i ∧ i < 4
  · rw [ind_t c]
    simp (disch := omega) only [L0, L1, L2, L3, L4, L5, L6, L7, L8, L9, L10, L11, L12, L13, L14, L15, L16, L17, L18, L19, L20, L21, L22, L23, L24, L25, L26, L27, L31, L32, L33, L36, L40, L41, L42, L47, L48, L57, L58, L59, L60, L61, L62, L65, L97, L101, L102, L103, L120, L126, L127, L144, L245, L1023, L1715, I_add, I_sub, I_mul, I_neg, I_lt, I_le, I_eq, Option.bind_some, if_pos, if_neg, if_true, if_false, ite_true, ite_false, o8_cO]
    refine Ok.bind (M_readsTwig hl h.tx) ?_
    rintro ⟨g, M⟩ (⟨e1, p, r, F', A', rfl, q1, q2, q3, q4, q5, q6⟩ | ⟨n, nd, F', A', he, q1, q2, q3, q4, q5, q6⟩)
    · have hrb : rTwigs X i = (-10 - p, (X.1, X.2.1, X.2.2.1, X.2.2.2.1, X.2.2.2.2.1, r, X.2.2.2.2.2.2)) := by unfold rTwigs; rw [if_pos c, q6]
      rw [hrb]
      dsimp only at e1 ⊢
      rw [e1]
      simp (disch := omega) only [L0, L1, L2, L3, L4, L5, L6, L7, L8, L9, L10, L11, L12, L13, L14, L15, L16, L17, L18, L19, L20, L21, L22, L23, L24, L25, L26, L27, L31, L32, L33, L36, L40, L41, L42, L47, L48, L57, L58, L59, L60, L61, L62, L65, L97, L101, L102, L103, L120, L126, L127, L144, L245, L1023, L1715, if_true, o8_g24, q2, I_add, I_sub, I_mul, I_neg, I_lt, I_le, I_eq, Option.bind_some]
      exact Ok.pure ⟨rfl, F', A', rfl, h.rsn q1 q3⟩
    · obtain ⟨rfl, rfl⟩ := Prod.mk.inj he
      have hrb : rTwigs X i = (n, ((tn (fS X), ttg (fS X), tvl (fS X), tlv (fS X), upZ (tqn (fS X)) i n, upZ (tnd (fS X)) i nd), (pushK X).2)) := by unfold rTwigs; rw [if_pos c, q3]
      rw [hrb]
      have hq := h.rq q1 q2
      have h6 := q4.2.1
      dsimp only
      simp (disch := omega) only [L0, L1, L2, L3, L4, L5, L6, L7, L8, L9, L10, L11, L12, L13, L14, L15, L16, L17, L18, L19, L20, L21, L22, L23, L24, L25, L26, L27, L31, L32, L33, L36, L40, L41, L42, L47, L48, L57, L58, L59, L60, L61, L62, L65, L97, L101, L102, L103, L120, L126, L127, L144, L245, L1023, L1715, I_add, I_sub, I_mul, I_neg, I_lt, I_le, I_eq, Option.bind_some, if_pos, if_neg, if_true, if_false, ite_true, ite_false, o8_cO]
      refine Ok.bind (M_leaves hl hq) ?_
      rintro m1 ⟨F1, A1, rfl, h', hA1, hF1⟩
      have h31 : F1 31 = n := by rw [hF1 31 (by omega)]; exact q6.1
      have hrow : ∀ q w, 0 ≤ q → q < n → 0 ≤ w → w < 6 → A1 24 (6 * q + w) = nd q w := fun q w q0 q1 w0 w1 => by rw [hA1 24 (by omega)]; exact q6.2 q w q0 q1 w0 w1
      simp (disch := omega) only [o8_g7, o8_g31, h31, o8_s7, Option.bind_some]
      refine Ok.bind (P := fun m' => ∃ K, m' = ov m a (o8 a F1 (upN (upN A1 7 (upZ (A1 7) i n)) 8 K)) ∧ (∀ c, 0 ≤ c → c < 6 * n → K (36 * i + c) = A1 24 c) ∧ ∀ k, (k < 36 * i ∨ 36 * i + 36 ≤ k) → K k = A1 8 k) ?_ ?_
      · refine Ok.whl (fun j s => ∃ c K, s = (I c, ov m a (o8 a F1 (upN (upN A1 7 (upZ (A1 7) i n)) 8 K))) ∧ 0 ≤ c ∧ c ≤ 36 ∧ j = (36 - c).toNat ∧ (∀ k, 0 ≤ k → k < c → k < 6 * n → K (36 * i + k) = A1 24 k) ∧ ∀ k, (k < 36 * i ∨ 36 * i + 36 ≤ k) → K k = A1 8 k) _ (j := (36 - 0 : Int).toNat) ?_ ⟨0, A1 8, ?_, by omega, by omega, rfl, fun k k0 k1 => by omega, fun _ _ => rfl⟩ (FU_lt (by omega))
        · rintro j s ⟨cc, K, rfl, c0, c1, rfl, hk, hk2⟩
          dsimp only
          unfold f_X8_twigs_L43
          by_cases d1 : 36 ≤ cc
          · simp (disch := omega) only [L0, L1, L2, L3, L4, L5, L6, L7, L8, L9, L10, L11, L12, L13, L14, L15, L16, L17, L18, L19, L20, L21, L22, L23, L24, L25, L26, L27, L31, L32, L33, L36, L40, L41, L42, L47, L48, L57, L58, L59, L60, L61, L62, L65, L97, L101, L102, L103, L120, L126, L127, L144, L245, L1023, L1715, I_add, I_sub, I_mul, I_neg, I_lt, I_le, I_eq, if_pos d1]
            exact Ok.pure (Or.inr ⟨_, rfl, K, rfl, fun k k0 k1 => hk k k0 (by omega) k1, hk2⟩)
          · by_cases d2 : 6 * n ≤ cc
            · simp (disch := omega) only [L0, L1, L2, L3, L4, L5, L6, L7, L8, L9, L10, L11, L12, L13, L14, L15, L16, L17, L18, L19, L20, L21, L22, L23, L24, L25, L26, L27, L31, L32, L33, L36, L40, L41, L42, L47, L48, L57, L58, L59, L60, L61, L62, L65, L97, L101, L102, L103, L120, L126, L127, L144, L245, L1023, L1715, I_add, I_sub, I_mul, I_neg, I_lt, I_le, I_eq, if_neg d1, o8_g8, o8_g31, h31, if_pos d2, o8_s8, upN_at, upN_upN, Option.bind_some]
              refine Ok.pure (Or.inl ⟨_, (36 - (cc + 1)).toNat, rfl, ⟨cc + 1, _, rfl, by omega, by omega, rfl, fun k k0 k1 k2 => ?_, fun k k0 => ?_⟩, by omega⟩)
              · rw [upZ_ne (by omega)]; exact hk k k0 (by omega) k2
              · rw [upZ_ne (by omega)]; exact hk2 k k0
            · have s24 : upN (upN A1 7 (upZ (A1 7) i n)) 8 K 24 cc = A1 24 cc := by rw [upN_ne (by omega), upN_ne (by omega)]
              simp (disch := omega) only [L0, L1, L2, L3, L4, L5, L6, L7, L8, L9, L10, L11, L12, L13, L14, L15, L16, L17, L18, L19, L20, L21, L22, L23, L24, L25, L26, L27, L31, L32, L33, L36, L40, L41, L42, L47, L48, L57, L58, L59, L60, L61, L62, L65, L97, L101, L102, L103, L120, L126, L127, L144, L245, L1023, L1715, I_add, I_sub, I_mul, I_neg, I_lt, I_le, I_eq, if_neg d1, o8_g8, o8_g31, h31, if_neg d2, o8_g30, o8_l24, s24, o8_s8, upN_at, upN_upN, Option.bind_some]
              refine Ok.pure (Or.inl ⟨_, (36 - (cc + 1)).toNat, rfl, ⟨cc + 1, _, rfl, by omega, by omega, rfl, fun k k0 k1 k2 => ?_, fun k k0 => ?_⟩, by omega⟩)
              · by_cases z : k = cc
                · rw [z, upZ_at]
                · rw [upZ_ne (by omega)]; exact hk k k0 (by omega) k2
              · rw [upZ_ne (by omega)]; exact hk2 k k0
        · have : upN (upN A1 7 (upZ (A1 7) i n)) 8 (A1 8) = upN A1 7 (upZ (A1 7) i n) := by
            have e : A1 8 = upN A1 7 (upZ (A1 7) i n) 8 := (upN_ne (by omega)).symm
            conv => lhs; rw [e]
            exact upN_self
          rw [this]
      · rintro m2 ⟨K, rfl, hk, hk2⟩
        simp (disch := omega) only [o8_g31, h31, Option.bind_some]
        refine Ok.pure ⟨rfl, F1, _, rfl, ?_⟩
        have := h'.newW (A' := upN (upN A1 7 (upZ (A1 7) i n)) 8 K) c.1 c.2 (Q := n) (nd := nd) (fun j j1 j2 _ => by rw [upN_ne j2, upN_ne j1]) (fun j j0 j1 => by rw [upN_ne (by omega), upN_at]) q4 (fun q w q0 q1 w0 w1 => by
          rw [upN_at, show 36 * i + 6 * q + w = 36 * i + (6 * q + w) by omega, hk _ (by omega) (by omega)]
          exact hrow q w q0 q1 w0 w1) (fun k k0 k1 k2 => by
          rw [upN_at]
          exact hk2 k k2)
        rw [pushK_S] at this
        exact this
  · have hrb : rTwigs X i = (-2, incB X (-2)) := by unfold rTwigs; rw [if_neg c]
    rw [hrb, ind_f c]
    simp (disch := omega) only [L0, L1, L2, L3, L4, L5, L6, L7, L8, L9, L10, L11, L12, L13, L14, L15, L16, L17, L18, L19, L20, L21, L22, L23, L24, L25, L26, L27, L31, L32, L33, L36, L40, L41, L42, L47, L48, L57, L58, L59, L60, L61, L62, L65, L97, L101, L102, L103, L120, L126, L127, L144, L245, L1023, L1715, I_add, I_sub, I_mul, I_neg, I_lt, I_le, I_eq, Option.bind_some, if_pos, if_neg, if_true, if_false, ite_true, ite_false, o8_cO]
    exact M_badR hl h
end MTG
