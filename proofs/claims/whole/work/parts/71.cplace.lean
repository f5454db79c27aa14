/-! ===== the class: match, place ===== -/
section CPL
variable {m : Mm} {X : FS}
theorem zM_bd {i : Int} {al : Int → Int32} (hn1 : 1 ≤ tn (fS X)) (hn : tn (fS X) ≤ 32) (hQ : tqn (fS X) i ≤ 6) : 0 ≤ zM X i al ∧ zM X i al ≤ 1073741824 := by
  unfold zM zQ
  refine ⟨sQ_nn _ _, Int.le_trans (sQ_le hn1 hn _ _ (fun k => ⟨Int.le_refl 0, show (0 : Int) < _ by omega⟩)) (pow6 (by omega))⟩
theorem C_match (h : CI m X) {i j q : Int} (h1 : -2147483648 ≤ i) (h2 : i < 2147483648) (h3 : -2147483648 ≤ q) (h4 : q < 2147483648) (h5 : -9223372036854775808 ≤ j) (h6 : j < 9223372036854775808) : Ok (f_X7_match m 0 (I i) (J j) (I q)) (fun t => ∃ X', CI t.2 X' ∧ Fr m t.2 0 376 ∧ SMatch X i j q t.1 X') := by
  have hg : Option.bind (α := Int32) (if J j < (0 : Int64) then some (0 : Int32) else some (1 : Int32)) = Option.bind (some (I (ind (0 ≤ j)))) (β := Int32 × Mm) := by
    congr 1
    by_cases c1 : j < 0
    · rw [ind_f (by omega)]; simp (disch := omega) only [L0, L1, L2, L3, L4, L5, L6, L7, L8, L9, L10, L11, L12, L13, L14, L15, L16, L17, L18, L19, L20, L21, L22, L23, L24, L25, L26, L27, L31, L32, L33, L36, L40, L41, L42, L47, L48, L57, L58, L59, L60, L61, L62, L65, L97, L101, L102, L103, L120, L126, L127, L144, L245, L1023, L1715, J0, J1, J31, J32, J1716, J_add, J_sub, J_mul, J_neg, J_lt, J_le, J_eq, Option.bind_some, if_pos, if_neg, if_true, if_false, ite_true, ite_false]
    · rw [ind_t (by omega)]; simp (disch := omega) only [L0, L1, L2, L3, L4, L5, L6, L7, L8, L9, L10, L11, L12, L13, L14, L15, L16, L17, L18, L19, L20, L21, L22, L23, L24, L25, L26, L27, L31, L32, L33, L36, L40, L41, L42, L47, L48, L57, L58, L59, L60, L61, L62, L65, L97, L101, L102, L103, L120, L126, L127, L144, L245, L1023, L1715, J0, J1, J31, J32, J1716, J_add, J_sub, J_mul, J_neg, J_lt, J_le, J_eq, Option.bind_some, if_pos, if_neg, if_true, if_false, ite_true, ite_false]
  unfold f_X7_match
  rw [hg]
  obtain ⟨Ft, At', ht, hT⟩ := h.T
  have hn1 := hT.2.1.1
  have hn2 := hT.2.1.2.1
  have hnf := C_nodeFault h h1 h2 h3 h4 (g := ind (0 ≤ j)) (by unfold ind; split <;> omega)
  unfold SMatch
  by_cases c : (0 ≤ i ∧ i < 4) ∧ 0 ≤ q ∧ 0 ≤ j
  · rw [ind_t c.2.2, if_pos (show (0 ≤ i ∧ i < 4) ∧ 0 ≤ q ∧ (1 : Int) = 1 by omega)] at hnf
    rw [ind_t c.2.2]
    simp only [if_pos c]
    obtain ⟨Fw, Aw, hw, hW⟩ := h.W c.1.1 c.1.2
    have h6 := hW.2.1.2.1
    by_cases c3 : q < tqn (fS X) i
    · rw [if_pos c3] at hnf
      simp only [if_pos c3]
      simp (disch := omega) only [h.self, hnf, Option.bind_some, if_pos, if_neg, if_true, if_false, ite_true, ite_false, L0, L1, L2, L3, L4, L5, L6, L7, L8, L9, L10, L11, L12, L13, L14, L15, L16, L17, L18, L19, L20, L21, L22, L23, L24, L25, L26, L27, L31, L32, L33, L36, L40, L41, L42, L47, L48, L57, L58, L59, L60, L61, L62, L65, L97, L101, L102, L103, L120, L126, L127, L144, L245, L1023, L1715, I_add, I_sub, I_mul, I_neg, I_lt, I_le, I_eq]
      refine Ok.bind (C_countMatches h c.1.1 c.1.2 (by omega)) ?_
      rintro ⟨v, m'⟩ ⟨e1, F, A, rfl, e3⟩
      dsimp only at e1 ⊢
      have hz := zM_bd (X := X) (i := i) (al := ftX X i) hn1 hn2 h6
      obtain ⟨K, hI, ha, h10⟩ := id e3
      have hh := e3.keep h
      rw [e1]
      by_cases c4 : j < zM X i (ftX X i)
      · simp (disch := omega) only [J_add, J_sub, J_mul, J_neg, J_lt, J_le, J_eq, if_pos c4, hh.1.mt, hh.1.mcO, Option.bind_some]
        refine Ok.bind (K_elementOf (W := wR A) K hI (fun _ _ _ _ _ _ => rfl) h10 c.2.1 c3 c.2.2 c4) ?_
        rintro ⟨r, m'⟩ ⟨⟨A', rfl⟩, g, l, p1, p2, p3⟩
        have hk := h.mat (A := A') K.2.1
        exact Ok.pure ⟨X, hk.1, hk.2, rfl, Or.inr ⟨c4, g, l, p1, p2, p3⟩⟩
      · simp (disch := omega) only [J_add, J_sub, J_mul, J_neg, J_lt, J_le, J_eq, if_neg c4, L0, L1, L2, L3, L4, L5, L6, L7, L8, L9, L10, L11, L12, L13, L14, L15, L16, L17, L18, L19, L20, L21, L22, L23, L24, L25, L26, L27, L31, L32, L33, L36, L40, L41, L42, L47, L48, L57, L58, L59, L60, L61, L62, L65, L97, L101, L102, L103, L120, L126, L127, L144, L245, L1023, L1715, Option.bind_some]
        exact Ok.pure ⟨X, hh.1, hh.2, rfl, Or.inl ⟨by omega, rfl⟩⟩
    · rw [if_neg c3] at hnf
      simp only [if_neg c3]
      simp (disch := omega) only [h.self, hnf, Option.bind_some, if_pos, if_neg, if_true, if_false, ite_true, ite_false, L0, L1, L2, L3, L4, L5, L6, L7, L8, L9, L10, L11, L12, L13, L14, L15, L16, L17, L18, L19, L20, L21, L22, L23, L24, L25, L26, L27, L31, L32, L33, L36, L40, L41, L42, L47, L48, L57, L58, L59, L60, L61, L62, L65, L97, L101, L102, L103, L120, L126, L127, L144, L245, L1023, L1715, I_add, I_sub, I_mul, I_neg, I_lt, I_le, I_eq]
      exact (C_fail h (by omega)).mono (fun t ht => ⟨_, ht.2.1, ht.2.2, ht.1, rfl⟩)
  · rw [if_neg (fun z => c ⟨z.1, z.2.1, by have := z.2.2; unfold ind at this; split at this <;> omega⟩)] at hnf
    simp only [if_neg c]
    simp (disch := omega) only [h.self, hnf, Option.bind_some, if_pos, if_neg, if_true, if_false, ite_true, ite_false, L0, L1, L2, L3, L4, L5, L6, L7, L8, L9, L10, L11, L12, L13, L14, L15, L16, L17, L18, L19, L20, L21, L22, L23, L24, L25, L26, L27, L31, L32, L33, L36, L40, L41, L42, L47, L48, L57, L58, L59, L60, L61, L62, L65, L97, L101, L102, L103, L120, L126, L127, L144, L245, L1023, L1715, I_add, I_sub, I_mul, I_neg, I_lt, I_le, I_eq]
    exact (C_fail h (by omega)).mono (fun t ht => ⟨_, ht.2.1, ht.2.2, ht.1, rfl⟩)
theorem C_place (h : CI m X) {i j : Int} (h1 : -2147483648 ≤ i) (h2 : i < 2147483648) (h5 : -9223372036854775808 ≤ j) (h6 : j < 9223372036854775808) : Ok (f_X7_place m 0 (I i) (J j)) (fun t => ∃ X', CI t.2 X' ∧ Fr m t.2 0 376 ∧ SPlace X i j t.1 X') := by
  have hg : Option.bind (α := Int32) (if J j < (0 : Int64) then some (0 : Int32) else some (1 : Int32)) = Option.bind (some (I (ind (0 ≤ j)))) (β := Int64 × Mm) := by
    congr 1
    by_cases c1 : j < 0
    · rw [ind_f (by omega)]; simp (disch := omega) only [L0, L1, L2, L3, L4, L5, L6, L7, L8, L9, L10, L11, L12, L13, L14, L15, L16, L17, L18, L19, L20, L21, L22, L23, L24, L25, L26, L27, L31, L32, L33, L36, L40, L41, L42, L47, L48, L57, L58, L59, L60, L61, L62, L65, L97, L101, L102, L103, L120, L126, L127, L144, L245, L1023, L1715, J0, J1, J31, J32, J1716, J_add, J_sub, J_mul, J_neg, J_lt, J_le, J_eq, Option.bind_some, if_pos, if_neg, if_true, if_false, ite_true, ite_false]
    · rw [ind_t (by omega)]; simp (disch := omega) only [L0, L1, L2, L3, L4, L5, L6, L7, L8, L9, L10, L11, L12, L13, L14, L15, L16, L17, L18, L19, L20, L21, L22, L23, L24, L25, L26, L27, L31, L32, L33, L36, L40, L41, L42, L47, L48, L57, L58, L59, L60, L61, L62, L65, L97, L101, L102, L103, L120, L126, L127, L144, L245, L1023, L1715, J0, J1, J31, J32, J1716, J_add, J_sub, J_mul, J_neg, J_lt, J_le, J_eq, Option.bind_some, if_pos, if_neg, if_true, if_false, ite_true, ite_false]
  unfold f_X7_place
  rw [hg]
  have hnf := C_twigFault h h1 h2 (g := ind (0 ≤ j)) (by unfold ind; split <;> omega)
  unfold SPlace
  by_cases c : (0 ≤ i ∧ i < 4) ∧ 0 ≤ j
  · rw [ind_t c.2, if_pos (show (0 ≤ i ∧ i < 4) ∧ (1 : Int) = 1 by omega)] at hnf
    rw [ind_t c.2]
    simp only [if_pos c]
    obtain ⟨Fw, Aw, hw, hW⟩ := h.W c.1.1 c.1.2
    have h60 := hW.2.1.1
    by_cases c3 : tqn (fS X) i = 0
    · rw [if_pos c3] at hnf
      simp only [if_pos c3]
      simp (disch := omega) only [h.self, hnf, Option.bind_some, if_pos, if_neg, if_true, if_false, ite_true, ite_false, L0, L1, L2, L3, L4, L5, L6, L7, L8, L9, L10, L11, L12, L13, L14, L15, L16, L17, L18, L19, L20, L21, L22, L23, L24, L25, L26, L27, L31, L32, L33, L36, L40, L41, L42, L47, L48, L57, L58, L59, L60, L61, L62, L65, L97, L101, L102, L103, L120, L126, L127, L144, L245, L1023, L1715, I_add, I_sub, I_mul, I_neg, I_lt, I_le, I_eq]
      exact (C_failJ h (by omega)).mono (fun t ht => ⟨_, ht.2.1, ht.2.2, ht.1, rfl⟩)
    · rw [if_neg c3] at hnf
      simp only [if_neg c3]
      simp (disch := omega) only [h.self, hnf, Option.bind_some, if_pos, if_neg, if_true, if_false, ite_true, ite_false, L0, L1, L2, L3, L4, L5, L6, L7, L8, L9, L10, L11, L12, L13, L14, L15, L16, L17, L18, L19, L20, L21, L22, L23, L24, L25, L26, L27, L31, L32, L33, L36, L40, L41, L42, L47, L48, L57, L58, L59, L60, L61, L62, L65, L97, L101, L102, L103, L120, L126, L127, L144, L245, L1023, L1715, I_add, I_sub, I_mul, I_neg, I_lt, I_le, I_eq]
      refine Ok.bind (C_countMatches h c.1.1 c.1.2 (by omega)) ?_
      rintro ⟨v, m'⟩ ⟨e1, F, A, rfl, e3⟩
      dsimp only at e1 ⊢
      obtain ⟨K, hI, ha, h10⟩ := id e3
      have hh := e3.keep h
      simp (disch := omega) only [hh.1.mt, hh.1.mcO, Option.bind_some]
      refine Ok.bind (K_rankOf (W := wR A) K (by omega) hI (fun _ _ _ _ _ _ => rfl) h10 c.2 h6) ?_
      rintro ⟨r, m'⟩ ⟨⟨A', rfl⟩, p⟩
      have hk := h.mat (A := A') K.2.1
      exact Ok.pure ⟨X, hk.1, hk.2, rfl, p⟩
  · rw [if_neg (fun z => c ⟨z.1, by have := z.2; unfold ind at this; split at this <;> omega⟩)] at hnf
    simp only [if_neg c]
    simp (disch := omega) only [h.self, hnf, Option.bind_some, if_pos, if_neg, if_true, if_false, ite_true, ite_false, L0, L1, L2, L3, L4, L5, L6, L7, L8, L9, L10, L11, L12, L13, L14, L15, L16, L17, L18, L19, L20, L21, L22, L23, L24, L25, L26, L27, L31, L32, L33, L36, L40, L41, L42, L47, L48, L57, L58, L59, L60, L61, L62, L65, L97, L101, L102, L103, L120, L126, L127, L144, L245, L1023, L1715, I_add, I_sub, I_mul, I_neg, I_lt, I_le, I_eq]
    exact (C_failJ h (by omega)).mono (fun t ht => ⟨_, ht.2.1, ht.2.2, ht.1, rfl⟩)
end CPL
