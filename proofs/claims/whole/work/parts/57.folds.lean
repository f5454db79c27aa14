/-! ===== folds and spare of both ===== -/
/-- not by rfl: the kernel then compares no branch that it need not -/
theorem bsm {α β : Type} (a : α) (f : α → Option β) : (some a).bind f = f a := (Option.bind_some a f).trans (Eq.refl _)
def SFolds (X : FS) (x y : Int) (r : Int32) (X' : FS) : Prop :=
  (¬ ((0 ≤ x ∧ x < 4) ∧ 0 ≤ y ∧ y < 4) ∧ r = I (-2) ∧ X' = incB X (-2)) ∨
  (((0 ≤ x ∧ x < 4) ∧ 0 ≤ y ∧ y < 4) ∧ (((tqn (fS X) x = 0 ∨ tqn (fS X) y = 0 ∨ hoF (tqn (fS X) x) (tnd (fS X) x) ∨ hoF (tqn (fS X) y) (tnd (fS X) y)) ∧ r = I (-3) ∧ X' = incB X (-3)) ∨
    (¬ (tqn (fS X) x = 0 ∨ tqn (fS X) y = 0 ∨ hoF (tqn (fS X) x) (tnd (fS X) x) ∨ hoF (tqn (fS X) y) (tnd (fS X) y)) ∧ X' = X ∧ 0 < tqn (fS X) x ∧ ∃ t, IsF (tqn (fS X) x) (tqn (fS X) y) (tnd (fS X) x) (tnd (fS X) y) (I 0) t ∧ ((t 0 = I 0 ∧ r = I 0) ∨ (t 0 ≠ I 0 ∧ r = I 1)))))
theorem SFolds_uniq {X : FS} {x y : Int} {r r' : Int32} {X' X'' : FS} (h : SFolds X x y r X') (h' : SFolds X x y r' X'') : r = r' ∧ X' = X'' := by
  rcases h with ⟨c, rfl, rfl⟩ | ⟨c, h⟩
  · rcases h' with ⟨-, rfl, rfl⟩ | ⟨c', -⟩
    · exact ⟨rfl, rfl⟩
    · exact absurd c' c
  · rcases h' with ⟨c', -⟩ | ⟨-, h'⟩
    · exact absurd c c'
    · rcases h with ⟨q, rfl, rfl⟩ | ⟨q, rfl, hq, t, ht, hr⟩
      · rcases h' with ⟨p, rfl, rfl⟩ | ⟨p, -⟩
        · exact ⟨rfl, rfl⟩
        · exact absurd q p
      · rcases h' with ⟨p, -⟩ | ⟨p, rfl, hq', t', ht', hr'⟩
        · exact absurd p q
        · have e := IsF_uniq (fun _ _ _ _ => Iff.rfl) ht ht' 0 (by omega) hq
          rw [← e] at hr'
          refine ⟨?_, rfl⟩
          rcases hr with ⟨z, rfl⟩ | ⟨z, rfl⟩ <;> rcases hr' with ⟨z', rfl⟩ | ⟨z', rfl⟩
          · rfl
          · exact absurd z z'
          · exact absurd z' z
          · rfl
def SSpare (X : FS) (i q : Int) (r : Int32) (X' : FS) : Prop :=
  (¬ ((0 ≤ i ∧ i < 4) ∧ 0 < q) ∧ r = I (-2) ∧ X' = incB X (-2)) ∨
  (((0 ≤ i ∧ i < 4) ∧ 0 < q) ∧ (((tqn (fS X) i ≤ q ∨ hoF (tqn (fS X) i) (tnd (fS X) i)) ∧ r = I (-3) ∧ X' = incB X (-3)) ∨
    (¬ (tqn (fS X) i ≤ q ∨ hoF (tqn (fS X) i) (tnd (fS X) i)) ∧ X' = X ∧ ∃ t un, (∀ b, 0 ≤ b → b < tqn (fS X) i → b < 32 → (hb un b ↔ q ≤ b ∧ b < eW (tqn (fS X) i) (tnd (fS X) i) q)) ∧ IsF (tqn (fS X) i) (tqn (fS X) i) (tnd (fS X) i) (tnd (fS X) i) un t ∧ r = t 0 &&& I 1)))
theorem SSpare_uniq {X : FS} {i q : Int} {r r' : Int32} {X' X'' : FS} (h : SSpare X i q r X') (h' : SSpare X i q r' X'') : r = r' ∧ X' = X'' := by
  rcases h with ⟨c, rfl, rfl⟩ | ⟨c, h⟩
  · rcases h' with ⟨-, rfl, rfl⟩ | ⟨c', -⟩
    · exact ⟨rfl, rfl⟩
    · exact absurd c' c
  · rcases h' with ⟨c', -⟩ | ⟨-, h'⟩
    · exact absurd c c'
    · rcases h with ⟨q, rfl, rfl⟩ | ⟨q, rfl, t, un, hu, ht, rfl⟩
      · rcases h' with ⟨p, rfl, rfl⟩ | ⟨p, -⟩
        · exact ⟨rfl, rfl⟩
        · exact absurd q p
      · rcases h' with ⟨p, -⟩ | ⟨p, rfl, t', un', hu', ht', rfl⟩
        · exact absurd p q
        · have e := IsF_uniq (fun b b0 b1 b2 => (hu b b0 b1 b2).trans (hu' b b0 b1 b2).symm) ht ht' 0 (by omega) (by omega)
          rw [e]
          exact ⟨rfl, rfl⟩
section CF2
variable {m : Mm} {X : FS}
theorem CI.mp (h : CI m X) : gR m 0 7 8 = some 85 := by
  obtain ⟨F, A, a1⟩ := h.main
  exact a7_g8 a1
/-- only the mapping's cells change -/
theorem CI.map (h : CI m X) {F : Nat → Int} {A : Nat → Int → Int} (hl : 86 < m.length) : CI (ov m 85 (o0 85 F A)) X ∧ Fr m (ov m 85 (o0 85 F A)) 0 376 := by
  have hf : Fr m (ov m 85 (o0 85 F A)) 85 87 := Fr.ov (N := 1) (fun off h => o0_N off h)
  refine ⟨h.scr (hf.mono (by omega) (by omega)) ?_, hf.mono (by omega) (by omega)⟩
  obtain ⟨⟨F1, A1, h1'⟩, ⟨F2, A2, h2⟩, ⟨F3, A3, h3, h3'⟩, ⟨F4, A4, h4⟩, F5, A5, h5⟩ := h.2.2.2.2
  exact ⟨⟨F1, A1, h1'.fr (fun off h => o4_N off h) hf (by omega)⟩, ⟨F2, A2, h2.fr (fun off h => o5_N off h) hf (by omega)⟩, ⟨F3, A3, h3.fr (fun off h => o1_N off h) hf (by omega), h3'⟩, ⟨F, A, o0_At hl⟩, F5, A5, h5.fr (fun off h => o6_N off h) hf (by omega)⟩
theorem C_folds (h : CI m X) {x y : Int} (hx1 : -2147483648 ≤ x) (hx2 : x < 2147483648) (hy1 : -2147483648 ≤ y) (hy2 : y < 2147483648) : Ok (f_X7_folds m 0 (I x) (I y)) (fun t => ∃ X', CI t.2 X' ∧ Fr m t.2 0 376 ∧ SFolds X x y t.1 X') := by
  unfold f_X7_folds
  simp only [C_isTwig hx1 hx2, C_isTwig hy1 hy2, Option.bind_some]
  by_cases c1 : 0 ≤ x ∧ x < 4
  · rw [ind_t c1]
    by_cases c2 : 0 ≤ y ∧ y < 4
    · rw [ind_t c2]
      have hC : (0 ≤ x ∧ x < 4) ∧ 0 ≤ y ∧ y < 4 := ⟨c1, c2⟩
      obtain ⟨Fx, Ax, hx, hX⟩ := h.W c1.1 c1.2
      obtain ⟨Fy, Ay, hy, hY⟩ := h.W c2.1 c2.2
      have hFx := hX.1
      have hFy := hY.1
      have x60 := hX.2.1.1
      have x6 := hX.2.1.2.1
      have y60 := hY.2.1.1
      have y6 := hY.2.1.2.1
      by_cases c3 : tqn (fS X) x = 0
      · simp (disch := omega) only [L0, L1, L2, L3, L4, L5, L6, L7, L8, L9, L10, L11, L12, L13, L14, L15, L16, L17, L18, L19, L20, L21, L22, L23, L24, L25, L26, L27, L31, L32, L33, L36, L40, L41, L42, L47, L48, L57, L58, L59, L60, L61, L62, L65, L97, L101, L102, L103, L120, L126, L127, L144, L245, L1023, L1715, I_add, I_sub, I_mul, I_neg, I_lt, I_le, I_eq, h.now, h.tws, h.tw, a5_g0 hx, a5_g0 hy, hFx, hFy, h.self, Option.bind_some, if_pos, if_neg, if_true, if_false, ite_true, ite_false]
        exact (C_fail h (by omega)).mono (fun q hq => ⟨_, hq.2.1, hq.2.2, Or.inr ⟨hC, Or.inl ⟨Or.inl c3, hq.1, rfl⟩⟩⟩)
      · by_cases c4 : tqn (fS X) y = 0
        · simp (disch := omega) only [L0, L1, L2, L3, L4, L5, L6, L7, L8, L9, L10, L11, L12, L13, L14, L15, L16, L17, L18, L19, L20, L21, L22, L23, L24, L25, L26, L27, L31, L32, L33, L36, L40, L41, L42, L47, L48, L57, L58, L59, L60, L61, L62, L65, L97, L101, L102, L103, L120, L126, L127, L144, L245, L1023, L1715, I_add, I_sub, I_mul, I_neg, I_lt, I_le, I_eq, h.now, h.tws, h.tw, a5_g0 hx, a5_g0 hy, hFx, hFy, h.self, Option.bind_some, if_pos, if_neg, if_true, if_false, ite_true, ite_false]
          exact (C_fail h (by omega)).mono (fun q hq => ⟨_, hq.2.1, hq.2.2, Or.inr ⟨hC, Or.inl ⟨Or.inr (Or.inl c4), hq.1, rfl⟩⟩⟩)
        · obtain ⟨r, hr, hrq⟩ := W_hasOrdered hx hX
          obtain ⟨r', hr', hrq'⟩ := W_hasOrdered hy hY
          rcases hrq with ⟨rfl, hq⟩ | ⟨rfl, hq⟩
          · simp (disch := omega) only [L0, L1, L2, L3, L4, L5, L6, L7, L8, L9, L10, L11, L12, L13, L14, L15, L16, L17, L18, L19, L20, L21, L22, L23, L24, L25, L26, L27, L31, L32, L33, L36, L40, L41, L42, L47, L48, L57, L58, L59, L60, L61, L62, L65, L97, L101, L102, L103, L120, L126, L127, L144, L245, L1023, L1715, I_add, I_sub, I_mul, I_neg, I_lt, I_le, I_eq, h.now, h.tws, h.tw, a5_g0 hx, a5_g0 hy, hFx, hFy, h.self, a5_cO hx, hr, Option.bind_some, if_pos, if_neg, if_true, if_false, ite_true, ite_false]
            exact (C_fail h (by omega)).mono (fun t ht => ⟨_, ht.2.1, ht.2.2, Or.inr ⟨hC, Or.inl ⟨Or.inr (Or.inr (Or.inl hq)), ht.1, rfl⟩⟩⟩)
          · rcases hrq' with ⟨rfl, hq'⟩ | ⟨rfl, hq'⟩
            · simp (disch := omega) only [L0, L1, L2, L3, L4, L5, L6, L7, L8, L9, L10, L11, L12, L13, L14, L15, L16, L17, L18, L19, L20, L21, L22, L23, L24, L25, L26, L27, L31, L32, L33, L36, L40, L41, L42, L47, L48, L57, L58, L59, L60, L61, L62, L65, L97, L101, L102, L103, L120, L126, L127, L144, L245, L1023, L1715, I_add, I_sub, I_mul, I_neg, I_lt, I_le, I_eq, h.now, h.tws, h.tw, a5_g0 hx, a5_g0 hy, hFx, hFy, h.self, a5_cO hx, a5_cO hy, hr, hr', Option.bind_some, if_pos, if_neg, if_true, if_false, ite_true, ite_false]
              exact (C_fail h (by omega)).mono (fun t ht => ⟨_, ht.2.1, ht.2.2, Or.inr ⟨hC, Or.inl ⟨Or.inr (Or.inr (Or.inr hq')), ht.1, rfl⟩⟩⟩)
            · obtain ⟨Fz, Az, hz⟩ := h.2.2.2.2.2.2.2.1
              simp (disch := omega) only [L0, L1, L2, L3, L4, L5, L6, L7, L8, L9, L10, L11, L12, L13, L14, L15, L16, L17, L18, L19, L20, L21, L22, L23, L24, L25, L26, L27, L31, L32, L33, L36, L40, L41, L42, L47, L48, L57, L58, L59, L60, L61, L62, L65, L97, L101, L102, L103, L120, L126, L127, L144, L245, L1023, L1715, I_add, I_sub, I_mul, I_neg, I_lt, I_le, I_eq, h.now, h.tws, h.tw, a5_g0 hx, a5_g0 hy, hFx, hFy, h.self, a5_cO hx, a5_cO hy, hr, hr', h.mp, a0_cO hz, Option.bind_some, if_pos, if_neg, if_true, if_false, ite_true, ite_false]
              refine Ok.bind (F_roots hx hX hy hY hz (by omega) (by omega) (by omega)) ?_
              rintro ⟨r1, m1⟩ ⟨t, ht, rfl, A', rfl⟩
              dsimp only
              obtain ⟨z1, z2⟩ := h.map (F := Fz) (A := A') (a0_len hz)
              have hN : ¬ (tqn (fS X) x = 0 ∨ tqn (fS X) y = 0 ∨ hoF (tqn (fS X) x) (tnd (fS X) x) ∨ hoF (tqn (fS X) y) (tnd (fS X) y)) := by
                rintro (z | z | z | z)
                · exact c3 z
                · exact c4 z
                · exact hq z
                · exact hq' z
              by_cases c5 : t 0 = I 0
              · simp only [c5, if_true]
                exact Ok.pure ⟨X, z1, z2, Or.inr ⟨hC, Or.inr ⟨hN, rfl, by omega, t, ht, Or.inl ⟨c5, rfl⟩⟩⟩⟩
              · simp only [c5, if_false]
                exact Ok.pure ⟨X, z1, z2, Or.inr ⟨hC, Or.inr ⟨hN, rfl, by omega, t, ht, Or.inr ⟨c5, rfl⟩⟩⟩⟩
    · rw [ind_f c2]
      simp (disch := omega) only [L0, L1, L2, L3, L4, L5, L6, L7, L8, L9, L10, L11, L12, L13, L14, L15, L16, L17, L18, L19, L20, L21, L22, L23, L24, L25, L26, L27, L31, L32, L33, L36, L40, L41, L42, L47, L48, L57, L58, L59, L60, L61, L62, L65, L97, L101, L102, L103, L120, L126, L127, L144, L245, L1023, L1715, I_add, I_sub, I_mul, I_neg, I_lt, I_le, I_eq, h.self, Option.bind_some, if_pos, if_neg, if_true, if_false, ite_true, ite_false]
      exact (C_fail h (by omega)).mono (fun q hq => ⟨_, hq.2.1, hq.2.2, Or.inl ⟨fun z => c2 z.2, hq.1, rfl⟩⟩)
  · rw [ind_f c1]
    simp (disch := omega) only [L0, L1, L2, L3, L4, L5, L6, L7, L8, L9, L10, L11, L12, L13, L14, L15, L16, L17, L18, L19, L20, L21, L22, L23, L24, L25, L26, L27, L31, L32, L33, L36, L40, L41, L42, L47, L48, L57, L58, L59, L60, L61, L62, L65, L97, L101, L102, L103, L120, L126, L127, L144, L245, L1023, L1715, I_add, I_sub, I_mul, I_neg, I_lt, I_le, I_eq, h.self, Option.bind_some, if_pos, if_neg, if_true, if_false, ite_true, ite_false]
    exact (C_fail h (by omega)).mono (fun q hq => ⟨_, hq.2.1, hq.2.2, Or.inl ⟨fun z => c1 z.1, hq.1, rfl⟩⟩)
theorem C_spare (h : CI m X) {i q : Int} (hi1 : -2147483648 ≤ i) (hi2 : i < 2147483648) (hq1 : -2147483648 ≤ q) (hq2 : q < 2147483648) : Ok (f_X7_spare m 0 (I i) (I q)) (fun t => ∃ X', CI t.2 X' ∧ Fr m t.2 0 376 ∧ SSpare X i q t.1 X') := by
  unfold f_X7_spare
  by_cases c : (0 ≤ i ∧ i < 4) ∧ 0 < q
  · have hnf := C_nodeFault h hi1 hi2 hq1 hq2 (g := 1) (by omega)
    rw [if_pos (show (0 ≤ i ∧ i < 4) ∧ 0 ≤ q ∧ (1 : Int) = 1 by omega)] at hnf
    obtain ⟨Fx, Ax, hx, hX⟩ := h.W c.1.1 c.1.2
    have x6 := hX.2.1.2.1
    by_cases c3 : q < tqn (fS X) i
    · rw [if_pos c3] at hnf
      obtain ⟨e1, e2⟩ := eW_in (nd := tnd (fS X) i) c3
      obtain ⟨r, hr, hrq⟩ := W_hasOrdered hx hX
      rcases hrq with ⟨rfl, hq⟩ | ⟨rfl, hq⟩
      · simp (disch := omega) only [h.self, hnf, Option.bind_some, if_pos, if_neg, if_true, if_false, ite_true, ite_false, L0, L1, L2, L3, L4, L5, L6, L7, L8, L9, L10, L11, L12, L13, L14, L15, L16, L17, L18, L19, L20, L21, L22, L23, L24, L25, L26, L27, L31, L32, L33, L36, L40, L41, L42, L47, L48, L57, L58, L59, L60, L61, L62, L65, L97, L101, L102, L103, L120, L126, L127, L144, L245, L1023, L1715, I_add, I_sub, I_mul, I_neg, I_lt, I_le, I_eq, h.now, h.tws, h.tw, a5_cO hx, hr]
        exact (C_fail h (by omega)).mono (fun t ht => ⟨_, ht.2.1, ht.2.2, Or.inr ⟨c, Or.inl ⟨Or.inr hq, ht.1, rfl⟩⟩⟩)
      · obtain ⟨Fz, Az, hz⟩ := h.2.2.2.2.2.2.2.1
        obtain ⟨s, hs, hsp⟩ := C_span (m := m) (x := q) (y := eW (tqn (fS X) i) (tnd (fS X) i) q - 1) (by omega) (by omega) (by omega) (by omega)
        have hla := W_last hx hX (q := q) (by omega) c3
        have htw := h.tw c.1.1 c.1.2
        have hgd : (if I q ≤ (0 : Int32) then some (0 : Int32) else some (1 : Int32)) = some (I 1) := by
          simp (disch := omega) only [L0, L1, L2, L3, L4, L5, L6, L7, L8, L9, L10, L11, L12, L13, L14, L15, L16, L17, L18, L19, L20, L21, L22, L23, L24, L25, L26, L27, L31, L32, L33, L36, L40, L41, L42, L47, L48, L57, L58, L59, L60, L61, L62, L65, L97, L101, L102, L103, L120, L126, L127, L144, L245, L1023, L1715, I_add, I_sub, I_mul, I_neg, I_lt, I_le, I_eq, Option.bind_some, if_pos, if_neg, if_true, if_false, ite_true, ite_false]
        rw [hgd]
        simp only [Option.bind_some, h.self]
        rw [hnf]
        simp only [Option.bind_some]
        rw [if_pos (show I 0 = (0 : Int32) from rfl)]
        simp only [h.now, h.tws, Option.bind_some]
        rw [htw]
        simp only [Option.bind_some, a5_cO hx]
        rw [hr]
        simp only [Option.bind_some]
        rw [if_pos (show I 0 = (0 : Int32) from rfl)]
        simp only [h.mp, Option.bind_some]
        rw [hla]
        simp only [bsm]
        rw [hs]
        simp only [bsm, a0_cO hz]
        refine Ok.bind (F_roots hx hX hx hX hz (by omega) (by omega) (by omega)) ?_
        rintro ⟨r1, m1⟩ ⟨t, ht, rfl, A', rfl⟩
        obtain ⟨z1, z2⟩ := h.map (F := Fz) (A := A') (a0_len hz)
        refine Ok.pure ⟨X, z1, z2, Or.inr ⟨c, Or.inr ⟨?_, rfl, t, s, fun b b0 b1 b2 => ?_, ht, rfl⟩⟩⟩
        · rintro (z | z)
          · omega
          · exact hq z
        · rw [hsp b b0 b2]; omega
    · rw [if_neg c3] at hnf
      simp (disch := omega) only [h.self, hnf, Option.bind_some, if_pos, if_neg, if_true, if_false, ite_true, ite_false, L0, L1, L2, L3, L4, L5, L6, L7, L8, L9, L10, L11, L12, L13, L14, L15, L16, L17, L18, L19, L20, L21, L22, L23, L24, L25, L26, L27, L31, L32, L33, L36, L40, L41, L42, L47, L48, L57, L58, L59, L60, L61, L62, L65, L97, L101, L102, L103, L120, L126, L127, L144, L245, L1023, L1715, I_add, I_sub, I_mul, I_neg, I_lt, I_le, I_eq]
      exact (C_fail h (by omega)).mono (fun t ht => ⟨_, ht.2.1, ht.2.2, Or.inr ⟨c, Or.inl ⟨Or.inl (by omega), ht.1, rfl⟩⟩⟩)
  · by_cases c2 : 0 < q
    · have hnf := C_nodeFault h hi1 hi2 hq1 hq2 (g := 1) (by omega)
      rw [if_neg (fun z => c ⟨z.1, c2⟩)] at hnf
      simp (disch := omega) only [h.self, hnf, Option.bind_some, if_pos, if_neg, if_true, if_false, ite_true, ite_false, L0, L1, L2, L3, L4, L5, L6, L7, L8, L9, L10, L11, L12, L13, L14, L15, L16, L17, L18, L19, L20, L21, L22, L23, L24, L25, L26, L27, L31, L32, L33, L36, L40, L41, L42, L47, L48, L57, L58, L59, L60, L61, L62, L65, L97, L101, L102, L103, L120, L126, L127, L144, L245, L1023, L1715, I_add, I_sub, I_mul, I_neg, I_lt, I_le, I_eq]
      exact (C_fail h (by omega)).mono (fun t ht => ⟨_, ht.2.1, ht.2.2, Or.inl ⟨c, ht.1, rfl⟩⟩)
    · have hnf := C_nodeFault h hi1 hi2 hq1 hq2 (g := 0) (by omega)
      rw [if_neg (by omega)] at hnf
      simp (disch := omega) only [h.self, hnf, Option.bind_some, if_pos, if_neg, if_true, if_false, ite_true, ite_false, L0, L1, L2, L3, L4, L5, L6, L7, L8, L9, L10, L11, L12, L13, L14, L15, L16, L17, L18, L19, L20, L21, L22, L23, L24, L25, L26, L27, L31, L32, L33, L36, L40, L41, L42, L47, L48, L57, L58, L59, L60, L61, L62, L65, L97, L101, L102, L103, L120, L126, L127, L144, L245, L1023, L1715, I_add, I_sub, I_mul, I_neg, I_lt, I_le, I_eq]
      exact (C_fail h (by omega)).mono (fun t ht => ⟨_, ht.2.1, ht.2.2, Or.inl ⟨c, ht.1, rfl⟩⟩)
end CF2
section MF
variable {M m : Mm} {a : Nat} {F : Nat → Int} {A : Nat → Int → Int} {X : FS} {S : TS}
theorem N_hasOrder (h : At M a (o8 a F A)) (hM : MW A S) {i : Int} (i0 : 0 ≤ i) (i1 : i < 4) : ∃ r : Int, f_X8_hasOrder M a (I i) = some (I r) ∧ ((r = 1 ∧ hoF (tqn S i) (tnd S i)) ∨ (r = 0 ∧ ¬ hoF (tqn S i) (tnd S i))) := by
  obtain ⟨y1, y2, y3⟩ := hM i i0 i1
  have h6 := y2.2.1
  have h60 := y2.1
  unfold f_X8_hasOrder
  have key : Ok (whl (σ := Int32 × Int32) (ρ := (Int32)) FU (fun t1 => f_X8_hasOrder_L4 M a (I i) t1.1 t1.2) ((0 : Int32), (0 : Int32))) (fun r => (r = I 1 ∧ hoF (tqn S i) (tnd S i)) ∨ (r = I 0 ∧ ¬ hoF (tqn S i) (tnd S i))) := by
    simp only [L0]
    refine Ok.whl (fun j s => ∃ r g, s = (I g, I r) ∧ 0 ≤ r ∧ r ≤ tqn S i ∧ j = (tqn S i - r).toNat ∧ ((g = 1 ∧ hoF (tqn S i) (tnd S i)) ∨ (g = 0 ∧ ∀ k, 0 ≤ k → k < r → tnd S i k 4 = 0))) _ (j := (tqn S i - 0).toNat) ?_ ⟨0, 0, rfl, by omega, by omega, rfl, Or.inr ⟨rfl, fun k _ _ => by omega⟩⟩ (FU_lt (by omega))
    rintro j s ⟨r, g, rfl, r0, r1, rfl, hk⟩
    dsimp only
    unfold f_X8_hasOrder_L4
    by_cases c1 : tqn S i ≤ r
    · simp (disch := omega) only [L0, L1, L2, L3, L4, L5, L6, L7, L8, L9, L10, L11, L12, L13, L14, L15, L16, L17, L18, L19, L20, L21, L22, L23, L24, L25, L26, L27, L31, L32, L33, L36, L40, L41, L42, L47, L48, L57, L58, L59, L60, L61, L62, L65, L97, L101, L102, L103, L120, L126, L127, L144, L245, L1023, L1715, I_add, I_sub, I_mul, I_neg, I_lt, I_le, I_eq, a8_g7 h, a8_l7 h, y1, Option.bind_some, if_pos, if_neg, if_true, if_false, ite_true, ite_false]
      refine Ok.pure (Or.inr ⟨_, rfl, ?_⟩)
      rcases hk with ⟨rfl, hk⟩ | ⟨rfl, hk⟩
      · exact Or.inl ⟨rfl, hk⟩
      · refine Or.inr ⟨rfl, ?_⟩
        rintro ⟨q, q0, q1, q2⟩
        exact q2 (hk q q0 (by omega))
    · rcases hk with ⟨rfl, hk⟩ | ⟨rfl, hk⟩
      · simp (disch := omega) only [L0, L1, L2, L3, L4, L5, L6, L7, L8, L9, L10, L11, L12, L13, L14, L15, L16, L17, L18, L19, L20, L21, L22, L23, L24, L25, L26, L27, L31, L32, L33, L36, L40, L41, L42, L47, L48, L57, L58, L59, L60, L61, L62, L65, L97, L101, L102, L103, L120, L126, L127, L144, L245, L1023, L1715, I_add, I_sub, I_mul, I_neg, I_lt, I_le, I_eq, a8_g7 h, a8_l7 h, y1, Option.bind_some, if_pos, if_neg, if_true, if_false, ite_true, ite_false]
        exact Ok.pure (Or.inl ⟨_, (tqn S i - (r + 1)).toNat, rfl, ⟨r + 1, 1, rfl, by omega, by omega, rfl, Or.inl ⟨rfl, hk⟩⟩, by omega⟩)
      · have := (y2.2.2 r r0 (by omega)).2.2.2.2.1
        by_cases c2 : tnd S i r 4 = 0
        · simp (disch := omega) only [L0, L1, L2, L3, L4, L5, L6, L7, L8, L9, L10, L11, L12, L13, L14, L15, L16, L17, L18, L19, L20, L21, L22, L23, L24, L25, L26, L27, L31, L32, L33, L36, L40, L41, L42, L47, L48, L57, L58, L59, L60, L61, L62, L65, L97, L101, L102, L103, L120, L126, L127, L144, L245, L1023, L1715, I_add, I_sub, I_mul, I_neg, I_lt, I_le, I_eq, a8_g7 h, a8_l7 h, y1, a8_cO h, N_ord h hM, Option.bind_some, if_pos, if_neg, if_true, if_false, ite_true, ite_false]
          refine Ok.pure (Or.inl ⟨_, (tqn S i - (r + 1)).toNat, rfl, ⟨r + 1, 0, rfl, by omega, by omega, rfl, Or.inr ⟨rfl, fun k k0 k1 => ?_⟩⟩, by omega⟩)
          by_cases z : k = r
          · rw [z]; exact c2
          · exact hk k k0 (by omega)
        · simp (disch := omega) only [L0, L1, L2, L3, L4, L5, L6, L7, L8, L9, L10, L11, L12, L13, L14, L15, L16, L17, L18, L19, L20, L21, L22, L23, L24, L25, L26, L27, L31, L32, L33, L36, L40, L41, L42, L47, L48, L57, L58, L59, L60, L61, L62, L65, L97, L101, L102, L103, L120, L126, L127, L144, L245, L1023, L1715, I_add, I_sub, I_mul, I_neg, I_lt, I_le, I_eq, a8_g7 h, a8_l7 h, y1, a8_cO h, N_ord h hM, Option.bind_some, if_pos, if_neg, if_true, if_false, ite_true, ite_false]
          exact Ok.pure (Or.inl ⟨_, (tqn S i - (r + 1)).toNat, rfl, ⟨r + 1, 1, rfl, by omega, by omega, rfl, Or.inl ⟨rfl, r, r0, by omega, c2⟩⟩, by omega⟩)
  obtain ⟨r, hr, hq⟩ := key
  rw [hr]
  rcases hq with ⟨rfl, hq⟩ | ⟨rfl, hq⟩
  · exact ⟨1, by rw [Option.bind_some, show (1 : Int) = ind True from rfl, cB_ind], Or.inl ⟨rfl, hq⟩⟩
  · exact ⟨0, by rw [Option.bind_some, show (0 : Int) = ind False from rfl, cB_ind], Or.inr ⟨rfl, hq⟩⟩
theorem N_within (h : At M a (o8 a F A)) (hM : MW A S) {i q p : Int} (i0 : 0 ≤ i) (i1 : i < 4) (q0 : 0 ≤ q) (q1 : q < tqn S i) (p0 : 0 ≤ p) (p1 : p < tqn S i) : f_X8_isWithin M a (I i) (I q) (I p) = some (I (ind (p ≤ q ∧ q < eW (tqn S i) (tnd S i) p))) := by
  obtain ⟨y1, y2, y3⟩ := hM i i0 i1
  have h6 := y2.2.1
  obtain ⟨e1, e2⟩ := eW_in (nd := tnd S i) p1
  obtain ⟨e3, e4⟩ := eW_ab y2 p0 p1
  unfold f_X8_isWithin
  refine Ok.eq (Ok.bind (P := fun r => ∃ k, r = I k ∧ -1 ≤ k ∧ k < 32 ∧ (k = p ↔ (p ≤ q ∧ q < eW (tqn S i) (tnd S i) p))) ?_ ?_)
  · refine Ok.whl (fun j s => ∃ r, s = I r ∧ -1 ≤ r ∧ r ≤ q ∧ j = (r + 1).toNat ∧ ((p ≤ r ∧ r < eW (tqn S i) (tnd S i) p) ↔ (p ≤ q ∧ q < eW (tqn S i) (tnd S i) p))) _ (j := (q + 1).toNat) ?_ ⟨q, rfl, by omega, by omega, rfl, Iff.rfl⟩ (FU_lt (by omega))
    rintro j s ⟨r, rfl, r0, r1, rfl, hk⟩
    unfold f_X8_isWithin_L3
    by_cases c1 : r = -1
    · simp (disch := omega) only [L0, L1, L2, L3, L4, L5, L6, L7, L8, L9, L10, L11, L12, L13, L14, L15, L16, L17, L18, L19, L20, L21, L22, L23, L24, L25, L26, L27, L31, L32, L33, L36, L40, L41, L42, L47, L48, L57, L58, L59, L60, L61, L62, L65, L97, L101, L102, L103, L120, L126, L127, L144, L245, L1023, L1715, I_add, I_sub, I_mul, I_neg, I_lt, I_le, I_eq, Option.bind_some, if_pos, if_neg, if_true, if_false, ite_true, ite_false]
      exact Ok.pure (Or.inr ⟨_, rfl, r, rfl, by omega, by omega, by rw [← hk]; omega⟩)
    · by_cases c2 : r = p
      · simp (disch := omega) only [L0, L1, L2, L3, L4, L5, L6, L7, L8, L9, L10, L11, L12, L13, L14, L15, L16, L17, L18, L19, L20, L21, L22, L23, L24, L25, L26, L27, L31, L32, L33, L36, L40, L41, L42, L47, L48, L57, L58, L59, L60, L61, L62, L65, L97, L101, L102, L103, L120, L126, L127, L144, L245, L1023, L1715, I_add, I_sub, I_mul, I_neg, I_lt, I_le, I_eq, Option.bind_some, if_pos, if_neg, if_true, if_false, ite_true, ite_false]
        exact Ok.pure (Or.inr ⟨_, rfl, r, rfl, by omega, by omega, by rw [← hk]; omega⟩)
      · have hab := y2.ab (show 0 ≤ r by omega) (by omega)
        simp (disch := omega) only [L0, L1, L2, L3, L4, L5, L6, L7, L8, L9, L10, L11, L12, L13, L14, L15, L16, L17, L18, L19, L20, L21, L22, L23, L24, L25, L26, L27, L31, L32, L33, L36, L40, L41, L42, L47, L48, L57, L58, L59, L60, L61, L62, L65, L97, L101, L102, L103, L120, L126, L127, L144, L245, L1023, L1715, I_add, I_sub, I_mul, I_neg, I_lt, I_le, I_eq, a8_cO h, N_of h hM, Option.bind_some, if_pos, if_neg, if_true, if_false, ite_true, ite_false]
        refine Ok.pure (Or.inl ⟨_, (tnd S i r 5 + 1).toNat, rfl, ⟨tnd S i r 5, rfl, by omega, by omega, rfl, ?_⟩, by omega⟩)
        rw [← hk]
        constructor
        · rintro ⟨z1, z2⟩
          have hn := eW_nest y2 (show 0 < r by omega) (by omega)
          have := eW_mono (nd := tnd S i) p1 z1 z2
          omega
        · rintro ⟨z1, z2⟩
          have := e3 r (by omega) z2
          omega
  · rintro r ⟨k, rfl, k0, k1, hk⟩
    by_cases c : k = p
    · rw [ind_t (hk.mp c)]
      simp (disch := omega) only [L0, L1, L2, L3, L4, L5, L6, L7, L8, L9, L10, L11, L12, L13, L14, L15, L16, L17, L18, L19, L20, L21, L22, L23, L24, L25, L26, L27, L31, L32, L33, L36, L40, L41, L42, L47, L48, L57, L58, L59, L60, L61, L62, L65, L97, L101, L102, L103, L120, L126, L127, L144, L245, L1023, L1715, I_add, I_sub, I_mul, I_neg, I_lt, I_le, I_eq, Option.bind_some, if_pos, if_neg, if_true, if_false, ite_true, ite_false]
      exact Ok.pure rfl
    · rw [ind_f (fun z => c (hk.mpr z))]
      simp (disch := omega) only [L0, L1, L2, L3, L4, L5, L6, L7, L8, L9, L10, L11, L12, L13, L14, L15, L16, L17, L18, L19, L20, L21, L22, L23, L24, L25, L26, L27, L31, L32, L33, L36, L40, L41, L42, L47, L48, L57, L58, L59, L60, L61, L62, L65, L97, L101, L102, L103, L120, L126, L127, L144, L245, L1023, L1715, I_add, I_sub, I_mul, I_neg, I_lt, I_le, I_eq, Option.bind_some, if_pos, if_neg, if_true, if_false, ite_true, ite_false]
      exact Ok.pure rfl
theorem N_takes (h : At M a (o8 a F A)) (hM : MW A S) {x y c t : Int} (x0 : 0 ≤ x) (x1 : x < 4) (y0 : 0 ≤ y) (y1 : y < 4) (c0 : 0 ≤ c) (c1 : c < tqn S x) (t0 : 0 ≤ t) (t1 : t < tqn S y) : f_X8_takes M a (I x) (I c) (I y) (I t) = some (I (ind (cvF (tnd S x) (tnd S y) c t))) := by
  have e1 := ((hM x x0 x1).2.1.2.2 c c0 c1).1
  have e2 := ((hM y y0 y1).2.1.2.2 t t0 t1).1
  unfold f_X8_takes
  by_cases d1 : tnd S x c 0 = 6
  · by_cases d : (psS (tnd S y) t &&& (psS (tnd S x) c ^^^ I (-1))) = I 0
    · rw [ind_t ⟨Or.inl d1, d⟩]
      simp (disch := omega) only [L0, L1, L2, L3, L4, L5, L6, L7, L8, L9, L10, L11, L12, L13, L14, L15, L16, L17, L18, L19, L20, L21, L22, L23, L24, L25, L26, L27, L31, L32, L33, L36, L40, L41, L42, L47, L48, L57, L58, L59, L60, L61, L62, L65, L97, L101, L102, L103, L120, L126, L127, L144, L245, L1023, L1715, I_add, I_sub, I_mul, I_neg, I_lt, I_le, I_eq, a8_cO h, N_tag h hM, N_passing h hM, d, Option.bind_some, if_pos, if_neg, if_true, if_false, ite_true, ite_false]
    · rw [ind_f (fun z => d z.2)]
      simp (disch := omega) only [L0, L1, L2, L3, L4, L5, L6, L7, L8, L9, L10, L11, L12, L13, L14, L15, L16, L17, L18, L19, L20, L21, L22, L23, L24, L25, L26, L27, L31, L32, L33, L36, L40, L41, L42, L47, L48, L57, L58, L59, L60, L61, L62, L65, L97, L101, L102, L103, L120, L126, L127, L144, L245, L1023, L1715, I_add, I_sub, I_mul, I_neg, I_lt, I_le, I_eq, a8_cO h, N_tag h hM, N_passing h hM, d, if_false, Option.bind_some, if_pos, if_neg, if_true, if_false, ite_true, ite_false]
  · by_cases d2 : tnd S x c 0 = tnd S y t 0
    · by_cases d : (psS (tnd S y) t &&& (psS (tnd S x) c ^^^ I (-1))) = I 0
      · rw [ind_t ⟨Or.inr d2, d⟩]
        simp (disch := omega) only [L0, L1, L2, L3, L4, L5, L6, L7, L8, L9, L10, L11, L12, L13, L14, L15, L16, L17, L18, L19, L20, L21, L22, L23, L24, L25, L26, L27, L31, L32, L33, L36, L40, L41, L42, L47, L48, L57, L58, L59, L60, L61, L62, L65, L97, L101, L102, L103, L120, L126, L127, L144, L245, L1023, L1715, I_add, I_sub, I_mul, I_neg, I_lt, I_le, I_eq, a8_cO h, N_tag h hM, N_passing h hM, d, Option.bind_some, if_pos, if_neg, if_true, if_false, ite_true, ite_false]
      · rw [ind_f (fun z => d z.2)]
        simp (disch := omega) only [L0, L1, L2, L3, L4, L5, L6, L7, L8, L9, L10, L11, L12, L13, L14, L15, L16, L17, L18, L19, L20, L21, L22, L23, L24, L25, L26, L27, L31, L32, L33, L36, L40, L41, L42, L47, L48, L57, L58, L59, L60, L61, L62, L65, L97, L101, L102, L103, L120, L126, L127, L144, L245, L1023, L1715, I_add, I_sub, I_mul, I_neg, I_lt, I_le, I_eq, a8_cO h, N_tag h hM, N_passing h hM, d, if_false, Option.bind_some, if_pos, if_neg, if_true, if_false, ite_true, ite_false]
    · rw [ind_f (by omega)]
      simp (disch := omega) only [L0, L1, L2, L3, L4, L5, L6, L7, L8, L9, L10, L11, L12, L13, L14, L15, L16, L17, L18, L19, L20, L21, L22, L23, L24, L25, L26, L27, L31, L32, L33, L36, L40, L41, L42, L47, L48, L57, L58, L59, L60, L61, L62, L65, L97, L101, L102, L103, L120, L126, L127, L144, L245, L1023, L1715, I_add, I_sub, I_mul, I_neg, I_lt, I_le, I_eq, a8_cO h, N_tag h hM, Option.bind_some, if_pos, if_neg, if_true, if_false, ite_true, ite_false]
theorem pl_2 {Q : Int} {nd : Int → Int → Int} (hw : WW Q nd) {j b d : Int} (hj : j = 1 ∨ j = 2) (b0 : 0 ≤ b) (hbd : b < d) (hd : d < Q) : plF Q nd j b d ↔ (if j = 1 then nd d 5 = b ∧ nd d 3 = 1 else b ≤ d ∧ d < eW Q nd b) := by
  rcases hj with rfl | rfl
  · rw [if_pos rfl]
    constructor
    · rintro ⟨z1, z2, z3⟩; omega
    · rintro ⟨z1, z2⟩
      have := (eW_nest hw (show 0 < d by omega) hd).1
      rw [z1] at this
      exact ⟨hbd, this, Or.inr ⟨z1, z2⟩⟩
  · rw [if_neg (by decide)]
    omega
theorem N_follows (h : At M a (o8 a F A)) (hM : MW A S) {x y c t : Int} (x0 : 0 ≤ x) (x1 : x < 4) (y0 : 0 ≤ y) (y1 : y < 4) (c0 : 0 < c) (c1 : c < tqn S x) (t0 : 0 ≤ t) (t1 : t < tqn S y) : ∃ r : Int, f_X8_follows M a (I x) (I c) (I y) (I t) = some (I r) ∧ ((r = 1 ∧ ∃ d, plF (tqn S y) (tnd S y) (tnd S x c 3) t d ∧ hb (I (A 11 c)) d) ∨ (r = 0 ∧ ¬ ∃ d, plF (tqn S y) (tnd S y) (tnd S x c 3) t d ∧ hb (I (A 11 c)) d)) := by
  have ex := (hM x x0 x1).2.1
  have ex6 := ex.2.1
  obtain ⟨ey1, ey, -⟩ := hM y y0 y1
  have ey6 := ey.2.1
  have hj := ((ex.2.2 c (by omega) c1).2.2.2.1)
  have hj' := ((ex.2.2 c (by omega) c1).2.2.2.2.2.2.2 c0).1
  obtain ⟨w1, w2⟩ := eW_in (nd := tnd S y) t1
  unfold f_X8_follows
  have key : Ok (whl (σ := Int32 × Int32) (ρ := (Int32)) FU (fun t1 => f_X8_follows_L9 M a (I x) (I c) (I y) (I t) t1.1 t1.2) ((0 : Int32), I t + (1 : Int32))) (fun r => (r = I 1 ∧ ∃ d, plF (tqn S y) (tnd S y) (tnd S x c 3) t d ∧ hb (I (A 11 c)) d) ∨ (r = I 0 ∧ ¬ ∃ d, plF (tqn S y) (tnd S y) (tnd S x c 3) t d ∧ hb (I (A 11 c)) d)) := by
    simp only [L0, L1, L2, L3, L4, L5, L6, L7, L8, L9, L10, L11, L12, L13, L14, L15, L16, L17, L18, L19, L20, L21, L22, L23, L24, L25, L26, L27, L31, L32, L33, L36, L40, L41, L42, L47, L48, L57, L58, L59, L60, L61, L62, L65, L97, L101, L102, L103, L120, L126, L127, L144, L245, L1023, L1715, I_add]
    refine Ok.whl (fun j s => ∃ u g, s = (I g, I u) ∧ t < u ∧ u ≤ tqn S y ∧ j = (tqn S y - u).toNat ∧ ((g = 1 ∧ ∃ d, plF (tqn S y) (tnd S y) (tnd S x c 3) t d ∧ hb (I (A 11 c)) d) ∨ (g = 0 ∧ ∀ k, t < k → k < u → ¬ (plF (tqn S y) (tnd S y) (tnd S x c 3) t k ∧ hb (I (A 11 c)) k)))) _ (j := (tqn S y - (t + 1)).toNat) ?_ ⟨t + 1, 0, rfl, by omega, by omega, rfl, Or.inr ⟨rfl, fun k _ _ => by omega⟩⟩ (FU_lt (by omega))
    rintro j s ⟨u, g, rfl, u0, u1, rfl, hk⟩
    dsimp only
    unfold f_X8_follows_L9
    by_cases d1 : tqn S y ≤ u
    · simp (disch := omega) only [L0, L1, L2, L3, L4, L5, L6, L7, L8, L9, L10, L11, L12, L13, L14, L15, L16, L17, L18, L19, L20, L21, L22, L23, L24, L25, L26, L27, L31, L32, L33, L36, L40, L41, L42, L47, L48, L57, L58, L59, L60, L61, L62, L65, L97, L101, L102, L103, L120, L126, L127, L144, L245, L1023, L1715, I_add, I_sub, I_mul, I_neg, I_lt, I_le, I_eq, a8_g7 h, a8_l7 h, ey1, Option.bind_some, if_pos, if_neg, if_true, if_false, ite_true, ite_false]
      refine Ok.pure (Or.inr ⟨_, rfl, ?_⟩)
      rcases hk with ⟨rfl, hk⟩ | ⟨rfl, hk⟩
      · exact Or.inl ⟨rfl, hk⟩
      · refine Or.inr ⟨rfl, ?_⟩
        rintro ⟨d, z1, z2⟩
        exact hk d (by omega) (by omega) ⟨z1, z2⟩
    · have hab := ey.ab (show 0 ≤ u by omega) (by omega)
      have hu3 := (ey.2.2 u (by omega) (by omega)).2.2.2.1
      have hpl := pl_2 ey (j := tnd S x c 3) (b := t) (d := u) (by omega) t0 u0 (by omega)
      have hno : ¬ (plF (tqn S y) (tnd S y) (tnd S x c 3) t u ∧ hb (I (A 11 c)) u) → (∀ k, t < k → k < u → ¬ (plF (tqn S y) (tnd S y) (tnd S x c 3) t k ∧ hb (I (A 11 c)) k)) → ∀ k, t < k → k < u + 1 → ¬ (plF (tqn S y) (tnd S y) (tnd S x c 3) t k ∧ hb (I (A 11 c)) k) := by
        intro hz hk k k0 k1
        by_cases z : k = u
        · rw [z]; exact hz
        · exact hk k k0 (by omega)
      have fin1 : (∃ d, plF (tqn S y) (tnd S y) (tnd S x c 3) t d ∧ hb (I (A 11 c)) d) → Ok (some (Sum.inl (I 1, I (u + 1))) : Option ((Int32 × Int32) ⊕ Int32)) (fun z => (∃ s' j', z = Sum.inl s' ∧ (∃ u g, s' = (I g, I u) ∧ t < u ∧ u ≤ tqn S y ∧ j' = (tqn S y - u).toNat ∧ ((g = 1 ∧ ∃ d, plF (tqn S y) (tnd S y) (tnd S x c 3) t d ∧ hb (I (A 11 c)) d) ∨ (g = 0 ∧ ∀ k, t < k → k < u → ¬ (plF (tqn S y) (tnd S y) (tnd S x c 3) t k ∧ hb (I (A 11 c)) k)))) ∧ j' < (tqn S y - u).toNat) ∨ (∃ r, z = Sum.inr r ∧ ((r = I 1 ∧ ∃ d, plF (tqn S y) (tnd S y) (tnd S x c 3) t d ∧ hb (I (A 11 c)) d) ∨ (r = I 0 ∧ ¬ ∃ d, plF (tqn S y) (tnd S y) (tnd S x c 3) t d ∧ hb (I (A 11 c)) d)))) := fun z => Ok.pure (Or.inl ⟨_, (tqn S y - (u + 1)).toNat, rfl, ⟨u + 1, 1, rfl, by omega, by omega, rfl, Or.inl ⟨rfl, z⟩⟩, by omega⟩)
      have fin0 : (∀ k, t < k → k < u + 1 → ¬ (plF (tqn S y) (tnd S y) (tnd S x c 3) t k ∧ hb (I (A 11 c)) k)) → Ok (some (Sum.inl (I 0, I (u + 1))) : Option ((Int32 × Int32) ⊕ Int32)) (fun z => (∃ s' j', z = Sum.inl s' ∧ (∃ u g, s' = (I g, I u) ∧ t < u ∧ u ≤ tqn S y ∧ j' = (tqn S y - u).toNat ∧ ((g = 1 ∧ ∃ d, plF (tqn S y) (tnd S y) (tnd S x c 3) t d ∧ hb (I (A 11 c)) d) ∨ (g = 0 ∧ ∀ k, t < k → k < u → ¬ (plF (tqn S y) (tnd S y) (tnd S x c 3) t k ∧ hb (I (A 11 c)) k)))) ∧ j' < (tqn S y - u).toNat) ∨ (∃ r, z = Sum.inr r ∧ ((r = I 1 ∧ ∃ d, plF (tqn S y) (tnd S y) (tnd S x c 3) t d ∧ hb (I (A 11 c)) d) ∨ (r = I 0 ∧ ¬ ∃ d, plF (tqn S y) (tnd S y) (tnd S x c 3) t d ∧ hb (I (A 11 c)) d)))) := fun z => Ok.pure (Or.inl ⟨_, (tqn S y - (u + 1)).toNat, rfl, ⟨u + 1, 0, rfl, by omega, by omega, rfl, Or.inr ⟨rfl, z⟩⟩, by omega⟩)
      by_cases z1 : tnd S x c 3 = 1
      · rw [if_pos z1] at hpl
        by_cases z2 : tnd S y u 5 = t
        · by_cases z3 : tnd S y u 3 = 1
          · have d2 := hpl.mpr ⟨z2, z3⟩
            by_cases d3 : hb (I (A 11 c)) u
            · rcases hk with ⟨rfl, hk⟩ | ⟨rfl, hk⟩
              · simp (disch := omega) only [L0, L1, L2, L3, L4, L5, L6, L7, L8, L9, L10, L11, L12, L13, L14, L15, L16, L17, L18, L19, L20, L21, L22, L23, L24, L25, L26, L27, L31, L32, L33, L36, L40, L41, L42, L47, L48, L57, L58, L59, L60, L61, L62, L65, L97, L101, L102, L103, L120, L126, L127, L144, L245, L1023, L1715, I_add, I_sub, I_mul, I_neg, I_lt, I_le, I_eq, a8_g7 h, a8_l7 h, ey1, a8_cO h, N_joint h hM, N_of h hM, Option.bind_some, if_pos, if_neg, if_true, if_false, ite_true, ite_false]; exact fin1 hk
              · simp (disch := omega) only [L0, L1, L2, L3, L4, L5, L6, L7, L8, L9, L10, L11, L12, L13, L14, L15, L16, L17, L18, L19, L20, L21, L22, L23, L24, L25, L26, L27, L31, L32, L33, L36, L40, L41, L42, L47, L48, L57, L58, L59, L60, L61, L62, L65, L97, L101, L102, L103, L120, L126, L127, L144, L245, L1023, L1715, I_add, I_sub, I_mul, I_neg, I_lt, I_le, I_eq, a8_g7 h, a8_l7 h, ey1, a8_cO h, N_joint h hM, N_of h hM, a8_g12 h, a8_l11 h, tst_shr, ind_t d3, Option.bind_some, if_pos, if_neg, if_true, if_false, ite_true, ite_false]; exact fin1 ⟨u, d2, d3⟩
            · rcases hk with ⟨rfl, hk⟩ | ⟨rfl, hk⟩
              · simp (disch := omega) only [L0, L1, L2, L3, L4, L5, L6, L7, L8, L9, L10, L11, L12, L13, L14, L15, L16, L17, L18, L19, L20, L21, L22, L23, L24, L25, L26, L27, L31, L32, L33, L36, L40, L41, L42, L47, L48, L57, L58, L59, L60, L61, L62, L65, L97, L101, L102, L103, L120, L126, L127, L144, L245, L1023, L1715, I_add, I_sub, I_mul, I_neg, I_lt, I_le, I_eq, a8_g7 h, a8_l7 h, ey1, a8_cO h, N_joint h hM, N_of h hM, Option.bind_some, if_pos, if_neg, if_true, if_false, ite_true, ite_false]; exact fin1 hk
              · simp (disch := omega) only [L0, L1, L2, L3, L4, L5, L6, L7, L8, L9, L10, L11, L12, L13, L14, L15, L16, L17, L18, L19, L20, L21, L22, L23, L24, L25, L26, L27, L31, L32, L33, L36, L40, L41, L42, L47, L48, L57, L58, L59, L60, L61, L62, L65, L97, L101, L102, L103, L120, L126, L127, L144, L245, L1023, L1715, I_add, I_sub, I_mul, I_neg, I_lt, I_le, I_eq, a8_g7 h, a8_l7 h, ey1, a8_cO h, N_joint h hM, N_of h hM, a8_g12 h, a8_l11 h, tst_shr, ind_f d3, Option.bind_some, if_pos, if_neg, if_true, if_false, ite_true, ite_false]; exact fin0 (hno (fun z => d3 z.2) hk)
          · have d2 : ¬ plF (tqn S y) (tnd S y) (tnd S x c 3) t u := fun z => z3 (hpl.mp z).2
            rcases hk with ⟨rfl, hk⟩ | ⟨rfl, hk⟩
            · simp (disch := omega) only [L0, L1, L2, L3, L4, L5, L6, L7, L8, L9, L10, L11, L12, L13, L14, L15, L16, L17, L18, L19, L20, L21, L22, L23, L24, L25, L26, L27, L31, L32, L33, L36, L40, L41, L42, L47, L48, L57, L58, L59, L60, L61, L62, L65, L97, L101, L102, L103, L120, L126, L127, L144, L245, L1023, L1715, I_add, I_sub, I_mul, I_neg, I_lt, I_le, I_eq, a8_g7 h, a8_l7 h, ey1, a8_cO h, N_joint h hM, N_of h hM, Option.bind_some, if_pos, if_neg, if_true, if_false, ite_true, ite_false]; exact fin1 hk
            · simp (disch := omega) only [L0, L1, L2, L3, L4, L5, L6, L7, L8, L9, L10, L11, L12, L13, L14, L15, L16, L17, L18, L19, L20, L21, L22, L23, L24, L25, L26, L27, L31, L32, L33, L36, L40, L41, L42, L47, L48, L57, L58, L59, L60, L61, L62, L65, L97, L101, L102, L103, L120, L126, L127, L144, L245, L1023, L1715, I_add, I_sub, I_mul, I_neg, I_lt, I_le, I_eq, a8_g7 h, a8_l7 h, ey1, a8_cO h, N_joint h hM, N_of h hM, Option.bind_some, if_pos, if_neg, if_true, if_false, ite_true, ite_false]; exact fin0 (hno (fun z => d2 z.1) hk)
        · have d2 : ¬ plF (tqn S y) (tnd S y) (tnd S x c 3) t u := fun z => z2 (hpl.mp z).1
          rcases hk with ⟨rfl, hk⟩ | ⟨rfl, hk⟩
          · simp (disch := omega) only [L0, L1, L2, L3, L4, L5, L6, L7, L8, L9, L10, L11, L12, L13, L14, L15, L16, L17, L18, L19, L20, L21, L22, L23, L24, L25, L26, L27, L31, L32, L33, L36, L40, L41, L42, L47, L48, L57, L58, L59, L60, L61, L62, L65, L97, L101, L102, L103, L120, L126, L127, L144, L245, L1023, L1715, I_add, I_sub, I_mul, I_neg, I_lt, I_le, I_eq, a8_g7 h, a8_l7 h, ey1, a8_cO h, N_joint h hM, N_of h hM, Option.bind_some, if_pos, if_neg, if_true, if_false, ite_true, ite_false]; exact fin1 hk
          · simp (disch := omega) only [L0, L1, L2, L3, L4, L5, L6, L7, L8, L9, L10, L11, L12, L13, L14, L15, L16, L17, L18, L19, L20, L21, L22, L23, L24, L25, L26, L27, L31, L32, L33, L36, L40, L41, L42, L47, L48, L57, L58, L59, L60, L61, L62, L65, L97, L101, L102, L103, L120, L126, L127, L144, L245, L1023, L1715, I_add, I_sub, I_mul, I_neg, I_lt, I_le, I_eq, a8_g7 h, a8_l7 h, ey1, a8_cO h, N_joint h hM, N_of h hM, Option.bind_some, if_pos, if_neg, if_true, if_false, ite_true, ite_false]; exact fin0 (hno (fun z => d2 z.1) hk)
      · rw [if_neg z1] at hpl
        by_cases d2' : t ≤ u ∧ u < eW (tqn S y) (tnd S y) t
        · have d2 := hpl.mpr d2'
          by_cases d3 : hb (I (A 11 c)) u
          · rcases hk with ⟨rfl, hk⟩ | ⟨rfl, hk⟩
            · simp (disch := omega) only [L0, L1, L2, L3, L4, L5, L6, L7, L8, L9, L10, L11, L12, L13, L14, L15, L16, L17, L18, L19, L20, L21, L22, L23, L24, L25, L26, L27, L31, L32, L33, L36, L40, L41, L42, L47, L48, L57, L58, L59, L60, L61, L62, L65, L97, L101, L102, L103, L120, L126, L127, L144, L245, L1023, L1715, I_add, I_sub, I_mul, I_neg, I_lt, I_le, I_eq, a8_g7 h, a8_l7 h, ey1, a8_cO h, N_joint h hM, N_within h hM, ind_t d2', Option.bind_some, if_pos, if_neg, if_true, if_false, ite_true, ite_false]; exact fin1 hk
            · simp (disch := omega) only [L0, L1, L2, L3, L4, L5, L6, L7, L8, L9, L10, L11, L12, L13, L14, L15, L16, L17, L18, L19, L20, L21, L22, L23, L24, L25, L26, L27, L31, L32, L33, L36, L40, L41, L42, L47, L48, L57, L58, L59, L60, L61, L62, L65, L97, L101, L102, L103, L120, L126, L127, L144, L245, L1023, L1715, I_add, I_sub, I_mul, I_neg, I_lt, I_le, I_eq, a8_g7 h, a8_l7 h, ey1, a8_cO h, N_joint h hM, N_within h hM, ind_t d2', a8_g12 h, a8_l11 h, tst_shr, ind_t d3, Option.bind_some, if_pos, if_neg, if_true, if_false, ite_true, ite_false]; exact fin1 ⟨u, d2, d3⟩
          · rcases hk with ⟨rfl, hk⟩ | ⟨rfl, hk⟩
            · simp (disch := omega) only [L0, L1, L2, L3, L4, L5, L6, L7, L8, L9, L10, L11, L12, L13, L14, L15, L16, L17, L18, L19, L20, L21, L22, L23, L24, L25, L26, L27, L31, L32, L33, L36, L40, L41, L42, L47, L48, L57, L58, L59, L60, L61, L62, L65, L97, L101, L102, L103, L120, L126, L127, L144, L245, L1023, L1715, I_add, I_sub, I_mul, I_neg, I_lt, I_le, I_eq, a8_g7 h, a8_l7 h, ey1, a8_cO h, N_joint h hM, N_within h hM, ind_t d2', Option.bind_some, if_pos, if_neg, if_true, if_false, ite_true, ite_false]; exact fin1 hk
            · simp (disch := omega) only [L0, L1, L2, L3, L4, L5, L6, L7, L8, L9, L10, L11, L12, L13, L14, L15, L16, L17, L18, L19, L20, L21, L22, L23, L24, L25, L26, L27, L31, L32, L33, L36, L40, L41, L42, L47, L48, L57, L58, L59, L60, L61, L62, L65, L97, L101, L102, L103, L120, L126, L127, L144, L245, L1023, L1715, I_add, I_sub, I_mul, I_neg, I_lt, I_le, I_eq, a8_g7 h, a8_l7 h, ey1, a8_cO h, N_joint h hM, N_within h hM, ind_t d2', a8_g12 h, a8_l11 h, tst_shr, ind_f d3, Option.bind_some, if_pos, if_neg, if_true, if_false, ite_true, ite_false]; exact fin0 (hno (fun z => d3 z.2) hk)
        · have d2 : ¬ plF (tqn S y) (tnd S y) (tnd S x c 3) t u := fun z => d2' (hpl.mp z)
          rcases hk with ⟨rfl, hk⟩ | ⟨rfl, hk⟩
          · simp (disch := omega) only [L0, L1, L2, L3, L4, L5, L6, L7, L8, L9, L10, L11, L12, L13, L14, L15, L16, L17, L18, L19, L20, L21, L22, L23, L24, L25, L26, L27, L31, L32, L33, L36, L40, L41, L42, L47, L48, L57, L58, L59, L60, L61, L62, L65, L97, L101, L102, L103, L120, L126, L127, L144, L245, L1023, L1715, I_add, I_sub, I_mul, I_neg, I_lt, I_le, I_eq, a8_g7 h, a8_l7 h, ey1, a8_cO h, N_joint h hM, N_within h hM, ind_f d2', Option.bind_some, if_pos, if_neg, if_true, if_false, ite_true, ite_false]; exact fin1 hk
          · simp (disch := omega) only [L0, L1, L2, L3, L4, L5, L6, L7, L8, L9, L10, L11, L12, L13, L14, L15, L16, L17, L18, L19, L20, L21, L22, L23, L24, L25, L26, L27, L31, L32, L33, L36, L40, L41, L42, L47, L48, L57, L58, L59, L60, L61, L62, L65, L97, L101, L102, L103, L120, L126, L127, L144, L245, L1023, L1715, I_add, I_sub, I_mul, I_neg, I_lt, I_le, I_eq, a8_g7 h, a8_l7 h, ey1, a8_cO h, N_joint h hM, N_within h hM, ind_f d2', Option.bind_some, if_pos, if_neg, if_true, if_false, ite_true, ite_false]; exact fin0 (hno (fun z => d2 z.1) hk)
  obtain ⟨r, hr, hq⟩ := key
  rw [hr]
  rcases hq with ⟨rfl, hq⟩ | ⟨rfl, hq⟩
  · exact ⟨1, by rw [Option.bind_some, show (1 : Int) = ind True from rfl, cB_ind], Or.inl ⟨rfl, hq⟩⟩
  · exact ⟨0, by rw [Option.bind_some, show (0 : Int) = ind False from rfl, cB_ind], Or.inr ⟨rfl, hq⟩⟩
end MF
