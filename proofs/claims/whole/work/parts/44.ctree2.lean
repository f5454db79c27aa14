/-! ===== the class: drops, sets, moves, element, size ===== -/
def rDrops (X : FS) (e : Int) : Int × FS := if 0 ≤ e ∧ e < tn (fS X) then (if e = 0 then (-3, incB X (-3)) else (enF (tn (fS X)) (tlv (fS X)) e - e, ((tn (fS X) - (enF (tn (fS X)) (tlv (fS X)) e - e), delZ (ttg (fS X)) e (enF (tn (fS X)) (tlv (fS X)) e - e), delZ (tvl (fS X)) e (enF (tn (fS X)) (tlv (fS X)) e - e), delZ (tlv (fS X)) e (enF (tn (fS X)) (tlv (fS X)) e - e), tqn (fS X), tnd (fS X)), (pushK X).2))) else (-2, incB X (-2))
def rSets (X : FS) (e t v : Int) : Int × FS := if (0 ≤ e ∧ e < tn (fS X)) ∧ (0 ≤ t ∧ t ≤ 5 ∧ 0 ≤ v ∧ v ≤ 9) then (10 * ttg (fS X) e + tvl (fS X) e, ((tn (fS X), upZ (ttg (fS X)) e t, upZ (tvl (fS X)) e v, tlv (fS X), tqn (fS X), tnd (fS X)), (pushK X).2)) else (-2, incB X (-2))
def rElem (X : FS) (e w : Int) : Int × FS := if (0 ≤ e ∧ e < tn (fS X)) ∧ 0 ≤ w ∧ w < 8 then ((if w = 0 then ttg (fS X) e else if w = 1 then tvl (fS X) e else if w = 2 then prF (tlv (fS X)) e else if w = 3 then 2 * e - tlv (fS X) e + 2 else if w = 4 then 2 * e - tlv (fS X) e + 2 + 2 * (enF (tn (fS X)) (tlv (fS X)) e - e) - 1 else if w = 5 then tlv (fS X) e else if w = 6 then chN (fS X) e else enF (tn (fS X)) (tlv (fS X)) e - e - 1), X) else (-2, incB X (-2))
abbrev chX (S : TS) (t e : Int) : Int := Sm (fun g => ind (tlv S g = tlv S t + 1 ∧ g ≠ e)) (t + 1) (enF (tn S) (tlv S) t)
/-- the levels below e, moved below t, stay within ten -/
def flat (S : TS) (e t : Int) : Prop := ∀ k, e ≤ k → k < enF (tn S) (tlv S) e → tlv S k + (tlv S t + 1 - tlv S e) ≤ 10
def SMoves (X : FS) (e t a r : Int) (X' : FS) : Prop :=
  (¬ ((0 ≤ e ∧ e < tn (fS X)) ∧ (0 ≤ t ∧ t < tn (fS X)) ∧ 0 ≤ a ∧ a ≤ chX (fS X) t e) ∧ r = -2 ∧ X' = incB X (-2)) ∨
  (((0 ≤ e ∧ e < tn (fS X)) ∧ (0 ≤ t ∧ t < tn (fS X)) ∧ 0 ≤ a ∧ a ≤ chX (fS X) t e) ∧ (((e = 0 ∨ (e ≤ t ∧ t < enF (tn (fS X)) (tlv (fS X)) e) ∨ ¬ flat (fS X) e t) ∧ r = -3 ∧ X' = incB X (-3)) ∨ ((¬ (e = 0 ∨ (e ≤ t ∧ t < enF (tn (fS X)) (tlv (fS X)) e) ∨ ¬ flat (fS X) e t)) ∧
    Spot (tn (fS X) - (enF (tn (fS X)) (tlv (fS X)) e - e)) (delZ (tlv (fS X)) e (enF (tn (fS X)) (tlv (fS X)) e - e)) (if e < t then t - (enF (tn (fS X)) (tlv (fS X)) e - e) else t) a r ∧ X' = ((tn (fS X), mvZ (ttg (fS X)) e (enF (tn (fS X)) (tlv (fS X)) e - e) r 0, mvZ (tvl (fS X)) e (enF (tn (fS X)) (tlv (fS X)) e - e) r 0, mvZ (tlv (fS X)) e (enF (tn (fS X)) (tlv (fS X)) e - e) r (tlv (fS X) t + 1 - tlv (fS X) e), tqn (fS X), tnd (fS X)), (pushK X).2))))
theorem SMoves_uniq {X : FS} {e t a r r' : Int} {X' X'' : FS} (h : SMoves X e t a r X') (h' : SMoves X e t a r' X'') : r = r' ∧ X' = X'' := by
  rcases h with ⟨c, rfl, rfl⟩ | ⟨c, h⟩
  · rcases h' with ⟨-, rfl, rfl⟩ | ⟨c', -⟩
    · exact ⟨rfl, rfl⟩
    · exact absurd c' c
  · rcases h' with ⟨c', -⟩ | ⟨-, h'⟩
    · exact absurd c c'
    · rcases h with ⟨q, rfl, rfl⟩ | ⟨q, q2, rfl⟩
      · rcases h' with ⟨p, rfl, rfl⟩ | ⟨p, p2, rfl⟩
        · exact ⟨rfl, rfl⟩
        · exact absurd q p
      · rcases h' with ⟨p, rfl, rfl⟩ | ⟨p, p2, rfl⟩
        · exact absurd p q
        · obtain rfl := Spot_uniq q2 p2
          exact ⟨rfl, rfl⟩
section CT2
variable {m : Mm} {X : FS}
theorem C_size (h : CI m X) : f_X7_size m 0 = some (I (tn (fS X))) := by
  obtain ⟨F, A, hat, hT⟩ := h.T
  unfold f_X7_size
  simp (disch := omega) only [h.now, h.tree, a4_cO hat, a4_g0 hat, a4_g1 hat, a4_g2 hat, a4_g3 hat, a4_g4 hat, a4_g5 hat, a4_l1 hat, a4_l2 hat, a4_l3 hat, a4_l4 hat, a4_l5 hat, Option.bind_some, if_pos, if_neg, if_true, if_false, ite_true, ite_false]
  rw [hT.1]
theorem C_element (h : CI m X) {e w : Int} (he1 : -2147483648 ≤ e) (he2 : e < 2147483648) (hw1 : -2147483648 ≤ w) (hw2 : w < 2147483648) : Ok (f_X7_element m 0 (I e) (I w)) (fun q => q.1 = I (rElem X e w).1 ∧ CI q.2 (rElem X e w).2 ∧ Fr m q.2 0 376) := by
  obtain ⟨F, A, hat, hT⟩ := h.T
  have hF := hT.1
  have hw := hT.2.1
  have hn1 := hw.1
  have hn2 := hw.2.1
  by_cases c : (0 ≤ e ∧ e < tn (fS X)) ∧ 0 ≤ w ∧ w < 8
  · obtain ⟨z1, z2, z3, z4, z5, -⟩ := hT.2.2 e (by omega) (by omega)
    have hcc : f_X4_childCount m 2 (I e) (I (-1)) = some (I (chN (fS X) e)) := by
      rw [T_childCount hat hT (e := e) (u := -1) (by omega) (by omega) (by omega) (by omega), ch_u (by omega)]
    have hr : rElem X e w = _ := if_pos c
    rw [hr]
    have hhas := T_has hat he1 he2 (by omega) (by omega)
    rw [ind_t (show 0 ≤ e ∧ e < F 0 by omega)] at hhas
    unfold f_X7_element
    have hk : w = 0 ∨ w = 1 ∨ w = 2 ∨ w = 3 ∨ w = 4 ∨ w = 5 ∨ w = 6 ∨ w = 7 := by omega
    rcases hk with rfl | rfl | rfl | rfl | rfl | rfl | rfl | rfl
    · simp (disch := omega) only [h.now, h.tree, hhas, L0, L1, L2, L3, L4, L5, L6, L7, L8, L9, L10, L11, L12, L13, L14, L15, L16, L17, L18, L19, L20, L21, L22, L23, L24, L25, L26, L27, L31, L32, L33, L36, L40, L41, L42, L47, L48, L57, L58, L59, L60, L61, L62, L65, L97, L101, L102, L103, L120, L126, L127, L144, L245, L1023, L1715, I_add, I_sub, I_mul, I_neg, I_lt, I_le, I_eq, a4_cO hat, a4_g0 hat, a4_g1 hat, a4_g2 hat, a4_g3 hat, a4_g4 hat, a4_g5 hat, a4_l1 hat, a4_l2 hat, a4_l3 hat, a4_l4 hat, a4_l5 hat, Option.bind_some, if_pos, if_neg, if_true, if_false, ite_true, ite_false]; exact Ok.pure ⟨by rw [z1], h, Fr.rf⟩
    · simp (disch := omega) only [h.now, h.tree, hhas, L0, L1, L2, L3, L4, L5, L6, L7, L8, L9, L10, L11, L12, L13, L14, L15, L16, L17, L18, L19, L20, L21, L22, L23, L24, L25, L26, L27, L31, L32, L33, L36, L40, L41, L42, L47, L48, L57, L58, L59, L60, L61, L62, L65, L97, L101, L102, L103, L120, L126, L127, L144, L245, L1023, L1715, I_add, I_sub, I_mul, I_neg, I_lt, I_le, I_eq, a4_cO hat, a4_g0 hat, a4_g1 hat, a4_g2 hat, a4_g3 hat, a4_g4 hat, a4_g5 hat, a4_l1 hat, a4_l2 hat, a4_l3 hat, a4_l4 hat, a4_l5 hat, Option.bind_some, if_pos, if_neg, if_true, if_false, ite_true, ite_false]; exact Ok.pure ⟨by rw [z2], h, Fr.rf⟩
    · simp (disch := omega) only [h.now, h.tree, hhas, L0, L1, L2, L3, L4, L5, L6, L7, L8, L9, L10, L11, L12, L13, L14, L15, L16, L17, L18, L19, L20, L21, L22, L23, L24, L25, L26, L27, L31, L32, L33, L36, L40, L41, L42, L47, L48, L57, L58, L59, L60, L61, L62, L65, L97, L101, L102, L103, L120, L126, L127, L144, L245, L1023, L1715, I_add, I_sub, I_mul, I_neg, I_lt, I_le, I_eq, a4_cO hat, a4_g0 hat, a4_g1 hat, a4_g2 hat, a4_g3 hat, a4_g4 hat, a4_g5 hat, a4_l1 hat, a4_l2 hat, a4_l3 hat, a4_l4 hat, a4_l5 hat, Option.bind_some, if_pos, if_neg, if_true, if_false, ite_true, ite_false]; exact Ok.pure ⟨by rw [z4], h, Fr.rf⟩
    · simp (disch := omega) only [h.now, h.tree, hhas, L0, L1, L2, L3, L4, L5, L6, L7, L8, L9, L10, L11, L12, L13, L14, L15, L16, L17, L18, L19, L20, L21, L22, L23, L24, L25, L26, L27, L31, L32, L33, L36, L40, L41, L42, L47, L48, L57, L58, L59, L60, L61, L62, L65, L97, L101, L102, L103, L120, L126, L127, L144, L245, L1023, L1715, I_add, I_sub, I_mul, I_neg, I_lt, I_le, I_eq, a4_cO hat, a4_g0 hat, a4_g1 hat, a4_g2 hat, a4_g3 hat, a4_g4 hat, a4_g5 hat, a4_l1 hat, a4_l2 hat, a4_l3 hat, a4_l4 hat, a4_l5 hat, T_start hat, Option.bind_some, if_pos, if_neg, if_true, if_false, ite_true, ite_false]; exact Ok.pure ⟨by rw [z3], h, Fr.rf⟩
    · simp (disch := omega) only [h.now, h.tree, hhas, L0, L1, L2, L3, L4, L5, L6, L7, L8, L9, L10, L11, L12, L13, L14, L15, L16, L17, L18, L19, L20, L21, L22, L23, L24, L25, L26, L27, L31, L32, L33, L36, L40, L41, L42, L47, L48, L57, L58, L59, L60, L61, L62, L65, L97, L101, L102, L103, L120, L126, L127, L144, L245, L1023, L1715, I_add, I_sub, I_mul, I_neg, I_lt, I_le, I_eq, a4_cO hat, a4_g0 hat, a4_g1 hat, a4_g2 hat, a4_g3 hat, a4_g4 hat, a4_g5 hat, a4_l1 hat, a4_l2 hat, a4_l3 hat, a4_l4 hat, a4_l5 hat, T_end hat, Option.bind_some, if_pos, if_neg, if_true, if_false, ite_true, ite_false]; exact Ok.pure ⟨by rw [z3, z5]; exact congrArg I (by omega), h, Fr.rf⟩
    · simp (disch := omega) only [h.now, h.tree, hhas, L0, L1, L2, L3, L4, L5, L6, L7, L8, L9, L10, L11, L12, L13, L14, L15, L16, L17, L18, L19, L20, L21, L22, L23, L24, L25, L26, L27, L31, L32, L33, L36, L40, L41, L42, L47, L48, L57, L58, L59, L60, L61, L62, L65, L97, L101, L102, L103, L120, L126, L127, L144, L245, L1023, L1715, I_add, I_sub, I_mul, I_neg, I_lt, I_le, I_eq, a4_cO hat, a4_g0 hat, a4_g1 hat, a4_g2 hat, a4_g3 hat, a4_g4 hat, a4_g5 hat, a4_l1 hat, a4_l2 hat, a4_l3 hat, a4_l4 hat, a4_l5 hat, Option.bind_some, if_pos, if_neg, if_true, if_false, ite_true, ite_false]; exact Ok.pure ⟨by rw [z3], h, Fr.rf⟩
    · simp (disch := omega) only [h.now, h.tree, hhas, L0, L1, L2, L3, L4, L5, L6, L7, L8, L9, L10, L11, L12, L13, L14, L15, L16, L17, L18, L19, L20, L21, L22, L23, L24, L25, L26, L27, L31, L32, L33, L36, L40, L41, L42, L47, L48, L57, L58, L59, L60, L61, L62, L65, L97, L101, L102, L103, L120, L126, L127, L144, L245, L1023, L1715, I_add, I_sub, I_mul, I_neg, I_lt, I_le, I_eq, a4_cO hat, a4_g0 hat, a4_g1 hat, a4_g2 hat, a4_g3 hat, a4_g4 hat, a4_g5 hat, a4_l1 hat, a4_l2 hat, a4_l3 hat, a4_l4 hat, a4_l5 hat, hcc, Option.bind_some, if_pos, if_neg, if_true, if_false, ite_true, ite_false]; exact Ok.pure ⟨rfl, h, Fr.rf⟩
    · simp (disch := omega) only [h.now, h.tree, hhas, L0, L1, L2, L3, L4, L5, L6, L7, L8, L9, L10, L11, L12, L13, L14, L15, L16, L17, L18, L19, L20, L21, L22, L23, L24, L25, L26, L27, L31, L32, L33, L36, L40, L41, L42, L47, L48, L57, L58, L59, L60, L61, L62, L65, L97, L101, L102, L103, L120, L126, L127, L144, L245, L1023, L1715, I_add, I_sub, I_mul, I_neg, I_lt, I_le, I_eq, a4_cO hat, a4_g0 hat, a4_g1 hat, a4_g2 hat, a4_g3 hat, a4_g4 hat, a4_g5 hat, a4_l1 hat, a4_l2 hat, a4_l3 hat, a4_l4 hat, a4_l5 hat, Option.bind_some, if_pos, if_neg, if_true, if_false, ite_true, ite_false]; exact Ok.pure ⟨by rw [z5]; exact congrArg I (by omega), h, Fr.rf⟩
  · have hr : rElem X e w = _ := if_neg c
    rw [hr]
    unfold f_X7_element
    by_cases c1 : 0 ≤ e ∧ e < F 0
    · have hhas := T_has hat he1 he2 (by omega) (by omega)
      rw [ind_t c1] at hhas
      by_cases c2 : w < 0
      · simp (disch := omega) only [h.now, h.tree, a4_cO hat, hhas, L0, L1, L2, L3, L4, L5, L6, L7, L8, L9, L10, L11, L12, L13, L14, L15, L16, L17, L18, L19, L20, L21, L22, L23, L24, L25, L26, L27, L31, L32, L33, L36, L40, L41, L42, L47, L48, L57, L58, L59, L60, L61, L62, L65, L97, L101, L102, L103, L120, L126, L127, L144, L245, L1023, L1715, I_add, I_sub, I_mul, I_neg, I_lt, I_le, I_eq, h.self, Option.bind_some, if_pos, if_neg, if_true, if_false, ite_true, ite_false]
        exact C_fail h (by omega)
      · simp (disch := omega) only [h.now, h.tree, a4_cO hat, hhas, L0, L1, L2, L3, L4, L5, L6, L7, L8, L9, L10, L11, L12, L13, L14, L15, L16, L17, L18, L19, L20, L21, L22, L23, L24, L25, L26, L27, L31, L32, L33, L36, L40, L41, L42, L47, L48, L57, L58, L59, L60, L61, L62, L65, L97, L101, L102, L103, L120, L126, L127, L144, L245, L1023, L1715, I_add, I_sub, I_mul, I_neg, I_lt, I_le, I_eq, h.self, Option.bind_some, if_pos, if_neg, if_true, if_false, ite_true, ite_false]
        exact C_fail h (by omega)
    · have hhas := T_has hat he1 he2 (by omega) (by omega)
      rw [ind_f c1] at hhas
      simp only [h.now, h.tree, a4_cO hat, hhas, Option.bind_some]
      rw [if_pos (show I 0 = (0 : Int32) from rfl)]
      simp (disch := omega) only [L0, L1, L2, L3, L4, L5, L6, L7, L8, L9, L10, L11, L12, L13, L14, L15, L16, L17, L18, L19, L20, L21, L22, L23, L24, L25, L26, L27, L31, L32, L33, L36, L40, L41, L42, L47, L48, L57, L58, L59, L60, L61, L62, L65, L97, L101, L102, L103, L120, L126, L127, L144, L245, L1023, L1715, I_add, I_sub, I_mul, I_neg, I_lt, I_le, I_eq, h.self, Option.bind_some, if_pos, if_neg, if_true, if_false, ite_true, ite_false]
      exact C_fail h (by omega)
theorem C_sets (h : CI m X) {e t v : Int} (he1 : -2147483648 ≤ e) (he2 : e < 2147483648) (ht1 : -2147483648 ≤ t) (ht2 : t < 2147483648) (hv1 : -2147483648 ≤ v) (hv2 : v < 2147483648) : Ok (f_X7_sets m 0 (I e) (I t) (I v)) (fun q => q.1 = I (rSets X e t v).1 ∧ CI q.2 (rSets X e t v).2 ∧ Fr m q.2 0 376) := by
  obtain ⟨F, A, hat, hT⟩ := h.T
  have hF := hT.1
  have hw := hT.2.1
  have hn1 := hw.1
  have hn2 := hw.2.1
  unfold f_X7_sets
  simp (disch := omega) only [h.now, h.tree, a4_cO hat, T_has hat, C_isLabel, Option.bind_some, if_pos, if_neg, if_true, if_false, ite_true, ite_false]
  by_cases c1 : 0 ≤ e ∧ e < F 0
  · rw [ind_t c1]
    by_cases c2 : 0 ≤ t ∧ t ≤ 5 ∧ 0 ≤ v ∧ v ≤ 9
    · have hr : rSets X e t v = _ := if_pos (show (0 ≤ e ∧ e < tn (fS X)) ∧ (0 ≤ t ∧ t ≤ 5 ∧ 0 ≤ v ∧ v ≤ 9) from ⟨by omega, c2⟩)
      rw [ind_t c2, hr]
      simp (disch := omega) only [L0, L1, L2, L3, L4, L5, L6, L7, L8, L9, L10, L11, L12, L13, L14, L15, L16, L17, L18, L19, L20, L21, L22, L23, L24, L25, L26, L27, L31, L32, L33, L36, L40, L41, L42, L47, L48, L57, L58, L59, L60, L61, L62, L65, L97, L101, L102, L103, L120, L126, L127, L144, L245, L1023, L1715, I_add, I_sub, I_mul, I_neg, I_lt, I_le, I_eq, h.self, Option.bind_some, if_pos, if_neg, if_true, if_false, ite_true, ite_false]
      refine Ok.bind (C_keep h) ?_
      rintro m1 ⟨h', hf1⟩
      obtain ⟨F1, A1, hat1, hT1⟩ := h'.T
      rw [pushK_S] at hT1
      have hF1 := hT1.1
      have hov := hat1.ov
      have hl := a4_len hat1
      obtain ⟨z1, z2, -⟩ := hT1.2.2 e (by omega) (by omega)
      rw [← hov]
      simp (disch := omega) only [L0, L1, L2, L3, L4, L5, L6, L7, L8, L9, L10, L11, L12, L13, L14, L15, L16, L17, L18, L19, L20, L21, L22, L23, L24, L25, L26, L27, L31, L32, L33, L36, L40, L41, L42, L47, L48, L57, L58, L59, L60, L61, L62, L65, L97, L101, L102, L103, L120, L126, L127, L144, L245, L1023, L1715, I_add, I_sub, I_mul, I_neg, I_lt, I_le, I_eq, o4_cO, o4_g0, o4_p0, o4_g1, o4_g2, o4_g3, o4_g4, o4_g5, o4_l1, o4_s1, o4_l2, o4_s2, o4_l3, o4_s3, o4_l4, o4_s4, o4_l5, o4_s5, Option.bind_some, if_pos, if_neg, if_true, if_false, ite_true, ite_false]
      have hf2 : ∀ F2 A2, Fr m1 (ov m1 2 (o4 2 F2 A2)) 2 8 := fun _ _ => Fr.ov (N := 5) (fun off h => o4_N off h)
      have hT2 : TR F1 (upN (upN A1 1 (upZ (A1 1) e t)) 2 (upZ (A1 2) e v)) (tn (fS X)) (upZ (ttg (fS X)) e t) (upZ (tvl (fS X)) e v) (tlv (fS X)) := by
        refine ⟨hF1, hT1.2.1, fun k k0 k1 => ?_⟩
        obtain ⟨y1, y2, y3, y4, y5, y6⟩ := hT1.2.2 k k0 k1
        show upZ (A1 1) e t k = upZ (ttg (fS X)) e t k ∧ upZ (A1 2) e v k = upZ (tvl (fS X)) e v k ∧ A1 3 k = tlv (fS X) k ∧ A1 4 k = prF (tlv (fS X)) k ∧ A1 5 k = enF (tn (fS X)) (tlv (fS X)) k - 1 ∧ 0 ≤ upZ (ttg (fS X)) e t k ∧ upZ (ttg (fS X)) e t k ≤ 5 ∧ 0 ≤ upZ (tvl (fS X)) e v k ∧ upZ (tvl (fS X)) e v k ≤ 9
        by_cases hk : k = e
        · subst hk; rw [upZ_at, upZ_at, upZ_at, upZ_at]; exact ⟨rfl, rfl, y3, y4, y5, c2⟩
        · rw [upZ_ne hk, upZ_ne hk, upZ_ne hk, upZ_ne hk]; exact ⟨y1, y2, y3, y4, y5, y6⟩
      have hci := h'.newT (hf2 F1 _) (o4_At hl) hT2
      rw [pushK_S] at hci
      refine Ok.pure ⟨?_, hci, hf1.tr ((hf2 F1 _).mono (by omega) (by omega))⟩
      show I (10 * A1 1 e + A1 2 e) = _
      rw [z1, z2]
    · have hr : rSets X e t v = _ := if_neg (by omega)
      rw [ind_f c2, hr]
      simp (disch := omega) only [L0, L1, L2, L3, L4, L5, L6, L7, L8, L9, L10, L11, L12, L13, L14, L15, L16, L17, L18, L19, L20, L21, L22, L23, L24, L25, L26, L27, L31, L32, L33, L36, L40, L41, L42, L47, L48, L57, L58, L59, L60, L61, L62, L65, L97, L101, L102, L103, L120, L126, L127, L144, L245, L1023, L1715, I_add, I_sub, I_mul, I_neg, I_lt, I_le, I_eq, h.self, Option.bind_some, if_pos, if_neg, if_true, if_false, ite_true, ite_false]
      exact C_fail h (by omega)
  · have hr : rSets X e t v = _ := if_neg (by omega)
    rw [ind_f c1, hr]
    simp (disch := omega) only [L0, L1, L2, L3, L4, L5, L6, L7, L8, L9, L10, L11, L12, L13, L14, L15, L16, L17, L18, L19, L20, L21, L22, L23, L24, L25, L26, L27, L31, L32, L33, L36, L40, L41, L42, L47, L48, L57, L58, L59, L60, L61, L62, L65, L97, L101, L102, L103, L120, L126, L127, L144, L245, L1023, L1715, I_add, I_sub, I_mul, I_neg, I_lt, I_le, I_eq, h.self, Option.bind_some, if_pos, if_neg, if_true, if_false, ite_true, ite_false]
    exact C_fail h (by omega)
theorem C_drops (h : CI m X) {e : Int} (he1 : -2147483648 ≤ e) (he2 : e < 2147483648) : Ok (f_X7_drops m 0 (I e)) (fun q => q.1 = I (rDrops X e).1 ∧ CI q.2 (rDrops X e).2 ∧ Fr m q.2 0 376) := by
  obtain ⟨F, A, hat, hT⟩ := h.T
  have hF := hT.1
  have hw := hT.2.1
  have hn1 := hw.1
  have hn2 := hw.2.1
  unfold f_X7_drops
  simp (disch := omega) only [h.now, h.tree, a4_cO hat, T_has hat, Option.bind_some, if_pos, if_neg, if_true, if_false, ite_true, ite_false]
  by_cases c1 : 0 ≤ e ∧ e < F 0
  · have hr0 : rDrops X e = _ := if_pos (show 0 ≤ e ∧ e < tn (fS X) by omega)
    rw [ind_t c1, hr0]
    by_cases c2 : e = 0
    · rw [if_pos c2]
      simp (disch := omega) only [L0, L1, L2, L3, L4, L5, L6, L7, L8, L9, L10, L11, L12, L13, L14, L15, L16, L17, L18, L19, L20, L21, L22, L23, L24, L25, L26, L27, L31, L32, L33, L36, L40, L41, L42, L47, L48, L57, L58, L59, L60, L61, L62, L65, L97, L101, L102, L103, L120, L126, L127, L144, L245, L1023, L1715, I_add, I_sub, I_mul, I_neg, I_lt, I_le, I_eq, h.self, Option.bind_some, if_pos, if_neg, if_true, if_false, ite_true, ite_false]
      exact C_fail h (by omega)
    · rw [if_neg c2]
      simp (disch := omega) only [L0, L1, L2, L3, L4, L5, L6, L7, L8, L9, L10, L11, L12, L13, L14, L15, L16, L17, L18, L19, L20, L21, L22, L23, L24, L25, L26, L27, L31, L32, L33, L36, L40, L41, L42, L47, L48, L57, L58, L59, L60, L61, L62, L65, L97, L101, L102, L103, L120, L126, L127, L144, L245, L1023, L1715, I_add, I_sub, I_mul, I_neg, I_lt, I_le, I_eq, h.self, Option.bind_some, if_pos, if_neg, if_true, if_false, ite_true, ite_false]
      refine Ok.bind (C_keep h) ?_
      rintro m1 ⟨h', hf1⟩
      obtain ⟨F1, A1, hat1, hT1⟩ := h'.T
      rw [pushK_S] at hT1
      have hF1 := hT1.1
      have hl := a4_len hat1
      obtain ⟨z1, z2, z3, z4, z5, z6⟩ := hT1.2.2 e (by omega) (by omega)
      obtain ⟨r1, r2, -, -⟩ := enF_spec (tlv (fS X)) (show e < tn (fS X) by omega)
      have hA3 : ∀ k, 0 ≤ k → k < tn (fS X) → A1 3 k = tlv (fS X) k := fun k k0 k1 => (hT1.2.2 k k0 k1).2.2.1
      have hwd := WL_del hw (show 0 < e by omega) (show e < tn (fS X) by omega)
      generalize hs : enF (tn (fS X)) (tlv (fS X)) e - e = s at *
      have hdel : ∀ (g g' : Int → Int), (∀ k, 0 ≤ k → k < tn (fS X) → g k = g' k) → ∀ k, 0 ≤ k → k < tn (fS X) - s → delZ g e s k = delZ g' e s k := by
        intro g g' hg k k0 k1
        unfold delZ
        split
        · exact hg k k0 (by omega)
        · exact hg (k + s) (by omega) (by omega)
      have hwd' : WL (tn (fS X) - s) (delZ (A1 3) e s) := WL_congr hwd (hdel _ _ hA3)
      simp (disch := omega) only [L0, L1, L2, L3, L4, L5, L6, L7, L8, L9, L10, L11, L12, L13, L14, L15, L16, L17, L18, L19, L20, L21, L22, L23, L24, L25, L26, L27, L31, L32, L33, L36, L40, L41, L42, L47, L48, L57, L58, L59, L60, L61, L62, L65, L97, L101, L102, L103, L120, L126, L127, L144, L245, L1023, L1715, I_add, I_sub, I_mul, I_neg, I_lt, I_le, I_eq, a4_cO hat1, a4_g0 hat1, a4_g1 hat1, a4_g2 hat1, a4_g3 hat1, a4_g4 hat1, a4_g5 hat1, a4_l1 hat1, a4_l2 hat1, a4_l3 hat1, a4_l4 hat1, a4_l5 hat1, Option.bind_some, if_pos, if_neg, if_true, if_false, ite_true, ite_false]
      rw [show A1 5 e - e + 1 = s by omega]
      have hrem := T_remove (a := 2) (F := F1) (A := A1) (n := tn (fS X)) hl (p := e) (s := s) hF1 (by omega) (by omega) (by omega) (by omega) hwd'
      rw [hat1.ov] at hrem
      refine Ok.bind hrem ?_
      rintro m2 ⟨F2, A2, rfl, hF2, hA2⟩
      have hf2 : Fr m1 (ov m1 2 (o4 2 F2 A2)) 2 8 := Fr.ov (N := 5) (fun off h => o4_N off h)
      have hT2 : TR F2 A2 (tn (fS X) - s) (delZ (ttg (fS X)) e s) (delZ (tvl (fS X)) e s) (delZ (tlv (fS X)) e s) := by
        refine ⟨hF2, hwd, fun k k0 k1 => ?_⟩
        obtain ⟨y1, y2, y3, y4, y5⟩ := hA2 k k0 k1
        refine ⟨y1.trans (hdel _ _ (fun k k0 k1 => (hT1.2.2 k k0 k1).1) k k0 k1), y2.trans (hdel _ _ (fun k k0 k1 => (hT1.2.2 k k0 k1).2.1) k k0 k1), y3.trans (hdel _ _ hA3 k k0 k1), ?_, ?_, ?_⟩
        · rw [y4]; exact prF_congr k0 (fun j j0 j1 => hdel _ _ hA3 j j0 (by omega))
        · rw [y5, enF_congr k0 k1 (fun j j0 j1 => hdel _ _ hA3 j j0 j1)]
        · unfold delZ
          split
          · exact (hT1.2.2 k k0 (by omega)).2.2.2.2.2
          · exact (hT1.2.2 (k + s) (by omega) (by omega)).2.2.2.2.2
      have hci := h'.newT hf2 (o4_At hl) hT2
      rw [pushK_S] at hci
      exact Ok.pure ⟨rfl, hci, hf1.tr (hf2.mono (by omega) (by omega))⟩
  · have hr0 : rDrops X e = _ := if_neg (by omega)
    rw [ind_f c1, hr0]
    simp (disch := omega) only [L0, L1, L2, L3, L4, L5, L6, L7, L8, L9, L10, L11, L12, L13, L14, L15, L16, L17, L18, L19, L20, L21, L22, L23, L24, L25, L26, L27, L31, L32, L33, L36, L40, L41, L42, L47, L48, L57, L58, L59, L60, L61, L62, L65, L97, L101, L102, L103, L120, L126, L127, L144, L245, L1023, L1715, I_add, I_sub, I_mul, I_neg, I_lt, I_le, I_eq, h.self, Option.bind_some, if_pos, if_neg, if_true, if_false, ite_true, ite_false]
    exact C_fail h (by omega)
end CT2
