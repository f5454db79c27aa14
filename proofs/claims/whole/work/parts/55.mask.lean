/-! ===== the reference: a twig's questions; node, forgets, nodes, told, type, clear, why ===== -/
section MASK
variable {M m : Mm} {a : Nat} {F : Nat → Int} {A : Nat → Int → Int} {X : FS} {S : TS}
theorem N_its (h : At M a (o8 a F A)) (hM : MW A S) {i q w : Int} (i0 : 0 ≤ i) (i1 : i < 4) (q0 : 0 ≤ q) (q1 : q < tqn S i) (w0 : 0 ≤ w) (w1 : w < 6) : lI M (a + 8) (I (36 * i + 6 * q + w)) = some (I (tnd S i q w)) := by
  obtain ⟨-, y2, y3⟩ := hM i i0 i1
  have := y2.2.1
  rw [a8_l8 h (by omega) (by omega), y3 q w q0 q1 w0 w1]
theorem N_tag (h : At M a (o8 a F A)) (hM : MW A S) {i q : Int} (i0 : 0 ≤ i) (i1 : i < 4) (q0 : 0 ≤ q) (q1 : q < tqn S i) : f_X8_tagOf M a (I i) (I q) = some (I (tnd S i q 0)) := by
  unfold f_X8_tagOf f_X8_cell
  simp (disch := omega) only [L0, L1, L2, L3, L4, L5, L6, L7, L8, L9, L10, L11, L12, L13, L14, L15, L16, L17, L18, L19, L20, L21, L22, L23, L24, L25, L26, L27, L31, L32, L33, L36, L40, L41, L42, L47, L48, L57, L58, L59, L60, L61, L62, L65, L97, L101, L102, L103, L120, L126, L127, L144, L245, L1023, L1715, I_add, I_sub, I_mul, I_neg, I_lt, I_le, I_eq, a8_g8 h, Option.bind_some, if_pos, if_neg, if_true, if_false, ite_true, ite_false, N_its h hM]
theorem N_joint (h : At M a (o8 a F A)) (hM : MW A S) {i q : Int} (i0 : 0 ≤ i) (i1 : i < 4) (q0 : 0 ≤ q) (q1 : q < tqn S i) : f_X8_jointOf M a (I i) (I q) = some (I (tnd S i q 3)) := by
  unfold f_X8_jointOf f_X8_cell
  simp (disch := omega) only [L0, L1, L2, L3, L4, L5, L6, L7, L8, L9, L10, L11, L12, L13, L14, L15, L16, L17, L18, L19, L20, L21, L22, L23, L24, L25, L26, L27, L31, L32, L33, L36, L40, L41, L42, L47, L48, L57, L58, L59, L60, L61, L62, L65, L97, L101, L102, L103, L120, L126, L127, L144, L245, L1023, L1715, I_add, I_sub, I_mul, I_neg, I_lt, I_le, I_eq, a8_g8 h, Option.bind_some, if_pos, if_neg, if_true, if_false, ite_true, ite_false, N_its h hM]
theorem N_of (h : At M a (o8 a F A)) (hM : MW A S) {i q : Int} (i0 : 0 ≤ i) (i1 : i < 4) (q0 : 0 ≤ q) (q1 : q < tqn S i) : f_X8_ofNode M a (I i) (I q) = some (I (tnd S i q 5)) := by
  unfold f_X8_ofNode f_X8_cell
  simp (disch := omega) only [L0, L1, L2, L3, L4, L5, L6, L7, L8, L9, L10, L11, L12, L13, L14, L15, L16, L17, L18, L19, L20, L21, L22, L23, L24, L25, L26, L27, L31, L32, L33, L36, L40, L41, L42, L47, L48, L57, L58, L59, L60, L61, L62, L65, L97, L101, L102, L103, L120, L126, L127, L144, L245, L1023, L1715, I_add, I_sub, I_mul, I_neg, I_lt, I_le, I_eq, a8_g8 h, Option.bind_some, if_pos, if_neg, if_true, if_false, ite_true, ite_false, N_its h hM]
theorem N_ord (h : At M a (o8 a F A)) (hM : MW A S) {i q : Int} (i0 : 0 ≤ i) (i1 : i < 4) (q0 : 0 ≤ q) (q1 : q < tqn S i) : f_X8_isOrdered M a (I i) (I q) = some (I (tnd S i q 4)) := by
  have := ((hM i i0 i1).2.1.2.2 q q0 q1).2.2.2.2.1
  unfold f_X8_isOrdered f_X8_cell
  rcases this with c | c
  · simp (disch := omega) only [L0, L1, L2, L3, L4, L5, L6, L7, L8, L9, L10, L11, L12, L13, L14, L15, L16, L17, L18, L19, L20, L21, L22, L23, L24, L25, L26, L27, L31, L32, L33, L36, L40, L41, L42, L47, L48, L57, L58, L59, L60, L61, L62, L65, L97, L101, L102, L103, L120, L126, L127, L144, L245, L1023, L1715, I_add, I_sub, I_mul, I_neg, I_lt, I_le, I_eq, a8_g8 h, Option.bind_some, if_pos, if_neg, if_true, if_false, ite_true, ite_false, N_its h hM, c]
  · simp (disch := omega) only [L0, L1, L2, L3, L4, L5, L6, L7, L8, L9, L10, L11, L12, L13, L14, L15, L16, L17, L18, L19, L20, L21, L22, L23, L24, L25, L26, L27, L31, L32, L33, L36, L40, L41, L42, L47, L48, L57, L58, L59, L60, L61, L62, L65, L97, L101, L102, L103, L120, L126, L127, L144, L245, L1023, L1715, I_add, I_sub, I_mul, I_neg, I_lt, I_le, I_eq, a8_g8 h, Option.bind_some, if_pos, if_neg, if_true, if_false, ite_true, ite_false, N_its h hM, c]
theorem N_passes (h : At M a (o8 a F A)) (hM : MW A S) {i q v : Int} (i0 : 0 ≤ i) (i1 : i < 4) (q0 : 0 ≤ q) (q1 : q < tqn S i) (v0 : 0 ≤ v) (v1 : v ≤ 9) : f_X8_passes M a (I i) (I q) (I v) = some (I (ind (psF (tnd S i) q v))) := by
  obtain ⟨-, t1, t2, -⟩ := (hM i i0 i1).2.1.2.2 q q0 q1
  unfold f_X8_passes f_X8_cell f_X8_passes_J43 f_X8_passes_J55
  have hc : tnd S i q 1 = 0 ∨ tnd S i q 1 = 1 ∨ tnd S i q 1 = 2 ∨ tnd S i q 1 = 3 := by omega
  rcases hc with c | c | c | c
  · rw [ind_t (Or.inl c)]
    simp (disch := omega) only [L0, L1, L2, L3, L4, L5, L6, L7, L8, L9, L10, L11, L12, L13, L14, L15, L16, L17, L18, L19, L20, L21, L22, L23, L24, L25, L26, L27, L31, L32, L33, L36, L40, L41, L42, L47, L48, L57, L58, L59, L60, L61, L62, L65, L97, L101, L102, L103, L120, L126, L127, L144, L245, L1023, L1715, I_add, I_sub, I_mul, I_neg, I_lt, I_le, I_eq, a8_g8 h, Option.bind_some, if_pos, if_neg, if_true, if_false, ite_true, ite_false, N_its h hM, c]
  · by_cases z : v = tnd S i q 2
    · rw [ind_t (Or.inr (Or.inl ⟨c, z⟩))]
      simp (disch := omega) only [L0, L1, L2, L3, L4, L5, L6, L7, L8, L9, L10, L11, L12, L13, L14, L15, L16, L17, L18, L19, L20, L21, L22, L23, L24, L25, L26, L27, L31, L32, L33, L36, L40, L41, L42, L47, L48, L57, L58, L59, L60, L61, L62, L65, L97, L101, L102, L103, L120, L126, L127, L144, L245, L1023, L1715, I_add, I_sub, I_mul, I_neg, I_lt, I_le, I_eq, a8_g8 h, Option.bind_some, if_pos, if_neg, if_true, if_false, ite_true, ite_false, N_its h hM, c]
    · rw [ind_f (by omega)]
      simp (disch := omega) only [L0, L1, L2, L3, L4, L5, L6, L7, L8, L9, L10, L11, L12, L13, L14, L15, L16, L17, L18, L19, L20, L21, L22, L23, L24, L25, L26, L27, L31, L32, L33, L36, L40, L41, L42, L47, L48, L57, L58, L59, L60, L61, L62, L65, L97, L101, L102, L103, L120, L126, L127, L144, L245, L1023, L1715, I_add, I_sub, I_mul, I_neg, I_lt, I_le, I_eq, a8_g8 h, Option.bind_some, if_pos, if_neg, if_true, if_false, ite_true, ite_false, N_its h hM, c]
  · by_cases z : v < tnd S i q 2
    · rw [ind_t (Or.inr (Or.inr (Or.inl ⟨c, z⟩)))]
      simp (disch := omega) only [L0, L1, L2, L3, L4, L5, L6, L7, L8, L9, L10, L11, L12, L13, L14, L15, L16, L17, L18, L19, L20, L21, L22, L23, L24, L25, L26, L27, L31, L32, L33, L36, L40, L41, L42, L47, L48, L57, L58, L59, L60, L61, L62, L65, L97, L101, L102, L103, L120, L126, L127, L144, L245, L1023, L1715, I_add, I_sub, I_mul, I_neg, I_lt, I_le, I_eq, a8_g8 h, Option.bind_some, if_pos, if_neg, if_true, if_false, ite_true, ite_false, N_its h hM, c]
    · rw [ind_f (by omega)]
      simp (disch := omega) only [L0, L1, L2, L3, L4, L5, L6, L7, L8, L9, L10, L11, L12, L13, L14, L15, L16, L17, L18, L19, L20, L21, L22, L23, L24, L25, L26, L27, L31, L32, L33, L36, L40, L41, L42, L47, L48, L57, L58, L59, L60, L61, L62, L65, L97, L101, L102, L103, L120, L126, L127, L144, L245, L1023, L1715, I_add, I_sub, I_mul, I_neg, I_lt, I_le, I_eq, a8_g8 h, Option.bind_some, if_pos, if_neg, if_true, if_false, ite_true, ite_false, N_its h hM, c]
  · by_cases z : tnd S i q 2 < v
    · rw [ind_t (Or.inr (Or.inr (Or.inr ⟨c, z⟩)))]
      simp (disch := omega) only [L0, L1, L2, L3, L4, L5, L6, L7, L8, L9, L10, L11, L12, L13, L14, L15, L16, L17, L18, L19, L20, L21, L22, L23, L24, L25, L26, L27, L31, L32, L33, L36, L40, L41, L42, L47, L48, L57, L58, L59, L60, L61, L62, L65, L97, L101, L102, L103, L120, L126, L127, L144, L245, L1023, L1715, I_add, I_sub, I_mul, I_neg, I_lt, I_le, I_eq, a8_g8 h, Option.bind_some, if_pos, if_neg, if_true, if_false, ite_true, ite_false, N_its h hM, c]
    · rw [ind_f (by omega)]
      simp (disch := omega) only [L0, L1, L2, L3, L4, L5, L6, L7, L8, L9, L10, L11, L12, L13, L14, L15, L16, L17, L18, L19, L20, L21, L22, L23, L24, L25, L26, L27, L31, L32, L33, L36, L40, L41, L42, L47, L48, L57, L58, L59, L60, L61, L62, L65, L97, L101, L102, L103, L120, L126, L127, L144, L245, L1023, L1715, I_add, I_sub, I_mul, I_neg, I_lt, I_le, I_eq, a8_g8 h, Option.bind_some, if_pos, if_neg, if_true, if_false, ite_true, ite_false, N_its h hM, c]
theorem N_passing (h : At M a (o8 a F A)) (hM : MW A S) {i q : Int} (i0 : 0 ≤ i) (i1 : i < 4) (q0 : 0 ≤ q) (q1 : q < tqn S i) : f_X8_passing M a (I i) (I q) = some (psS (tnd S i) q) := by
  unfold f_X8_passing
  refine Ok.eq (Ok.bind (P := fun r => r = psS (tnd S i) q) ?_ (fun r hr => Ok.pure hr))
  simp only [L0]
  refine Ok.whl (fun j s => ∃ v, s = (bs (fun v => psF (tnd S i) q v) v.toNat, I v) ∧ 0 ≤ v ∧ v ≤ 10 ∧ j = (10 - v).toNat) _ (j := 10) ?_ ⟨0, rfl, by omega, by omega, rfl⟩ (FU_lt (by omega))
  rintro j s ⟨v, rfl, v0, v1, rfl⟩
  dsimp only
  unfold f_X8_passing_L5
  by_cases c : 10 ≤ v
  · simp (disch := omega) only [L0, L1, L2, L3, L4, L5, L6, L7, L8, L9, L10, L11, L12, L13, L14, L15, L16, L17, L18, L19, L20, L21, L22, L23, L24, L25, L26, L27, L31, L32, L33, L36, L40, L41, L42, L47, L48, L57, L58, L59, L60, L61, L62, L65, L97, L101, L102, L103, L120, L126, L127, L144, L245, L1023, L1715, I_add, I_sub, I_mul, I_neg, I_lt, I_le, I_eq, Option.bind_some, if_pos, if_neg, if_true, if_false, ite_true, ite_false]
    exact Ok.pure (Or.inr ⟨_, rfl, by rw [show v.toNat = 10 by omega]; rfl⟩)
  · by_cases c2 : psF (tnd S i) q v
    · simp (disch := omega) only [L0, L1, L2, L3, L4, L5, L6, L7, L8, L9, L10, L11, L12, L13, L14, L15, L16, L17, L18, L19, L20, L21, L22, L23, L24, L25, L26, L27, L31, L32, L33, L36, L40, L41, L42, L47, L48, L57, L58, L59, L60, L61, L62, L65, L97, L101, L102, L103, L120, L126, L127, L144, L245, L1023, L1715, I_add, I_sub, I_mul, I_neg, I_lt, I_le, I_eq, a8_cO h, N_passes h hM, ind_t c2, Option.bind_some, if_pos, if_neg, if_true, if_false, ite_true, ite_false]
      exact Ok.pure (Or.inl ⟨_, (10 - (v + 1)).toNat, rfl, ⟨v + 1, by rw [bs_t v0 c2], by omega, by omega, rfl⟩, by omega⟩)
    · simp (disch := omega) only [L0, L1, L2, L3, L4, L5, L6, L7, L8, L9, L10, L11, L12, L13, L14, L15, L16, L17, L18, L19, L20, L21, L22, L23, L24, L25, L26, L27, L31, L32, L33, L36, L40, L41, L42, L47, L48, L57, L58, L59, L60, L61, L62, L65, L97, L101, L102, L103, L120, L126, L127, L144, L245, L1023, L1715, I_add, I_sub, I_mul, I_neg, I_lt, I_le, I_eq, a8_cO h, N_passes h hM, ind_f c2, or0, Option.bind_some, if_pos, if_neg, if_true, if_false, ite_true, ite_false]
      exact Ok.pure (Or.inl ⟨_, (10 - (v + 1)).toNat, rfl, ⟨v + 1, by rw [bs_f v0 c2], by omega, by omega, rfl⟩, by omega⟩)
theorem N_nodeIs (h : At M a (o8 a F A)) (hM : MW A S) {i q w : Int} (i0 : 0 ≤ i) (i1 : i < 4) (q0 : 0 ≤ q) (q1 : q < tqn S i) (w0 : 0 ≤ w) (w1 : w < 5) : f_X8_nodeIs M a (I i) (I q) (I w) = some (ndP (tnd S i) q w) := by
  unfold f_X8_nodeIs
  have hc : w = 0 ∨ w = 1 ∨ w = 2 ∨ w = 3 ∨ w = 4 := by omega
  rcases hc with rfl | rfl | rfl | rfl | rfl
  · simp (disch := omega) only [L0, L1, L2, L3, L4, L5, L6, L7, L8, L9, L10, L11, L12, L13, L14, L15, L16, L17, L18, L19, L20, L21, L22, L23, L24, L25, L26, L27, L31, L32, L33, L36, L40, L41, L42, L47, L48, L57, L58, L59, L60, L61, L62, L65, L97, L101, L102, L103, L120, L126, L127, L144, L245, L1023, L1715, I_add, I_sub, I_mul, I_neg, I_lt, I_le, I_eq, a8_cO h, N_tag h hM, Option.bind_some, if_pos, if_neg, if_true, if_false, ite_true, ite_false]; rfl
  · simp (disch := omega) only [L0, L1, L2, L3, L4, L5, L6, L7, L8, L9, L10, L11, L12, L13, L14, L15, L16, L17, L18, L19, L20, L21, L22, L23, L24, L25, L26, L27, L31, L32, L33, L36, L40, L41, L42, L47, L48, L57, L58, L59, L60, L61, L62, L65, L97, L101, L102, L103, L120, L126, L127, L144, L245, L1023, L1715, I_add, I_sub, I_mul, I_neg, I_lt, I_le, I_eq, a8_cO h, N_passing h hM, Option.bind_some, if_pos, if_neg, if_true, if_false, ite_true, ite_false]; rfl
  · simp (disch := omega) only [L0, L1, L2, L3, L4, L5, L6, L7, L8, L9, L10, L11, L12, L13, L14, L15, L16, L17, L18, L19, L20, L21, L22, L23, L24, L25, L26, L27, L31, L32, L33, L36, L40, L41, L42, L47, L48, L57, L58, L59, L60, L61, L62, L65, L97, L101, L102, L103, L120, L126, L127, L144, L245, L1023, L1715, I_add, I_sub, I_mul, I_neg, I_lt, I_le, I_eq, a8_cO h, N_joint h hM, Option.bind_some, if_pos, if_neg, if_true, if_false, ite_true, ite_false]; rfl
  · unfold f_X8_cell
    simp (disch := omega) only [L0, L1, L2, L3, L4, L5, L6, L7, L8, L9, L10, L11, L12, L13, L14, L15, L16, L17, L18, L19, L20, L21, L22, L23, L24, L25, L26, L27, L31, L32, L33, L36, L40, L41, L42, L47, L48, L57, L58, L59, L60, L61, L62, L65, L97, L101, L102, L103, L120, L126, L127, L144, L245, L1023, L1715, I_add, I_sub, I_mul, I_neg, I_lt, I_le, I_eq, a8_cO h, a8_g8 h, N_its h hM, Option.bind_some, if_pos, if_neg, if_true, if_false, ite_true, ite_false]; rfl
  · simp (disch := omega) only [L0, L1, L2, L3, L4, L5, L6, L7, L8, L9, L10, L11, L12, L13, L14, L15, L16, L17, L18, L19, L20, L21, L22, L23, L24, L25, L26, L27, L31, L32, L33, L36, L40, L41, L42, L47, L48, L57, L58, L59, L60, L61, L62, L65, L97, L101, L102, L103, L120, L126, L127, L144, L245, L1023, L1715, I_add, I_sub, I_mul, I_neg, I_lt, I_le, I_eq, a8_cO h, N_of h hM, Option.bind_some, if_pos, if_neg, if_true, if_false, ite_true, ite_false]; rfl
theorem N_isTwig {i : Int} (h1 : -2147483648 ≤ i) (h2 : i < 2147483648) : f_X8_isTwig M (I i) = some (I (ind (0 ≤ i ∧ i < 4))) := by
  rw [D_isTwig h1 h2]
theorem M_node (hl : a + 25 < m.length) (h : MB F A X) {i q w : Int} (h1 : -2147483648 ≤ i) (h2 : i < 2147483648) (h3 : -2147483648 ≤ q) (h4 : q < 2147483648) (h5 : -2147483648 ≤ w) (h6 : w < 2147483648) : Ok (f_X8_node (ov m a (o8 a F A)) a (I i) (I q) (I w)) (fun t => t.1 = (rNode X i q w).1 ∧ MP m a t.2 (rNode X i q w).2) := by
  have hAt := o8_At (m := m) (a := a) (F := F) (A := A) hl
  have hM := h.2.1
  have hin : f_X8_in (ov m a (o8 a F A)) (I w) (I 0) (I 4) = some (I (ind (0 ≤ w ∧ w ≤ 4))) := D_in h5 h6 (by omega) (by omega) (by omega) (by omega)
  unfold f_X8_node
  by_cases c1 : 0 ≤ i ∧ i < 4
  · obtain ⟨y1, y2, y3⟩ := hM i c1.1 c1.2
    have y60 := y2.1
    have y6 := y2.2.1
    by_cases c2 : 0 ≤ q
    · by_cases c3 : 0 ≤ w ∧ w ≤ 4
      · have hr : rNode X i q w = _ := if_pos (show (0 ≤ i ∧ i < 4) ∧ 0 ≤ q ∧ 0 ≤ w ∧ w < 5 by omega)
        rw [hr]
        by_cases c4 : q < tqn (fS X) i
        · rw [if_pos c4]
          simp (disch := omega) only [L0, L1, L2, L3, L4, L5, L6, L7, L8, L9, L10, L11, L12, L13, L14, L15, L16, L17, L18, L19, L20, L21, L22, L23, L24, L25, L26, L27, L31, L32, L33, L36, L40, L41, L42, L47, L48, L57, L58, L59, L60, L61, L62, L65, L97, L101, L102, L103, L120, L126, L127, L144, L245, L1023, L1715, I_add, I_sub, I_mul, I_neg, I_lt, I_le, I_eq, N_isTwig, ind_t c1, hin, ind_t c3, o8_g7, o8_l7, y1, o8_cO, N_nodeIs hAt hM, Option.bind_some, if_pos, if_neg, if_true, if_false, ite_true, ite_false]
          exact Ok.pure ⟨rfl, F, A, rfl, h⟩
        · rw [if_neg c4]
          simp (disch := omega) only [L0, L1, L2, L3, L4, L5, L6, L7, L8, L9, L10, L11, L12, L13, L14, L15, L16, L17, L18, L19, L20, L21, L22, L23, L24, L25, L26, L27, L31, L32, L33, L36, L40, L41, L42, L47, L48, L57, L58, L59, L60, L61, L62, L65, L97, L101, L102, L103, L120, L126, L127, L144, L245, L1023, L1715, I_add, I_sub, I_mul, I_neg, I_lt, I_le, I_eq, N_isTwig, ind_t c1, hin, ind_t c3, o8_g7, o8_l7, y1, o8_cO, Option.bind_some, if_pos, if_neg, if_true, if_false, ite_true, ite_false]
          exact M_noR hl h
      · have hr : rNode X i q w = _ := if_neg (show ¬ ((0 ≤ i ∧ i < 4) ∧ 0 ≤ q ∧ 0 ≤ w ∧ w < 5) by omega)
        rw [hr]
        simp (disch := omega) only [L0, L1, L2, L3, L4, L5, L6, L7, L8, L9, L10, L11, L12, L13, L14, L15, L16, L17, L18, L19, L20, L21, L22, L23, L24, L25, L26, L27, L31, L32, L33, L36, L40, L41, L42, L47, L48, L57, L58, L59, L60, L61, L62, L65, L97, L101, L102, L103, L120, L126, L127, L144, L245, L1023, L1715, I_add, I_sub, I_mul, I_neg, I_lt, I_le, I_eq, N_isTwig, ind_t c1, hin, ind_f c3, o8_cO, Option.bind_some, if_pos, if_neg, if_true, if_false, ite_true, ite_false]
        exact M_badR hl h
    · have hr : rNode X i q w = _ := if_neg (show ¬ ((0 ≤ i ∧ i < 4) ∧ 0 ≤ q ∧ 0 ≤ w ∧ w < 5) by omega)
      rw [hr]
      simp (disch := omega) only [L0, L1, L2, L3, L4, L5, L6, L7, L8, L9, L10, L11, L12, L13, L14, L15, L16, L17, L18, L19, L20, L21, L22, L23, L24, L25, L26, L27, L31, L32, L33, L36, L40, L41, L42, L47, L48, L57, L58, L59, L60, L61, L62, L65, L97, L101, L102, L103, L120, L126, L127, L144, L245, L1023, L1715, I_add, I_sub, I_mul, I_neg, I_lt, I_le, I_eq, N_isTwig, ind_t c1, o8_cO, Option.bind_some, if_pos, if_neg, if_true, if_false, ite_true, ite_false]
      exact M_badR hl h
  · have hr : rNode X i q w = _ := if_neg (show ¬ ((0 ≤ i ∧ i < 4) ∧ 0 ≤ q ∧ 0 ≤ w ∧ w < 5) by omega)
    rw [hr]
    simp (disch := omega) only [L0, L1, L2, L3, L4, L5, L6, L7, L8, L9, L10, L11, L12, L13, L14, L15, L16, L17, L18, L19, L20, L21, L22, L23, L24, L25, L26, L27, L31, L32, L33, L36, L40, L41, L42, L47, L48, L57, L58, L59, L60, L61, L62, L65, L97, L101, L102, L103, L120, L126, L127, L144, L245, L1023, L1715, I_add, I_sub, I_mul, I_neg, I_lt, I_le, I_eq, N_isTwig, ind_f c1, o8_cO, Option.bind_some, if_pos, if_neg, if_true, if_false, ite_true, ite_false]
    exact M_badR hl h
/-- a current twig is another one -/
theorem MB.newW {A' : Nat → Int → Int} (h : MB F A X) {i : Int} (h0 : 0 ≤ i) (h1 : i < 4) {Q : Int} {nd : Int → Int → Int} (hA : ∀ j, j ≠ 7 → j ≠ 8 → j ≤ 9 ∨ j = 20 → A' j = A j) (h7 : ∀ j, 0 ≤ j → j < 4 → A' 7 j = upZ (A 7) i Q j) (hw : WW Q nd) (h8 : ∀ q w, 0 ≤ q → q < Q → 0 ≤ w → w < 6 → A' 8 (36 * i + 6 * q + w) = nd q w) (h8' : ∀ k, 0 ≤ k → k < 144 → k < 36 * i ∨ 36 * i + 36 ≤ k → A' 8 k = A 8 k) : MB F A' ((tn (fS X), ttg (fS X), tvl (fS X), tlv (fS X), upZ (tqn (fS X)) i Q, upZ (tnd (fS X)) i nd), X.2) := by
  obtain ⟨g1, g2, g3, g4, g5⟩ := h
  refine ⟨g1.congr rfl (fun j j0 j1 => hA j (by omega) (by omega) (by omega)), fun j j0 j1 => ?_, ?_, ?_, ?_⟩
  · show A' 7 j = upZ (tqn (fS X)) i Q j ∧ WW (upZ (tqn (fS X)) i Q j) (upZ (tnd (fS X)) i nd j) ∧ ∀ q w, 0 ≤ q → q < upZ (tqn (fS X)) i Q j → 0 ≤ w → w < 6 → A' 8 (36 * j + 6 * q + w) = upZ (tnd (fS X)) i nd j q w
    by_cases z : j = i
    · subst z
      rw [h7 j j0 j1, upZ_at, upZ_at, upZ_at]
      exact ⟨rfl, hw, h8⟩
    · obtain ⟨y1, y2, y3⟩ := g2 j j0 j1
      have := y2.2.1
      rw [h7 j j0 j1, upZ_ne z, upZ_ne z, upZ_ne z]
      exact ⟨y1, y2, fun q w q0 q1 w0 w1 => by rw [h8' _ (by omega) (by omega) (by omega)]; exact y3 q w q0 q1 w0 w1⟩
  · rw [hA 9 (by decide) (by decide) (by omega)]; exact g3
  · rw [hA 20 (by decide) (by decide) (by omega)]; exact g4
  · rw [hA 1 (by decide) (by decide) (by omega)]; exact g5
theorem M_forgets (hl : a + 25 < m.length) (h : MB F A X) {i : Int} (h1 : -2147483648 ≤ i) (h2 : i < 2147483648) : Ok (f_X8_forgets (ov m a (o8 a F A)) a (I i)) (fun t => t.1 = I (rForgets X i).1 ∧ MP m a t.2 (rForgets X i).2) := by
  unfold f_X8_forgets
  by_cases c1 : 0 ≤ i ∧ i < 4
  · have hr : rForgets X i = _ := if_pos c1
    rw [hr]
    obtain ⟨y1, y2, y3⟩ := h.2.1 i c1.1 c1.2
    have y60 := y2.1
    have y6 := y2.2.1
    by_cases c2 : tqn (fS X) i = 0
    · rw [if_pos c2]
      simp (disch := omega) only [L0, L1, L2, L3, L4, L5, L6, L7, L8, L9, L10, L11, L12, L13, L14, L15, L16, L17, L18, L19, L20, L21, L22, L23, L24, L25, L26, L27, L31, L32, L33, L36, L40, L41, L42, L47, L48, L57, L58, L59, L60, L61, L62, L65, L97, L101, L102, L103, L120, L126, L127, L144, L245, L1023, L1715, I_add, I_sub, I_mul, I_neg, I_lt, I_le, I_eq, N_isTwig, ind_t c1, o8_g7, o8_l7, y1, o8_cO, Option.bind_some, if_pos, if_neg, if_true, if_false, ite_true, ite_false]
      exact M_noR hl h
    · rw [if_neg c2]
      simp (disch := omega) only [L0, L1, L2, L3, L4, L5, L6, L7, L8, L9, L10, L11, L12, L13, L14, L15, L16, L17, L18, L19, L20, L21, L22, L23, L24, L25, L26, L27, L31, L32, L33, L36, L40, L41, L42, L47, L48, L57, L58, L59, L60, L61, L62, L65, L97, L101, L102, L103, L120, L126, L127, L144, L245, L1023, L1715, I_add, I_sub, I_mul, I_neg, I_lt, I_le, I_eq, N_isTwig, ind_t c1, o8_g7, o8_l7, y1, o8_cO, Option.bind_some, if_pos, if_neg, if_true, if_false, ite_true, ite_false]
      refine Ok.bind (M_leaves hl h) ?_
      rintro m1 ⟨F1, A1, rfl, h', hA1, hF1⟩
      simp (disch := omega) only [L0, L1, L2, L3, L4, L5, L6, L7, L8, L9, L10, L11, L12, L13, L14, L15, L16, L17, L18, L19, L20, L21, L22, L23, L24, L25, L26, L27, L31, L32, L33, L36, L40, L41, L42, L47, L48, L57, L58, L59, L60, L61, L62, L65, L97, L101, L102, L103, L120, L126, L127, L144, L245, L1023, L1715, I_add, I_sub, I_mul, I_neg, I_lt, I_le, I_eq, o8_g7, o8_l7, o8_s7, Option.bind_some, if_pos, if_neg, if_true, if_false, ite_true, ite_false]
      have := h'.newW (A' := upN A1 7 (upZ (A1 7) i 0)) c1.1 c1.2 (Q := 0) (nd := tnd (fS X) i) (fun j j7 _ _ => upN_ne j7) (fun j _ _ => by rw [upN_at]) ⟨by omega, by omega, fun q q0 q1 => by omega⟩ (fun q w q0 q1 => by omega) (fun k _ _ _ => rfl)
      rw [pushK_S, upZ_self] at this
      exact Ok.pure ⟨by rw [hA1 7 (by decide), y1], _, _, rfl, this⟩
  · have hr : rForgets X i = _ := if_neg c1
    rw [hr]
    simp (disch := omega) only [L0, L1, L2, L3, L4, L5, L6, L7, L8, L9, L10, L11, L12, L13, L14, L15, L16, L17, L18, L19, L20, L21, L22, L23, L24, L25, L26, L27, L31, L32, L33, L36, L40, L41, L42, L47, L48, L57, L58, L59, L60, L61, L62, L65, L97, L101, L102, L103, L120, L126, L127, L144, L245, L1023, L1715, I_add, I_sub, I_mul, I_neg, I_lt, I_le, I_eq, N_isTwig, ind_f c1, o8_cO, Option.bind_some, if_pos, if_neg, if_true, if_false, ite_true, ite_false]
    exact M_badR hl h
theorem M_nodes (hl : a + 25 < m.length) (h : MB F A X) {i : Int} (h1 : -2147483648 ≤ i) (h2 : i < 2147483648) : Ok (f_X8_nodes (ov m a (o8 a F A)) a (I i)) (fun t => t.1 = I (rNodes X i).1 ∧ MP m a t.2 (rNodes X i).2) := by
  unfold f_X8_nodes
  by_cases c1 : 0 ≤ i ∧ i < 4
  · have hr : rNodes X i = _ := if_pos c1
    rw [hr]
    obtain ⟨y1, y2, y3⟩ := h.2.1 i c1.1 c1.2
    simp (disch := omega) only [L0, L1, L2, L3, L4, L5, L6, L7, L8, L9, L10, L11, L12, L13, L14, L15, L16, L17, L18, L19, L20, L21, L22, L23, L24, L25, L26, L27, L31, L32, L33, L36, L40, L41, L42, L47, L48, L57, L58, L59, L60, L61, L62, L65, L97, L101, L102, L103, L120, L126, L127, L144, L245, L1023, L1715, I_add, I_sub, I_mul, I_neg, I_lt, I_le, I_eq, N_isTwig, ind_t c1, o8_g7, o8_l7, y1, o8_cO, Option.bind_some, if_pos, if_neg, if_true, if_false, ite_true, ite_false]
    exact Ok.pure ⟨rfl, F, A, rfl, h⟩
  · have hr : rNodes X i = _ := if_neg c1
    rw [hr]
    simp (disch := omega) only [L0, L1, L2, L3, L4, L5, L6, L7, L8, L9, L10, L11, L12, L13, L14, L15, L16, L17, L18, L19, L20, L21, L22, L23, L24, L25, L26, L27, L31, L32, L33, L36, L40, L41, L42, L47, L48, L57, L58, L59, L60, L61, L62, L65, L97, L101, L102, L103, L120, L126, L127, L144, L245, L1023, L1715, I_add, I_sub, I_mul, I_neg, I_lt, I_le, I_eq, N_isTwig, ind_f c1, o8_cO, Option.bind_some, if_pos, if_neg, if_true, if_false, ite_true, ite_false]
    exact M_badR hl h
theorem M_toldBy (hl : a + 25 < m.length) (h : MB F A X) {w : Int} (h1 : 0 ≤ w) (h2 : w < 7) : f_X8_toldBy (ov m a (o8 a F A)) a (I w) = some (rTally X w) := by
  have hM := h.2.1
  have hex : whl (σ := Int32 × Int32) (ρ := (Int32)) FU (fun t20 => f_X8_toldBy_L56 (ov m a (o8 a F A)) a t20.1 t20.2) (I 0, I 0) = some (bs (fun i => 0 < tqn (fS X) i) 4) := by
    refine Ok.eq (Ok.whl (fun j s => ∃ i, s = (bs (fun i => 0 < tqn (fS X) i) i.toNat, I i) ∧ 0 ≤ i ∧ i ≤ 4 ∧ j = (4 - i).toNat) _ (j := 4) ?_ ⟨0, rfl, by omega, by omega, rfl⟩ (FU_lt (by omega)))
    rintro j s ⟨i, rfl, i0, i1, rfl⟩
    dsimp only
    unfold f_X8_toldBy_L56
    by_cases c : 4 ≤ i
    · simp (disch := omega) only [L0, L1, L2, L3, L4, L5, L6, L7, L8, L9, L10, L11, L12, L13, L14, L15, L16, L17, L18, L19, L20, L21, L22, L23, L24, L25, L26, L27, L31, L32, L33, L36, L40, L41, L42, L47, L48, L57, L58, L59, L60, L61, L62, L65, L97, L101, L102, L103, L120, L126, L127, L144, L245, L1023, L1715, I_add, I_sub, I_mul, I_neg, I_lt, I_le, I_eq, Option.bind_some, if_pos, if_neg, if_true, if_false, ite_true, ite_false]
      exact Ok.pure (Or.inr ⟨_, rfl, by rw [show i.toNat = 4 by omega]⟩)
    · obtain ⟨y1, y2, y3⟩ := h.2.1 i i0 (by omega)
      have y60 := y2.1
      have y6 := y2.2.1
      by_cases c2 : 0 < tqn (fS X) i
      · simp (disch := omega) only [L0, L1, L2, L3, L4, L5, L6, L7, L8, L9, L10, L11, L12, L13, L14, L15, L16, L17, L18, L19, L20, L21, L22, L23, L24, L25, L26, L27, L31, L32, L33, L36, L40, L41, L42, L47, L48, L57, L58, L59, L60, L61, L62, L65, L97, L101, L102, L103, L120, L126, L127, L144, L245, L1023, L1715, I_add, I_sub, I_mul, I_neg, I_lt, I_le, I_eq, o8_g7, o8_l7, y1, Option.bind_some, if_pos, if_neg, if_true, if_false, ite_true, ite_false]
        exact Ok.pure (Or.inl ⟨_, (4 - (i + 1)).toNat, rfl, ⟨i + 1, by rw [bs_t i0 c2], by omega, by omega, rfl⟩, by omega⟩)
      · simp (disch := omega) only [L0, L1, L2, L3, L4, L5, L6, L7, L8, L9, L10, L11, L12, L13, L14, L15, L16, L17, L18, L19, L20, L21, L22, L23, L24, L25, L26, L27, L31, L32, L33, L36, L40, L41, L42, L47, L48, L57, L58, L59, L60, L61, L62, L65, L97, L101, L102, L103, L120, L126, L127, L144, L245, L1023, L1715, I_add, I_sub, I_mul, I_neg, I_lt, I_le, I_eq, o8_g7, o8_l7, y1, or0, Option.bind_some, if_pos, if_neg, if_true, if_false, ite_true, ite_false]
        exact Ok.pure (Or.inl ⟨_, (4 - (i + 1)).toNat, rfl, ⟨i + 1, by rw [bs_f i0 c2], by omega, by omega, rfl⟩, by omega⟩)
  obtain ⟨g1, g2, ⟨k1, k2, k3, k4⟩, ⟨t1, t2, t3, t4, t5⟩, r0, r1, r2⟩ := h
  unfold f_X8_toldBy
  have hc : w = 0 ∨ w = 1 ∨ w = 2 ∨ w = 3 ∨ w = 4 ∨ w = 5 ∨ w = 6 := by omega
  rcases hc with rfl | rfl | rfl | rfl | rfl | rfl | rfl
  · simp (disch := omega) only [L0, L1, L2, L3, L4, L5, L6, L7, L8, L9, L10, L11, L12, L13, L14, L15, L16, L17, L18, L19, L20, L21, L22, L23, L24, L25, L26, L27, L31, L32, L33, L36, L40, L41, L42, L47, L48, L57, L58, L59, L60, L61, L62, L65, L97, L101, L102, L103, L120, L126, L127, L144, L245, L1023, L1715, I_add, I_sub, I_mul, I_neg, I_lt, I_le, I_eq, o8_g0, o8_l1, Option.bind_some, if_pos, if_neg, if_true, if_false, ite_true, ite_false]; rw [r0]; rfl
  · simp (disch := omega) only [L0, L1, L2, L3, L4, L5, L6, L7, L8, L9, L10, L11, L12, L13, L14, L15, L16, L17, L18, L19, L20, L21, L22, L23, L24, L25, L26, L27, L31, L32, L33, L36, L40, L41, L42, L47, L48, L57, L58, L59, L60, L61, L62, L65, L97, L101, L102, L103, L120, L126, L127, L144, L245, L1023, L1715, I_add, I_sub, I_mul, I_neg, I_lt, I_le, I_eq, o8_g0, o8_l1, Option.bind_some, if_pos, if_neg, if_true, if_false, ite_true, ite_false]; rw [r1]; rfl
  · simp (disch := omega) only [L0, L1, L2, L3, L4, L5, L6, L7, L8, L9, L10, L11, L12, L13, L14, L15, L16, L17, L18, L19, L20, L21, L22, L23, L24, L25, L26, L27, L31, L32, L33, L36, L40, L41, L42, L47, L48, L57, L58, L59, L60, L61, L62, L65, L97, L101, L102, L103, L120, L126, L127, L144, L245, L1023, L1715, I_add, I_sub, I_mul, I_neg, I_lt, I_le, I_eq, o8_g0, o8_l1, Option.bind_some, if_pos, if_neg, if_true, if_false, ite_true, ite_false]; rw [r2]; rfl
  · simp (disch := omega) only [L0, L1, L2, L3, L4, L5, L6, L7, L8, L9, L10, L11, L12, L13, L14, L15, L16, L17, L18, L19, L20, L21, L22, L23, L24, L25, L26, L27, L31, L32, L33, L36, L40, L41, L42, L47, L48, L57, L58, L59, L60, L61, L62, L65, L97, L101, L102, L103, L120, L126, L127, L144, L245, L1023, L1715, I_add, I_sub, I_mul, I_neg, I_lt, I_le, I_eq, o8_g1, Option.bind_some, if_pos, if_neg, if_true, if_false, ite_true, ite_false]; rw [g1.1]; rfl
  · simp (disch := omega) only [L0, L1, L2, L3, L4, L5, L6, L7, L8, L9, L10, L11, L12, L13, L14, L15, L16, L17, L18, L19, L20, L21, L22, L23, L24, L25, L26, L27, L31, L32, L33, L36, L40, L41, L42, L47, L48, L57, L58, L59, L60, L61, L62, L65, L97, L101, L102, L103, L120, L126, L127, L144, L245, L1023, L1715, I_add, I_sub, I_mul, I_neg, I_lt, I_le, I_eq, hex, Option.bind_some, if_pos, if_neg, if_true, if_false, ite_true, ite_false]; rfl
  · simp (disch := omega) only [L0, L1, L2, L3, L4, L5, L6, L7, L8, L9, L10, L11, L12, L13, L14, L15, L16, L17, L18, L19, L20, L21, L22, L23, L24, L25, L26, L27, L31, L32, L33, L36, L40, L41, L42, L47, L48, L57, L58, L59, L60, L61, L62, L65, L97, L101, L102, L103, L120, L126, L127, L144, L245, L1023, L1715, I_add, I_sub, I_mul, I_neg, I_lt, I_le, I_eq, o8_g22, Option.bind_some, if_pos, if_neg, if_true, if_false, ite_true, ite_false]; rw [t1]; rfl
  · simp (disch := omega) only [L0, L1, L2, L3, L4, L5, L6, L7, L8, L9, L10, L11, L12, L13, L14, L15, L16, L17, L18, L19, L20, L21, L22, L23, L24, L25, L26, L27, L31, L32, L33, L36, L40, L41, L42, L47, L48, L57, L58, L59, L60, L61, L62, L65, L97, L101, L102, L103, L120, L126, L127, L144, L245, L1023, L1715, I_add, I_sub, I_mul, I_neg, I_lt, I_le, I_eq, o8_g9, Option.bind_some, if_pos, if_neg, if_true, if_false, ite_true, ite_false]; rw [k1]; rfl
theorem M_told (hl : a + 25 < m.length) (h : MB F A X) {w : Int} (h1 : -2147483648 ≤ w) (h2 : w < 2147483648) : Ok (f_X8_told (ov m a (o8 a F A)) a (I w)) (fun t => t.1 = (rTold X w).1 ∧ MP m a t.2 (rTold X w).2) := by
  have hin : f_X8_in (ov m a (o8 a F A)) (I w) (I 0) (I 6) = some (I (ind (0 ≤ w ∧ w ≤ 6))) := D_in h1 h2 (by omega) (by omega) (by omega) (by omega)
  unfold f_X8_told
  by_cases c1 : 0 ≤ w ∧ w ≤ 6
  · have hr : rTold X w = _ := if_pos (show 0 ≤ w ∧ w < 7 by omega)
    rw [hr]
    simp (disch := omega) only [L0, L1, L2, L3, L4, L5, L6, L7, L8, L9, L10, L11, L12, L13, L14, L15, L16, L17, L18, L19, L20, L21, L22, L23, L24, L25, L26, L27, L31, L32, L33, L36, L40, L41, L42, L47, L48, L57, L58, L59, L60, L61, L62, L65, L97, L101, L102, L103, L120, L126, L127, L144, L245, L1023, L1715, I_add, I_sub, I_mul, I_neg, I_lt, I_le, I_eq, hin, ind_t c1, o8_cO, M_toldBy hl h, Option.bind_some, if_pos, if_neg, if_true, if_false, ite_true, ite_false]
    exact Ok.pure ⟨rfl, F, A, rfl, h⟩
  · have hr : rTold X w = _ := if_neg (show ¬ (0 ≤ w ∧ w < 7) by omega)
    rw [hr]
    simp (disch := omega) only [L0, L1, L2, L3, L4, L5, L6, L7, L8, L9, L10, L11, L12, L13, L14, L15, L16, L17, L18, L19, L20, L21, L22, L23, L24, L25, L26, L27, L31, L32, L33, L36, L40, L41, L42, L47, L48, L57, L58, L59, L60, L61, L62, L65, L97, L101, L102, L103, L120, L126, L127, L144, L245, L1023, L1715, I_add, I_sub, I_mul, I_neg, I_lt, I_le, I_eq, hin, ind_f c1, o8_cO, Option.bind_some, if_pos, if_neg, if_true, if_false, ite_true, ite_false]
    exact M_badR hl h
theorem M_type (hl : a + 25 < m.length) (h : MB F A X) {c : Int} (h1 : -2147483648 ≤ c) (h2 : c < 2147483648) : Ok (f_X8_type (ov m a (o8 a F A)) a (I c)) (fun t => t.1 = I (rType X c).1 ∧ MP m a t.2 (rType X c).2) := by
  have hin : f_X8_in (ov m a (o8 a F A)) (I c) (I 0) (I 127) = some (I (ind (0 ≤ c ∧ c ≤ 127))) := D_in h1 h2 (by omega) (by omega) (by omega) (by omega)
  have h0 := h
  obtain ⟨g1, g2, g3, ⟨t1, t2, t3, t4, t5⟩, g5⟩ := h
  unfold f_X8_type
  by_cases c1 : 0 ≤ c ∧ c ≤ 127
  · have hr : rType X c = _ := if_pos c1
    rw [hr]
    by_cases c2 : fln X < 120
    · rw [if_pos c2]
      simp (disch := omega) only [L0, L1, L2, L3, L4, L5, L6, L7, L8, L9, L10, L11, L12, L13, L14, L15, L16, L17, L18, L19, L20, L21, L22, L23, L24, L25, L26, L27, L31, L32, L33, L36, L40, L41, L42, L47, L48, L57, L58, L59, L60, L61, L62, L65, L97, L101, L102, L103, L120, L126, L127, L144, L245, L1023, L1715, I_add, I_sub, I_mul, I_neg, I_lt, I_le, I_eq, hin, ind_t c1, o8_cO, o8_g22, o8_g21, o8_s20, o8_p22, upN_at, Option.bind_some, if_pos, if_neg, if_true, if_false, ite_true, ite_false]
      refine Ok.pure ⟨by rw [t1], _, _, rfl, g1.congr rfl (fun i i0 i1 => upN_ne (by omega)), ?_, g3, ⟨by rw [upN_at, t1], by show 0 ≤ fln X + 1; omega, by show fln X + 1 ≤ 120; omega, t4, fun k k0 k1 => ?_⟩, g5⟩
      · exact g2
      · have k1 : k < fln X + 1 := k1
        rw [upN_at, t1]
        show upZ (A 20) (fln X) c k = upZ (ftx X) (fln X) c k ∧ 0 ≤ upZ (ftx X) (fln X) c k ∧ upZ (ftx X) (fln X) c k ≤ 127
        by_cases z : k = fln X
        · rw [z, upZ_at, upZ_at]; exact ⟨rfl, c1⟩
        · rw [upZ_ne z, upZ_ne z]; exact t5 k k0 (by omega)
    · rw [if_neg c2]
      simp (disch := omega) only [L0, L1, L2, L3, L4, L5, L6, L7, L8, L9, L10, L11, L12, L13, L14, L15, L16, L17, L18, L19, L20, L21, L22, L23, L24, L25, L26, L27, L31, L32, L33, L36, L40, L41, L42, L47, L48, L57, L58, L59, L60, L61, L62, L65, L97, L101, L102, L103, L120, L126, L127, L144, L245, L1023, L1715, I_add, I_sub, I_mul, I_neg, I_lt, I_le, I_eq, hin, ind_t c1, o8_cO, o8_g22, Option.bind_some, if_pos, if_neg, if_true, if_false, ite_true, ite_false]
      exact M_fullR hl h0
  · have hr : rType X c = _ := if_neg c1
    rw [hr]
    simp (disch := omega) only [L0, L1, L2, L3, L4, L5, L6, L7, L8, L9, L10, L11, L12, L13, L14, L15, L16, L17, L18, L19, L20, L21, L22, L23, L24, L25, L26, L27, L31, L32, L33, L36, L40, L41, L42, L47, L48, L57, L58, L59, L60, L61, L62, L65, L97, L101, L102, L103, L120, L126, L127, L144, L245, L1023, L1715, I_add, I_sub, I_mul, I_neg, I_lt, I_le, I_eq, hin, ind_f c1, o8_cO, Option.bind_some, if_pos, if_neg, if_true, if_false, ite_true, ite_false]
    exact M_badR hl h0
theorem M_clear (hl : a + 25 < m.length) (h : MB F A X) : Ok (f_X8_clear (ov m a (o8 a F A)) a) (fun t => t.1 = I (rClear X).1 ∧ MP m a t.2 (rClear X).2) := by
  obtain ⟨g1, g2, g3, ⟨t1, t2, t3, t4, t5⟩, g5⟩ := h
  unfold f_X8_clear
  simp (disch := omega) only [L0, L1, L2, L3, L4, L5, L6, L7, L8, L9, L10, L11, L12, L13, L14, L15, L16, L17, L18, L19, L20, L21, L22, L23, L24, L25, L26, L27, L31, L32, L33, L36, L40, L41, L42, L47, L48, L57, L58, L59, L60, L61, L62, L65, L97, L101, L102, L103, L120, L126, L127, L144, L245, L1023, L1715, I_add, I_sub, I_mul, I_neg, I_lt, I_le, I_eq, o8_g22, o8_p22, Option.bind_some, if_pos, if_neg, if_true, if_false, ite_true, ite_false]
  refine Ok.pure ⟨by rw [t1]; rfl, _, _, rfl, g1.congr rfl (fun i i0 i1 => rfl), g2, g3, ⟨rfl, by show (0 : Int) ≤ 0; omega, by show (0 : Int) ≤ 120; omega, t4, fun k k0 k1 => ?_⟩, g5⟩
  have k1 : k < 0 := k1
  omega
theorem M_why (hl : a + 25 < m.length) (h : MB F A X) : f_X8_why (ov m a (o8 a F A)) a = some (I (fwy X)) := by
  obtain ⟨g1, g2, g3, ⟨t1, t2, t3, t4, t5⟩, g5⟩ := h
  unfold f_X8_why
  simp (disch := omega) only [o8_g23, Option.bind_some, if_pos, if_neg, if_true, if_false, ite_true, ite_false]
  rw [t4]
end MASK
