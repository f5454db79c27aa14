/-! ===== the reference: leavesState, back, adds, drops, sets, element, size ===== -/
/-- the memory holds the reference with the state X' -/
def MP (m : Mm) (a : Nat) (m' : Mm) (X : FS) : Prop := ∃ F A, m' = ov m a (o8 a F A) ∧ MB F A X
def rBack (X : FS) : Int × FS := if fks X = 0 then (-3, incB X (-3)) else (fks X - 1, (fkp X (fks X - 1), fks X - 1, X.2.2))
section MOPS
variable {m : Mm} {a : Nat} {F : Nat → Int} {A : Nat → Int → Int} {X : FS}
theorem M_leaves (hl : a + 25 < m.length) (h : MB F A X) : Ok (f_X8_leavesState (ov m a (o8 a F A)) a) (fun m' => ∃ F' A', m' = ov m a (o8 a F' A') ∧ MB F' A' (pushK X) ∧ (∀ i, i ≠ 9 → A' i = A i) ∧ ∀ i, i ≠ 9 → F' i = F i) := by
  obtain ⟨h1, h2, ⟨k1, k2, k3, k4⟩, h4, h5⟩ := h
  have hn := h1.1
  unfold f_X8_leavesState
  simp (disch := omega) only [L0, L1, L2, L3, L4, L5, L6, L7, L8, L9, L10, L11, L12, L13, L14, L15, L16, L17, L18, L19, L20, L21, L22, L23, L24, L25, L26, L27, L31, L32, L33, L36, L40, L41, L42, L47, L48, L57, L58, L59, L60, L61, L62, L65, L97, L101, L102, L103, L120, L126, L127, L144, L245, L1023, L1715, I_add, I_sub, I_mul, I_neg, I_lt, I_le, I_eq, o8_g9, Option.bind_some]
  -- the row with room for one more at 245 * st
  refine Ok.bind (P := fun m' => ∃ (F' : Nat → Int) (K : Int → Int) (st : Int), m' = ov m a (o8 a F' (upN A 9 K)) ∧ F' 9 = st ∧ (∀ i, i ≠ 9 → F' i = F i) ∧ 0 ≤ st ∧ st ≤ 7 ∧ fks (pushK X) = st + 1 ∧ fkp (pushK X) st = fS X ∧ (∀ j, 0 ≤ j → j < st → KB K (245 * j) (fkp (pushK X) j))) ?_ ?_
  · by_cases c : F 9 = 8
    · simp (disch := omega) only [if_pos c]
      have hsh := M_shift (m := m) (a := a) (F := F) (A := A) hl
      simp only [L0] at hsh
      refine Ok.bind hsh ?_
      rintro m' ⟨K, rfl, hK⟩
      simp (disch := omega) only [L0, L1, L2, L3, L4, L5, L6, L7, L8, L9, L10, L11, L12, L13, L14, L15, L16, L17, L18, L19, L20, L21, L22, L23, L24, L25, L26, L27, L31, L32, L33, L36, L40, L41, L42, L47, L48, L57, L58, L59, L60, L61, L62, L65, L97, L101, L102, L103, L120, L126, L127, L144, L245, L1023, L1715, I_add, I_sub, I_mul, I_neg, I_lt, I_le, I_eq, o8_g9, o8_p9, Option.bind_some, if_pos, if_neg, if_true, if_false, ite_true, ite_false]
      have hp : pushK X = (fS X, 8, upZ (fun j => fkp X (j + 1)) 7 (fS X), X.2.2.2) := by unfold pushK; rw [if_neg (by omega)]
      refine Ok.pure ⟨_, K, 7, rfl, by rw [upN_at]; omega, fun i hi => upN_ne hi, by omega, by omega, by rw [hp]; rfl, by rw [hp]; show upZ (fun j => fkp X (j + 1)) 7 (fS X) 7 = fS X; exact upZ_at, fun j j0 j1 => ?_⟩
      rw [hp]
      show KB K (245 * j) (upZ (fun j => fkp X (j + 1)) 7 (fS X) j)
      rw [upZ_ne (by omega)]
      refine (k4 (j + 1) (by omega) (by omega)).to (fun x x0 x1 => ?_)
      rw [hK _ (by omega) (by omega)]
      exact congrArg _ (by omega)
    · simp (disch := omega) only [if_neg c]
      have hp : pushK X = (fS X, fks X + 1, upZ (fkp X) (fks X) (fS X), X.2.2.2) := by unfold pushK; rw [if_pos (by omega)]
      refine Ok.pure ⟨F, A 9, fks X, by rw [upN_self], k1, fun _ _ => rfl, k2, by omega, by rw [hp], by rw [hp]; exact upZ_at, fun j j0 j1 => ?_⟩
      rw [hp]
      show KB _ _ (upZ (fkp X) (fks X) (fS X) j)
      rw [upZ_ne (by omega)]
      exact k4 j j0 j1
  · rintro m' ⟨F1, K, st, rfl, g1, g2, g3, g4, g5, g6, g7⟩
    have hn1 : F1 1 = tn (fS X) := by rw [g2 1 (by decide)]; exact hn
    simp (disch := omega) only [L0, L1, L2, L3, L4, L5, L6, L7, L8, L9, L10, L11, L12, L13, L14, L15, L16, L17, L18, L19, L20, L21, L22, L23, L24, L25, L26, L27, L31, L32, L33, L36, L40, L41, L42, L47, L48, L57, L58, L59, L60, L61, L62, L65, L97, L101, L102, L103, L120, L126, L127, L144, L245, L1023, L1715, I_add, I_sub, I_mul, I_neg, I_lt, I_le, I_eq, o8_g9, o8_g10, o8_g1, o8_s9, upN_at, upN9, Option.bind_some, if_pos, if_neg, if_true, if_false, ite_true, ite_false, g1, hn1]
    have hwr := M_write (m := m) (a := a) (F := F1) (A := A) (K0 := upZ K (245 * st) (tn (fS X))) (b := 245 * st) hl (by omega) (by omega)
    simp only [L0] at hwr
    obtain ⟨m9, hm9, K9, rfl, q1, q2, q3, q4⟩ := hwr
    -- the three loops one behind the other
    obtain ⟨e1, he1, hm9⟩ := ob hm9
    obtain ⟨e2, he2, hm9⟩ := ob hm9
    rw [he1]
    simp only [Option.bind_some]
    rw [he2]
    simp only [Option.bind_some]
    rw [hm9]
    simp (disch := omega) only [L0, L1, L2, L3, L4, L5, L6, L7, L8, L9, L10, L11, L12, L13, L14, L15, L16, L17, L18, L19, L20, L21, L22, L23, L24, L25, L26, L27, L31, L32, L33, L36, L40, L41, L42, L47, L48, L57, L58, L59, L60, L61, L62, L65, L97, L101, L102, L103, L120, L126, L127, L144, L245, L1023, L1715, I_add, I_sub, I_mul, I_neg, I_lt, I_le, I_eq, o8_g9, o8_p9, g1, Option.bind_some, if_pos, if_neg, if_true, if_false, ite_true, ite_false]
    have hA : ∀ i, i ≠ 9 → upN A 9 K9 i = A i := fun i hi => upN_ne hi
    have hF : ∀ i, i ≠ 9 → upN F1 9 (st + 1) i = F i := fun i hi => by rw [upN_ne hi]; exact g2 i hi
    have hX : fS (pushK X) = fS X ∧ fln (pushK X) = fln X ∧ ftx (pushK X) = ftx X ∧ fwy (pushK X) = fwy X ∧ fb0 (pushK X) = fb0 X ∧ fb1 (pushK X) = fb1 X ∧ fb2 (pushK X) = fb2 X := by
      unfold pushK; split <;> exact ⟨rfl, rfl, rfl, rfl, rfl, rfl, rfl⟩
    obtain ⟨x1, x2, x3, x4, x5, x6, x7⟩ := hX
    refine Ok.pure ⟨_, _, rfl, ⟨?_, ?_, ⟨?_, by omega, by omega, fun j j0 j1 => ?_⟩, ?_, ?_⟩, hA, hF⟩
    · rw [x1]; exact h1.congr (hF 1 (by decide)) (fun i _ _ => hA i (by omega))
    · rw [x1]; unfold MW; rw [hA 7 (by decide), hA 8 (by decide)]; exact h2
    · rw [upN_at]; omega
    · rw [upN_at]
      by_cases hj : j = st
      · subst hj
        rw [g6]
        refine ⟨?_, h1.2.1, fun k k0 k1 => ?_, fun i i0 i1 => ?_⟩
        · rw [q1 _ (by omega), upZ_at]
        · obtain ⟨a1, a2, a3⟩ := q2 k k0 (by have := h1.2.1.2.1; omega)
          obtain ⟨b1, b2, b3, -, -, b6⟩ := h1.2.2 k k0 k1
          exact ⟨a1.trans b1, a2.trans b2, a3.trans b3, b6⟩
        · obtain ⟨b1, b2, b3⟩ := h2 i i0 i1
          have := b2.2.1
          exact ⟨(q3 i i0 i1).trans b1, b2, fun q w q0 q1' w0 w1 => (q4 _ (by omega) (by omega)).trans (b3 q w q0 q1' w0 w1)⟩
      · refine (g7 j j0 (by omega)).to (fun x x0 x1 => ?_)
        rw [q1 _ (by omega), upZ_ne (by omega)]
    · rw [x2, x3, x4, hF 22 (by decide), hF 23 (by decide), hA 20 (by decide)]; exact h4
    · rw [x5, x6, x7, hA 1 (by decide)]; exact h5
theorem M_badR (hl : a + 25 < m.length) (h : MB F A X) : Ok ((f_X8_bad (ov m a (o8 a F A)) a).bind fun t => some (t.1, t.2)) (fun q => q.1 = I (-2) ∧ MP m a q.2 (incB X (-2))) := Ok.bind (M_bad hl h) (fun t ht => Ok.pure ⟨ht.1, F, ht.2⟩)
theorem M_noR (hl : a + 25 < m.length) (h : MB F A X) : Ok ((f_X8_no (ov m a (o8 a F A)) a).bind fun t => some (t.1, t.2)) (fun q => q.1 = I (-3) ∧ MP m a q.2 (incB X (-3))) := Ok.bind (M_no hl h) (fun t ht => Ok.pure ⟨ht.1, F, ht.2⟩)
theorem M_fullR (hl : a + 25 < m.length) (h : MB F A X) : Ok ((f_X8_full (ov m a (o8 a F A)) a).bind fun t => some (t.1, t.2)) (fun q => q.1 = I (-4) ∧ MP m a q.2 (incB X (-4))) := Ok.bind (M_full hl h) (fun t ht => Ok.pure ⟨ht.1, F, ht.2⟩)
theorem M_size (hl : a + 25 < m.length) (h : MB F A X) : f_X8_size (ov m a (o8 a F A)) a = some (I (tn (fS X))) := by
  unfold f_X8_size
  simp (disch := omega) only [o8_g1, Option.bind_some, if_pos, if_neg, if_true, if_false, ite_true, ite_false]
  rw [h.1.1]
/-- the current tree is another one; all else stays -/
theorem MB.newT {F' : Nat → Int} {A' : Nat → Int → Int} (h : MB F A X) {n : Int} {tg vl lv : Int → Int} (hT : MT F' A' n tg vl lv) (hF : ∀ i, i = 9 ∨ i = 22 ∨ i = 23 → F' i = F i) (hA : ∀ i, i = 1 ∨ i = 7 ∨ i = 8 ∨ i = 9 ∨ i = 20 → A' i = A i) : MB F' A' ((n, tg, vl, lv, tqn (fS X), tnd (fS X)), X.2) := by
  obtain ⟨h1, h2, h3, h4, h5⟩ := h
  refine ⟨hT, ?_, ?_, ?_, ?_⟩
  · unfold MW; rw [hA 7 (by omega), hA 8 (by omega)]; exact h2
  · rw [hF 9 (by omega), hA 9 (by omega)]; exact h3
  · rw [hF 22 (by omega), hF 23 (by omega), hA 20 (by omega)]; exact h4
  · rw [hA 1 (by omega)]; exact h5
theorem M_element (hl : a + 25 < m.length) (h : MB F A X) {e w : Int} (he1 : -2147483648 ≤ e) (he2 : e < 2147483648) (hw1 : -2147483648 ≤ w) (hw2 : w < 2147483648) : Ok (f_X8_element (ov m a (o8 a F A)) a (I e) (I w)) (fun q => q.1 = I (rElem X e w).1 ∧ MP m a q.2 (rElem X e w).2) := by
  have hT := h.1
  have hF := hT.1
  have hw := hT.2.1
  have hn1 := hw.1
  have hn2 := hw.2.1
  have hAt := o8_At (m := m) (a := a) (F := F) (A := A) hl
  have hhe := D_isElement hAt he1 he2 (by omega) (by omega)
  have hhw := D_in (m := ov m a (o8 a F A)) (x := w) (y := 0) (z := 7) hw1 hw2 (by omega) (by omega) (by omega) (by omega)
  by_cases c : (0 ≤ e ∧ e < tn (fS X)) ∧ 0 ≤ w ∧ w < 8
  · obtain ⟨z1, z2, z3, z4, z5, -⟩ := hT.2.2 e (by omega) (by omega)
    have hcc : f_X8_children (ov m a (o8 a F A)) a (I e) = some (I (chN (fS X) e)) := D_children hAt hT (by omega) (by omega)
    have hr : rElem X e w = _ := if_pos c
    rw [hr]
    rw [ind_t (show 0 ≤ e ∧ e < F 1 by omega)] at hhe
    rw [ind_t (show 0 ≤ w ∧ w ≤ 7 by omega)] at hhw
    unfold f_X8_element
    have hk : w = 0 ∨ w = 1 ∨ w = 2 ∨ w = 3 ∨ w = 4 ∨ w = 5 ∨ w = 6 ∨ w = 7 := by omega
    rcases hk with rfl | rfl | rfl | rfl | rfl | rfl | rfl | rfl
    · simp (disch := omega) only [hhe, hhw, L0, L1, L2, L3, L4, L5, L6, L7, L8, L9, L10, L11, L12, L13, L14, L15, L16, L17, L18, L19, L20, L21, L22, L23, L24, L25, L26, L27, L31, L32, L33, L36, L40, L41, L42, L47, L48, L57, L58, L59, L60, L61, L62, L65, L97, L101, L102, L103, L120, L126, L127, L144, L245, L1023, L1715, I_add, I_sub, I_mul, I_neg, I_lt, I_le, I_eq, o8_cO, o8_g2, o8_g3, o8_g4, o8_g5, o8_g6, o8_l2, o8_l3, o8_l4, o8_l5, o8_l6, Option.bind_some, if_pos, if_neg, if_true, if_false, ite_true, ite_false]; exact Ok.pure ⟨by rw [z1], F, A, rfl, h⟩
    · simp (disch := omega) only [hhe, hhw, L0, L1, L2, L3, L4, L5, L6, L7, L8, L9, L10, L11, L12, L13, L14, L15, L16, L17, L18, L19, L20, L21, L22, L23, L24, L25, L26, L27, L31, L32, L33, L36, L40, L41, L42, L47, L48, L57, L58, L59, L60, L61, L62, L65, L97, L101, L102, L103, L120, L126, L127, L144, L245, L1023, L1715, I_add, I_sub, I_mul, I_neg, I_lt, I_le, I_eq, o8_cO, o8_g2, o8_g3, o8_g4, o8_g5, o8_g6, o8_l2, o8_l3, o8_l4, o8_l5, o8_l6, Option.bind_some, if_pos, if_neg, if_true, if_false, ite_true, ite_false]; exact Ok.pure ⟨by rw [z2], F, A, rfl, h⟩
    · simp (disch := omega) only [hhe, hhw, L0, L1, L2, L3, L4, L5, L6, L7, L8, L9, L10, L11, L12, L13, L14, L15, L16, L17, L18, L19, L20, L21, L22, L23, L24, L25, L26, L27, L31, L32, L33, L36, L40, L41, L42, L47, L48, L57, L58, L59, L60, L61, L62, L65, L97, L101, L102, L103, L120, L126, L127, L144, L245, L1023, L1715, I_add, I_sub, I_mul, I_neg, I_lt, I_le, I_eq, o8_cO, o8_g2, o8_g3, o8_g4, o8_g5, o8_g6, o8_l2, o8_l3, o8_l4, o8_l5, o8_l6, Option.bind_some, if_pos, if_neg, if_true, if_false, ite_true, ite_false]; exact Ok.pure ⟨by rw [z5], F, A, rfl, h⟩
    · simp (disch := omega) only [hhe, hhw, L0, L1, L2, L3, L4, L5, L6, L7, L8, L9, L10, L11, L12, L13, L14, L15, L16, L17, L18, L19, L20, L21, L22, L23, L24, L25, L26, L27, L31, L32, L33, L36, L40, L41, L42, L47, L48, L57, L58, L59, L60, L61, L62, L65, L97, L101, L102, L103, L120, L126, L127, L144, L245, L1023, L1715, I_add, I_sub, I_mul, I_neg, I_lt, I_le, I_eq, o8_cO, o8_g2, o8_g3, o8_g4, o8_g5, o8_g6, o8_l2, o8_l3, o8_l4, o8_l5, o8_l6, Option.bind_some, if_pos, if_neg, if_true, if_false, ite_true, ite_false]; exact Ok.pure ⟨by rw [z3], F, A, rfl, h⟩
    · simp (disch := omega) only [hhe, hhw, L0, L1, L2, L3, L4, L5, L6, L7, L8, L9, L10, L11, L12, L13, L14, L15, L16, L17, L18, L19, L20, L21, L22, L23, L24, L25, L26, L27, L31, L32, L33, L36, L40, L41, L42, L47, L48, L57, L58, L59, L60, L61, L62, L65, L97, L101, L102, L103, L120, L126, L127, L144, L245, L1023, L1715, I_add, I_sub, I_mul, I_neg, I_lt, I_le, I_eq, o8_cO, o8_g2, o8_g3, o8_g4, o8_g5, o8_g6, o8_l2, o8_l3, o8_l4, o8_l5, o8_l6, Option.bind_some, if_pos, if_neg, if_true, if_false, ite_true, ite_false]; exact Ok.pure ⟨by rw [z3, z4], F, A, rfl, h⟩
    · simp (disch := omega) only [hhe, hhw, L0, L1, L2, L3, L4, L5, L6, L7, L8, L9, L10, L11, L12, L13, L14, L15, L16, L17, L18, L19, L20, L21, L22, L23, L24, L25, L26, L27, L31, L32, L33, L36, L40, L41, L42, L47, L48, L57, L58, L59, L60, L61, L62, L65, L97, L101, L102, L103, L120, L126, L127, L144, L245, L1023, L1715, I_add, I_sub, I_mul, I_neg, I_lt, I_le, I_eq, o8_cO, o8_g2, o8_g3, o8_g4, o8_g5, o8_g6, o8_l2, o8_l3, o8_l4, o8_l5, o8_l6, Option.bind_some, if_pos, if_neg, if_true, if_false, ite_true, ite_false]; exact Ok.pure ⟨by rw [z3], F, A, rfl, h⟩
    · simp (disch := omega) only [hhe, hhw, hcc, L0, L1, L2, L3, L4, L5, L6, L7, L8, L9, L10, L11, L12, L13, L14, L15, L16, L17, L18, L19, L20, L21, L22, L23, L24, L25, L26, L27, L31, L32, L33, L36, L40, L41, L42, L47, L48, L57, L58, L59, L60, L61, L62, L65, L97, L101, L102, L103, L120, L126, L127, L144, L245, L1023, L1715, I_add, I_sub, I_mul, I_neg, I_lt, I_le, I_eq, o8_cO, o8_g2, o8_g3, o8_g4, o8_g5, o8_g6, o8_l2, o8_l3, o8_l4, o8_l5, o8_l6, Option.bind_some, if_pos, if_neg, if_true, if_false, ite_true, ite_false]; exact Ok.pure ⟨rfl, F, A, rfl, h⟩
    · simp (disch := omega) only [hhe, hhw, L0, L1, L2, L3, L4, L5, L6, L7, L8, L9, L10, L11, L12, L13, L14, L15, L16, L17, L18, L19, L20, L21, L22, L23, L24, L25, L26, L27, L31, L32, L33, L36, L40, L41, L42, L47, L48, L57, L58, L59, L60, L61, L62, L65, L97, L101, L102, L103, L120, L126, L127, L144, L245, L1023, L1715, I_add, I_sub, I_mul, I_neg, I_lt, I_le, I_eq, o8_cO, o8_g2, o8_g3, o8_g4, o8_g5, o8_g6, o8_l2, o8_l3, o8_l4, o8_l5, o8_l6, Option.bind_some, if_pos, if_neg, if_true, if_false, ite_true, ite_false]; exact Ok.pure ⟨by rw [z4], F, A, rfl, h⟩
  · have hr : rElem X e w = _ := if_neg c
    rw [hr]
    unfold f_X8_element
    by_cases c1 : 0 ≤ e ∧ e < F 1
    · rw [ind_t c1] at hhe
      rw [ind_f (show ¬ (0 ≤ w ∧ w ≤ 7) by omega)] at hhw
      simp only [o8_cO hl, hhe, Option.bind_some]
      rw [if_neg (show ¬ I 1 = (0 : Int32) by decide)]
      simp only [L0, L7, hhw, Option.bind_some]
      rw [if_pos trivial]
      exact M_badR hl h
    · rw [ind_f c1] at hhe
      simp only [o8_cO hl, hhe, Option.bind_some]
      rw [if_pos (show I 0 = (0 : Int32) from rfl)]
      exact M_badR hl h
theorem M_sets (hl : a + 25 < m.length) (h : MB F A X) {e t v : Int} (he1 : -2147483648 ≤ e) (he2 : e < 2147483648) (ht1 : -2147483648 ≤ t) (ht2 : t < 2147483648) (hv1 : -2147483648 ≤ v) (hv2 : v < 2147483648) : Ok (f_X8_sets (ov m a (o8 a F A)) a (I e) (I t) (I v)) (fun q => q.1 = I (rSets X e t v).1 ∧ MP m a q.2 (rSets X e t v).2) := by
  have hT := h.1
  have hF := hT.1
  have hw := hT.2.1
  have hn1 := hw.1
  have hn2 := hw.2.1
  have hAt := o8_At (m := m) (a := a) (F := F) (A := A) hl
  have hhe := D_isElement hAt he1 he2 (by omega) (by omega)
  have hht := D_in (m := ov m a (o8 a F A)) (x := t) (y := 0) (z := 5) ht1 ht2 (by omega) (by omega) (by omega) (by omega)
  have hhv := D_in (m := ov m a (o8 a F A)) (x := v) (y := 0) (z := 9) hv1 hv2 (by omega) (by omega) (by omega) (by omega)
  unfold f_X8_sets
  by_cases c1 : 0 ≤ e ∧ e < F 1
  · rw [ind_t c1] at hhe
    by_cases c2 : 0 ≤ t ∧ t ≤ 5
    · rw [ind_t c2] at hht
      by_cases c3 : 0 ≤ v ∧ v ≤ 9
      · rw [ind_t c3] at hhv
        have hr : rSets X e t v = _ := if_pos (show (0 ≤ e ∧ e < tn (fS X)) ∧ (0 ≤ t ∧ t ≤ 5 ∧ 0 ≤ v ∧ v ≤ 9) by omega)
        rw [hr]
        simp (disch := omega) only [o8_cO, hhe, hht, hhv, L0, L1, L2, L3, L4, L5, L6, L7, L8, L9, L10, L11, L12, L13, L14, L15, L16, L17, L18, L19, L20, L21, L22, L23, L24, L25, L26, L27, L31, L32, L33, L36, L40, L41, L42, L47, L48, L57, L58, L59, L60, L61, L62, L65, L97, L101, L102, L103, L120, L126, L127, L144, L245, L1023, L1715, I_add, I_sub, I_mul, I_neg, I_lt, I_le, I_eq, Option.bind_some, if_pos, if_neg, if_true, if_false, ite_true, ite_false]
        refine Ok.bind (M_leaves hl h) ?_
        rintro m1 ⟨F1, A1, rfl, h', hA1, hF1⟩
        have hT1 := h'.1
        rw [pushK_S] at hT1
        obtain ⟨z1, z2, -⟩ := hT1.2.2 e (by omega) (by omega)
        simp (disch := omega) only [o8_g2, o8_g3, o8_l2, o8_l3, o8_s2, o8_s3, I_add, I_sub, I_mul, I_neg, I_lt, I_le, I_eq, Option.bind_some, if_pos, if_neg, if_true, if_false, ite_true, ite_false]
        refine Ok.pure ⟨by rw [z1, z2], _, _, rfl, ?_⟩
        have hT2 : MT F1 (upN (upN A1 2 (upZ (A1 2) e t)) 3 (upZ (A1 3) e v)) (tn (fS X)) (upZ (ttg (fS X)) e t) (upZ (tvl (fS X)) e v) (tlv (fS X)) := by
          refine ⟨hT1.1, hT1.2.1, fun k k0 k1 => ?_⟩
          obtain ⟨y1, y2, y3, y4, y5, y6⟩ := hT1.2.2 k k0 k1
          show upZ (A1 2) e t k = upZ (ttg (fS X)) e t k ∧ upZ (A1 3) e v k = upZ (tvl (fS X)) e v k ∧ A1 4 k = tlv (fS X) k ∧ A1 5 k = enF (tn (fS X)) (tlv (fS X)) k ∧ A1 6 k = prF (tlv (fS X)) k ∧ 0 ≤ upZ (ttg (fS X)) e t k ∧ upZ (ttg (fS X)) e t k ≤ 5 ∧ 0 ≤ upZ (tvl (fS X)) e v k ∧ upZ (tvl (fS X)) e v k ≤ 9
          by_cases hk : k = e
          · subst hk; rw [upZ_at, upZ_at, upZ_at, upZ_at]; exact ⟨rfl, rfl, y3, y4, y5, c2.1, c2.2, c3⟩
          · rw [upZ_ne hk, upZ_ne hk, upZ_ne hk, upZ_ne hk]; exact ⟨y1, y2, y3, y4, y5, y6⟩
        have := h'.newT hT2 (fun _ _ => rfl) (fun i hi => by unfold upN; rw [if_neg (by omega), if_neg (by omega)])
        rw [pushK_S] at this
        exact this
      · rw [ind_f c3] at hhv
        have hr : rSets X e t v = _ := if_neg (by omega)
        rw [hr]
        simp (disch := omega) only [o8_cO, hhe, hht, hhv, L0, L1, L2, L3, L4, L5, L6, L7, L8, L9, L10, L11, L12, L13, L14, L15, L16, L17, L18, L19, L20, L21, L22, L23, L24, L25, L26, L27, L31, L32, L33, L36, L40, L41, L42, L47, L48, L57, L58, L59, L60, L61, L62, L65, L97, L101, L102, L103, L120, L126, L127, L144, L245, L1023, L1715, I_add, I_sub, I_mul, I_neg, I_lt, I_le, I_eq, Option.bind_some, if_pos, if_neg, if_true, if_false, ite_true, ite_false]
        exact M_badR hl h
    · rw [ind_f c2] at hht
      have hr : rSets X e t v = _ := if_neg (by omega)
      rw [hr]
      simp (disch := omega) only [o8_cO, hhe, hht, L0, L1, L2, L3, L4, L5, L6, L7, L8, L9, L10, L11, L12, L13, L14, L15, L16, L17, L18, L19, L20, L21, L22, L23, L24, L25, L26, L27, L31, L32, L33, L36, L40, L41, L42, L47, L48, L57, L58, L59, L60, L61, L62, L65, L97, L101, L102, L103, L120, L126, L127, L144, L245, L1023, L1715, I_add, I_sub, I_mul, I_neg, I_lt, I_le, I_eq, Option.bind_some, if_pos, if_neg, if_true, if_false, ite_true, ite_false]
      exact M_badR hl h
  · rw [ind_f c1] at hhe
    have hr : rSets X e t v = _ := if_neg (by omega)
    rw [hr]
    simp (disch := omega) only [o8_cO, hhe, L0, L1, L2, L3, L4, L5, L6, L7, L8, L9, L10, L11, L12, L13, L14, L15, L16, L17, L18, L19, L20, L21, L22, L23, L24, L25, L26, L27, L31, L32, L33, L36, L40, L41, L42, L47, L48, L57, L58, L59, L60, L61, L62, L65, L97, L101, L102, L103, L120, L126, L127, L144, L245, L1023, L1715, I_add, I_sub, I_mul, I_neg, I_lt, I_le, I_eq, Option.bind_some, if_pos, if_neg, if_true, if_false, ite_true, ite_false]
    exact M_badR hl h
/-- behind tellsTree: a tree -/
theorem MT.of {F' : Nat → Int} {A' A'' : Nat → Int → Int} {n : Int} {tg vl lv : Int → Int} (hF : F' 1 = n) (hw : WL n lv) (hA : ∀ k, 0 ≤ k → k < n → A' 2 k = tg k ∧ A' 3 k = vl k ∧ A' 4 k = lv k ∧ 0 ≤ tg k ∧ tg k ≤ 5 ∧ 0 ≤ vl k ∧ vl k ≤ 9) (h1 : ∀ i, i ≠ 5 → i ≠ 6 → A'' i = A' i) (h2 : ∀ k, 0 ≤ k → k < n → A'' 5 k = enF n (A' 4) k ∧ A'' 6 k = prF (A' 4) k) : MT F' A'' n tg vl lv := by
  refine ⟨hF, hw, fun k k0 k1 => ?_⟩
  rw [h1 2 (by decide) (by decide), h1 3 (by decide) (by decide), h1 4 (by decide) (by decide)]
  obtain ⟨a1, a2, a3, a4⟩ := hA k k0 k1
  obtain ⟨b1, b2⟩ := h2 k k0 k1
  refine ⟨a1, a2, a3, ?_, ?_, a4⟩
  · rw [b1]; exact enF_congr k0 k1 (fun j j0 j1 => (hA j j0 j1).2.2.1)
  · rw [b2]; exact prF_congr k0 (fun j j0 j1 => (hA j j0 (by omega)).2.2.1)
theorem M_drops (hl : a + 25 < m.length) (h : MB F A X) {e : Int} (he1 : -2147483648 ≤ e) (he2 : e < 2147483648) : Ok (f_X8_drops (ov m a (o8 a F A)) a (I e)) (fun q => q.1 = I (rDrops X e).1 ∧ MP m a q.2 (rDrops X e).2) := by
  have hT := h.1
  have hF := hT.1
  have hw := hT.2.1
  have hn1 := hw.1
  have hn2 := hw.2.1
  have hAt := o8_At (m := m) (a := a) (F := F) (A := A) hl
  have hhe := D_isElement hAt he1 he2 (by omega) (by omega)
  unfold f_X8_drops
  by_cases c1 : 0 ≤ e ∧ e < F 1
  · rw [ind_t c1] at hhe
    have hr0 : rDrops X e = _ := if_pos (show 0 ≤ e ∧ e < tn (fS X) by omega)
    rw [hr0]
    by_cases c2 : e = 0
    · rw [if_pos c2]
      simp (disch := omega) only [o8_cO, hhe, L0, L1, L2, L3, L4, L5, L6, L7, L8, L9, L10, L11, L12, L13, L14, L15, L16, L17, L18, L19, L20, L21, L22, L23, L24, L25, L26, L27, L31, L32, L33, L36, L40, L41, L42, L47, L48, L57, L58, L59, L60, L61, L62, L65, L97, L101, L102, L103, L120, L126, L127, L144, L245, L1023, L1715, I_add, I_sub, I_mul, I_neg, I_lt, I_le, I_eq, Option.bind_some, if_pos, if_neg, if_true, if_false, ite_true, ite_false]
      exact M_noR hl h
    · rw [if_neg c2]
      simp (disch := omega) only [o8_cO, hhe, L0, L1, L2, L3, L4, L5, L6, L7, L8, L9, L10, L11, L12, L13, L14, L15, L16, L17, L18, L19, L20, L21, L22, L23, L24, L25, L26, L27, L31, L32, L33, L36, L40, L41, L42, L47, L48, L57, L58, L59, L60, L61, L62, L65, L97, L101, L102, L103, L120, L126, L127, L144, L245, L1023, L1715, I_add, I_sub, I_mul, I_neg, I_lt, I_le, I_eq, Option.bind_some, if_pos, if_neg, if_true, if_false, ite_true, ite_false]
      refine Ok.bind (M_leaves hl h) ?_
      rintro m1 ⟨F1, A1, rfl, h', hA1, hF1⟩
      have hT1 := h'.1
      rw [pushK_S] at hT1
      obtain ⟨z1, z2, z3, z4, z5, -⟩ := hT1.2.2 e (by omega) (by omega)
      obtain ⟨r1, r2, -, -⟩ := enF_spec (tlv (fS X)) (show e < tn (fS X) by omega)
      have hwd := WL_del hw (show 0 < e by omega) (show e < tn (fS X) by omega)
      generalize hs : enF (tn (fS X)) (tlv (fS X)) e - e = s at *
      simp (disch := omega) only [o8_g5, o8_l5, o8_cO, I_add, I_sub, I_mul, I_neg, I_lt, I_le, I_eq, Option.bind_some, if_pos, if_neg, if_true, if_false, ite_true, ite_false]
      rw [show A1 5 e - e = s by omega]
      refine Ok.bind (D_closes hl hT1.1 hn2 (p := e) (s := s) (by omega) (by omega) (by omega)) ?_
      rintro m2 ⟨A2, rfl, q1, q2⟩
      simp (disch := omega) only [o8_cO]
      have hdel : ∀ (g g' : Int → Int), (∀ k, 0 ≤ k → k < tn (fS X) → g k = g' k) → ∀ k, 0 ≤ k → k < tn (fS X) - s → delZ g e s k = delZ g' e s k := by
        intro g g' hg k k0 k1
        unfold delZ
        split
        · exact hg k k0 (by omega)
        · exact hg (k + s) (by omega) (by omega)
      have hA2 : ∀ k, 0 ≤ k → k < tn (fS X) - s → A2 2 k = delZ (ttg (fS X)) e s k ∧ A2 3 k = delZ (tvl (fS X)) e s k ∧ A2 4 k = delZ (tlv (fS X)) e s k ∧ 0 ≤ delZ (ttg (fS X)) e s k ∧ delZ (ttg (fS X)) e s k ≤ 5 ∧ 0 ≤ delZ (tvl (fS X)) e s k ∧ delZ (tvl (fS X)) e s k ≤ 9 := by
        intro k k0 k1
        obtain ⟨y1, y2, y3⟩ := q2 k k0 k1
        refine ⟨y1.trans (hdel _ _ (fun k k0 k1 => (hT1.2.2 k k0 k1).1) k k0 k1), y2.trans (hdel _ _ (fun k k0 k1 => (hT1.2.2 k k0 k1).2.1) k k0 k1), y3.trans (hdel _ _ (fun k k0 k1 => (hT1.2.2 k k0 k1).2.2.1) k k0 k1), ?_⟩
        unfold delZ
        split
        · exact (hT1.2.2 k k0 (by omega)).2.2.2.2.2
        · exact (hT1.2.2 (k + s) (by omega) (by omega)).2.2.2.2.2
      refine Ok.bind (D_tellsTree hl (n := tn (fS X) - s) upN_at (by omega) (by omega) (fun k k0 k1 => by rw [(hA2 k k0 k1).2.2.1]; have := hwd.ge1 k0 k1; omega)) ?_
      rintro m3 ⟨A3, rfl, q3, q4⟩
      have hT3 := MT.of (F' := upN F1 1 (tn (fS X) - s)) upN_at hwd hA2 q3 q4
      refine Ok.pure ⟨rfl, _, _, rfl, ?_⟩
      have := h'.newT hT3 (fun i hi => upN_ne (by omega)) (fun i hi => by rw [q3 i (by omega) (by omega), q1 i (by omega) (by omega) (by omega)])
      rw [pushK_S] at this
      exact this
  · rw [ind_f c1] at hhe
    have hr0 : rDrops X e = _ := if_neg (by omega)
    rw [hr0]
    simp (disch := omega) only [o8_cO, hhe, L0, L1, L2, L3, L4, L5, L6, L7, L8, L9, L10, L11, L12, L13, L14, L15, L16, L17, L18, L19, L20, L21, L22, L23, L24, L25, L26, L27, L31, L32, L33, L36, L40, L41, L42, L47, L48, L57, L58, L59, L60, L61, L62, L65, L97, L101, L102, L103, L120, L126, L127, L144, L245, L1023, L1715, I_add, I_sub, I_mul, I_neg, I_lt, I_le, I_eq, Option.bind_some, if_pos, if_neg, if_true, if_false, ite_true, ite_false]
    exact M_badR hl h
end MOPS
