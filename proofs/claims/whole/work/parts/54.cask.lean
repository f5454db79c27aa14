/-! ===== the class: node, forgets, nodes, told, type, clear, why ===== -/
def rNode (X : FS) (i q w : Int) : Int32 × FS := if (0 ≤ i ∧ i < 4) ∧ 0 ≤ q ∧ 0 ≤ w ∧ w < 5 then (if q < tqn (fS X) i then (ndP (tnd (fS X) i) q w, X) else (I (-3), incB X (-3))) else (I (-2), incB X (-2))
def rForgets (X : FS) (i : Int) : Int × FS := if 0 ≤ i ∧ i < 4 then (if tqn (fS X) i = 0 then (-3, incB X (-3)) else (tqn (fS X) i, ((tn (fS X), ttg (fS X), tvl (fS X), tlv (fS X), upZ (tqn (fS X)) i 0, tnd (fS X)), (pushK X).2))) else (-2, incB X (-2))
def rNodes (X : FS) (i : Int) : Int × FS := if 0 ≤ i ∧ i < 4 then (tqn (fS X) i, X) else (-2, incB X (-2))
def rTally (X : FS) (w : Int) : Int32 := if w = 0 then I (fb0 X) else if w = 1 then I (fb1 X) else if w = 2 then I (fb2 X) else if w = 3 then I (tn (fS X)) else if w = 4 then bs (fun i => 0 < tqn (fS X) i) 4 else if w = 5 then I (fln X) else I (fks X)
def rTold (X : FS) (w : Int) : Int32 × FS := if 0 ≤ w ∧ w < 7 then (rTally X w, X) else (I (-2), incB X (-2))
def rType (X : FS) (c : Int) : Int × FS := if 0 ≤ c ∧ c ≤ 127 then (if fln X < 120 then (fln X + 1, (X.1, X.2.1, X.2.2.1, fln X + 1, upZ (ftx X) (fln X) c, X.2.2.2.2.2)) else (-4, incB X (-4))) else (-2, incB X (-2))
def rClear (X : FS) : Int × FS := (fln X, (X.1, X.2.1, X.2.2.1, 0, X.2.2.2.2))
section CASK
variable {m : Mm} {X : FS}
theorem CI.W (h : CI m X) {i : Int} (h0 : 0 ≤ i) (h1 : i < 4) : ∃ F A, At m (9 + 7 * i.toNat) (o5 (9 + 7 * i.toNat) F A) ∧ WR F A (tqn (fS X) i) (tnd (fS X) i) := by
  have := h.2.2.1.2.2 i.toNat (by omega)
  rwa [show ((i.toNat : Nat) : Int) = i by omega] at this
theorem C_isTwig {i : Int} (h1 : -2147483648 ≤ i) (h2 : i < 2147483648) : f_X7_isTwigNumber m (I i) = some (I (ind (0 ≤ i ∧ i < 4))) := by
  unfold f_X7_isTwigNumber
  by_cases c1 : i < 0
  · rw [ind_f (by omega)]; simp (disch := omega) only [L0, L1, L2, L3, L4, L5, L6, L7, L8, L9, L10, L11, L12, L13, L14, L15, L16, L17, L18, L19, L20, L21, L22, L23, L24, L25, L26, L27, L31, L32, L33, L36, L40, L41, L42, L47, L48, L57, L58, L59, L60, L61, L62, L65, L97, L101, L102, L103, L120, L126, L127, L144, L245, L1023, L1715, I_add, I_sub, I_mul, I_neg, I_lt, I_le, I_eq, Option.bind_some, if_pos, if_neg, if_true, if_false, ite_true, ite_false]
  · by_cases c2 : 4 ≤ i
    · rw [ind_f (by omega)]; simp (disch := omega) only [L0, L1, L2, L3, L4, L5, L6, L7, L8, L9, L10, L11, L12, L13, L14, L15, L16, L17, L18, L19, L20, L21, L22, L23, L24, L25, L26, L27, L31, L32, L33, L36, L40, L41, L42, L47, L48, L57, L58, L59, L60, L61, L62, L65, L97, L101, L102, L103, L120, L126, L127, L144, L245, L1023, L1715, I_add, I_sub, I_mul, I_neg, I_lt, I_le, I_eq, Option.bind_some, if_pos, if_neg, if_true, if_false, ite_true, ite_false]
    · rw [ind_t (by omega)]; simp (disch := omega) only [L0, L1, L2, L3, L4, L5, L6, L7, L8, L9, L10, L11, L12, L13, L14, L15, L16, L17, L18, L19, L20, L21, L22, L23, L24, L25, L26, L27, L31, L32, L33, L36, L40, L41, L42, L47, L48, L57, L58, L59, L60, L61, L62, L65, L97, L101, L102, L103, L120, L126, L127, L144, L245, L1023, L1715, I_add, I_sub, I_mul, I_neg, I_lt, I_le, I_eq, Option.bind_some, if_pos, if_neg, if_true, if_false, ite_true, ite_false]
theorem C_nodeFault (h : CI m X) {i q g : Int} (h1 : -2147483648 ≤ i) (h2 : i < 2147483648) (h3 : -2147483648 ≤ q) (h4 : q < 2147483648) (hg : g = 0 ∨ g = 1) : f_X7_nodeFault m 0 (I i) (I q) (I g) = some (I (if (0 ≤ i ∧ i < 4) ∧ 0 ≤ q ∧ g = 1 then (if q < tqn (fS X) i then 0 else -3) else -2)) := by
  unfold f_X7_nodeFault
  simp (disch := omega) only [C_isTwig, Option.bind_some, if_pos, if_neg, if_true, if_false, ite_true, ite_false]
  by_cases c1 : 0 ≤ i ∧ i < 4
  · rw [ind_t c1]
    obtain ⟨F, A, hat, hW⟩ := h.W c1.1 c1.2
    have hF := hW.1
    have h6 := hW.2.1.2.1
    have h60 := hW.2.1.1
    by_cases c2 : q < 0
    · rw [if_neg (show ¬ ((0 ≤ i ∧ i < 4) ∧ 0 ≤ q ∧ g = 1) by omega)]; simp (disch := omega) only [L0, L1, L2, L3, L4, L5, L6, L7, L8, L9, L10, L11, L12, L13, L14, L15, L16, L17, L18, L19, L20, L21, L22, L23, L24, L25, L26, L27, L31, L32, L33, L36, L40, L41, L42, L47, L48, L57, L58, L59, L60, L61, L62, L65, L97, L101, L102, L103, L120, L126, L127, L144, L245, L1023, L1715, I_add, I_sub, I_mul, I_neg, I_lt, I_le, I_eq, Option.bind_some, if_pos, if_neg, if_true, if_false, ite_true, ite_false]
    · rcases hg with rfl | rfl
      · rw [if_neg (show ¬ ((0 ≤ i ∧ i < 4) ∧ 0 ≤ q ∧ (0 : Int) = 1) by omega)]; simp (disch := omega) only [L0, L1, L2, L3, L4, L5, L6, L7, L8, L9, L10, L11, L12, L13, L14, L15, L16, L17, L18, L19, L20, L21, L22, L23, L24, L25, L26, L27, L31, L32, L33, L36, L40, L41, L42, L47, L48, L57, L58, L59, L60, L61, L62, L65, L97, L101, L102, L103, L120, L126, L127, L144, L245, L1023, L1715, I_add, I_sub, I_mul, I_neg, I_lt, I_le, I_eq, Option.bind_some, if_pos, if_neg, if_true, if_false, ite_true, ite_false]
      · rw [if_pos (show (0 ≤ i ∧ i < 4) ∧ 0 ≤ q ∧ (1 : Int) = 1 by omega)]
        by_cases c3 : q < tqn (fS X) i
        · rw [if_pos c3]; simp (disch := omega) only [L0, L1, L2, L3, L4, L5, L6, L7, L8, L9, L10, L11, L12, L13, L14, L15, L16, L17, L18, L19, L20, L21, L22, L23, L24, L25, L26, L27, L31, L32, L33, L36, L40, L41, L42, L47, L48, L57, L58, L59, L60, L61, L62, L65, L97, L101, L102, L103, L120, L126, L127, L144, L245, L1023, L1715, I_add, I_sub, I_mul, I_neg, I_lt, I_le, I_eq, h.now, h.tws, h.tw, a5_cO hat, a5_g0 hat, a5_g1 hat, a5_g2 hat, a5_g3 hat, a5_g4 hat, a5_g5 hat, a5_g6 hat, a5_l1 hat, a5_l2 hat, a5_l3 hat, a5_l4 hat, a5_l5 hat, a5_l6 hat, Option.bind_some, if_pos, if_neg, if_true, if_false, ite_true, ite_false]
        · rw [if_neg c3]; simp (disch := omega) only [L0, L1, L2, L3, L4, L5, L6, L7, L8, L9, L10, L11, L12, L13, L14, L15, L16, L17, L18, L19, L20, L21, L22, L23, L24, L25, L26, L27, L31, L32, L33, L36, L40, L41, L42, L47, L48, L57, L58, L59, L60, L61, L62, L65, L97, L101, L102, L103, L120, L126, L127, L144, L245, L1023, L1715, I_add, I_sub, I_mul, I_neg, I_lt, I_le, I_eq, h.now, h.tws, h.tw, a5_cO hat, a5_g0 hat, a5_g1 hat, a5_g2 hat, a5_g3 hat, a5_g4 hat, a5_g5 hat, a5_g6 hat, a5_l1 hat, a5_l2 hat, a5_l3 hat, a5_l4 hat, a5_l5 hat, a5_l6 hat, Option.bind_some, if_pos, if_neg, if_true, if_false, ite_true, ite_false]
  · rw [ind_f c1, if_neg (show ¬ ((0 ≤ i ∧ i < 4) ∧ 0 ≤ q ∧ g = 1) from fun z => c1 z.1)]
    simp (disch := omega) only [L0, L1, L2, L3, L4, L5, L6, L7, L8, L9, L10, L11, L12, L13, L14, L15, L16, L17, L18, L19, L20, L21, L22, L23, L24, L25, L26, L27, L31, L32, L33, L36, L40, L41, L42, L47, L48, L57, L58, L59, L60, L61, L62, L65, L97, L101, L102, L103, L120, L126, L127, L144, L245, L1023, L1715, I_add, I_sub, I_mul, I_neg, I_lt, I_le, I_eq, Option.bind_some, if_pos, if_neg, if_true, if_false, ite_true, ite_false]
theorem C_twigFault (h : CI m X) {i g : Int} (h1 : -2147483648 ≤ i) (h2 : i < 2147483648) (hg : g = 0 ∨ g = 1) : f_X7_twigFault m 0 (I i) (I g) = some (I (if (0 ≤ i ∧ i < 4) ∧ g = 1 then (if tqn (fS X) i = 0 then -3 else 0) else -2)) := by
  unfold f_X7_twigFault
  simp (disch := omega) only [C_isTwig, Option.bind_some, if_pos, if_neg, if_true, if_false, ite_true, ite_false]
  by_cases c1 : 0 ≤ i ∧ i < 4
  · rw [ind_t c1]
    obtain ⟨F, A, hat, hW⟩ := h.W c1.1 c1.2
    have hF := hW.1
    have h6 := hW.2.1.2.1
    have h60 := hW.2.1.1
    rcases hg with rfl | rfl
    · rw [if_neg (show ¬ ((0 ≤ i ∧ i < 4) ∧ (0 : Int) = 1) by omega)]; simp (disch := omega) only [L0, L1, L2, L3, L4, L5, L6, L7, L8, L9, L10, L11, L12, L13, L14, L15, L16, L17, L18, L19, L20, L21, L22, L23, L24, L25, L26, L27, L31, L32, L33, L36, L40, L41, L42, L47, L48, L57, L58, L59, L60, L61, L62, L65, L97, L101, L102, L103, L120, L126, L127, L144, L245, L1023, L1715, I_add, I_sub, I_mul, I_neg, I_lt, I_le, I_eq, Option.bind_some, if_pos, if_neg, if_true, if_false, ite_true, ite_false]
    · rw [if_pos (show (0 ≤ i ∧ i < 4) ∧ (1 : Int) = 1 by omega)]
      by_cases c3 : tqn (fS X) i = 0
      · rw [if_pos c3]; simp (disch := omega) only [L0, L1, L2, L3, L4, L5, L6, L7, L8, L9, L10, L11, L12, L13, L14, L15, L16, L17, L18, L19, L20, L21, L22, L23, L24, L25, L26, L27, L31, L32, L33, L36, L40, L41, L42, L47, L48, L57, L58, L59, L60, L61, L62, L65, L97, L101, L102, L103, L120, L126, L127, L144, L245, L1023, L1715, I_add, I_sub, I_mul, I_neg, I_lt, I_le, I_eq, h.now, h.tws, h.tw, a5_cO hat, a5_g0 hat, a5_g1 hat, a5_g2 hat, a5_g3 hat, a5_g4 hat, a5_g5 hat, a5_g6 hat, a5_l1 hat, a5_l2 hat, a5_l3 hat, a5_l4 hat, a5_l5 hat, a5_l6 hat, Option.bind_some, if_pos, if_neg, if_true, if_false, ite_true, ite_false]
      · rw [if_neg c3]; simp (disch := omega) only [L0, L1, L2, L3, L4, L5, L6, L7, L8, L9, L10, L11, L12, L13, L14, L15, L16, L17, L18, L19, L20, L21, L22, L23, L24, L25, L26, L27, L31, L32, L33, L36, L40, L41, L42, L47, L48, L57, L58, L59, L60, L61, L62, L65, L97, L101, L102, L103, L120, L126, L127, L144, L245, L1023, L1715, I_add, I_sub, I_mul, I_neg, I_lt, I_le, I_eq, h.now, h.tws, h.tw, a5_cO hat, a5_g0 hat, a5_g1 hat, a5_g2 hat, a5_g3 hat, a5_g4 hat, a5_g5 hat, a5_g6 hat, a5_l1 hat, a5_l2 hat, a5_l3 hat, a5_l4 hat, a5_l5 hat, a5_l6 hat, Option.bind_some, if_pos, if_neg, if_true, if_false, ite_true, ite_false]
  · rw [ind_f c1, if_neg (show ¬ ((0 ≤ i ∧ i < 4) ∧ g = 1) from fun z => c1 z.1)]
    simp (disch := omega) only [L0, L1, L2, L3, L4, L5, L6, L7, L8, L9, L10, L11, L12, L13, L14, L15, L16, L17, L18, L19, L20, L21, L22, L23, L24, L25, L26, L27, L31, L32, L33, L36, L40, L41, L42, L47, L48, L57, L58, L59, L60, L61, L62, L65, L97, L101, L102, L103, L120, L126, L127, L144, L245, L1023, L1715, I_add, I_sub, I_mul, I_neg, I_lt, I_le, I_eq, Option.bind_some, if_pos, if_neg, if_true, if_false, ite_true, ite_false]
theorem C_node (h : CI m X) {i q w : Int} (h1 : -2147483648 ≤ i) (h2 : i < 2147483648) (h3 : -2147483648 ≤ q) (h4 : q < 2147483648) (h5 : -2147483648 ≤ w) (h6 : w < 2147483648) : Ok (f_X7_node m 0 (I i) (I q) (I w)) (fun t => t.1 = (rNode X i q w).1 ∧ CI t.2 (rNode X i q w).2 ∧ Fr m t.2 0 376) := by
  have hg : Option.bind (α := Int32) (if I w < (0 : Int32) then some (0 : Int32) else (if (5 : Int32) ≤ I w then some (0 : Int32) else some (1 : Int32))) = Option.bind (some (I (ind (0 ≤ w ∧ w < 5)))) (β := Int32 × Mm) := by
    congr 1
    by_cases c1 : w < 0
    · rw [ind_f (by omega)]; simp (disch := omega) only [L0, L1, L2, L3, L4, L5, L6, L7, L8, L9, L10, L11, L12, L13, L14, L15, L16, L17, L18, L19, L20, L21, L22, L23, L24, L25, L26, L27, L31, L32, L33, L36, L40, L41, L42, L47, L48, L57, L58, L59, L60, L61, L62, L65, L97, L101, L102, L103, L120, L126, L127, L144, L245, L1023, L1715, I_add, I_sub, I_mul, I_neg, I_lt, I_le, I_eq, Option.bind_some, if_pos, if_neg, if_true, if_false, ite_true, ite_false]
    · by_cases c2 : 5 ≤ w
      · rw [ind_f (by omega)]; simp (disch := omega) only [L0, L1, L2, L3, L4, L5, L6, L7, L8, L9, L10, L11, L12, L13, L14, L15, L16, L17, L18, L19, L20, L21, L22, L23, L24, L25, L26, L27, L31, L32, L33, L36, L40, L41, L42, L47, L48, L57, L58, L59, L60, L61, L62, L65, L97, L101, L102, L103, L120, L126, L127, L144, L245, L1023, L1715, I_add, I_sub, I_mul, I_neg, I_lt, I_le, I_eq, Option.bind_some, if_pos, if_neg, if_true, if_false, ite_true, ite_false]
      · rw [ind_t (by omega)]; simp (disch := omega) only [L0, L1, L2, L3, L4, L5, L6, L7, L8, L9, L10, L11, L12, L13, L14, L15, L16, L17, L18, L19, L20, L21, L22, L23, L24, L25, L26, L27, L31, L32, L33, L36, L40, L41, L42, L47, L48, L57, L58, L59, L60, L61, L62, L65, L97, L101, L102, L103, L120, L126, L127, L144, L245, L1023, L1715, I_add, I_sub, I_mul, I_neg, I_lt, I_le, I_eq, Option.bind_some, if_pos, if_neg, if_true, if_false, ite_true, ite_false]
  unfold f_X7_node
  rw [hg]
  have hnf := C_nodeFault h h1 h2 h3 h4 (g := ind (0 ≤ w ∧ w < 5)) (by unfold ind; split <;> omega)
  by_cases c : (0 ≤ i ∧ i < 4) ∧ 0 ≤ q ∧ 0 ≤ w ∧ w < 5
  · have hr : rNode X i q w = _ := if_pos c
    rw [hr]
    rw [ind_t c.2.2, if_pos (show (0 ≤ i ∧ i < 4) ∧ 0 ≤ q ∧ (1 : Int) = 1 by omega)] at hnf
    rw [ind_t c.2.2]
    by_cases c3 : q < tqn (fS X) i
    · rw [if_pos c3] at hnf ⊢
      obtain ⟨F, A, hat, hW⟩ := h.W c.1.1 c.1.2
      simp (disch := omega) only [h.self, hnf, Option.bind_some, if_pos, if_neg, if_true, if_false, ite_true, ite_false, L0, L1, L2, L3, L4, L5, L6, L7, L8, L9, L10, L11, L12, L13, L14, L15, L16, L17, L18, L19, L20, L21, L22, L23, L24, L25, L26, L27, L31, L32, L33, L36, L40, L41, L42, L47, L48, L57, L58, L59, L60, L61, L62, L65, L97, L101, L102, L103, L120, L126, L127, L144, L245, L1023, L1715, I_add, I_sub, I_mul, I_neg, I_lt, I_le, I_eq, h.now, h.tws, h.tw, a5_cO hat, W_property hat hW]
      exact Ok.pure ⟨rfl, h, Fr.rf⟩
    · rw [if_neg c3] at hnf ⊢
      simp (disch := omega) only [h.self, hnf, Option.bind_some, if_pos, if_neg, if_true, if_false, ite_true, ite_false, L0, L1, L2, L3, L4, L5, L6, L7, L8, L9, L10, L11, L12, L13, L14, L15, L16, L17, L18, L19, L20, L21, L22, L23, L24, L25, L26, L27, L31, L32, L33, L36, L40, L41, L42, L47, L48, L57, L58, L59, L60, L61, L62, L65, L97, L101, L102, L103, L120, L126, L127, L144, L245, L1023, L1715, I_add, I_sub, I_mul, I_neg, I_lt, I_le, I_eq]
      exact C_fail h (by omega)
  · have hr : rNode X i q w = _ := if_neg c
    rw [hr]
    rw [if_neg (fun z => c ⟨z.1, z.2.1, by have := z.2.2; unfold ind at this; split at this <;> omega⟩)] at hnf
    simp (disch := omega) only [h.self, hnf, Option.bind_some, if_pos, if_neg, if_true, if_false, ite_true, ite_false, L0, L1, L2, L3, L4, L5, L6, L7, L8, L9, L10, L11, L12, L13, L14, L15, L16, L17, L18, L19, L20, L21, L22, L23, L24, L25, L26, L27, L31, L32, L33, L36, L40, L41, L42, L47, L48, L57, L58, L59, L60, L61, L62, L65, L97, L101, L102, L103, L120, L126, L127, L144, L245, L1023, L1715, I_add, I_sub, I_mul, I_neg, I_lt, I_le, I_eq]
    exact C_fail h (by omega)
/-- a current twig is another one, in the same object -/
theorem CI.newW {m' : Mm} (h : CI m X) {i : Int} (h0 : 0 ≤ i) (h1 : i < 4) (hf : Fr m m' (9 + 7 * i.toNat) (16 + 7 * i.toNat)) {F : Nat → Int} {A : Nat → Int → Int} (ht : At m' (9 + 7 * i.toNat) (o5 (9 + 7 * i.toNat) F A)) {Q : Int} {nd : Int → Int → Int} (hW : WR F A Q nd) : CI m' ((tn (fS X), ttg (fS X), tvl (fS X), tlv (fS X), upZ (tqn (fS X)) i Q, upZ (tnd (fS X)) i nd), X.2) := by
  refine h.cur (hf.mono (by omega) (by omega)) ⟨h.2.2.1.1.fr hf (by omega), ?_, fun j hj => ?_⟩
  · obtain ⟨F, A, q1, q2⟩ := h.2.2.1.2.1
    exact ⟨F, A, q1.fr (fun off h => o4_N off h) hf (by omega), q2⟩
  · by_cases z : j = i.toNat
    · subst z
      refine ⟨F, A, ht, ?_⟩
      show WR F A (upZ (tqn (fS X)) i Q i.toNat) (upZ (tnd (fS X)) i nd i.toNat)
      rw [show ((i.toNat : Nat) : Int) = i by omega, upZ_at, upZ_at]
      exact hW
    · obtain ⟨F, A, q1, q2⟩ := h.2.2.1.2.2 j hj
      refine ⟨F, A, q1.fr (fun off h => o5_N off h) hf (by omega), ?_⟩
      show WR F A (upZ (tqn (fS X)) i Q j) (upZ (tnd (fS X)) i nd j)
      rw [upZ_ne (by omega), upZ_ne (by omega)]
      exact q2
theorem upZ_self {α : Type} {f : Int → α} {k : Int} : upZ f k (f k) = f := by
  funext j
  unfold upZ
  split
  · rename_i h; rw [h]
  · rfl
theorem C_forgets (h : CI m X) {i : Int} (h1 : -2147483648 ≤ i) (h2 : i < 2147483648) : Ok (f_X7_forgets m 0 (I i)) (fun t => t.1 = I (rForgets X i).1 ∧ CI t.2 (rForgets X i).2 ∧ Fr m t.2 0 376) := by
  unfold f_X7_forgets
  have hnf := C_twigFault h h1 h2 (g := 1) (by omega)
  simp only [L1, h.self]
  by_cases c : 0 ≤ i ∧ i < 4
  · have hr : rForgets X i = _ := if_pos c
    rw [hr]
    rw [if_pos (show (0 ≤ i ∧ i < 4) ∧ (1 : Int) = 1 by omega)] at hnf
    by_cases c3 : tqn (fS X) i = 0
    · rw [if_pos c3] at hnf ⊢
      simp (disch := omega) only [hnf, Option.bind_some, if_pos, if_neg, if_true, if_false, ite_true, ite_false, L0, L1, L2, L3, L4, L5, L6, L7, L8, L9, L10, L11, L12, L13, L14, L15, L16, L17, L18, L19, L20, L21, L22, L23, L24, L25, L26, L27, L31, L32, L33, L36, L40, L41, L42, L47, L48, L57, L58, L59, L60, L61, L62, L65, L97, L101, L102, L103, L120, L126, L127, L144, L245, L1023, L1715, I_add, I_sub, I_mul, I_neg, I_lt, I_le, I_eq]
      exact C_fail h (by omega)
    · rw [if_neg c3] at hnf ⊢
      simp (disch := omega) only [hnf, Option.bind_some, if_pos, if_neg, if_true, if_false, ite_true, ite_false, L0, L1, L2, L3, L4, L5, L6, L7, L8, L9, L10, L11, L12, L13, L14, L15, L16, L17, L18, L19, L20, L21, L22, L23, L24, L25, L26, L27, L31, L32, L33, L36, L40, L41, L42, L47, L48, L57, L58, L59, L60, L61, L62, L65, L97, L101, L102, L103, L120, L126, L127, L144, L245, L1023, L1715, I_add, I_sub, I_mul, I_neg, I_lt, I_le, I_eq]
      refine Ok.bind (C_keep h) ?_
      rintro m1 ⟨h', hf1⟩
      obtain ⟨F, A, hat, hW⟩ := h'.W c.1 c.2
      have hF := hW.1
      have hp := o5_p0 (m := m1) (a := 9 + 7 * i.toNat) (F := F) (A := A) (v := 0) (a5_len hat)
      rw [hat.ov] at hp
      simp (disch := omega) only [Option.bind_some, if_pos, if_neg, if_true, if_false, ite_true, ite_false, L0, L1, L2, L3, L4, L5, L6, L7, L8, L9, L10, L11, L12, L13, L14, L15, L16, L17, L18, L19, L20, L21, L22, L23, L24, L25, L26, L27, L31, L32, L33, L36, L40, L41, L42, L47, L48, L57, L58, L59, L60, L61, L62, L65, L97, L101, L102, L103, L120, L126, L127, L144, L245, L1023, L1715, I_add, I_sub, I_mul, I_neg, I_lt, I_le, I_eq, h'.now, h'.tws, h'.tw, a5_cO hat, a5_g0 hat, a5_g1 hat, a5_g2 hat, a5_g3 hat, a5_g4 hat, a5_g5 hat, a5_g6 hat, a5_l1 hat, a5_l2 hat, a5_l3 hat, a5_l4 hat, a5_l5 hat, a5_l6 hat, hp]
      have hf2 : Fr m1 (ov m1 (9 + 7 * i.toNat) (o5 (9 + 7 * i.toNat) (upN F 0 0) A)) (9 + 7 * i.toNat) (9 + 7 * i.toNat + 6 + 1) := Fr.ov (fun off h => o5_N off h)
      have hW2 : WR (upN F 0 0) A 0 (tnd (fS X) i) := ⟨upN_at, ⟨by omega, by omega, fun q q0 q1 => by omega⟩, fun q q0 q1 => by omega⟩
      have hci := h'.newW c.1 c.2 (hf2.mono (by omega) (by omega)) (o5_At (a5_len hat)) hW2
      rw [pushK_S, upZ_self] at hci
      refine Ok.pure ⟨by rw [hF, pushK_S], hci, hf1.tr (hf2.mono (by omega) (by omega))⟩
  · have hr : rForgets X i = _ := if_neg c
    rw [hr]
    rw [if_neg (fun z => c z.1)] at hnf
    simp (disch := omega) only [hnf, Option.bind_some, if_pos, if_neg, if_true, if_false, ite_true, ite_false, L0, L1, L2, L3, L4, L5, L6, L7, L8, L9, L10, L11, L12, L13, L14, L15, L16, L17, L18, L19, L20, L21, L22, L23, L24, L25, L26, L27, L31, L32, L33, L36, L40, L41, L42, L47, L48, L57, L58, L59, L60, L61, L62, L65, L97, L101, L102, L103, L120, L126, L127, L144, L245, L1023, L1715, I_add, I_sub, I_mul, I_neg, I_lt, I_le, I_eq]
    exact C_fail h (by omega)
theorem C_nodes (h : CI m X) {i : Int} (h1 : -2147483648 ≤ i) (h2 : i < 2147483648) : Ok (f_X7_nodes m 0 (I i)) (fun t => t.1 = I (rNodes X i).1 ∧ CI t.2 (rNodes X i).2 ∧ Fr m t.2 0 376) := by
  unfold f_X7_nodes
  by_cases c : 0 ≤ i ∧ i < 4
  · have hr : rNodes X i = _ := if_pos c
    rw [hr]
    obtain ⟨F, A, hat, hW⟩ := h.W c.1 c.2
    simp (disch := omega) only [C_isTwig, ind_t c, Option.bind_some, if_pos, if_neg, if_true, if_false, ite_true, ite_false, L0, L1, L2, L3, L4, L5, L6, L7, L8, L9, L10, L11, L12, L13, L14, L15, L16, L17, L18, L19, L20, L21, L22, L23, L24, L25, L26, L27, L31, L32, L33, L36, L40, L41, L42, L47, L48, L57, L58, L59, L60, L61, L62, L65, L97, L101, L102, L103, L120, L126, L127, L144, L245, L1023, L1715, I_add, I_sub, I_mul, I_neg, I_lt, I_le, I_eq, h.now, h.tws, h.tw, a5_cO hat, a5_g0 hat, a5_g1 hat, a5_g2 hat, a5_g3 hat, a5_g4 hat, a5_g5 hat, a5_g6 hat, a5_l1 hat, a5_l2 hat, a5_l3 hat, a5_l4 hat, a5_l5 hat, a5_l6 hat]
    exact Ok.pure ⟨by rw [hW.1], h, Fr.rf⟩
  · have hr : rNodes X i = _ := if_neg c
    rw [hr]
    simp (disch := omega) only [C_isTwig, ind_f c, Option.bind_some, if_pos, if_neg, if_true, if_false, ite_true, ite_false, L0, L1, L2, L3, L4, L5, L6, L7, L8, L9, L10, L11, L12, L13, L14, L15, L16, L17, L18, L19, L20, L21, L22, L23, L24, L25, L26, L27, L31, L32, L33, L36, L40, L41, L42, L47, L48, L57, L58, L59, L60, L61, L62, L65, L97, L101, L102, L103, L120, L126, L127, L144, L245, L1023, L1715, I_add, I_sub, I_mul, I_neg, I_lt, I_le, I_eq, h.self]
    exact C_fail h (by omega)
theorem C_existing (h : CI m X) : f_X2_existing m 1 = some (bs (fun i => 0 < tqn (fS X) i) 4) := by
  unfold f_X2_existing
  refine Ok.eq (Ok.bind (P := fun r => r = bs (fun i => 0 < tqn (fS X) i) 4) ?_ (fun r hr => Ok.pure hr))
  simp only [L0]
  refine Ok.whl (fun j s => ∃ i, s = (bs (fun i => 0 < tqn (fS X) i) i.toNat, I i) ∧ 0 ≤ i ∧ i ≤ 4 ∧ j = (4 - i).toNat) _ (j := 4) ?_ ⟨0, rfl, by omega, by omega, rfl⟩ (FU_lt (by omega))
  rintro j s ⟨i, rfl, i0, i1, rfl⟩
  dsimp only
  unfold f_X2_existing_L4
  by_cases c : 4 ≤ i
  · simp (disch := omega) only [L0, L1, L2, L3, L4, L5, L6, L7, L8, L9, L10, L11, L12, L13, L14, L15, L16, L17, L18, L19, L20, L21, L22, L23, L24, L25, L26, L27, L31, L32, L33, L36, L40, L41, L42, L47, L48, L57, L58, L59, L60, L61, L62, L65, L97, L101, L102, L103, L120, L126, L127, L144, L245, L1023, L1715, I_add, I_sub, I_mul, I_neg, I_lt, I_le, I_eq, Option.bind_some, if_pos, if_neg, if_true, if_false, ite_true, ite_false]
    exact Ok.pure (Or.inr ⟨_, rfl, by rw [show i.toNat = 4 by omega]⟩)
  · obtain ⟨F, A, hat, hW⟩ := h.W i0 (by omega)
    have hF := hW.1
    have h6 := hW.2.1.2.1
    have h60 := hW.2.1.1
    by_cases c2 : 0 < tqn (fS X) i
    · simp (disch := omega) only [L0, L1, L2, L3, L4, L5, L6, L7, L8, L9, L10, L11, L12, L13, L14, L15, L16, L17, L18, L19, L20, L21, L22, L23, L24, L25, L26, L27, L31, L32, L33, L36, L40, L41, L42, L47, L48, L57, L58, L59, L60, L61, L62, L65, L97, L101, L102, L103, L120, L126, L127, L144, L245, L1023, L1715, I_add, I_sub, I_mul, I_neg, I_lt, I_le, I_eq, h.tws, h.tw, a5_cO hat, a5_g0 hat, a5_g1 hat, a5_g2 hat, a5_g3 hat, a5_g4 hat, a5_g5 hat, a5_g6 hat, a5_l1 hat, a5_l2 hat, a5_l3 hat, a5_l4 hat, a5_l5 hat, a5_l6 hat, Option.bind_some, if_pos, if_neg, if_true, if_false, ite_true, ite_false]
      exact Ok.pure (Or.inl ⟨_, (4 - (i + 1)).toNat, rfl, ⟨i + 1, by rw [bs_t i0 c2], by omega, by omega, rfl⟩, by omega⟩)
    · simp (disch := omega) only [L0, L1, L2, L3, L4, L5, L6, L7, L8, L9, L10, L11, L12, L13, L14, L15, L16, L17, L18, L19, L20, L21, L22, L23, L24, L25, L26, L27, L31, L32, L33, L36, L40, L41, L42, L47, L48, L57, L58, L59, L60, L61, L62, L65, L97, L101, L102, L103, L120, L126, L127, L144, L245, L1023, L1715, I_add, I_sub, I_mul, I_neg, I_lt, I_le, I_eq, h.tws, h.tw, a5_cO hat, a5_g0 hat, a5_g1 hat, a5_g2 hat, a5_g3 hat, a5_g4 hat, a5_g5 hat, a5_g6 hat, a5_l1 hat, a5_l2 hat, a5_l3 hat, a5_l4 hat, a5_l5 hat, a5_l6 hat, Option.bind_some, if_pos, if_neg, if_true, if_false, ite_true, ite_false]
      exact Ok.pure (Or.inl ⟨_, (4 - (i + 1)).toNat, rfl, ⟨i + 1, by rw [bs_f i0 c2], by omega, by omega, rfl⟩, by omega⟩)
theorem C_tally (h : CI m X) {w : Int} (h1 : 0 ≤ w) (h2 : w < 7) : f_X7_tally m 0 (I w) = some (rTally X w) := by
  have hci := h
  obtain ⟨g1, ⟨F, A, a1, a2, a3, a4, a5, a6, a7, a8, a9, -⟩, g3, ⟨F2, A2, t1, t2, t3, t4, t5, t6⟩, g5⟩ := h
  obtain ⟨F3, A3, hat, hT⟩ := hci.T
  unfold f_X7_tally
  have hc : w = 0 ∨ w = 1 ∨ w = 2 ∨ w = 3 ∨ w = 4 ∨ w = 5 ∨ w = 6 := by omega
  rcases hc with rfl | rfl | rfl | rfl | rfl | rfl | rfl
  · simp (disch := omega) only [L0, L1, L2, L3, L4, L5, L6, L7, L8, L9, L10, L11, L12, L13, L14, L15, L16, L17, L18, L19, L20, L21, L22, L23, L24, L25, L26, L27, L31, L32, L33, L36, L40, L41, L42, L47, L48, L57, L58, L59, L60, L61, L62, L65, L97, L101, L102, L103, L120, L126, L127, L144, L245, L1023, L1715, I_add, I_sub, I_mul, I_neg, I_lt, I_le, I_eq, a7_cO a1, a7_g0 a1, a7_g1 a1, a7_g2 a1, a7_g3 a1, a7_g4 a1, a7_g5 a1, a7_g6 a1, a7_g7 a1, a7_g8 a1, a7_g9 a1, a7_g10 a1, a7_g11 a1, a7_g12 a1, Option.bind_some, if_pos, if_neg, if_true, if_false, ite_true, ite_false]; rw [a7]; rfl
  · simp (disch := omega) only [L0, L1, L2, L3, L4, L5, L6, L7, L8, L9, L10, L11, L12, L13, L14, L15, L16, L17, L18, L19, L20, L21, L22, L23, L24, L25, L26, L27, L31, L32, L33, L36, L40, L41, L42, L47, L48, L57, L58, L59, L60, L61, L62, L65, L97, L101, L102, L103, L120, L126, L127, L144, L245, L1023, L1715, I_add, I_sub, I_mul, I_neg, I_lt, I_le, I_eq, a7_cO a1, a7_g0 a1, a7_g1 a1, a7_g2 a1, a7_g3 a1, a7_g4 a1, a7_g5 a1, a7_g6 a1, a7_g7 a1, a7_g8 a1, a7_g9 a1, a7_g10 a1, a7_g11 a1, a7_g12 a1, Option.bind_some, if_pos, if_neg, if_true, if_false, ite_true, ite_false]; rw [a8]; rfl
  · simp (disch := omega) only [L0, L1, L2, L3, L4, L5, L6, L7, L8, L9, L10, L11, L12, L13, L14, L15, L16, L17, L18, L19, L20, L21, L22, L23, L24, L25, L26, L27, L31, L32, L33, L36, L40, L41, L42, L47, L48, L57, L58, L59, L60, L61, L62, L65, L97, L101, L102, L103, L120, L126, L127, L144, L245, L1023, L1715, I_add, I_sub, I_mul, I_neg, I_lt, I_le, I_eq, a7_cO a1, a7_g0 a1, a7_g1 a1, a7_g2 a1, a7_g3 a1, a7_g4 a1, a7_g5 a1, a7_g6 a1, a7_g7 a1, a7_g8 a1, a7_g9 a1, a7_g10 a1, a7_g11 a1, a7_g12 a1, Option.bind_some, if_pos, if_neg, if_true, if_false, ite_true, ite_false]; rw [a9]; rfl
  · simp (disch := omega) only [L0, L1, L2, L3, L4, L5, L6, L7, L8, L9, L10, L11, L12, L13, L14, L15, L16, L17, L18, L19, L20, L21, L22, L23, L24, L25, L26, L27, L31, L32, L33, L36, L40, L41, L42, L47, L48, L57, L58, L59, L60, L61, L62, L65, L97, L101, L102, L103, L120, L126, L127, L144, L245, L1023, L1715, I_add, I_sub, I_mul, I_neg, I_lt, I_le, I_eq, a7_cO a1, a7_g0 a1, a7_g1 a1, a7_g2 a1, a7_g3 a1, a7_g4 a1, a7_g5 a1, a7_g6 a1, a7_g7 a1, a7_g8 a1, a7_g9 a1, a7_g10 a1, a7_g11 a1, a7_g12 a1, hci.tree, a4_cO hat, a4_g0 hat, a4_g1 hat, a4_g2 hat, a4_g3 hat, a4_g4 hat, a4_g5 hat, a4_l1 hat, a4_l2 hat, a4_l3 hat, a4_l4 hat, a4_l5 hat, Option.bind_some, if_pos, if_neg, if_true, if_false, ite_true, ite_false]; rw [hT.1]; rfl
  · simp (disch := omega) only [L0, L1, L2, L3, L4, L5, L6, L7, L8, L9, L10, L11, L12, L13, L14, L15, L16, L17, L18, L19, L20, L21, L22, L23, L24, L25, L26, L27, L31, L32, L33, L36, L40, L41, L42, L47, L48, L57, L58, L59, L60, L61, L62, L65, L97, L101, L102, L103, L120, L126, L127, L144, L245, L1023, L1715, I_add, I_sub, I_mul, I_neg, I_lt, I_le, I_eq, a7_cO a1, a7_g0 a1, a7_g1 a1, a7_g2 a1, a7_g3 a1, a7_g4 a1, a7_g5 a1, a7_g6 a1, a7_g7 a1, a7_g8 a1, a7_g9 a1, a7_g10 a1, a7_g11 a1, a7_g12 a1, hci.st, C_existing hci, Option.bind_some, if_pos, if_neg, if_true, if_false, ite_true, ite_false]; rfl
  · simp (disch := omega) only [L0, L1, L2, L3, L4, L5, L6, L7, L8, L9, L10, L11, L12, L13, L14, L15, L16, L17, L18, L19, L20, L21, L22, L23, L24, L25, L26, L27, L31, L32, L33, L36, L40, L41, L42, L47, L48, L57, L58, L59, L60, L61, L62, L65, L97, L101, L102, L103, L120, L126, L127, L144, L245, L1023, L1715, I_add, I_sub, I_mul, I_neg, I_lt, I_le, I_eq, a7_cO a1, a7_g0 a1, a7_g1 a1, a7_g2 a1, a7_g3 a1, a7_g4 a1, a7_g5 a1, a7_g6 a1, a7_g7 a1, a7_g8 a1, a7_g9 a1, a7_g10 a1, a7_g11 a1, a7_g12 a1, a3_cO t1, a3_g0 t1, a3_g1 t1, a3_g2 t1, a3_l1 t1, Option.bind_some, if_pos, if_neg, if_true, if_false, ite_true, ite_false]; rw [t2]; rfl
  · simp (disch := omega) only [L0, L1, L2, L3, L4, L5, L6, L7, L8, L9, L10, L11, L12, L13, L14, L15, L16, L17, L18, L19, L20, L21, L22, L23, L24, L25, L26, L27, L31, L32, L33, L36, L40, L41, L42, L47, L48, L57, L58, L59, L60, L61, L62, L65, L97, L101, L102, L103, L120, L126, L127, L144, L245, L1023, L1715, I_add, I_sub, I_mul, I_neg, I_lt, I_le, I_eq, a7_cO a1, a7_g0 a1, a7_g1 a1, a7_g2 a1, a7_g3 a1, a7_g4 a1, a7_g5 a1, a7_g6 a1, a7_g7 a1, a7_g8 a1, a7_g9 a1, a7_g10 a1, a7_g11 a1, a7_g12 a1, Option.bind_some, if_pos, if_neg, if_true, if_false, ite_true, ite_false]; rw [a4]; rfl
theorem C_told (h : CI m X) {w : Int} (h1 : -2147483648 ≤ w) (h2 : w < 2147483648) : Ok (f_X7_told m 0 (I w)) (fun t => t.1 = (rTold X w).1 ∧ CI t.2 (rTold X w).2 ∧ Fr m t.2 0 376) := by
  unfold f_X7_told
  by_cases c1 : w < 0
  · have hr : rTold X w = _ := if_neg (show ¬ (0 ≤ w ∧ w < 7) by omega)
    rw [hr]
    simp (disch := omega) only [L0, L1, L2, L3, L4, L5, L6, L7, L8, L9, L10, L11, L12, L13, L14, L15, L16, L17, L18, L19, L20, L21, L22, L23, L24, L25, L26, L27, L31, L32, L33, L36, L40, L41, L42, L47, L48, L57, L58, L59, L60, L61, L62, L65, L97, L101, L102, L103, L120, L126, L127, L144, L245, L1023, L1715, I_add, I_sub, I_mul, I_neg, I_lt, I_le, I_eq, h.self, Option.bind_some, if_pos, if_neg, if_true, if_false, ite_true, ite_false]
    exact C_fail h (by omega)
  · by_cases c2 : 7 ≤ w
    · have hr : rTold X w = _ := if_neg (show ¬ (0 ≤ w ∧ w < 7) by omega)
      rw [hr]
      simp (disch := omega) only [L0, L1, L2, L3, L4, L5, L6, L7, L8, L9, L10, L11, L12, L13, L14, L15, L16, L17, L18, L19, L20, L21, L22, L23, L24, L25, L26, L27, L31, L32, L33, L36, L40, L41, L42, L47, L48, L57, L58, L59, L60, L61, L62, L65, L97, L101, L102, L103, L120, L126, L127, L144, L245, L1023, L1715, I_add, I_sub, I_mul, I_neg, I_lt, I_le, I_eq, h.self, Option.bind_some, if_pos, if_neg, if_true, if_false, ite_true, ite_false]
      exact C_fail h (by omega)
    · have hr : rTold X w = _ := if_pos (show 0 ≤ w ∧ w < 7 by omega)
      rw [hr]
      simp (disch := omega) only [L0, L1, L2, L3, L4, L5, L6, L7, L8, L9, L10, L11, L12, L13, L14, L15, L16, L17, L18, L19, L20, L21, L22, L23, L24, L25, L26, L27, L31, L32, L33, L36, L40, L41, L42, L47, L48, L57, L58, L59, L60, L61, L62, L65, L97, L101, L102, L103, L120, L126, L127, L144, L245, L1023, L1715, I_add, I_sub, I_mul, I_neg, I_lt, I_le, I_eq, h.self, C_tally h, Option.bind_some, if_pos, if_neg, if_true, if_false, ite_true, ite_false]
      exact Ok.pure ⟨rfl, h, Fr.rf⟩
/-- the text's cells change -/
theorem CI.newX {m' : Mm} (h : CI m X) (hf : Fr m m' 38 40) {X' : FS} (e1 : fS X' = fS X) (e2 : fks X' = fks X) (e3 : fkp X' = fkp X) (e4 : fb0 X' = fb0 X) (e5 : fb1 X' = fb1 X) (e6 : fb2 X' = fb2 X) (ht : CT m' X') : CI m' X' := by
  obtain ⟨g1, g2, g3, g4, g5⟩ := h
  refine ⟨by rw [hf.1]; exact g1, ?_, by rw [e1]; exact g3.fr hf (by omega), ht, g5.fr hf (by omega)⟩
  have := g2.fr hf (by omega) (by omega)
  unfold CM at *
  rw [e2, e3, e4, e5, e6]
  exact this
theorem C_type (h : CI m X) {c : Int} (h1 : -2147483648 ≤ c) (h2 : c < 2147483648) : Ok (f_X7_type m 0 (I c)) (fun t => t.1 = I (rType X c).1 ∧ CI t.2 (rType X c).2 ∧ Fr m t.2 0 376) := by
  have hci := h
  obtain ⟨F, A, a1⟩ := h.main
  obtain ⟨g1, g2, g3, ⟨F2, A2, t1, t2, t3, t4, t5, t6⟩, g5⟩ := h
  unfold f_X7_type
  by_cases c1 : 0 ≤ c ∧ c ≤ 127
  · have hr : rType X c = _ := if_pos c1
    rw [hr]
    by_cases c2 : fln X < 120
    · rw [if_pos c2]
      have hl3 := a3_len t1
      have hf1 : ∀ F3 A3, Fr m (ov m 38 (o3 38 F3 A3)) 38 40 := fun F3 A3 => (Fr.ov (N := 1) (fun off h => o3_N off h))
      have hs := o3_s1 (m := m) (a := 38) (F := F2) (A := A2) (i := F2 1) (v := c) hl3 (by omega) (by omega)
      rw [t1.ov] at hs
      generalize hm1 : ov m 38 (o3 38 F2 (upN A2 1 (upZ (A2 1) (F2 1) c))) = m1 at hs
      have b1 : At m1 0 (o7 0 F A) := by rw [← hm1]; exact a1.fr (K := 0) (fun off h => o7_N off h) (hf1 _ _) (by omega)
      have b2 : At m1 38 (o3 38 F2 (upN A2 1 (upZ (A2 1) (F2 1) c))) := by rw [← hm1]; exact o3_At hl3
      have hp := o3_p1 (m := m) (a := 38) (F := F2) (A := upN A2 1 (upZ (A2 1) (F2 1) c)) (v := F2 1 + 1) hl3
      rw [hm1] at hp
      generalize hm2 : ov m 38 (o3 38 (upN F2 1 (F2 1 + 1)) (upN A2 1 (upZ (A2 1) (F2 1) c))) = m2 at hp
      have b3 : At m2 0 (o7 0 F A) := by rw [← hm2]; exact a1.fr (K := 0) (fun off h => o7_N off h) (hf1 _ _) (by omega)
      have b4 : At m2 38 (o3 38 (upN F2 1 (F2 1 + 1)) (upN A2 1 (upZ (A2 1) (F2 1) c))) := by rw [← hm2]; exact o3_At hl3
      simp (disch := omega) only [L0, L1, L2, L3, L4, L5, L6, L7, L8, L9, L10, L11, L12, L13, L14, L15, L16, L17, L18, L19, L20, L21, L22, L23, L24, L25, L26, L27, L31, L32, L33, L36, L40, L41, L42, L47, L48, L57, L58, L59, L60, L61, L62, L65, L97, L101, L102, L103, L120, L126, L127, L144, L245, L1023, L1715, I_add, I_sub, I_mul, I_neg, I_lt, I_le, I_eq, a7_g4 a1, a7_g4 b1, a7_g4 b3, a3_g0 t1, a3_g1 t1, a3_g1 b2, a3_g1 b4, hs, hp, upN_at, Option.bind_some, if_pos, if_neg, if_true, if_false, ite_true, ite_false]
      have hfr : Fr m m2 38 40 := by rw [← hm2]; exact hf1 _ _
      refine Ok.pure ⟨by rw [t2], hci.newX hfr rfl rfl rfl rfl rfl rfl ⟨_, _, b4, by rw [upN_at, t2], by show 0 ≤ fln X + 1; omega, by show fln X + 1 ≤ 120; omega, t5, fun k k0 k1 => ?_⟩, hfr.mono (by omega) (by omega)⟩
      have k1 : k < fln X + 1 := k1
      rw [upN_at, t2]
      show upZ (A2 1) (fln X) c k = upZ (ftx X) (fln X) c k ∧ 0 ≤ upZ (ftx X) (fln X) c k ∧ upZ (ftx X) (fln X) c k ≤ 127
      by_cases z : k = fln X
      · rw [z, upZ_at, upZ_at]; exact ⟨rfl, c1⟩
      · rw [upZ_ne z, upZ_ne z]; exact t6 k k0 (by omega)
    · rw [if_neg c2]
      simp (disch := omega) only [L0, L1, L2, L3, L4, L5, L6, L7, L8, L9, L10, L11, L12, L13, L14, L15, L16, L17, L18, L19, L20, L21, L22, L23, L24, L25, L26, L27, L31, L32, L33, L36, L40, L41, L42, L47, L48, L57, L58, L59, L60, L61, L62, L65, L97, L101, L102, L103, L120, L126, L127, L144, L245, L1023, L1715, I_add, I_sub, I_mul, I_neg, I_lt, I_le, I_eq, a7_g4 a1, a3_g1 t1, hci.self, Option.bind_some, if_pos, if_neg, if_true, if_false, ite_true, ite_false]
      exact C_fail hci (by omega)
  · have hr : rType X c = _ := if_neg c1
    rw [hr]
    by_cases c2 : c < 0
    · simp (disch := omega) only [L0, L1, L2, L3, L4, L5, L6, L7, L8, L9, L10, L11, L12, L13, L14, L15, L16, L17, L18, L19, L20, L21, L22, L23, L24, L25, L26, L27, L31, L32, L33, L36, L40, L41, L42, L47, L48, L57, L58, L59, L60, L61, L62, L65, L97, L101, L102, L103, L120, L126, L127, L144, L245, L1023, L1715, I_add, I_sub, I_mul, I_neg, I_lt, I_le, I_eq, hci.self, Option.bind_some, if_pos, if_neg, if_true, if_false, ite_true, ite_false]
      exact C_fail hci (by omega)
    · simp (disch := omega) only [L0, L1, L2, L3, L4, L5, L6, L7, L8, L9, L10, L11, L12, L13, L14, L15, L16, L17, L18, L19, L20, L21, L22, L23, L24, L25, L26, L27, L31, L32, L33, L36, L40, L41, L42, L47, L48, L57, L58, L59, L60, L61, L62, L65, L97, L101, L102, L103, L120, L126, L127, L144, L245, L1023, L1715, I_add, I_sub, I_mul, I_neg, I_lt, I_le, I_eq, hci.self, Option.bind_some, if_pos, if_neg, if_true, if_false, ite_true, ite_false]
      exact C_fail hci (by omega)
theorem C_clear (h : CI m X) : Ok (f_X7_clear m 0) (fun t => t.1 = I (rClear X).1 ∧ CI t.2 (rClear X).2 ∧ Fr m t.2 0 376) := by
  have hci := h
  obtain ⟨F, A, a1⟩ := h.main
  obtain ⟨g1, g2, g3, ⟨F2, A2, t1, t2, t3, t4, t5, t6⟩, g5⟩ := h
  unfold f_X7_clear
  have hl3 := a3_len t1
  have hp := o3_p1 (m := m) (a := 38) (F := F2) (A := A2) (v := 0) hl3
  rw [t1.ov] at hp
  simp (disch := omega) only [L0, L1, L2, L3, L4, L5, L6, L7, L8, L9, L10, L11, L12, L13, L14, L15, L16, L17, L18, L19, L20, L21, L22, L23, L24, L25, L26, L27, L31, L32, L33, L36, L40, L41, L42, L47, L48, L57, L58, L59, L60, L61, L62, L65, L97, L101, L102, L103, L120, L126, L127, L144, L245, L1023, L1715, I_add, I_sub, I_mul, I_neg, I_lt, I_le, I_eq, a7_g4 a1, a3_g1 t1, hp, Option.bind_some, if_pos, if_neg, if_true, if_false, ite_true, ite_false]
  have hfr : Fr m (ov m 38 (o3 38 (upN F2 1 0) A2)) 38 40 := Fr.ov (N := 1) (fun off h => o3_N off h)
  refine Ok.pure ⟨by rw [t2]; rfl, hci.newX hfr rfl rfl rfl rfl rfl rfl ⟨_, _, o3_At hl3, rfl, by show (0 : Int) ≤ 0; omega, by show (0 : Int) ≤ 120; omega, t5, fun k k0 k1 => ?_⟩, hfr.mono (by omega) (by omega)⟩
  have k1 : k < 0 := k1
  omega
theorem C_why (h : CI m X) : f_X7_why m 0 = some (I (fwy X)) := by
  obtain ⟨F, A, a1⟩ := h.main
  obtain ⟨g1, g2, g3, ⟨F2, A2, t1, t2, t3, t4, t5, t6⟩, g5⟩ := h
  unfold f_X7_why
  simp (disch := omega) only [a7_g4 a1, a3_g2 t1, Option.bind_some, if_pos, if_neg, if_true, if_false, ite_true, ite_false]
  rw [t5]
end CASK
