/-! ===== the reference: its tree ===== -/
def cp3 (A : Nat → Int → Int) (to fr : Int) : Nat → Int → Int := upN (upN (upN A 2 (upZ (A 2) to (A 2 fr))) 3 (upZ (A 3) to (A 3 fr))) 4 (upZ (A 4) to (A 4 fr))
theorem cp3_2 {A : Nat → Int → Int} {t f : Int} : cp3 A t f 2 = upZ (A 2) t (A 2 f) := rfl
theorem cp3_3 {A : Nat → Int → Int} {t f : Int} : cp3 A t f 3 = upZ (A 3) t (A 3 f) := rfl
theorem cp3_4 {A : Nat → Int → Int} {t f : Int} : cp3 A t f 4 = upZ (A 4) t (A 4 f) := rfl
theorem cp3_o {A : Nat → Int → Int} {t f : Int} {i : Nat} (h1 : i ≠ 2) (h2 : i ≠ 3) (h3 : i ≠ 4) : cp3 A t f i = A i := by simp [cp3, upN, h1, h2, h3]
/-- the reference holds the tree n, tg, vl, lv -/
def MT (F : Nat → Int) (A : Nat → Int → Int) (n : Int) (tg vl lv : Int → Int) : Prop :=
  F 1 = n ∧ WL n lv ∧ ∀ k, 0 ≤ k → k < n → A 2 k = tg k ∧ A 3 k = vl k ∧ A 4 k = lv k ∧ A 5 k = enF n lv k ∧ A 6 k = prF lv k ∧ 0 ≤ tg k ∧ tg k ≤ 5 ∧ 0 ≤ vl k ∧ vl k ≤ 9
section MTREE
variable {m : Mm} {a : Nat} {F : Nat → Int} {A : Nat → Int → Int} {n : Int} {tg vl lv : Int → Int}
theorem D_in {x y z : Int} (h1 : -2147483648 ≤ x) (h2 : x < 2147483648) (h3 : -2147483648 ≤ y) (h4 : y < 2147483648) (h5 : -2147483648 ≤ z) (h6 : z < 2147483648) : f_X8_in m (I x) (I y) (I z) = some (I (ind (y ≤ x ∧ x ≤ z))) := by
  unfold f_X8_in
  by_cases c1 : x < y
  · rw [ind_f (by omega)]
    simp (disch := omega) only [L0, L1, L2, L3, L4, L5, L6, L7, L8, L9, L10, L11, L12, L13, L14, L15, L16, L17, L18, L19, L20, L21, L22, L23, L24, L25, L26, L27, L31, L32, L33, L36, L40, L41, L42, L47, L48, L57, L58, L59, L60, L61, L62, L65, L97, L101, L102, L103, L120, L126, L127, L144, L245, L1023, L1715, I_add, I_sub, I_mul, I_neg, I_lt, I_le, I_eq, Option.bind_some, if_pos, if_neg, if_true, if_false, ite_true, ite_false]
  · by_cases c2 : z < x
    · rw [ind_f (by omega)]
      simp (disch := omega) only [L0, L1, L2, L3, L4, L5, L6, L7, L8, L9, L10, L11, L12, L13, L14, L15, L16, L17, L18, L19, L20, L21, L22, L23, L24, L25, L26, L27, L31, L32, L33, L36, L40, L41, L42, L47, L48, L57, L58, L59, L60, L61, L62, L65, L97, L101, L102, L103, L120, L126, L127, L144, L245, L1023, L1715, I_add, I_sub, I_mul, I_neg, I_lt, I_le, I_eq, Option.bind_some, if_pos, if_neg, if_true, if_false, ite_true, ite_false]
    · rw [ind_t (by omega)]
      simp (disch := omega) only [L0, L1, L2, L3, L4, L5, L6, L7, L8, L9, L10, L11, L12, L13, L14, L15, L16, L17, L18, L19, L20, L21, L22, L23, L24, L25, L26, L27, L31, L32, L33, L36, L40, L41, L42, L47, L48, L57, L58, L59, L60, L61, L62, L65, L97, L101, L102, L103, L120, L126, L127, L144, L245, L1023, L1715, I_add, I_sub, I_mul, I_neg, I_lt, I_le, I_eq, Option.bind_some, if_pos, if_neg, if_true, if_false, ite_true, ite_false]
theorem cB_ind {α : Type} {p : Prop} [Decidable p] {x : Option α} : cB (I (ind p)) x = x := by
  unfold cB ind
  split
  · exact if_pos (Or.inr rfl)
  · exact if_pos (Or.inl rfl)
theorem D_isElement (h : At m a (o8 a F A)) {e : Int} (h1 : -2147483648 ≤ e) (h2 : e < 2147483648) (h3 : 0 ≤ F 1) (h4 : F 1 ≤ 32) : f_X8_isElement m a (I e) = some (I (ind (0 ≤ e ∧ e < F 1))) := by
  unfold f_X8_isElement
  simp (disch := omega) only [L0, L1, L2, L3, L4, L5, L6, L7, L8, L9, L10, L11, L12, L13, L14, L15, L16, L17, L18, L19, L20, L21, L22, L23, L24, L25, L26, L27, L31, L32, L33, L36, L40, L41, L42, L47, L48, L57, L58, L59, L60, L61, L62, L65, L97, L101, L102, L103, L120, L126, L127, L144, L245, L1023, L1715, I_add, I_sub, I_mul, I_neg, I_lt, I_le, I_eq, a8_g1 h, Option.bind_some, if_pos, if_neg, if_true, if_false, ite_true, ite_false, D_in, cB_ind]
  rw [ind_congr (show (0 ≤ e ∧ e ≤ F 1 - 1) ↔ (0 ≤ e ∧ e < F 1) by omega)]
theorem D_isTwig {e : Int} (h1 : -2147483648 ≤ e) (h2 : e < 2147483648) : f_X8_isTwig m (I e) = some (I (ind (0 ≤ e ∧ e < 4))) := by
  unfold f_X8_isTwig
  simp (disch := omega) only [L0, L1, L2, L3, L4, L5, L6, L7, L8, L9, L10, L11, L12, L13, L14, L15, L16, L17, L18, L19, L20, L21, L22, L23, L24, L25, L26, L27, L31, L32, L33, L36, L40, L41, L42, L47, L48, L57, L58, L59, L60, L61, L62, L65, L97, L101, L102, L103, L120, L126, L127, L144, L245, L1023, L1715, I_add, I_sub, I_mul, I_neg, I_lt, I_le, I_eq, Option.bind_some, if_pos, if_neg, if_true, if_false, ite_true, ite_false, D_in, cB_ind]
  rw [ind_congr (show (0 ≤ e ∧ e ≤ 3) ↔ (0 ≤ e ∧ e < 4) by omega)]
theorem D_tellEn (h : At m a (o8 a F A)) (hF : F 1 = n) (hn : n ≤ 32) {e : Int} (h0 : 0 ≤ e) (h1 : e < n) (hb : ∀ k, 0 ≤ k → k < n → -1000 ≤ A 4 k ∧ A 4 k ≤ 1000) : whl FU (fun t => f_X8_tellsTree_L14 m a (I e) t) (I (e + 1)) = some (I (enF n (A 4) e)) := by
  obtain ⟨g1, g2, g3, g4⟩ := enF_spec (A 4) h1
  have hbe := hb e h0 h1
  have key := whl_iter (f := fun t => f_X8_tellsTree_L14 m a (I e) t) (r := I (enF n (A 4) e)) (fun j => I (e + 1 + j)) (enF n (A 4) e - (e + 1)).toNat ?_ ?_ FU (FU_lt (by omega))
  · simpa using key
  · intro j hj
    have hg := g4 (e + 1 + j) (by omega) (by omega)
    have hbk := hb (e + 1 + j) (by omega) (by omega)
    simp (disch := omega) only [f_X8_tellsTree_L14, L0, L1, L2, L3, L4, L5, L6, L7, L8, L9, L10, L11, L12, L13, L14, L15, L16, L17, L18, L19, L20, L21, L22, L23, L24, L25, L26, L27, L31, L32, L33, L36, L40, L41, L42, L47, L48, L57, L58, L59, L60, L61, L62, L65, L97, L101, L102, L103, L120, L126, L127, L144, L245, L1023, L1715, I_add, I_sub, I_mul, I_neg, I_lt, I_le, I_eq, a8_g1 h, a8_g4 h, a8_l4 h, Option.bind_some, if_pos, if_neg, if_true, if_false, ite_true, ite_false]
    exact congrArg (fun z => some (Sum.inl (I z))) (by omega)
  · rw [show e + 1 + ((enF n (A 4) e - (e + 1)).toNat : Int) = enF n (A 4) e by omega]
    by_cases hq : n ≤ enF n (A 4) e
    · simp (disch := omega) only [f_X8_tellsTree_L14, L0, L1, L2, L3, L4, L5, L6, L7, L8, L9, L10, L11, L12, L13, L14, L15, L16, L17, L18, L19, L20, L21, L22, L23, L24, L25, L26, L27, L31, L32, L33, L36, L40, L41, L42, L47, L48, L57, L58, L59, L60, L61, L62, L65, L97, L101, L102, L103, L120, L126, L127, L144, L245, L1023, L1715, I_add, I_sub, I_mul, I_neg, I_lt, I_le, I_eq, a8_g1 h, a8_g4 h, a8_l4 h, Option.bind_some, if_pos, if_neg, if_true, if_false, ite_true, ite_false]
    · have hg := g3 (by omega)
      have hbk := hb (enF n (A 4) e) (by omega) (by omega)
      simp (disch := omega) only [f_X8_tellsTree_L14, L0, L1, L2, L3, L4, L5, L6, L7, L8, L9, L10, L11, L12, L13, L14, L15, L16, L17, L18, L19, L20, L21, L22, L23, L24, L25, L26, L27, L31, L32, L33, L36, L40, L41, L42, L47, L48, L57, L58, L59, L60, L61, L62, L65, L97, L101, L102, L103, L120, L126, L127, L144, L245, L1023, L1715, I_add, I_sub, I_mul, I_neg, I_lt, I_le, I_eq, a8_g1 h, a8_g4 h, a8_l4 h, Option.bind_some, if_pos, if_neg, if_true, if_false, ite_true, ite_false]
theorem D_tellPr (h : At m a (o8 a F A)) {e : Int} (h0 : 0 ≤ e) (h1 : e < 32) (hb : ∀ k, 0 ≤ k → k ≤ e → -1000 ≤ A 4 k ∧ A 4 k ≤ 1000) : whl FU (fun t => f_X8_tellsTree_L54 m a (I e) t) (I (e - 1)) = some (I (prF (A 4) e)) := by
  obtain ⟨g1, g2, g3, g4⟩ := prF_spec (A 4) h0
  have hbe := hb e h0 (Int.le_refl _)
  have key := whl_iter (f := fun t => f_X8_tellsTree_L54 m a (I e) t) (r := I (prF (A 4) e)) (fun j => I (e - 1 - j)) (e - 1 - prF (A 4) e).toNat ?_ ?_ FU (FU_lt (by omega))
  · simpa using key
  · intro j hj
    have hg := g4 (e - 1 - j) (by omega) (by omega) (by omega)
    have hbk := hb (e - 1 - j) (by omega) (by omega)
    simp (disch := omega) only [f_X8_tellsTree_L54, L0, L1, L2, L3, L4, L5, L6, L7, L8, L9, L10, L11, L12, L13, L14, L15, L16, L17, L18, L19, L20, L21, L22, L23, L24, L25, L26, L27, L31, L32, L33, L36, L40, L41, L42, L47, L48, L57, L58, L59, L60, L61, L62, L65, L97, L101, L102, L103, L120, L126, L127, L144, L245, L1023, L1715, I_add, I_sub, I_mul, I_neg, I_lt, I_le, I_eq, a8_g1 h, a8_g4 h, a8_l4 h, Option.bind_some, if_pos, if_neg, if_true, if_false, ite_true, ite_false]
    exact congrArg (fun z => some (Sum.inl (I z))) (by omega)
  · rw [show e - 1 - ((e - 1 - prF (A 4) e).toNat : Int) = prF (A 4) e by omega]
    by_cases hq : prF (A 4) e < 0
    · simp (disch := omega) only [f_X8_tellsTree_L54, L0, L1, L2, L3, L4, L5, L6, L7, L8, L9, L10, L11, L12, L13, L14, L15, L16, L17, L18, L19, L20, L21, L22, L23, L24, L25, L26, L27, L31, L32, L33, L36, L40, L41, L42, L47, L48, L57, L58, L59, L60, L61, L62, L65, L97, L101, L102, L103, L120, L126, L127, L144, L245, L1023, L1715, I_add, I_sub, I_mul, I_neg, I_lt, I_le, I_eq, a8_g1 h, a8_g4 h, a8_l4 h, Option.bind_some, if_pos, if_neg, if_true, if_false, ite_true, ite_false]
    · have hg := g3 (by omega)
      have hbk := hb (prF (A 4) e) (by omega) (by omega)
      simp (disch := omega) only [f_X8_tellsTree_L54, L0, L1, L2, L3, L4, L5, L6, L7, L8, L9, L10, L11, L12, L13, L14, L15, L16, L17, L18, L19, L20, L21, L22, L23, L24, L25, L26, L27, L31, L32, L33, L36, L40, L41, L42, L47, L48, L57, L58, L59, L60, L61, L62, L65, L97, L101, L102, L103, L120, L126, L127, L144, L245, L1023, L1715, I_add, I_sub, I_mul, I_neg, I_lt, I_le, I_eq, a8_g1 h, a8_g4 h, a8_l4 h, Option.bind_some, if_pos, if_neg, if_true, if_false, ite_true, ite_false]
theorem D_tellsTree (hl : a + 25 < m.length) (hF : F 1 = n) (hn0 : 0 ≤ n) (hn : n ≤ 32) (hb : ∀ k, 0 ≤ k → k < n → -1000 ≤ A 4 k ∧ A 4 k ≤ 1000) : Ok (f_X8_tellsTree (ov m a (o8 a F A)) a) (fun m' => ∃ A', m' = ov m a (o8 a F A') ∧ (∀ i, i ≠ 5 → i ≠ 6 → A' i = A i) ∧ ∀ k, 0 ≤ k → k < n → A' 5 k = enF n (A 4) k ∧ A' 6 k = prF (A 4) k) := by
  unfold f_X8_tellsTree
  refine Ok.bind (P := fun m' => ∃ A', m' = ov m a (o8 a F A') ∧ (∀ i, i ≠ 5 → i ≠ 6 → A' i = A i) ∧ ∀ k, 0 ≤ k → k < n → A' 5 k = enF n (A 4) k ∧ A' 6 k = prF (A 4) k) ?_ (fun _ h => Ok.pure h)
  refine Ok.whl (fun j s => ∃ k A', s = (I k, ov m a (o8 a F A')) ∧ 0 ≤ k ∧ k ≤ n ∧ j = (n - k).toNat ∧ (∀ i, i ≠ 5 → i ≠ 6 → A' i = A i) ∧ ∀ x, 0 ≤ x → x < k → A' 5 x = enF n (A 4) x ∧ A' 6 x = prF (A 4) x) _ (j := (n - 0).toNat) ?_ ⟨0, A, rfl, by omega, hn0, rfl, fun _ _ _ => rfl, fun x h1 h2 => by omega⟩ (FU_lt (by omega))
  rintro j s ⟨k, A', rfl, h0, h1, rfl, hA, hx⟩
  dsimp only
  unfold f_X8_tellsTree_L2
  by_cases hk : n ≤ k
  · simp (disch := omega) only [L0, L1, L2, L3, L4, L5, L6, L7, L8, L9, L10, L11, L12, L13, L14, L15, L16, L17, L18, L19, L20, L21, L22, L23, L24, L25, L26, L27, L31, L32, L33, L36, L40, L41, L42, L47, L48, L57, L58, L59, L60, L61, L62, L65, L97, L101, L102, L103, L120, L126, L127, L144, L245, L1023, L1715, I_add, I_sub, I_mul, I_neg, I_lt, I_le, I_eq, o8_g1, Option.bind_some, if_pos, if_neg, if_true, if_false, ite_true, ite_false]
    refine Ok.pure (Or.inr ⟨_, rfl, A', rfl, hA, fun x p q => hx x p (by omega)⟩)
  · have e4 : A' 4 = A 4 := hA 4 (by decide) (by decide)
    have hen := D_tellEn (o8_At (m := m) (a := a) (F := F) (A := A') hl) hF hn h0 (by omega) (fun x p q => by rw [e4]; exact hb x p q)
    simp (disch := omega) only [L0, L1, L2, L3, L4, L5, L6, L7, L8, L9, L10, L11, L12, L13, L14, L15, L16, L17, L18, L19, L20, L21, L22, L23, L24, L25, L26, L27, L31, L32, L33, L36, L40, L41, L42, L47, L48, L57, L58, L59, L60, L61, L62, L65, L97, L101, L102, L103, L120, L126, L127, L144, L245, L1023, L1715, I_add, I_sub, I_mul, I_neg, I_lt, I_le, I_eq, o8_g1, o8_g4, o8_g5, o8_g6, o8_s5, o8_s6, hen, Option.bind_some, if_pos, if_neg, if_true, if_false, ite_true, ite_false]
    have hpr := D_tellPr (o8_At (m := m) (a := a) (F := F) (A := upN A' 5 (upZ (A' 5) k (enF n (A' 4) k))) hl) (e := k) h0 (by omega) (fun x p q => by simp only [upN]; rw [if_neg (by decide), e4]; exact hb x p (by omega))
    rw [hpr]
    simp (disch := omega) only [L0, L1, L2, L3, L4, L5, L6, L7, L8, L9, L10, L11, L12, L13, L14, L15, L16, L17, L18, L19, L20, L21, L22, L23, L24, L25, L26, L27, L31, L32, L33, L36, L40, L41, L42, L47, L48, L57, L58, L59, L60, L61, L62, L65, L97, L101, L102, L103, L120, L126, L127, L144, L245, L1023, L1715, I_add, I_sub, I_mul, I_neg, I_lt, I_le, I_eq, o8_g1, o8_g4, o8_g5, o8_g6, o8_s5, o8_s6, Option.bind_some, if_pos, if_neg, if_true, if_false, ite_true, ite_false]
    refine Ok.pure (Or.inl ⟨_, (n - (k + 1)).toNat, rfl, ⟨k + 1, _, rfl, by omega, by omega, rfl, fun i p q => ?_, fun x p q => ?_⟩, by omega⟩)
    · simp only [upN, if_neg p, if_neg q]; exact hA i p q
    · by_cases hxk : x = k
      · subst hxk; simp [upN, upZ, e4]
      · have := hx x p (by omega); simpa [upN, upZ, hxk] using this
theorem D_children (h : At m a (o8 a F A)) (hT : MT F A n tg vl lv) {e : Int} (h0 : 0 ≤ e) (h1 : e < n) : f_X8_children m a (I e) = some (I (Sm (fun g => ind (lv g = lv e + 1)) (e + 1) (enF n lv e))) := by
  obtain ⟨hF, hw, hA⟩ := hT
  have hn2 := hw.2.1
  obtain ⟨r1, r2, -, -⟩ := enF_spec lv h1
  have hla : A 5 e = enF n lv e := (hA e h0 h1).2.2.2.1
  unfold f_X8_children
  have key := whl_iter (f := fun t1 : Int32 × Int32 => f_X8_children_L6 m a (I e) t1.1 t1.2) (r := I (Sm (fun g => ind (lv g = lv e + 1)) (e + 1) (enF n lv e))) (fun j => (I (Sm (fun g => ind (lv g = lv e + 1)) (e + 1) (e + 1 + j)), I (e + 1 + j))) (enF n lv e - (e + 1)).toNat ?_ ?_ FU (FU_lt (by omega))
  · rw [Sm_nil (by omega)] at key
    simp only [L0, L1, I_add]
    rw [show (e + 1 + ((0 : Nat) : Int)) = e + 1 by omega] at key
    rw [key]
    rfl
  · intro j hj
    have hk := hA (e + 1 + j) (by omega) (by omega)
    have hp : A 6 (e + 1 + j) = prF lv (e + 1 + j) := hk.2.2.2.2.1
    obtain ⟨g1, g2, -, -⟩ := prF_spec lv (e := e + 1 + j) (by omega)
    have hiff := pr_iff hw h0 h1 (f := e + 1 + j) (by omega) (by omega)
    rw [show (e + 1 + ((j + 1 : Nat) : Int)) = e + 1 + j + 1 by omega, Sm_succ (by omega)]
    dsimp only
    by_cases c1 : prF lv (e + 1 + j) = e
    · rw [ind_t (hiff.mp c1).2.2]
      simp (disch := omega) only [f_X8_children_L6, L0, L1, L2, L3, L4, L5, L6, L7, L8, L9, L10, L11, L12, L13, L14, L15, L16, L17, L18, L19, L20, L21, L22, L23, L24, L25, L26, L27, L31, L32, L33, L36, L40, L41, L42, L47, L48, L57, L58, L59, L60, L61, L62, L65, L97, L101, L102, L103, L120, L126, L127, L144, L245, L1023, L1715, I_add, I_sub, I_mul, I_neg, I_lt, I_le, I_eq, a8_g5 h, a8_g6 h, a8_l5 h, a8_l6 h, Option.bind_some, if_pos, if_neg, if_true, if_false, ite_true, ite_false]
    · rw [ind_f (fun q => c1 (hiff.mpr ⟨by omega, by omega, q⟩))]
      simp (disch := omega) only [f_X8_children_L6, L0, L1, L2, L3, L4, L5, L6, L7, L8, L9, L10, L11, L12, L13, L14, L15, L16, L17, L18, L19, L20, L21, L22, L23, L24, L25, L26, L27, L31, L32, L33, L36, L40, L41, L42, L47, L48, L57, L58, L59, L60, L61, L62, L65, L97, L101, L102, L103, L120, L126, L127, L144, L245, L1023, L1715, I_add, I_sub, I_mul, I_neg, I_lt, I_le, I_eq, a8_g5 h, a8_g6 h, a8_l5 h, a8_l6 h, Option.bind_some, if_pos, if_neg, if_true, if_false, ite_true, ite_false]
  · rw [show (e + 1 + ((enF n lv e - (e + 1)).toNat : Int)) = enF n lv e by omega]
    simp (disch := omega) only [f_X8_children_L6, L0, L1, L2, L3, L4, L5, L6, L7, L8, L9, L10, L11, L12, L13, L14, L15, L16, L17, L18, L19, L20, L21, L22, L23, L24, L25, L26, L27, L31, L32, L33, L36, L40, L41, L42, L47, L48, L57, L58, L59, L60, L61, L62, L65, L97, L101, L102, L103, L120, L126, L127, L144, L245, L1023, L1715, I_add, I_sub, I_mul, I_neg, I_lt, I_le, I_eq, a8_g5 h, a8_g6 h, a8_l5 h, a8_l6 h, Option.bind_some, if_pos, if_neg, if_true, if_false, ite_true, ite_false]
theorem D_spot (h : At m a (o8 a F A)) (hT : MT F A n tg vl lv) {t at_ : Int} (h0 : 0 ≤ t) (h1 : t < n) (ha0 : 0 ≤ at_) (ha1 : at_ ≤ Sm (fun g => ind (lv g = lv t + 1)) (t + 1) (enF n lv t)) : ∃ p, f_X8_spot m a (I t) (I at_) = some (I p) ∧ Spot n lv t at_ p := by
  obtain ⟨hF, hw, hA⟩ := hT
  have hn2 := hw.2.1
  obtain ⟨r1, r2, -, -⟩ := enF_spec lv h1
  have hla : A 5 t = enF n lv t := (hA t h0 h1).2.2.2.1
  have hat : at_ ≤ 32 := by
    have := Sm_le (f := fun g => ind (lv g = lv t + 1)) (g := fun _ => 1) (lo := t + 1) (hi := enF n lv t) (fun _ _ _ => ind_le)
    rw [Sm_const (by omega)] at this
    omega
  unfold f_X8_spot
  simp only [L0, L1, I_add]
  have key : Ok (whl FU (fun t1 : Int32 × Int32 => f_X8_spot_L7 m a (I t) t1.1 t1.2) (I at_, I (t + 1))) (fun r => (r = .inl () ∧ Spot n lv t at_ (enF n lv t)) ∨ ∃ p, r = .inr (I p) ∧ Spot n lv t at_ p) := by
    refine Ok.whl (fun j s => ∃ l f, s = (I l, I f) ∧ t < f ∧ f ≤ enF n lv t ∧ j = (enF n lv t - f).toNat ∧ 0 ≤ l ∧ l ≤ 32 ∧ Sm (fun g => ind (lv g = lv t + 1)) (t + 1) f + l = at_) _ (j := (enF n lv t - (t + 1)).toNat) ?_ ⟨at_, t + 1, rfl, by omega, by omega, rfl, ha0, hat, by rw [Sm_nil (by omega)]; omega⟩ (FU_lt (by omega))
    rintro j s ⟨l, f, rfl, hf1, hf2, rfl, hl0, hl1, hc⟩
    dsimp only
    by_cases c1 : A 5 t ≤ f
    · have hfe : f = enF n lv t := by omega
      simp (disch := omega) only [f_X8_spot_L7, L0, L1, L2, L3, L4, L5, L6, L7, L8, L9, L10, L11, L12, L13, L14, L15, L16, L17, L18, L19, L20, L21, L22, L23, L24, L25, L26, L27, L31, L32, L33, L36, L40, L41, L42, L47, L48, L57, L58, L59, L60, L61, L62, L65, L97, L101, L102, L103, L120, L126, L127, L144, L245, L1023, L1715, I_add, I_sub, I_mul, I_neg, I_lt, I_le, I_eq, a8_g5 h, a8_g6 h, a8_l5 h, a8_l6 h, Option.bind_some, if_pos, if_neg, if_true, if_false, ite_true, ite_false]
      refine Ok.pure (Or.inr ⟨_, rfl, Or.inl ⟨rfl, by omega, by omega, ?_, fun q => by omega⟩⟩)
      rw [hfe] at hc
      omega
    · have hk := hA f (by omega) (by omega)
      have hpf : A 6 f = prF lv f := hk.2.2.2.2.1
      obtain ⟨g1, g2, -, -⟩ := prF_spec lv (e := f) (by omega)
      have hiff := pr_iff hw h0 h1 (f := f) (by omega) (by omega)
      have hs := Sm_succ (f := fun g => ind (lv g = lv t + 1)) (lo := t + 1) (hi := f) (by omega)
      by_cases c3 : prF lv f = t
      · have hch := hiff.mp c3
        rw [ind_t hch.2.2] at hs
        by_cases c4 : l = 0
        · simp (disch := omega) only [f_X8_spot_L7, L0, L1, L2, L3, L4, L5, L6, L7, L8, L9, L10, L11, L12, L13, L14, L15, L16, L17, L18, L19, L20, L21, L22, L23, L24, L25, L26, L27, L31, L32, L33, L36, L40, L41, L42, L47, L48, L57, L58, L59, L60, L61, L62, L65, L97, L101, L102, L103, L120, L126, L127, L144, L245, L1023, L1715, I_add, I_sub, I_mul, I_neg, I_lt, I_le, I_eq, a8_g5 h, a8_g6 h, a8_l5 h, a8_l6 h, Option.bind_some, if_pos, if_neg, if_true, if_false, ite_true, ite_false]
          exact Ok.pure (Or.inr ⟨_, rfl, Or.inr ⟨f, rfl, hf1, by omega, by omega, fun _ => hch.2.2⟩⟩)
        · simp (disch := omega) only [f_X8_spot_L7, L0, L1, L2, L3, L4, L5, L6, L7, L8, L9, L10, L11, L12, L13, L14, L15, L16, L17, L18, L19, L20, L21, L22, L23, L24, L25, L26, L27, L31, L32, L33, L36, L40, L41, L42, L47, L48, L57, L58, L59, L60, L61, L62, L65, L97, L101, L102, L103, L120, L126, L127, L144, L245, L1023, L1715, I_add, I_sub, I_mul, I_neg, I_lt, I_le, I_eq, a8_g5 h, a8_g6 h, a8_l5 h, a8_l6 h, Option.bind_some, if_pos, if_neg, if_true, if_false, ite_true, ite_false]
          exact Ok.pure (Or.inl ⟨_, (enF n lv t - (f + 1)).toNat, rfl, ⟨l + -1, f + 1, rfl, by omega, by omega, rfl, by omega, by omega, by omega⟩, by omega⟩)
      · rw [ind_f (fun z => c3 (hiff.mpr ⟨hf1, by omega, z⟩))] at hs
        simp (disch := omega) only [f_X8_spot_L7, L0, L1, L2, L3, L4, L5, L6, L7, L8, L9, L10, L11, L12, L13, L14, L15, L16, L17, L18, L19, L20, L21, L22, L23, L24, L25, L26, L27, L31, L32, L33, L36, L40, L41, L42, L47, L48, L57, L58, L59, L60, L61, L62, L65, L97, L101, L102, L103, L120, L126, L127, L144, L245, L1023, L1715, I_add, I_sub, I_mul, I_neg, I_lt, I_le, I_eq, a8_g5 h, a8_g6 h, a8_l5 h, a8_l6 h, Option.bind_some, if_pos, if_neg, if_true, if_false, ite_true, ite_false]
        exact Ok.pure (Or.inl ⟨_, (enF n lv t - (f + 1)).toNat, rfl, ⟨l, f + 1, rfl, by omega, by omega, rfl, by omega, by omega, by omega⟩, by omega⟩)
  obtain ⟨r, hr, hq⟩ := key
  rw [hr]
  rcases hq with ⟨rfl, hs⟩ | ⟨p, rfl, hs⟩
  · refine ⟨_, ?_, hs⟩
    simp (disch := omega) only [a8_g5 h, a8_l5 h, Option.bind_some, if_pos, if_neg, if_true, if_false, ite_true, ite_false]
    rw [hla]
  · exact ⟨p, rfl, hs⟩
theorem D_copies (hl : a + 25 < m.length) {t f : Int} (h0 : 0 ≤ t) (h1 : t < 32) (h2 : 0 ≤ f) (h3 : f < 32) : f_X8_copies (ov m a (o8 a F A)) a (I t) (I f) = some (ov m a (o8 a F (cp3 A t f))) := by
  unfold f_X8_copies
  simp (disch := omega) only [o8_g2, o8_g3, o8_g4, o8_l2, o8_l3, o8_l4, o8_s2, o8_s3, o8_s4, Option.bind_some, if_pos, if_neg, if_true, if_false, ite_true, ite_false]
  rfl
theorem D_makesRoom (hl : a + 25 < m.length) (hF : F 1 = n) {p s : Int} (h0 : 0 ≤ p) (h1 : p ≤ n) (hs : 0 < s) (hn : n + s ≤ 32) : Ok (f_X8_makesRoom (ov m a (o8 a F A)) a (I p) (I s)) (fun m' => ∃ A', m' = ov m a (o8 a (upN F 1 (n + s)) A') ∧ (∀ i, i ≠ 2 → i ≠ 3 → i ≠ 4 → A' i = A i) ∧ (∀ k, 0 ≤ k → k < p → A' 2 k = A 2 k ∧ A' 3 k = A 3 k ∧ A' 4 k = A 4 k) ∧ ∀ k, p + s ≤ k → k < n + s → A' 2 k = A 2 (k - s) ∧ A' 3 k = A 3 (k - s) ∧ A' 4 k = A 4 (k - s)) := by
  unfold f_X8_makesRoom
  simp (disch := omega) only [L0, L1, L2, L3, L4, L5, L6, L7, L8, L9, L10, L11, L12, L13, L14, L15, L16, L17, L18, L19, L20, L21, L22, L23, L24, L25, L26, L27, L31, L32, L33, L36, L40, L41, L42, L47, L48, L57, L58, L59, L60, L61, L62, L65, L97, L101, L102, L103, L120, L126, L127, L144, L245, L1023, L1715, I_add, I_sub, I_mul, I_neg, I_lt, I_le, I_eq, o8_g1, Option.bind_some, if_pos, if_neg, if_true, if_false, ite_true, ite_false]
  rw [hF]
  refine Ok.bind (P := fun m' => ∃ A', m' = ov m a (o8 a F A') ∧ (∀ i, i ≠ 2 → i ≠ 3 → i ≠ 4 → A' i = A i) ∧ (∀ k, 0 ≤ k → k < p → A' 2 k = A 2 k ∧ A' 3 k = A 3 k ∧ A' 4 k = A 4 k) ∧ ∀ k, p + s ≤ k → k < n + s → A' 2 k = A 2 (k - s) ∧ A' 3 k = A 3 (k - s) ∧ A' 4 k = A 4 (k - s)) ?_ ?_
  · refine Ok.whl (fun j st => ∃ k A', st = (I k, ov m a (o8 a F A')) ∧ p - 1 ≤ k ∧ k < n ∧ j = (k + 1 - p).toNat ∧ (∀ i, i ≠ 2 → i ≠ 3 → i ≠ 4 → A' i = A i) ∧ (∀ x, 0 ≤ x → x ≤ k → A' 2 x = A 2 x ∧ A' 3 x = A 3 x ∧ A' 4 x = A 4 x) ∧ ∀ x, k + s < x → x < n + s → A' 2 x = A 2 (x - s) ∧ A' 3 x = A 3 (x - s) ∧ A' 4 x = A 4 (x - s)) _ (j := (n - 1 + 1 - p).toNat) ?_ ⟨n - 1, A, rfl, by omega, by omega, rfl, fun _ _ _ _ => rfl, fun _ _ _ => ⟨rfl, rfl, rfl⟩, fun x q1 q2 => by omega⟩ (FU_lt (by omega))
    rintro j st ⟨k, A', rfl, hk0, hk1, rfl, hA, hB, hC⟩
    dsimp only
    unfold f_X8_makesRoom_L7
    by_cases hk : k < p
    · simp (disch := omega) only [L0, L1, L2, L3, L4, L5, L6, L7, L8, L9, L10, L11, L12, L13, L14, L15, L16, L17, L18, L19, L20, L21, L22, L23, L24, L25, L26, L27, L31, L32, L33, L36, L40, L41, L42, L47, L48, L57, L58, L59, L60, L61, L62, L65, L97, L101, L102, L103, L120, L126, L127, L144, L245, L1023, L1715, I_add, I_sub, I_mul, I_neg, I_lt, I_le, I_eq, Option.bind_some, if_pos, if_neg, if_true, if_false, ite_true, ite_false]
      exact Ok.pure (Or.inr ⟨_, rfl, A', rfl, hA, fun x q1 q2 => hB x q1 (by omega), fun x q1 q2 => hC x (by omega) q2⟩)
    · simp (disch := omega) only [L0, L1, L2, L3, L4, L5, L6, L7, L8, L9, L10, L11, L12, L13, L14, L15, L16, L17, L18, L19, L20, L21, L22, L23, L24, L25, L26, L27, L31, L32, L33, L36, L40, L41, L42, L47, L48, L57, L58, L59, L60, L61, L62, L65, L97, L101, L102, L103, L120, L126, L127, L144, L245, L1023, L1715, I_add, I_sub, I_mul, I_neg, I_lt, I_le, I_eq, o8_cO, D_copies, Option.bind_some, if_pos, if_neg, if_true, if_false, ite_true, ite_false]
      refine Ok.pure (Or.inl ⟨_, (k - 1 + 1 - p).toNat, rfl, ⟨k - 1, _, by rw [show k + -1 = k - 1 by omega], by omega, by omega, rfl, fun i q1 q2 q3 => ?_, fun x q1 q2 => ?_, fun x q1 q2 => ?_⟩, by omega⟩)
      · rw [cp3_o q1 q2 q3]; exact hA i q1 q2 q3
      · rw [cp3_2, cp3_3, cp3_4, upZ_ne (by omega), upZ_ne (by omega), upZ_ne (by omega)]
        exact hB x q1 (by omega)
      · rw [cp3_2, cp3_3, cp3_4]
        by_cases hx : x = k + s
        · subst hx
          rw [upZ_at, upZ_at, upZ_at, show k + s - s = k by omega]
          exact hB k (by omega) (Int.le_refl _)
        · rw [upZ_ne hx, upZ_ne hx, upZ_ne hx]
          exact hC x (by omega) q2
  · rintro m' ⟨A1, rfl, q1, q2, q3⟩
    simp (disch := omega) only [L0, L1, L2, L3, L4, L5, L6, L7, L8, L9, L10, L11, L12, L13, L14, L15, L16, L17, L18, L19, L20, L21, L22, L23, L24, L25, L26, L27, L31, L32, L33, L36, L40, L41, L42, L47, L48, L57, L58, L59, L60, L61, L62, L65, L97, L101, L102, L103, L120, L126, L127, L144, L245, L1023, L1715, I_add, I_sub, I_mul, I_neg, I_lt, I_le, I_eq, o8_g1, o8_p1, Option.bind_some, if_pos, if_neg, if_true, if_false, ite_true, ite_false]
    rw [hF]
    exact Ok.pure ⟨A1, rfl, q1, q2, q3⟩
theorem D_closes (hl : a + 25 < m.length) (hF : F 1 = n) (hn : n ≤ 32) {p s : Int} (h0 : 0 ≤ p) (hs : 0 < s) (h1 : p + s ≤ n) : Ok (f_X8_closes (ov m a (o8 a F A)) a (I p) (I s)) (fun m' => ∃ A', m' = ov m a (o8 a (upN F 1 (n - s)) A') ∧ (∀ i, i ≠ 2 → i ≠ 3 → i ≠ 4 → A' i = A i) ∧ ∀ k, 0 ≤ k → k < n - s → A' 2 k = delZ (A 2) p s k ∧ A' 3 k = delZ (A 3) p s k ∧ A' 4 k = delZ (A 4) p s k) := by
  unfold f_X8_closes
  refine Ok.bind (P := fun m' => ∃ A', m' = ov m a (o8 a F A') ∧ (∀ i, i ≠ 2 → i ≠ 3 → i ≠ 4 → A' i = A i) ∧ ∀ k, 0 ≤ k → k < n - s → A' 2 k = delZ (A 2) p s k ∧ A' 3 k = delZ (A 3) p s k ∧ A' 4 k = delZ (A 4) p s k) ?_ ?_
  · refine Ok.whl (fun j st => ∃ k A', st = (I k, ov m a (o8 a F A')) ∧ p ≤ k ∧ k ≤ n - s ∧ j = (n - s - k).toNat ∧ (∀ i, i ≠ 2 → i ≠ 3 → i ≠ 4 → A' i = A i) ∧ (∀ x, 0 ≤ x → x < k → A' 2 x = delZ (A 2) p s x ∧ A' 3 x = delZ (A 3) p s x ∧ A' 4 x = delZ (A 4) p s x) ∧ ∀ x, k ≤ x → x < n → A' 2 x = A 2 x ∧ A' 3 x = A 3 x ∧ A' 4 x = A 4 x) _ (j := (n - s - p).toNat) ?_ ⟨p, A, rfl, Int.le_refl _, by omega, rfl, fun _ _ _ _ => rfl, fun x q1 q2 => by unfold delZ; rw [if_pos q2, if_pos q2, if_pos q2]; exact ⟨rfl, rfl, rfl⟩, fun _ _ _ => ⟨rfl, rfl, rfl⟩⟩ (FU_lt (by omega))
    rintro j st ⟨k, A', rfl, hk0, hk1, rfl, hA, hB, hC⟩
    dsimp only
    unfold f_X8_closes_L2
    by_cases hk : n ≤ k + s
    · simp (disch := omega) only [L0, L1, L2, L3, L4, L5, L6, L7, L8, L9, L10, L11, L12, L13, L14, L15, L16, L17, L18, L19, L20, L21, L22, L23, L24, L25, L26, L27, L31, L32, L33, L36, L40, L41, L42, L47, L48, L57, L58, L59, L60, L61, L62, L65, L97, L101, L102, L103, L120, L126, L127, L144, L245, L1023, L1715, I_add, I_sub, I_mul, I_neg, I_lt, I_le, I_eq, o8_g1, Option.bind_some, if_pos, if_neg, if_true, if_false, ite_true, ite_false]
      exact Ok.pure (Or.inr ⟨_, rfl, A', rfl, hA, fun x q1 q2 => hB x q1 (by omega)⟩)
    · simp (disch := omega) only [L0, L1, L2, L3, L4, L5, L6, L7, L8, L9, L10, L11, L12, L13, L14, L15, L16, L17, L18, L19, L20, L21, L22, L23, L24, L25, L26, L27, L31, L32, L33, L36, L40, L41, L42, L47, L48, L57, L58, L59, L60, L61, L62, L65, L97, L101, L102, L103, L120, L126, L127, L144, L245, L1023, L1715, I_add, I_sub, I_mul, I_neg, I_lt, I_le, I_eq, o8_g1, o8_cO, D_copies, Option.bind_some, if_pos, if_neg, if_true, if_false, ite_true, ite_false]
      refine Ok.pure (Or.inl ⟨_, (n - s - (k + 1)).toNat, rfl, ⟨k + 1, _, rfl, by omega, by omega, rfl, fun i q1 q2 q3 => ?_, fun x q1 q2 => ?_, fun x q1 q2 => ?_⟩, by omega⟩)
      · rw [cp3_o q1 q2 q3]; exact hA i q1 q2 q3
      · rw [cp3_2, cp3_3, cp3_4]
        by_cases hx : x = k
        · subst hx
          rw [upZ_at, upZ_at, upZ_at]
          have := hC (x + s) (by omega) (by omega)
          unfold delZ
          rw [if_neg (by omega), if_neg (by omega), if_neg (by omega)]
          exact this
        · rw [upZ_ne hx, upZ_ne hx, upZ_ne hx]
          exact hB x q1 (by omega)
      · rw [cp3_2, cp3_3, cp3_4, upZ_ne (by omega), upZ_ne (by omega), upZ_ne (by omega)]
        exact hC x (by omega) q2
  · rintro m' ⟨A1, rfl, q1, q2⟩
    simp (disch := omega) only [L0, L1, L2, L3, L4, L5, L6, L7, L8, L9, L10, L11, L12, L13, L14, L15, L16, L17, L18, L19, L20, L21, L22, L23, L24, L25, L26, L27, L31, L32, L33, L36, L40, L41, L42, L47, L48, L57, L58, L59, L60, L61, L62, L65, L97, L101, L102, L103, L120, L126, L127, L144, L245, L1023, L1715, I_add, I_sub, I_mul, I_neg, I_lt, I_le, I_eq, o8_g1, o8_p1, Option.bind_some, if_pos, if_neg, if_true, if_false, ite_true, ite_false]
    rw [hF]
    exact Ok.pure ⟨A1, rfl, q1, q2⟩
theorem D_deepest (h : At m a (o8 a F A)) (hT : MT F A n tg vl lv) {e : Int} (h0 : 0 ≤ e) (h1 : e < n) : ∃ d, f_X8_deepest m a (I e) = some (I d) ∧ d ≤ 10 ∧ (∀ k, e ≤ k → k < enF n lv e → lv k ≤ d) ∧ ∃ k, e ≤ k ∧ k < enF n lv e ∧ lv k = d := by
  obtain ⟨hF, hw, hA⟩ := hT
  have hn2 := hw.2.1
  obtain ⟨r1, r2, -, -⟩ := enF_spec lv h1
  have hla : A 5 e = enF n lv e := (hA e h0 h1).2.2.2.1
  have hle : A 4 e = lv e := (hA e h0 h1).2.2.1
  unfold f_X8_deepest
  simp (disch := omega) only [L0, L1, L2, L3, L4, L5, L6, L7, L8, L9, L10, L11, L12, L13, L14, L15, L16, L17, L18, L19, L20, L21, L22, L23, L24, L25, L26, L27, L31, L32, L33, L36, L40, L41, L42, L47, L48, L57, L58, L59, L60, L61, L62, L65, L97, L101, L102, L103, L120, L126, L127, L144, L245, L1023, L1715, I_add, I_sub, I_mul, I_neg, I_lt, I_le, I_eq, a8_g4 h, a8_l4 h, Option.bind_some, if_pos, if_neg, if_true, if_false, ite_true, ite_false]
  have key : Ok (whl FU (fun t5 : Int32 × Int32 => f_X8_deepest_L9 m a (I e) t5.1 t5.2) (I (A 4 e), I e)) (fun r => ∃ d, r = I d ∧ d ≤ 10 ∧ (∀ k, e ≤ k → k < enF n lv e → lv k ≤ d) ∧ ∃ k, e ≤ k ∧ k < enF n lv e ∧ lv k = d) := by
    refine Ok.whl (fun j s => ∃ d f, s = (I d, I f) ∧ e ≤ f ∧ f ≤ enF n lv e ∧ j = (enF n lv e - f).toNat ∧ 1 ≤ d ∧ d ≤ 10 ∧ (∀ k, e ≤ k → k < f → lv k ≤ d) ∧ ∃ k, e ≤ k ∧ k < enF n lv e ∧ lv k = d) _ (j := (enF n lv e - e).toNat) ?_ ⟨_, e, rfl, by omega, by omega, rfl, by have := hw.ge1 h0 h1; omega, by have := hw.ge1 h0 h1; omega, fun k p q => by omega, ⟨e, by omega, by omega, hle.symm⟩⟩ (FU_lt (by omega))
    rintro j s ⟨d, f, rfl, hf1, hf2, rfl, hd0, hd, hmax, hex⟩
    dsimp only
    by_cases hc : A 5 e ≤ f
    · simp (disch := omega) only [f_X8_deepest_L9, L0, L1, L2, L3, L4, L5, L6, L7, L8, L9, L10, L11, L12, L13, L14, L15, L16, L17, L18, L19, L20, L21, L22, L23, L24, L25, L26, L27, L31, L32, L33, L36, L40, L41, L42, L47, L48, L57, L58, L59, L60, L61, L62, L65, L97, L101, L102, L103, L120, L126, L127, L144, L245, L1023, L1715, I_add, I_sub, I_mul, I_neg, I_lt, I_le, I_eq, a8_g5 h, a8_g4 h, a8_l5 h, a8_l4 h, Option.bind_some, if_pos, if_neg, if_true, if_false, ite_true, ite_false]
      have hfe : f = enF n lv e := by omega
      subst hfe
      exact Ok.pure (Or.inr ⟨_, rfl, d, rfl, hd, hmax, hex⟩)
    · have hlf : A 4 f = lv f := (hA f (by omega) (by omega)).2.2.1
      have hg := hw.ge1 (k := f) (by omega) (by omega)
      by_cases hc2 : A 4 f ≤ d
      · simp (disch := omega) only [f_X8_deepest_L9, L0, L1, L2, L3, L4, L5, L6, L7, L8, L9, L10, L11, L12, L13, L14, L15, L16, L17, L18, L19, L20, L21, L22, L23, L24, L25, L26, L27, L31, L32, L33, L36, L40, L41, L42, L47, L48, L57, L58, L59, L60, L61, L62, L65, L97, L101, L102, L103, L120, L126, L127, L144, L245, L1023, L1715, I_add, I_sub, I_mul, I_neg, I_lt, I_le, I_eq, a8_g5 h, a8_g4 h, a8_l5 h, a8_l4 h, Option.bind_some, if_pos, if_neg, if_true, if_false, ite_true, ite_false]
        refine Ok.pure (Or.inl ⟨_, (enF n lv e - (f + 1)).toNat, rfl, ⟨d, f + 1, rfl, by omega, by omega, rfl, hd0, hd, fun k p q => ?_, hex⟩, by omega⟩)
        by_cases hk : k = f
        · subst hk; omega
        · exact hmax k p (by omega)
      · simp (disch := omega) only [f_X8_deepest_L9, L0, L1, L2, L3, L4, L5, L6, L7, L8, L9, L10, L11, L12, L13, L14, L15, L16, L17, L18, L19, L20, L21, L22, L23, L24, L25, L26, L27, L31, L32, L33, L36, L40, L41, L42, L47, L48, L57, L58, L59, L60, L61, L62, L65, L97, L101, L102, L103, L120, L126, L127, L144, L245, L1023, L1715, I_add, I_sub, I_mul, I_neg, I_lt, I_le, I_eq, a8_g5 h, a8_g4 h, a8_l5 h, a8_l4 h, Option.bind_some, if_pos, if_neg, if_true, if_false, ite_true, ite_false]
        refine Ok.pure (Or.inl ⟨_, (enF n lv e - (f + 1)).toNat, rfl, ⟨A 4 f, f + 1, rfl, by omega, by omega, rfl, by omega, by omega, fun k p q => ?_, ⟨f, by omega, by omega, hlf.symm⟩⟩, by omega⟩)
        by_cases hk : k = f
        · subst hk; omega
        · have := hmax k p (by omega); omega
  obtain ⟨r, hr, d, rfl, hd⟩ := key
  rw [hr]
  exact ⟨d, rfl, hd⟩
end MTREE
