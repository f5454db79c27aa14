/-! ===== Tree: its other methods ===== -/
/-- a row with x put in at p -/
def insZ (f : Int → Int) (p x : Int) : Int → Int := fun k => if k < p then f k else if k = p then x else f (k - 1)
/-- a row without s values from p on -/
def delZ (f : Int → Int) (p s : Int) : Int → Int := fun k => if k < p then f k else f (k + s)
def put3 (A : Nat → Int → Int) (e t v l : Int) : Nat → Int → Int := upN (upN (upN A 1 (upZ (A 1) e t)) 2 (upZ (A 2) e v)) 3 (upZ (A 3) e l)
theorem put3_1 {A : Nat → Int → Int} {e t v l : Int} : put3 A e t v l 1 = upZ (A 1) e t := rfl
theorem put3_2 {A : Nat → Int → Int} {e t v l : Int} : put3 A e t v l 2 = upZ (A 2) e v := rfl
theorem put3_3 {A : Nat → Int → Int} {e t v l : Int} : put3 A e t v l 3 = upZ (A 3) e l := rfl
theorem put3_o {A : Nat → Int → Int} {e t v l : Int} {i : Nat} (h1 : i ≠ 1) (h2 : i ≠ 2) (h3 : i ≠ 3) : put3 A e t v l i = A i := by simp [put3, upN, h1, h2, h3]
theorem WL_congr {n : Int} {lv lv' : Int → Int} (h : WL n lv) (he : ∀ k, 0 ≤ k → k < n → lv' k = lv k) : WL n lv' := by
  have hn := h.1
  refine ⟨h.1, h.2.1, by rw [he 0 (by omega) (by omega)]; exact h.2.2.1, fun k p q => ?_, fun k p q => by rw [he k p q]; exact h.2.2.2.2 k p q⟩
  rw [he k (by omega) q, he (k - 1) (by omega) (by omega)]
  exact h.2.2.2.1 k p q
section TREE
variable {m : Mm} {a : Nat} {F : Nat → Int} {A : Nat → Int → Int}
theorem T_put (hl : a + 5 < m.length) {e t v l : Int} (h0 : 0 ≤ e) (h1 : e < 32) : f_X4_put (ov m a (o4 a F A)) a (I e) (I t) (I v) (I l) = some (ov m a (o4 a F (put3 A e t v l))) := by
  unfold f_X4_put
  simp (disch := omega) only [o4_cO, o4_g0, o4_p0, o4_g1, o4_g2, o4_g3, o4_g4, o4_g5, o4_l1, o4_s1, o4_l2, o4_s2, o4_l3, o4_s3, o4_l4, o4_s4, o4_l5, o4_s5, Option.bind_some, if_pos, if_neg, if_true, if_false, ite_true, ite_false]
  rfl
theorem T_has (h : At m a (o4 a F A)) {e : Int} (h1 : -2147483648 ≤ e) (h2 : e < 2147483648) (h3 : 0 ≤ F 0) (h4 : F 0 ≤ 32) : f_X4_has m a (I e) = some (I (ind (0 ≤ e ∧ e < F 0))) := by
  unfold f_X4_has
  by_cases c1 : e < 0
  · rw [ind_f (by omega)]
    simp (disch := omega) only [L0, L1, L2, L3, L4, L5, L6, L7, L8, L9, L10, L11, L12, L13, L14, L15, L16, L17, L18, L19, L20, L21, L22, L23, L24, L25, L26, L27, L31, L32, L33, L36, L40, L41, L42, L47, L48, L57, L58, L59, L60, L61, L62, L65, L97, L101, L102, L103, L120, L126, L127, L144, L245, L1023, L1715, I_add, I_sub, I_mul, I_neg, I_lt, I_le, I_eq, a4_cO h, a4_g0 h, a4_g1 h, a4_g2 h, a4_g3 h, a4_g4 h, a4_g5 h, a4_l1 h, a4_l2 h, a4_l3 h, a4_l4 h, a4_l5 h, Option.bind_some, if_pos, if_neg, if_true, if_false, ite_true, ite_false]
  · by_cases c2 : F 0 ≤ e
    · rw [ind_f (by omega)]
      simp (disch := omega) only [L0, L1, L2, L3, L4, L5, L6, L7, L8, L9, L10, L11, L12, L13, L14, L15, L16, L17, L18, L19, L20, L21, L22, L23, L24, L25, L26, L27, L31, L32, L33, L36, L40, L41, L42, L47, L48, L57, L58, L59, L60, L61, L62, L65, L97, L101, L102, L103, L120, L126, L127, L144, L245, L1023, L1715, I_add, I_sub, I_mul, I_neg, I_lt, I_le, I_eq, a4_cO h, a4_g0 h, a4_g1 h, a4_g2 h, a4_g3 h, a4_g4 h, a4_g5 h, a4_l1 h, a4_l2 h, a4_l3 h, a4_l4 h, a4_l5 h, Option.bind_some, if_pos, if_neg, if_true, if_false, ite_true, ite_false]
    · rw [ind_t (by omega)]
      simp (disch := omega) only [L0, L1, L2, L3, L4, L5, L6, L7, L8, L9, L10, L11, L12, L13, L14, L15, L16, L17, L18, L19, L20, L21, L22, L23, L24, L25, L26, L27, L31, L32, L33, L36, L40, L41, L42, L47, L48, L57, L58, L59, L60, L61, L62, L65, L97, L101, L102, L103, L120, L126, L127, L144, L245, L1023, L1715, I_add, I_sub, I_mul, I_neg, I_lt, I_le, I_eq, a4_cO h, a4_g0 h, a4_g1 h, a4_g2 h, a4_g3 h, a4_g4 h, a4_g5 h, a4_l1 h, a4_l2 h, a4_l3 h, a4_l4 h, a4_l5 h, Option.bind_some, if_pos, if_neg, if_true, if_false, ite_true, ite_false]
theorem T_lastBelow (h : At m a (o4 a F A)) {e : Int} (h1 : -1 ≤ e) (h2 : e < 32) : f_X4_lastBelow m a (I e) = some (I (if e = -1 then F 0 - 1 else A 5 e)) := by
  unfold f_X4_lastBelow
  by_cases c1 : e = -1
  · simp (disch := omega) only [L0, L1, L2, L3, L4, L5, L6, L7, L8, L9, L10, L11, L12, L13, L14, L15, L16, L17, L18, L19, L20, L21, L22, L23, L24, L25, L26, L27, L31, L32, L33, L36, L40, L41, L42, L47, L48, L57, L58, L59, L60, L61, L62, L65, L97, L101, L102, L103, L120, L126, L127, L144, L245, L1023, L1715, I_add, I_sub, I_mul, I_neg, I_lt, I_le, I_eq, a4_cO h, a4_g0 h, a4_g1 h, a4_g2 h, a4_g3 h, a4_g4 h, a4_g5 h, a4_l1 h, a4_l2 h, a4_l3 h, a4_l4 h, a4_l5 h, Option.bind_some, if_pos, if_neg, if_true, if_false, ite_true, ite_false]
  · simp (disch := omega) only [L0, L1, L2, L3, L4, L5, L6, L7, L8, L9, L10, L11, L12, L13, L14, L15, L16, L17, L18, L19, L20, L21, L22, L23, L24, L25, L26, L27, L31, L32, L33, L36, L40, L41, L42, L47, L48, L57, L58, L59, L60, L61, L62, L65, L97, L101, L102, L103, L120, L126, L127, L144, L245, L1023, L1715, I_add, I_sub, I_mul, I_neg, I_lt, I_le, I_eq, a4_cO h, a4_g0 h, a4_g1 h, a4_g2 h, a4_g3 h, a4_g4 h, a4_g5 h, a4_l1 h, a4_l2 h, a4_l3 h, a4_l4 h, a4_l5 h, Option.bind_some, if_pos, if_neg, if_true, if_false, ite_true, ite_false]
theorem T_start (h : At m a (o4 a F A)) {e : Int} (h1 : 0 ≤ e) (h2 : e < 32) : f_X4_start m a (I e) = some (I (2 * e - A 3 e + 2)) := by
  unfold f_X4_start
  simp (disch := omega) only [L0, L1, L2, L3, L4, L5, L6, L7, L8, L9, L10, L11, L12, L13, L14, L15, L16, L17, L18, L19, L20, L21, L22, L23, L24, L25, L26, L27, L31, L32, L33, L36, L40, L41, L42, L47, L48, L57, L58, L59, L60, L61, L62, L65, L97, L101, L102, L103, L120, L126, L127, L144, L245, L1023, L1715, I_add, I_sub, I_mul, I_neg, I_lt, I_le, I_eq, a4_cO h, a4_g0 h, a4_g1 h, a4_g2 h, a4_g3 h, a4_g4 h, a4_g5 h, a4_l1 h, a4_l2 h, a4_l3 h, a4_l4 h, a4_l5 h, Option.bind_some, if_pos, if_neg, if_true, if_false, ite_true, ite_false]
theorem T_end (h : At m a (o4 a F A)) {e : Int} (h1 : 0 ≤ e) (h2 : e < 32) : f_X4_end m a (I e) = some (I (2 * e - A 3 e + 2 + 2 * (A 5 e - e) + 1)) := by
  unfold f_X4_end
  simp (disch := omega) only [L0, L1, L2, L3, L4, L5, L6, L7, L8, L9, L10, L11, L12, L13, L14, L15, L16, L17, L18, L19, L20, L21, L22, L23, L24, L25, L26, L27, L31, L32, L33, L36, L40, L41, L42, L47, L48, L57, L58, L59, L60, L61, L62, L65, L97, L101, L102, L103, L120, L126, L127, L144, L245, L1023, L1715, I_add, I_sub, I_mul, I_neg, I_lt, I_le, I_eq, a4_cO h, a4_g0 h, a4_g1 h, a4_g2 h, a4_g3 h, a4_g4 h, a4_g5 h, a4_l1 h, a4_l2 h, a4_l3 h, a4_l4 h, a4_l5 h, Option.bind_some, if_pos, if_neg, if_true, if_false, ite_true, ite_false, T_start h]
/-- the tree's object holds the tree n, tg, vl, lv -/
def TR (F : Nat → Int) (A : Nat → Int → Int) (n : Int) (tg vl lv : Int → Int) : Prop :=
  F 0 = n ∧ WL n lv ∧ ∀ k, 0 ≤ k → k < n → A 1 k = tg k ∧ A 2 k = vl k ∧ A 3 k = lv k ∧ A 4 k = prF lv k ∧ A 5 k = enF n lv k - 1 ∧ 0 ≤ tg k ∧ tg k ≤ 5 ∧ 0 ≤ vl k ∧ vl k ≤ 9
variable {n : Int} {tg vl lv : Int → Int}
theorem T_childCount (h : At m a (o4 a F A)) (hT : TR F A n tg vl lv) {e u : Int} (h0 : 0 ≤ e) (h1 : e < n) (hu1 : -2147483648 ≤ u) (hu2 : u < 2147483648) : f_X4_childCount m a (I e) (I u) = some (I (Sm (fun g => ind (lv g = lv e + 1 ∧ g ≠ u)) (e + 1) (enF n lv e))) := by
  obtain ⟨hF, hw, hA⟩ := hT
  have hn2 := hw.2.1
  obtain ⟨r1, r2, -, -⟩ := enF_spec lv h1
  have hla : A 5 e = enF n lv e - 1 := (hA e h0 h1).2.2.2.2.1
  unfold f_X4_childCount
  have key := whl_iter (f := fun t1 : Int32 × Int32 => f_X4_childCount_L7 m a (I e) (I u) t1.1 t1.2) (r := I (Sm (fun g => ind (lv g = lv e + 1 ∧ g ≠ u)) (e + 1) (enF n lv e))) (fun j => (I (Sm (fun g => ind (lv g = lv e + 1 ∧ g ≠ u)) (e + 1) (e + 1 + j)), I (e + 1 + j))) (enF n lv e - (e + 1)).toNat ?_ ?_ FU (FU_lt (by omega))
  · rw [Sm_nil (by omega)] at key
    simp only [L0, L1, I_add]
    rw [show (e + 1 + ((0 : Nat) : Int)) = e + 1 by omega] at key
    rw [key]
    rfl
  · intro j hj
    have hk := hA (e + 1 + j) (by omega) (by omega)
    have hp : A 4 (e + 1 + j) = prF lv (e + 1 + j) := hk.2.2.2.1
    obtain ⟨g1, g2, -, -⟩ := prF_spec lv (e := e + 1 + j) (by omega)
    have hiff := pr_iff hw h0 h1 (f := e + 1 + j) (by omega) (by omega)
    rw [show (e + 1 + ((j + 1 : Nat) : Int)) = e + 1 + j + 1 by omega, Sm_succ (by omega)]
    dsimp only
    by_cases c1 : prF lv (e + 1 + j) = e
    · by_cases c2 : e + 1 + j = u
      · rw [ind_f (fun q => q.2 c2), Int.add_zero]
        simp (disch := omega) only [f_X4_childCount_L7, L0, L1, L2, L3, L4, L5, L6, L7, L8, L9, L10, L11, L12, L13, L14, L15, L16, L17, L18, L19, L20, L21, L22, L23, L24, L25, L26, L27, L31, L32, L33, L36, L40, L41, L42, L47, L48, L57, L58, L59, L60, L61, L62, L65, L97, L101, L102, L103, L120, L126, L127, L144, L245, L1023, L1715, I_add, I_sub, I_mul, I_neg, I_lt, I_le, I_eq, a4_cO h, a4_g0 h, a4_g1 h, a4_g2 h, a4_g3 h, a4_g4 h, a4_g5 h, a4_l1 h, a4_l2 h, a4_l3 h, a4_l4 h, a4_l5 h, Option.bind_some, if_pos, if_neg, if_true, if_false, ite_true, ite_false]
      · rw [ind_t ⟨(hiff.mp c1).2.2, c2⟩]
        simp (disch := omega) only [f_X4_childCount_L7, L0, L1, L2, L3, L4, L5, L6, L7, L8, L9, L10, L11, L12, L13, L14, L15, L16, L17, L18, L19, L20, L21, L22, L23, L24, L25, L26, L27, L31, L32, L33, L36, L40, L41, L42, L47, L48, L57, L58, L59, L60, L61, L62, L65, L97, L101, L102, L103, L120, L126, L127, L144, L245, L1023, L1715, I_add, I_sub, I_mul, I_neg, I_lt, I_le, I_eq, a4_cO h, a4_g0 h, a4_g1 h, a4_g2 h, a4_g3 h, a4_g4 h, a4_g5 h, a4_l1 h, a4_l2 h, a4_l3 h, a4_l4 h, a4_l5 h, Option.bind_some, if_pos, if_neg, if_true, if_false, ite_true, ite_false]
    · rw [ind_f (fun q => c1 (hiff.mpr ⟨by omega, by omega, q.1⟩)), Int.add_zero]
      simp (disch := omega) only [f_X4_childCount_L7, L0, L1, L2, L3, L4, L5, L6, L7, L8, L9, L10, L11, L12, L13, L14, L15, L16, L17, L18, L19, L20, L21, L22, L23, L24, L25, L26, L27, L31, L32, L33, L36, L40, L41, L42, L47, L48, L57, L58, L59, L60, L61, L62, L65, L97, L101, L102, L103, L120, L126, L127, L144, L245, L1023, L1715, I_add, I_sub, I_mul, I_neg, I_lt, I_le, I_eq, a4_cO h, a4_g0 h, a4_g1 h, a4_g2 h, a4_g3 h, a4_g4 h, a4_g5 h, a4_l1 h, a4_l2 h, a4_l3 h, a4_l4 h, a4_l5 h, Option.bind_some, if_pos, if_neg, if_true, if_false, ite_true, ite_false]
  · rw [show (e + 1 + ((enF n lv e - (e + 1)).toNat : Int)) = enF n lv e by omega]
    simp (disch := omega) only [f_X4_childCount_L7, L0, L1, L2, L3, L4, L5, L6, L7, L8, L9, L10, L11, L12, L13, L14, L15, L16, L17, L18, L19, L20, L21, L22, L23, L24, L25, L26, L27, L31, L32, L33, L36, L40, L41, L42, L47, L48, L57, L58, L59, L60, L61, L62, L65, L97, L101, L102, L103, L120, L126, L127, L144, L245, L1023, L1715, I_add, I_sub, I_mul, I_neg, I_lt, I_le, I_eq, a4_cO h, a4_g0 h, a4_g1 h, a4_g2 h, a4_g3 h, a4_g4 h, a4_g5 h, a4_l1 h, a4_l2 h, a4_l3 h, a4_l4 h, a4_l5 h, Option.bind_some, if_pos, if_neg, if_true, if_false, ite_true, ite_false]
end TREE
