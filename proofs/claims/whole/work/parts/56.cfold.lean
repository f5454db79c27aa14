/-! ===== folds: the sets of nodes that a node can be ===== -/
theorem eW_mono {Q : Int} {nd : Int → Int → Int} {p q : Int} (h1 : p < Q) (h2 : p ≤ q) (h3 : q < eW Q nd p) : eW Q nd q ≤ eW Q nd p := by
  by_cases c : p = q
  · rw [c]; exact Int.le_refl _
  · exact en_le h1 (by omega) h3
abbrev cvF (ndx ndy : Int → Int → Int) (a b : Int) : Prop := (ndx a 0 = 6 ∨ ndx a 0 = ndy b 0) ∧ (psS ndy b &&& (psS ndx a ^^^ I (-1))) = I 0
abbrev plF (Qy : Int) (ndy : Int → Int → Int) (j b d : Int) : Prop := b < d ∧ d < eW Qy ndy b ∧ (j = 2 ∨ (ndy d 5 = b ∧ ndy d 3 = 1))
/-- the branches of a have where to go if a is b -/
def brF (Qx Qy : Int) (ndx ndy : Int → Int → Int) (t : Int → Int32) (a b : Int) : Prop := ∀ c, a < c → c < Qx → ndx c 5 = a → ∃ d, plF Qy ndy (ndx c 3) b d ∧ hb (t c) d
def IsFa (Qx Qy : Int) (ndx ndy : Int → Int → Int) (un : Int32) (t : Int → Int32) (a : Int) : Prop := ∀ b, 0 ≤ b → b < 32 → (hb (t a) b ↔ b < Qy ∧ ¬ hb un b ∧ cvF ndx ndy a b ∧ brF Qx Qy ndx ndy t a b)
def IsF (Qx Qy : Int) (ndx ndy : Int → Int → Int) (un : Int32) (t : Int → Int32) : Prop := ∀ a, 0 ≤ a → a < Qx → IsFa Qx Qy ndx ndy un t a
theorem brF_congr {Qx Qy : Int} {ndx ndy : Int → Int → Int} {t t' : Int → Int32} {a b : Int} (h : ∀ c, a < c → c < Qx → t c = t' c) : brF Qx Qy ndx ndy t a b ↔ brF Qx Qy ndx ndy t' a b := by
  constructor
  · intro q c c0 c1 c2; obtain ⟨d, d1, d2⟩ := q c c0 c1 c2; exact ⟨d, d1, by rw [← h c c0 c1]; exact d2⟩
  · intro q c c0 c1 c2; obtain ⟨d, d1, d2⟩ := q c c0 c1 c2; exact ⟨d, d1, by rw [h c c0 c1]; exact d2⟩
theorem IsF_uniq {Qx Qy : Int} {ndx ndy : Int → Int → Int} {un un' : Int32} {t t' : Int → Int32} (hu : ∀ b, 0 ≤ b → b < Qy → b < 32 → (hb un b ↔ hb un' b)) (h : IsF Qx Qy ndx ndy un t) (h' : IsF Qx Qy ndx ndy un' t') : ∀ a, 0 ≤ a → a < Qx → t a = t' a := by
  have key : ∀ k : Nat, ∀ a, 0 ≤ a → a < Qx → (Qx - a).toNat ≤ k → t a = t' a := by
    intro k
    induction k with
    | zero => intro a a0 a1 hk; omega
    | succ k ih =>
      intro a a0 a1 hk
      apply hb_ext
      intro b b0 b1
      rw [h a a0 a1 b b0 b1, h' a a0 a1 b b0 b1, brF_congr (t := t) (t' := t') (fun c c0 c1 => ih c (by omega) c1 (by omega))]
      constructor
      · rintro ⟨z1, z2, z3⟩; exact ⟨z1, fun q => z2 ((hu b b0 z1 b1).mpr q), z3⟩
      · rintro ⟨z1, z2, z3⟩; exact ⟨z1, fun q => z2 ((hu b b0 z1 b1).mp q), z3⟩
  exact fun a a0 a1 => key _ a a0 a1 (Nat.le_refl _)
section CF
variable {m : Mm} {x y : Nat} {Fx Fy F : Nat → Int} {Ax Ay A : Nat → Int → Int} {Qx Qy : Int} {ndx ndy : Int → Int → Int}
theorem F_covers (hx : At m x (o5 x Fx Ax)) (hX : WR Fx Ax Qx ndx) (hy : At m y (o5 y Fy Ay)) (hY : WR Fy Ay Qy ndy) {z : Nat} {a b : Int} (a0 : 0 ≤ a) (a1 : a < Qx) (b0 : 0 ≤ b) (b1 : b < Qy) : f_X0_covers m z x (I a) y (I b) = some (I (ind (cvF ndx ndy a b))) := by
  have h6 := hX.2.1.2.1
  have h6' := hY.2.1.2.1
  obtain ⟨v1, -⟩ := hX.2.2 a a0 a1
  obtain ⟨w1, -⟩ := hY.2.2 b b0 b1
  have t1 := (hX.2.1.2.2 a a0 a1).1
  have t2 := (hY.2.1.2.2 b b0 b1).1
  unfold f_X0_covers
  have hp : ∀ (k : Int), k = 1 → (Option.bind (α := Int32) (some (I k)) fun t5 => (if t5 = (0 : Int32) then some (0 : Int32) else cO m y 5 <| (f_X5_passing m y (I b)).bind fun v20 => cO m x 5 <| (f_X5_passing m x (I a)).bind fun v24 => (if (v20 &&& (v24 ^^^ (-1 : Int32))) = (0 : Int32) then some (1 : Int32) else some (0 : Int32)))) = some (I (ind ((psS ndy b &&& (psS ndx a ^^^ I (-1))) = I 0))) := by
    intro k hk
    subst hk
    by_cases c : (psS ndy b &&& (psS ndx a ^^^ I (-1))) = I 0
    · rw [ind_t c]
      simp (disch := omega) only [L0, L1, L2, L3, L4, L5, L6, L7, L8, L9, L10, L11, L12, L13, L14, L15, L16, L17, L18, L19, L20, L21, L22, L23, L24, L25, L26, L27, L31, L32, L33, L36, L40, L41, L42, L47, L48, L57, L58, L59, L60, L61, L62, L65, L97, L101, L102, L103, L120, L126, L127, L144, L245, L1023, L1715, I_add, I_sub, I_mul, I_neg, I_lt, I_le, I_eq, a5_cO hx, a5_cO hy, W_passing hx hX, W_passing hy hY, c, Option.bind_some, if_pos, if_neg, if_true, if_false, ite_true, ite_false]
    · rw [ind_f c]
      simp (disch := omega) only [L0, L1, L2, L3, L4, L5, L6, L7, L8, L9, L10, L11, L12, L13, L14, L15, L16, L17, L18, L19, L20, L21, L22, L23, L24, L25, L26, L27, L31, L32, L33, L36, L40, L41, L42, L47, L48, L57, L58, L59, L60, L61, L62, L65, L97, L101, L102, L103, L120, L126, L127, L144, L245, L1023, L1715, I_add, I_sub, I_mul, I_neg, I_lt, I_le, I_eq, a5_cO hx, a5_cO hy, W_passing hx hX, W_passing hy hY, c, if_false, Option.bind_some, if_pos, if_neg, if_true, if_false, ite_true, ite_false]
  by_cases c1 : ndx a 0 = 6
  · have := hp 1 rfl
    simp (disch := omega) only [L0, L1, L2, L3, L4, L5, L6, L7, L8, L9, L10, L11, L12, L13, L14, L15, L16, L17, L18, L19, L20, L21, L22, L23, L24, L25, L26, L27, L31, L32, L33, L36, L40, L41, L42, L47, L48, L57, L58, L59, L60, L61, L62, L65, L97, L101, L102, L103, L120, L126, L127, L144, L245, L1023, L1715, I_add, I_sub, I_mul, I_neg, I_lt, I_le, I_eq, a5_cO hx, a5_g0 hx, a5_g1 hx, a5_g2 hx, a5_g3 hx, a5_g4 hx, a5_g5 hx, a5_g6 hx, a5_l1 hx, a5_l2 hx, a5_l3 hx, a5_l4 hx, a5_l5 hx, a5_l6 hx, v1, Option.bind_some, if_pos, if_neg, if_true, if_false, ite_true, ite_false] at this ⊢
    rw [this]
    exact congrArg some (congrArg I (ind_congr ⟨fun z => ⟨Or.inl c1, z⟩, fun z => z.2⟩))
  · by_cases c2 : ndx a 0 = ndy b 0
    · have := hp 1 rfl
      simp (disch := omega) only [L0, L1, L2, L3, L4, L5, L6, L7, L8, L9, L10, L11, L12, L13, L14, L15, L16, L17, L18, L19, L20, L21, L22, L23, L24, L25, L26, L27, L31, L32, L33, L36, L40, L41, L42, L47, L48, L57, L58, L59, L60, L61, L62, L65, L97, L101, L102, L103, L120, L126, L127, L144, L245, L1023, L1715, I_add, I_sub, I_mul, I_neg, I_lt, I_le, I_eq, a5_cO hx, a5_g0 hx, a5_g1 hx, a5_g2 hx, a5_g3 hx, a5_g4 hx, a5_g5 hx, a5_g6 hx, a5_l1 hx, a5_l2 hx, a5_l3 hx, a5_l4 hx, a5_l5 hx, a5_l6 hx, a5_cO hy, a5_g0 hy, a5_g1 hy, a5_g2 hy, a5_g3 hy, a5_g4 hy, a5_g5 hy, a5_g6 hy, a5_l1 hy, a5_l2 hy, a5_l3 hy, a5_l4 hy, a5_l5 hy, a5_l6 hy, v1, w1, Option.bind_some, if_pos, if_neg, if_true, if_false, ite_true, ite_false] at this ⊢
      rw [this]
      exact congrArg some (congrArg I (ind_congr ⟨fun z => ⟨Or.inr c2, z⟩, fun z => z.2⟩))
    · rw [ind_f (by omega)]
      simp (disch := omega) only [L0, L1, L2, L3, L4, L5, L6, L7, L8, L9, L10, L11, L12, L13, L14, L15, L16, L17, L18, L19, L20, L21, L22, L23, L24, L25, L26, L27, L31, L32, L33, L36, L40, L41, L42, L47, L48, L57, L58, L59, L60, L61, L62, L65, L97, L101, L102, L103, L120, L126, L127, L144, L245, L1023, L1715, I_add, I_sub, I_mul, I_neg, I_lt, I_le, I_eq, a5_cO hx, a5_g0 hx, a5_g1 hx, a5_g2 hx, a5_g3 hx, a5_g4 hx, a5_g5 hx, a5_g6 hx, a5_l1 hx, a5_l2 hx, a5_l3 hx, a5_l4 hx, a5_l5 hx, a5_l6 hx, a5_cO hy, a5_g0 hy, a5_g1 hy, a5_g2 hy, a5_g3 hy, a5_g4 hy, a5_g5 hy, a5_g6 hy, a5_l1 hy, a5_l2 hy, a5_l3 hy, a5_l4 hy, a5_l5 hy, a5_l6 hy, v1, w1, Option.bind_some, if_pos, if_neg, if_true, if_false, ite_true, ite_false]
theorem F_places (hy : At m y (o5 y Fy Ay)) (hY : WR Fy Ay Qy ndy) {z : Nat} {j b : Int} (j0 : 0 ≤ j) (j1 : j ≤ 2) (b0 : 0 ≤ b) (b1 : b < Qy) : ∃ s, f_X0_placesBelow m z (I j) y (I b) = some s ∧ ∀ k, 0 ≤ k → k < 32 → (hb s k ↔ plF Qy ndy j b k) := by
  have h6 := hY.2.1.2.1
  obtain ⟨e1, e2⟩ := eW_in (nd := ndy) b1
  unfold f_X0_placesBelow
  simp (disch := omega) only [a5_cO hy, W_last hy hY, Option.bind_some, if_pos, if_neg, if_true, if_false, ite_true, ite_false]
  have key : Ok (whl (σ := Int32 × Int32) (ρ := (Int32)) FU (fun t5 => f_X0_placesBelow_L15 m (I j) y (I b) (I (eW Qy ndy b - 1)) t5.1 t5.2) ((0 : Int32), I b + (1 : Int32))) (fun s => ∀ k, 0 ≤ k → k < 32 → (hb s k ↔ plF Qy ndy j b k)) := by
    simp only [L0, L1, L2, L3, L4, L5, L6, L7, L8, L9, L10, L11, L12, L13, L14, L15, L16, L17, L18, L19, L20, L21, L22, L23, L24, L25, L26, L27, L31, L32, L33, L36, L40, L41, L42, L47, L48, L57, L58, L59, L60, L61, L62, L65, L97, L101, L102, L103, L120, L126, L127, L144, L245, L1023, L1715, I_add]
    refine Ok.whl (fun jj s => ∃ d st, s = (st, I d) ∧ b < d ∧ d ≤ eW Qy ndy b ∧ jj = (eW Qy ndy b - d).toNat ∧ ∀ k, 0 ≤ k → k < 32 → (hb st k ↔ k < d ∧ plF Qy ndy j b k)) _ (j := (eW Qy ndy b - (b + 1)).toNat) ?_ ⟨b + 1, I 0, rfl, by omega, by omega, rfl, fun k k0 k1 => ⟨fun q => absurd q hb_0, fun q => by omega⟩⟩ (FU_lt (by omega))
    rintro jj s ⟨d, st, rfl, d0, d1, rfl, hk⟩
    dsimp only
    unfold f_X0_placesBelow_L15 f_X0_placesBelow_J49
    by_cases c1 : eW Qy ndy b ≤ d
    · simp (disch := omega) only [I_add, I_sub, I_mul, I_neg, I_lt, I_le, I_eq, Option.bind_some, if_pos, if_neg, if_true, if_false, ite_true, ite_false]
      refine Ok.pure (Or.inr ⟨_, rfl, fun k k0 k1 => ?_⟩)
      rw [hk k k0 k1]
      exact ⟨fun q => q.2, fun q => ⟨by omega, q⟩⟩
    · obtain ⟨w1, w2, w3, w4, w5, w6⟩ := hY.2.2 d (by omega) (by omega)
      have hab := hY.2.1.ab (show 0 ≤ d by omega) (by omega)
      have ht := (hY.2.1.2.2 d (by omega) (by omega)).2.2.2.1
      have hadd : plF Qy ndy j b d → ∀ k, 0 ≤ k → k < 32 → (hb (st ||| (I 1 <<< (I d &&& I 31))) k ↔ k < d + 1 ∧ plF Qy ndy j b k) := by
        intro hp k k0 k1
        rw [hb_or, hk k k0 k1, hb_bit (by omega) (by omega) k0 k1]
        constructor
        · rintro (q | rfl)
          · exact ⟨by omega, q.2⟩
          · exact ⟨by omega, hp⟩
        · rintro ⟨q1, q2⟩
          by_cases z : k = d
          · exact Or.inr z
          · exact Or.inl ⟨by omega, q2⟩
      have hnot : ¬ plF Qy ndy j b d → ∀ k, 0 ≤ k → k < 32 → (hb st k ↔ k < d + 1 ∧ plF Qy ndy j b k) := by
        intro hp k k0 k1
        rw [hk k k0 k1]
        constructor
        · exact fun q => ⟨by omega, q.2⟩
        · rintro ⟨q1, q2⟩
          by_cases z : k = d
          · subst z; exact absurd q2 hp
          · exact ⟨by omega, q2⟩
      by_cases c2 : j = 2
      · simp (disch := omega) only [L0, L1, L2, L3, L4, L5, L6, L7, L8, L9, L10, L11, L12, L13, L14, L15, L16, L17, L18, L19, L20, L21, L22, L23, L24, L25, L26, L27, L31, L32, L33, L36, L40, L41, L42, L47, L48, L57, L58, L59, L60, L61, L62, L65, L97, L101, L102, L103, L120, L126, L127, L144, L245, L1023, L1715, I_add, I_sub, I_mul, I_neg, I_lt, I_le, I_eq, Option.bind_some, if_pos, if_neg, if_true, if_false, ite_true, ite_false]
        exact Ok.pure (Or.inl ⟨_, (eW Qy ndy b - (d + 1)).toNat, rfl, ⟨d + 1, _, rfl, by omega, by omega, rfl, hadd ⟨d0, by omega, Or.inl c2⟩⟩, by omega⟩)
      · by_cases c3 : ndy d 5 = b
        · by_cases c4 : ndy d 3 = 1
          · simp (disch := omega) only [L0, L1, L2, L3, L4, L5, L6, L7, L8, L9, L10, L11, L12, L13, L14, L15, L16, L17, L18, L19, L20, L21, L22, L23, L24, L25, L26, L27, L31, L32, L33, L36, L40, L41, L42, L47, L48, L57, L58, L59, L60, L61, L62, L65, L97, L101, L102, L103, L120, L126, L127, L144, L245, L1023, L1715, I_add, I_sub, I_mul, I_neg, I_lt, I_le, I_eq, a5_cO hy, a5_g0 hy, a5_g1 hy, a5_g2 hy, a5_g3 hy, a5_g4 hy, a5_g5 hy, a5_g6 hy, a5_l1 hy, a5_l2 hy, a5_l3 hy, a5_l4 hy, a5_l5 hy, a5_l6 hy, w4, w6, Option.bind_some, if_pos, if_neg, if_true, if_false, ite_true, ite_false]
            exact Ok.pure (Or.inl ⟨_, (eW Qy ndy b - (d + 1)).toNat, rfl, ⟨d + 1, _, rfl, by omega, by omega, rfl, hadd ⟨d0, by omega, Or.inr ⟨c3, c4⟩⟩⟩, by omega⟩)
          · simp (disch := omega) only [L0, L1, L2, L3, L4, L5, L6, L7, L8, L9, L10, L11, L12, L13, L14, L15, L16, L17, L18, L19, L20, L21, L22, L23, L24, L25, L26, L27, L31, L32, L33, L36, L40, L41, L42, L47, L48, L57, L58, L59, L60, L61, L62, L65, L97, L101, L102, L103, L120, L126, L127, L144, L245, L1023, L1715, I_add, I_sub, I_mul, I_neg, I_lt, I_le, I_eq, a5_cO hy, a5_g0 hy, a5_g1 hy, a5_g2 hy, a5_g3 hy, a5_g4 hy, a5_g5 hy, a5_g6 hy, a5_l1 hy, a5_l2 hy, a5_l3 hy, a5_l4 hy, a5_l5 hy, a5_l6 hy, w4, w6, Option.bind_some, if_pos, if_neg, if_true, if_false, ite_true, ite_false]
            exact Ok.pure (Or.inl ⟨_, (eW Qy ndy b - (d + 1)).toNat, rfl, ⟨d + 1, _, rfl, by omega, by omega, rfl, hnot (by omega)⟩, by omega⟩)
        · simp (disch := omega) only [L0, L1, L2, L3, L4, L5, L6, L7, L8, L9, L10, L11, L12, L13, L14, L15, L16, L17, L18, L19, L20, L21, L22, L23, L24, L25, L26, L27, L31, L32, L33, L36, L40, L41, L42, L47, L48, L57, L58, L59, L60, L61, L62, L65, L97, L101, L102, L103, L120, L126, L127, L144, L245, L1023, L1715, I_add, I_sub, I_mul, I_neg, I_lt, I_le, I_eq, a5_cO hy, a5_g0 hy, a5_g1 hy, a5_g2 hy, a5_g3 hy, a5_g4 hy, a5_g5 hy, a5_g6 hy, a5_l1 hy, a5_l2 hy, a5_l3 hy, a5_l4 hy, a5_l5 hy, a5_l6 hy, w4, w6, Option.bind_some, if_pos, if_neg, if_true, if_false, ite_true, ite_false]
          exact Ok.pure (Or.inl ⟨_, (eW Qy ndy b - (d + 1)).toNat, rfl, ⟨d + 1, _, rfl, by omega, by omega, rfl, hnot (by omega)⟩, by omega⟩)
  obtain ⟨s, hs, hq⟩ := key
  exact ⟨s, by rw [hs]; rfl, hq⟩
theorem F_branches (hx : At m x (o5 x Fx Ax)) (hX : WR Fx Ax Qx ndx) (hy : At m y (o5 y Fy Ay)) (hY : WR Fy Ay Qy ndy) {z : Nat} (hz : At m z (o0 z F A)) {a b : Int} (a0 : 0 ≤ a) (a1 : a < Qx) (b0 : 0 ≤ b) (b1 : b < Qy) : ∃ r : Int, f_X0_branchesMap m z x (I a) y (I b) = some (I r) ∧ ((r = 1 ∧ brF Qx Qy ndx ndy (fun c => I (A 1 c)) a b) ∨ (r = 0 ∧ ¬ brF Qx Qy ndx ndy (fun c => I (A 1 c)) a b)) := by
  have h6 := hX.2.1.2.1
  have hF := hX.1
  have h6' := hY.2.1.2.1
  obtain ⟨e1, e2⟩ := eW_in (nd := ndy) b1
  unfold f_X0_branchesMap
  have key : Ok (whl (σ := Int32) (ρ := ((Unit) ⊕ (Unit))) FU (fun t1 => f_X0_branchesMap_L5 m z x (I a) y (I b) t1) (I a + (1 : Int32))) (fun r => (r = .inl () ∧ brF Qx Qy ndx ndy (fun c => I (A 1 c)) a b) ∨ (r = .inr () ∧ ¬ brF Qx Qy ndx ndy (fun c => I (A 1 c)) a b)) := by
    simp only [L0, L1, L2, L3, L4, L5, L6, L7, L8, L9, L10, L11, L12, L13, L14, L15, L16, L17, L18, L19, L20, L21, L22, L23, L24, L25, L26, L27, L31, L32, L33, L36, L40, L41, L42, L47, L48, L57, L58, L59, L60, L61, L62, L65, L97, L101, L102, L103, L120, L126, L127, L144, L245, L1023, L1715, I_add]
    refine Ok.whl (fun jj s => ∃ c, s = I c ∧ a < c ∧ c ≤ Qx ∧ jj = (Qx - c).toNat ∧ ∀ k, a < k → k < c → ndx k 5 = a → ∃ d, plF Qy ndy (ndx k 3) b d ∧ hb (I (A 1 k)) d) _ (j := (Qx - (a + 1)).toNat) ?_ ⟨a + 1, rfl, by omega, by omega, rfl, fun k k0 k1 => by omega⟩ (FU_lt (by omega))
    rintro jj s ⟨c, rfl, c0, c1, rfl, hk⟩
    unfold f_X0_branchesMap_L5
    by_cases d1 : Qx ≤ c
    · simp (disch := omega) only [I_add, I_sub, I_mul, I_neg, I_lt, I_le, I_eq, a5_cO hx, a5_g0 hx, a5_g1 hx, a5_g2 hx, a5_g3 hx, a5_g4 hx, a5_g5 hx, a5_g6 hx, a5_l1 hx, a5_l2 hx, a5_l3 hx, a5_l4 hx, a5_l5 hx, a5_l6 hx, Option.bind_some, if_pos, if_neg, if_true, if_false, ite_true, ite_false]
      exact Ok.pure (Or.inr ⟨_, rfl, Or.inl ⟨rfl, fun k k0 k1 k2 => hk k k0 (by omega) k2⟩⟩)
    · obtain ⟨w1, w2, w3, w4, w5, w6⟩ := hX.2.2 c (by omega) (by omega)
      have hab := hX.2.1.ab (show 0 ≤ c by omega) (by omega)
      have ht := (hX.2.1.2.2 c (by omega) (by omega)).2.2.2.1
      by_cases d2 : ndx c 5 = a
      · obtain ⟨s, hs, hsp⟩ := F_places (z := z) hy hY (j := ndx c 3) (by omega) (by omega) b0 b1
        by_cases d3 : (I (A 1 c) &&& s) = I 0
        · simp (disch := omega) only [L0, L1, L2, L3, L4, L5, L6, L7, L8, L9, L10, L11, L12, L13, L14, L15, L16, L17, L18, L19, L20, L21, L22, L23, L24, L25, L26, L27, L31, L32, L33, L36, L40, L41, L42, L47, L48, L57, L58, L59, L60, L61, L62, L65, L97, L101, L102, L103, L120, L126, L127, L144, L245, L1023, L1715, I_add, I_sub, I_mul, I_neg, I_lt, I_le, I_eq, a5_cO hx, a5_g0 hx, a5_g1 hx, a5_g2 hx, a5_g3 hx, a5_g4 hx, a5_g5 hx, a5_g6 hx, a5_l1 hx, a5_l2 hx, a5_l3 hx, a5_l4 hx, a5_l5 hx, a5_l6 hx, w4, w6, a0_g0 hz, a0_l1 hz, a0_cO hz, hs, d3, Option.bind_some, if_pos, if_neg, if_true, if_false, ite_true, ite_false]
          refine Ok.pure (Or.inr ⟨_, rfl, Or.inr ⟨rfl, fun q => ?_⟩⟩)
          obtain ⟨d, p1, p2⟩ := q c c0 (by omega) d2
          refine hb_none.mp d3 d (by omega) (by omega) (hb_and.mpr ⟨p2, (hsp d (by omega) (by omega)).mpr p1⟩)
        · simp (disch := omega) only [L0, L1, L2, L3, L4, L5, L6, L7, L8, L9, L10, L11, L12, L13, L14, L15, L16, L17, L18, L19, L20, L21, L22, L23, L24, L25, L26, L27, L31, L32, L33, L36, L40, L41, L42, L47, L48, L57, L58, L59, L60, L61, L62, L65, L97, L101, L102, L103, L120, L126, L127, L144, L245, L1023, L1715, I_add, I_sub, I_mul, I_neg, I_lt, I_le, I_eq, a5_cO hx, a5_g0 hx, a5_g1 hx, a5_g2 hx, a5_g3 hx, a5_g4 hx, a5_g5 hx, a5_g6 hx, a5_l1 hx, a5_l2 hx, a5_l3 hx, a5_l4 hx, a5_l5 hx, a5_l6 hx, w4, w6, a0_g0 hz, a0_l1 hz, a0_cO hz, hs, d3, if_false, Option.bind_some, if_pos, if_neg, if_true, if_false, ite_true, ite_false]
          refine Ok.pure (Or.inl ⟨_, (Qx - (c + 1)).toNat, rfl, ⟨c + 1, rfl, by omega, by omega, rfl, fun k k0 k1 k2 => ?_⟩, by omega⟩)
          by_cases q : k = c
          · subst q
            by_cases q2 : ∃ d, plF Qy ndy (ndx k 3) b d ∧ hb (I (A 1 k)) d
            · exact q2
            · exfalso
              refine d3 (hb_none.mpr (fun j j0 j1 j2 => ?_))
              obtain ⟨z1, z2⟩ := hb_and.mp j2
              exact q2 ⟨j, (hsp j j0 j1).mp z2, z1⟩
          · exact hk k k0 (by omega) k2
      · simp (disch := omega) only [L0, L1, L2, L3, L4, L5, L6, L7, L8, L9, L10, L11, L12, L13, L14, L15, L16, L17, L18, L19, L20, L21, L22, L23, L24, L25, L26, L27, L31, L32, L33, L36, L40, L41, L42, L47, L48, L57, L58, L59, L60, L61, L62, L65, L97, L101, L102, L103, L120, L126, L127, L144, L245, L1023, L1715, I_add, I_sub, I_mul, I_neg, I_lt, I_le, I_eq, a5_cO hx, a5_g0 hx, a5_g1 hx, a5_g2 hx, a5_g3 hx, a5_g4 hx, a5_g5 hx, a5_g6 hx, a5_l1 hx, a5_l2 hx, a5_l3 hx, a5_l4 hx, a5_l5 hx, a5_l6 hx, w4, w6, Option.bind_some, if_pos, if_neg, if_true, if_false, ite_true, ite_false]
        refine Ok.pure (Or.inl ⟨_, (Qx - (c + 1)).toNat, rfl, ⟨c + 1, rfl, by omega, by omega, rfl, fun k k0 k1 k2 => ?_⟩, by omega⟩)
        by_cases q : k = c
        · subst q; exact absurd k2 d2
        · exact hk k k0 (by omega) k2
  obtain ⟨r, hr, hq⟩ := key
  rw [hr]
  rcases hq with ⟨rfl, hq⟩ | ⟨rfl, hq⟩
  · exact ⟨1, rfl, Or.inl ⟨rfl, hq⟩⟩
  · exact ⟨0, rfl, Or.inr ⟨rfl, hq⟩⟩
theorem F_roots {z : Nat} (hx : At m x (o5 x Fx Ax)) (hX : WR Fx Ax Qx ndx) (hy : At m y (o5 y Fy Ay)) (hY : WR Fy Ay Qy ndy) (hz : At m z (o0 z F A)) (hd : x + 6 < z) (hd' : y + 6 < z) (hQ : 1 ≤ Qx) {un : Int32} : Ok (f_X0_rootTargets m z x y un) (fun r => ∃ t, IsF Qx Qy ndx ndy un t ∧ r.1 = t 0 ∧ ∃ A', r.2 = ov m z (o0 z F A')) := by
  have h6 := hX.2.1.2.1
  have hF := hX.1
  have hFy := hY.1
  have h6' := hY.2.1.2.1
  have hlz := a0_len hz
  unfold f_X0_rootTargets
  simp (disch := omega) only [a5_g0 hx, hF, L0, L1, L2, L3, L4, L5, L6, L7, L8, L9, L10, L11, L12, L13, L14, L15, L16, L17, L18, L19, L20, L21, L22, L23, L24, L25, L26, L27, L31, L32, L33, L36, L40, L41, L42, L47, L48, L57, L58, L59, L60, L61, L62, L65, L97, L101, L102, L103, L120, L126, L127, L144, L245, L1023, L1715, I_add, I_sub, I_mul, I_neg, I_lt, I_le, I_eq, Option.bind_some, if_pos, if_neg, if_true, if_false, ite_true, ite_false]
  refine Ok.bind (P := fun m' => ∃ A', m' = ov m z (o0 z F A') ∧ IsF Qx Qy ndx ndy un (fun c => I (A' 1 c))) ?_ ?_
  · refine Ok.whl (fun jj s => ∃ a A', s = (I a, ov m z (o0 z F A')) ∧ -1 ≤ a ∧ a < Qx ∧ jj = (a + 1).toNat ∧ ∀ k, a < k → k < Qx → IsFa Qx Qy ndx ndy un (fun c => I (A' 1 c)) k) _ (j := (Qx - 1 + 1).toNat) ?_ ⟨Qx - 1, A, by rw [hz.ov], by omega, by omega, rfl, fun k k0 k1 => by omega⟩ (FU_lt (by omega))
    rintro jj s ⟨a, A1, rfl, a0, a1, rfl, hk⟩
    dsimp only
    unfold f_X0_rootTargets_L8
    by_cases c1 : a < 0
    · simp (disch := omega) only [L0, L1, L2, L3, L4, L5, L6, L7, L8, L9, L10, L11, L12, L13, L14, L15, L16, L17, L18, L19, L20, L21, L22, L23, L24, L25, L26, L27, L31, L32, L33, L36, L40, L41, L42, L47, L48, L57, L58, L59, L60, L61, L62, L65, L97, L101, L102, L103, L120, L126, L127, L144, L245, L1023, L1715, I_add, I_sub, I_mul, I_neg, I_lt, I_le, I_eq, Option.bind_some, if_pos, if_neg, if_true, if_false, ite_true, ite_false]
      exact Ok.pure (Or.inr ⟨_, rfl, A1, rfl, fun k k0 k1 => hk k (by omega) k1⟩)
    · simp (disch := omega) only [L0, L1, L2, L3, L4, L5, L6, L7, L8, L9, L10, L11, L12, L13, L14, L15, L16, L17, L18, L19, L20, L21, L22, L23, L24, L25, L26, L27, L31, L32, L33, L36, L40, L41, L42, L47, L48, L57, L58, L59, L60, L61, L62, L65, L97, L101, L102, L103, L120, L126, L127, L144, L245, L1023, L1715, I_add, I_sub, I_mul, I_neg, I_lt, I_le, I_eq, Option.bind_some, if_pos, if_neg, if_true, if_false, ite_true, ite_false]
      have hz1 : At (ov m z (o0 z F A1)) z (o0 z F A1) := o0_At hlz
      have hfr : Fr m (ov m z (o0 z F A1)) z (z + 1 + 1) := Fr.ov (fun off h => o0_N off h)
      have hx1 := hx.fr (fun off h => o5_N off h) hfr (by omega)
      have hy1 := hy.fr (fun off h => o5_N off h) hfr (by omega)
      refine Ok.bind (P := fun st => ∀ b, 0 ≤ b → b < 32 → (hb st b ↔ b < Qy ∧ ¬ hb un b ∧ cvF ndx ndy a b ∧ brF Qx Qy ndx ndy (fun c => I (A1 1 c)) a b)) ?_ ?_
      · refine Ok.whl (fun jj s => ∃ b st, s = (st, I b) ∧ 0 ≤ b ∧ b ≤ Qy ∧ jj = (Qy - b).toNat ∧ ∀ k, 0 ≤ k → k < 32 → (hb st k ↔ k < b ∧ ¬ hb un k ∧ cvF ndx ndy a k ∧ brF Qx Qy ndx ndy (fun c => I (A1 1 c)) a k)) _ (j := (Qy - 0).toNat) ?_ ⟨0, I 0, rfl, by omega, hY.2.1.1, rfl, fun k k0 k1 => ⟨fun q => absurd q hb_0, fun q => by omega⟩⟩ (FU_lt (by omega))
        rintro jj s ⟨b, st, rfl, b0, b1, rfl, hs⟩
        dsimp only
        unfold f_X0_rootTargets_L19
        by_cases d1 : Qy ≤ b
        · simp (disch := omega) only [a5_g0 hy1, hFy, I_add, I_sub, I_mul, I_neg, I_lt, I_le, I_eq, Option.bind_some, if_pos, if_neg, if_true, if_false, ite_true, ite_false]
          refine Ok.pure (Or.inr ⟨_, rfl, fun k k0 k1 => ?_⟩)
          rw [hs k k0 k1]
          rw [show b = Qy by omega]
        · have hadd : (¬ hb un b ∧ cvF ndx ndy a b ∧ brF Qx Qy ndx ndy (fun c => I (A1 1 c)) a b) → ∀ k, 0 ≤ k → k < 32 → (hb (st ||| (I 1 <<< (I b &&& I 31))) k ↔ k < b + 1 ∧ ¬ hb un k ∧ cvF ndx ndy a k ∧ brF Qx Qy ndx ndy (fun c => I (A1 1 c)) a k) := by
            intro hp k k0 k1
            rw [hb_or, hs k k0 k1, hb_bit (by omega) (by omega) k0 k1]
            constructor
            · rintro (q | rfl)
              · exact ⟨by omega, q.2⟩
              · exact ⟨by omega, hp⟩
            · rintro ⟨q1, q2⟩
              by_cases z : k = b
              · exact Or.inr z
              · exact Or.inl ⟨by omega, q2⟩
          have hnot : ¬ (¬ hb un b ∧ cvF ndx ndy a b ∧ brF Qx Qy ndx ndy (fun c => I (A1 1 c)) a b) → ∀ k, 0 ≤ k → k < 32 → (hb st k ↔ k < b + 1 ∧ ¬ hb un k ∧ cvF ndx ndy a k ∧ brF Qx Qy ndx ndy (fun c => I (A1 1 c)) a k) := by
            intro hp k k0 k1
            rw [hs k k0 k1]
            constructor
            · exact fun q => ⟨by omega, q.2⟩
            · rintro ⟨q1, q2⟩
              by_cases z : k = b
              · subst z; exact absurd q2 hp
              · exact ⟨by omega, q2⟩
          by_cases d2 : hb un b
          · simp (disch := omega) only [a5_g0 hy1, hFy, C_holds, ind_t d2, L0, L1, L2, L3, L4, L5, L6, L7, L8, L9, L10, L11, L12, L13, L14, L15, L16, L17, L18, L19, L20, L21, L22, L23, L24, L25, L26, L27, L31, L32, L33, L36, L40, L41, L42, L47, L48, L57, L58, L59, L60, L61, L62, L65, L97, L101, L102, L103, L120, L126, L127, L144, L245, L1023, L1715, I_add, I_sub, I_mul, I_neg, I_lt, I_le, I_eq, Option.bind_some, if_pos, if_neg, if_true, if_false, ite_true, ite_false]
            exact Ok.pure (Or.inl ⟨_, (Qy - (b + 1)).toNat, rfl, ⟨b + 1, _, rfl, by omega, by omega, rfl, hnot (fun q => q.1 d2)⟩, by omega⟩)
          · by_cases d3 : cvF ndx ndy a b
            · obtain ⟨r, hr, hrq⟩ := F_branches (z := z) hx1 hX hy1 hY hz1 (a := a) (b := b) (by omega) (by omega) b0 (by omega)
              rcases hrq with ⟨rfl, hq⟩ | ⟨rfl, hq⟩
              · simp (disch := omega) only [a5_g0 hy1, hFy, C_holds, ind_f d2, a0_cO hz1, F_covers hx1 hX hy1 hY, ind_t d3, hr, L0, L1, L2, L3, L4, L5, L6, L7, L8, L9, L10, L11, L12, L13, L14, L15, L16, L17, L18, L19, L20, L21, L22, L23, L24, L25, L26, L27, L31, L32, L33, L36, L40, L41, L42, L47, L48, L57, L58, L59, L60, L61, L62, L65, L97, L101, L102, L103, L120, L126, L127, L144, L245, L1023, L1715, I_add, I_sub, I_mul, I_neg, I_lt, I_le, I_eq, Option.bind_some, if_pos, if_neg, if_true, if_false, ite_true, ite_false]
                exact Ok.pure (Or.inl ⟨_, (Qy - (b + 1)).toNat, rfl, ⟨b + 1, _, rfl, by omega, by omega, rfl, hadd ⟨d2, d3, hq⟩⟩, by omega⟩)
              · simp (disch := omega) only [a5_g0 hy1, hFy, C_holds, ind_f d2, a0_cO hz1, F_covers hx1 hX hy1 hY, ind_t d3, hr, L0, L1, L2, L3, L4, L5, L6, L7, L8, L9, L10, L11, L12, L13, L14, L15, L16, L17, L18, L19, L20, L21, L22, L23, L24, L25, L26, L27, L31, L32, L33, L36, L40, L41, L42, L47, L48, L57, L58, L59, L60, L61, L62, L65, L97, L101, L102, L103, L120, L126, L127, L144, L245, L1023, L1715, I_add, I_sub, I_mul, I_neg, I_lt, I_le, I_eq, Option.bind_some, if_pos, if_neg, if_true, if_false, ite_true, ite_false]
                exact Ok.pure (Or.inl ⟨_, (Qy - (b + 1)).toNat, rfl, ⟨b + 1, _, rfl, by omega, by omega, rfl, hnot (fun q => hq q.2.2)⟩, by omega⟩)
            · simp (disch := omega) only [a5_g0 hy1, hFy, C_holds, ind_f d2, a0_cO hz1, F_covers hx1 hX hy1 hY, ind_f d3, L0, L1, L2, L3, L4, L5, L6, L7, L8, L9, L10, L11, L12, L13, L14, L15, L16, L17, L18, L19, L20, L21, L22, L23, L24, L25, L26, L27, L31, L32, L33, L36, L40, L41, L42, L47, L48, L57, L58, L59, L60, L61, L62, L65, L97, L101, L102, L103, L120, L126, L127, L144, L245, L1023, L1715, I_add, I_sub, I_mul, I_neg, I_lt, I_le, I_eq, Option.bind_some, if_pos, if_neg, if_true, if_false, ite_true, ite_false]
              exact Ok.pure (Or.inl ⟨_, (Qy - (b + 1)).toNat, rfl, ⟨b + 1, _, rfl, by omega, by omega, rfl, hnot (fun q => d3 q.2.1)⟩, by omega⟩)
      · intro st hst
        obtain ⟨v, rfl, -, -⟩ := I_ex st
        simp (disch := omega) only [o0_g0, o0_s1, I_add, I_sub, I_mul, I_neg, I_lt, I_le, I_eq, Option.bind_some, if_pos, if_neg, if_true, if_false, ite_true, ite_false]
        have ho : ∀ c, a < c → c < Qx → (fun c => I (upN A1 1 (upZ (A1 1) a v) 1 c)) c = (fun c => I (A1 1 c)) c := fun c c0 c1 => by
          dsimp only
          rw [upN_at, upZ_ne (by omega)]
        refine Ok.pure (Or.inl ⟨_, (a + -1 + 1).toNat, rfl, ⟨a + -1, _, rfl, by omega, by omega, rfl, fun k k0 k1 => ?_⟩, by omega⟩)
        intro b b0 b1
        rw [brF_congr (t' := fun c => I (A1 1 c)) (fun c c0 c1 => ho c (by omega) c1)]
        by_cases q : k = a
        · subst q
          dsimp only
          rw [upN_at, upZ_at]
          exact hst b b0 b1
        · rw [ho k (by omega) k1]
          exact hk k (by omega) k1 b b0 b1
  · rintro m' ⟨A', rfl, hI⟩
    simp (disch := omega) only [o0_g0, o0_l1, I_add, I_sub, I_mul, I_neg, I_lt, I_le, I_eq, Option.bind_some, if_pos, if_neg, if_true, if_false, ite_true, ite_false]
    exact Ok.pure ⟨_, hI, rfl, A', rfl⟩
end CF
