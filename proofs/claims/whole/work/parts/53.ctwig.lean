/-! ===== the class: a twig's questions ===== -/
/-- a value passes a node's test -/
abbrev psF (nd : Int → Int → Int) (q v : Int) : Prop := nd q 1 = 0 ∨ (nd q 1 = 1 ∧ v = nd q 2) ∨ (nd q 1 = 2 ∧ v < nd q 2) ∨ (nd q 1 = 3 ∧ nd q 2 < v)
def psS (nd : Int → Int → Int) (q : Int) : Int32 := bs (fun v => psF nd q v) 10
theorem hb_psS {nd : Int → Int → Int} {q k : Int} (h0 : 0 ≤ k) (h1 : k < 32) : hb (psS nd q) k ↔ k < 10 ∧ psF nd q k := hb_bs (by omega) h0 h1
theorem hb_1023 {k : Int} (h0 : 0 ≤ k) (h1 : k < 32) : hb (I 1023) k ↔ k < 10 := by
  have := hb_pre (d := 10) (by omega) (by omega) h0 h1
  rwa [show (I 1 <<< (I 10 &&& I 31)) - I 1 = I 1023 by decide] at this
section CW
variable {m : Mm} {b : Nat} {F : Nat → Int} {A : Nat → Int → Int} {Q : Int} {nd : Int → Int → Int}
theorem W_passing (h : At m b (o5 b F A)) (hW : WR F A Q nd) {q : Int} (h0 : 0 ≤ q) (h1 : q < Q) : f_X5_passing m b (I q) = some (psS nd q) := by
  have h6 := hW.2.1.2.1
  obtain ⟨w1, w2, w3, w4, w5, w6⟩ := hW.2.2 q h0 h1
  obtain ⟨t1, t2, t3, -⟩ := hW.2.1.2.2 q h0 h1
  unfold f_X5_passing
  have hc : nd q 1 = 0 ∨ nd q 1 = 1 ∨ nd q 1 = 2 ∨ nd q 1 = 3 := by omega
  rcases hc with c | c | c | c
  · have w2' : A 2 q = 0 := by rw [w2, c]; rfl
    simp (disch := omega) only [L0, L1, L2, L3, L4, L5, L6, L7, L8, L9, L10, L11, L12, L13, L14, L15, L16, L17, L18, L19, L20, L21, L22, L23, L24, L25, L26, L27, L31, L32, L33, L36, L40, L41, L42, L47, L48, L57, L58, L59, L60, L61, L62, L65, L97, L101, L102, L103, L120, L126, L127, L144, L245, L1023, L1715, I_add, I_sub, I_mul, I_neg, I_lt, I_le, I_eq, a5_cO h, a5_g0 h, a5_g1 h, a5_g2 h, a5_g3 h, a5_g4 h, a5_g5 h, a5_g6 h, a5_l1 h, a5_l2 h, a5_l3 h, a5_l4 h, a5_l5 h, a5_l6 h, w2', w3, Option.bind_some, if_pos, if_neg, if_true, if_false, ite_true, ite_false]
    congr 1
    apply hb_ext
    intro k k0 k1
    rw [hb_1023 k0 k1, hb_psS k0 k1]
    constructor
    · exact fun z => ⟨z, Or.inl c⟩
    · exact fun z => z.1
  · have w2' : A 2 q = 61 := by rw [w2, c]; rfl
    simp (disch := omega) only [L0, L1, L2, L3, L4, L5, L6, L7, L8, L9, L10, L11, L12, L13, L14, L15, L16, L17, L18, L19, L20, L21, L22, L23, L24, L25, L26, L27, L31, L32, L33, L36, L40, L41, L42, L47, L48, L57, L58, L59, L60, L61, L62, L65, L97, L101, L102, L103, L120, L126, L127, L144, L245, L1023, L1715, I_add, I_sub, I_mul, I_neg, I_lt, I_le, I_eq, a5_cO h, a5_g0 h, a5_g1 h, a5_g2 h, a5_g3 h, a5_g4 h, a5_g5 h, a5_g6 h, a5_l1 h, a5_l2 h, a5_l3 h, a5_l4 h, a5_l5 h, a5_l6 h, w2', w3, Option.bind_some, if_pos, if_neg, if_true, if_false, ite_true, ite_false]
    congr 1
    apply hb_ext
    intro k k0 k1
    rw [hb_bit (by omega) (by omega) k0 k1, hb_psS k0 k1]
    omega
  · have w2' : A 2 q = 60 := by rw [w2, c]; rfl
    simp (disch := omega) only [L0, L1, L2, L3, L4, L5, L6, L7, L8, L9, L10, L11, L12, L13, L14, L15, L16, L17, L18, L19, L20, L21, L22, L23, L24, L25, L26, L27, L31, L32, L33, L36, L40, L41, L42, L47, L48, L57, L58, L59, L60, L61, L62, L65, L97, L101, L102, L103, L120, L126, L127, L144, L245, L1023, L1715, I_add, I_sub, I_mul, I_neg, I_lt, I_le, I_eq, a5_cO h, a5_g0 h, a5_g1 h, a5_g2 h, a5_g3 h, a5_g4 h, a5_g5 h, a5_g6 h, a5_l1 h, a5_l2 h, a5_l3 h, a5_l4 h, a5_l5 h, a5_l6 h, w2', w3, Option.bind_some, if_pos, if_neg, if_true, if_false, ite_true, ite_false]
    congr 1
    apply hb_ext
    intro k k0 k1
    rw [hb_pre (by omega) (by omega) k0 k1, hb_psS k0 k1]
    omega
  · have w2' : A 2 q = 62 := by rw [w2, c]; rfl
    simp (disch := omega) only [L0, L1, L2, L3, L4, L5, L6, L7, L8, L9, L10, L11, L12, L13, L14, L15, L16, L17, L18, L19, L20, L21, L22, L23, L24, L25, L26, L27, L31, L32, L33, L36, L40, L41, L42, L47, L48, L57, L58, L59, L60, L61, L62, L65, L97, L101, L102, L103, L120, L126, L127, L144, L245, L1023, L1715, I_add, I_sub, I_mul, I_neg, I_lt, I_le, I_eq, a5_cO h, a5_g0 h, a5_g1 h, a5_g2 h, a5_g3 h, a5_g4 h, a5_g5 h, a5_g6 h, a5_l1 h, a5_l2 h, a5_l3 h, a5_l4 h, a5_l5 h, a5_l6 h, w2', w3, Option.bind_some, if_pos, if_neg, if_true, if_false, ite_true, ite_false]
    congr 1
    apply hb_ext
    intro k k0 k1
    rw [hb_and, hb_1023 k0 k1, hb_not k1, hb_or, hb_bit (by omega) (by omega) k0 k1, hb_pre (by omega) (by omega) k0 k1, hb_psS k0 k1]
    omega
theorem W_last (h : At m b (o5 b F A)) (hW : WR F A Q nd) {q : Int} (h0 : 0 ≤ q) (h1 : q < Q) : f_X5_last m b (I q) = some (I (eW Q nd q - 1)) := by
  have hF := hW.1
  have h6 := hW.2.1.2.1
  obtain ⟨e1, e2⟩ := eW_in (nd := nd) h1
  obtain ⟨e3, e4⟩ := eW_ab hW.2.1 h0 h1
  unfold f_X5_last
  simp only [L1, I_add]
  refine Ok.eq (Ok.bind (P := fun r => r = I (eW Q nd q - 1)) ?_ (fun r hr => Ok.pure hr))
  refine Ok.whl (fun j s => ∃ r, s = (I (r - 1), I r) ∧ q < r ∧ r ≤ eW Q nd q ∧ j = (eW Q nd q - r).toNat) _ (j := (eW Q nd q - (q + 1)).toNat) ?_ ⟨q + 1, by rw [show q + 1 - 1 = q by omega], by omega, by omega, rfl⟩ (FU_lt (by omega))
  rintro j s ⟨r, rfl, r0, r1, rfl⟩
  dsimp only
  unfold f_X5_last_L6
  by_cases c1 : Q ≤ r
  · simp (disch := omega) only [L0, L1, L2, L3, L4, L5, L6, L7, L8, L9, L10, L11, L12, L13, L14, L15, L16, L17, L18, L19, L20, L21, L22, L23, L24, L25, L26, L27, L31, L32, L33, L36, L40, L41, L42, L47, L48, L57, L58, L59, L60, L61, L62, L65, L97, L101, L102, L103, L120, L126, L127, L144, L245, L1023, L1715, I_add, I_sub, I_mul, I_neg, I_lt, I_le, I_eq, a5_cO h, a5_g0 h, a5_g1 h, a5_g2 h, a5_g3 h, a5_g4 h, a5_g5 h, a5_g6 h, a5_l1 h, a5_l2 h, a5_l3 h, a5_l4 h, a5_l5 h, a5_l6 h, Option.bind_some, if_pos, if_neg, if_true, if_false, ite_true, ite_false]
    exact Ok.pure (Or.inr ⟨_, rfl, by rw [show r = eW Q nd q by omega]⟩)
  · obtain ⟨w1, w2, w3, w4, w5, w6⟩ := hW.2.2 r (by omega) (by omega)
    have hab := hW.2.1.ab (show 0 ≤ r by omega) (by omega)
    by_cases c2 : r < eW Q nd q
    · have := e3 r r0 c2
      simp (disch := omega) only [L0, L1, L2, L3, L4, L5, L6, L7, L8, L9, L10, L11, L12, L13, L14, L15, L16, L17, L18, L19, L20, L21, L22, L23, L24, L25, L26, L27, L31, L32, L33, L36, L40, L41, L42, L47, L48, L57, L58, L59, L60, L61, L62, L65, L97, L101, L102, L103, L120, L126, L127, L144, L245, L1023, L1715, I_add, I_sub, I_mul, I_neg, I_lt, I_le, I_eq, a5_cO h, a5_g0 h, a5_g1 h, a5_g2 h, a5_g3 h, a5_g4 h, a5_g5 h, a5_g6 h, a5_l1 h, a5_l2 h, a5_l3 h, a5_l4 h, a5_l5 h, a5_l6 h, w6, Option.bind_some, if_pos, if_neg, if_true, if_false, ite_true, ite_false]
      exact Ok.pure (Or.inl ⟨_, (eW Q nd q - (r + 1)).toNat, rfl, ⟨r + 1, by rw [show r + 1 - 1 = r by omega], by omega, by omega, rfl⟩, by omega⟩)
    · obtain rfl : r = eW Q nd q := by omega
      have := e4 (by omega)
      simp (disch := omega) only [L0, L1, L2, L3, L4, L5, L6, L7, L8, L9, L10, L11, L12, L13, L14, L15, L16, L17, L18, L19, L20, L21, L22, L23, L24, L25, L26, L27, L31, L32, L33, L36, L40, L41, L42, L47, L48, L57, L58, L59, L60, L61, L62, L65, L97, L101, L102, L103, L120, L126, L127, L144, L245, L1023, L1715, I_add, I_sub, I_mul, I_neg, I_lt, I_le, I_eq, a5_cO h, a5_g0 h, a5_g1 h, a5_g2 h, a5_g3 h, a5_g4 h, a5_g5 h, a5_g6 h, a5_l1 h, a5_l2 h, a5_l3 h, a5_l4 h, a5_l5 h, a5_l6 h, w6, Option.bind_some, if_pos, if_neg, if_true, if_false, ite_true, ite_false]
      exact Ok.pure (Or.inr ⟨_, rfl, rfl⟩)
/-- the first branch of a node -/
def fcF (Q : Int) (nd : Int → Int → Int) (q : Int) : Int := if q + 1 < eW Q nd q then q + 1 else -1
theorem fc_iff (hw : WW Q nd) {q : Int} (h0 : 0 ≤ q) (h1 : q < Q) : q + 1 < eW Q nd q ↔ q + 1 < Q ∧ nd (q + 1) 5 = q := by
  obtain ⟨e1, e2⟩ := eW_in (nd := nd) h1
  obtain ⟨e3, e4⟩ := eW_ab hw h0 h1
  constructor
  · intro z
    have := e3 (q + 1) (by omega) z
    have := (hw.ab (q := q + 1) (by omega) (by omega)).2
    exact ⟨by omega, by omega⟩
  · rintro ⟨z1, z2⟩
    by_cases z : q + 1 < eW Q nd q
    · exact z
    · have e5 : eW Q nd q = q + 1 := by omega
      rw [e5] at e4
      have := e4 z1
      omega
theorem W_first (h : At m b (o5 b F A)) (hW : WR F A Q nd) {q : Int} (h0 : 0 ≤ q) (h1 : q < Q) : f_X5_firstBranch m b (I q) = some (I (fcF Q nd q)) := by
  have hF := hW.1
  have h6 := hW.2.1.2.1
  have hi := fc_iff hW.2.1 h0 h1
  unfold f_X5_firstBranch fcF
  by_cases c1 : q + 1 < Q
  · obtain ⟨w1, w2, w3, w4, w5, w6⟩ := hW.2.2 (q + 1) (by omega) (by omega)
    have hab := hW.2.1.ab (show 0 ≤ q + 1 by omega) (by omega)
    by_cases c2 : nd (q + 1) 5 = q
    · rw [if_pos (hi.mpr ⟨c1, c2⟩)]
      simp (disch := omega) only [L0, L1, L2, L3, L4, L5, L6, L7, L8, L9, L10, L11, L12, L13, L14, L15, L16, L17, L18, L19, L20, L21, L22, L23, L24, L25, L26, L27, L31, L32, L33, L36, L40, L41, L42, L47, L48, L57, L58, L59, L60, L61, L62, L65, L97, L101, L102, L103, L120, L126, L127, L144, L245, L1023, L1715, I_add, I_sub, I_mul, I_neg, I_lt, I_le, I_eq, a5_cO h, a5_g0 h, a5_g1 h, a5_g2 h, a5_g3 h, a5_g4 h, a5_g5 h, a5_g6 h, a5_l1 h, a5_l2 h, a5_l3 h, a5_l4 h, a5_l5 h, a5_l6 h, w6, Option.bind_some, if_pos, if_neg, if_true, if_false, ite_true, ite_false]
    · rw [if_neg (fun z => c2 (hi.mp z).2)]
      simp (disch := omega) only [L0, L1, L2, L3, L4, L5, L6, L7, L8, L9, L10, L11, L12, L13, L14, L15, L16, L17, L18, L19, L20, L21, L22, L23, L24, L25, L26, L27, L31, L32, L33, L36, L40, L41, L42, L47, L48, L57, L58, L59, L60, L61, L62, L65, L97, L101, L102, L103, L120, L126, L127, L144, L245, L1023, L1715, I_add, I_sub, I_mul, I_neg, I_lt, I_le, I_eq, a5_cO h, a5_g0 h, a5_g1 h, a5_g2 h, a5_g3 h, a5_g4 h, a5_g5 h, a5_g6 h, a5_l1 h, a5_l2 h, a5_l3 h, a5_l4 h, a5_l5 h, a5_l6 h, w6, Option.bind_some, if_pos, if_neg, if_true, if_false, ite_true, ite_false]
  · rw [if_neg (fun z => c1 (hi.mp z).1)]
    simp (disch := omega) only [L0, L1, L2, L3, L4, L5, L6, L7, L8, L9, L10, L11, L12, L13, L14, L15, L16, L17, L18, L19, L20, L21, L22, L23, L24, L25, L26, L27, L31, L32, L33, L36, L40, L41, L42, L47, L48, L57, L58, L59, L60, L61, L62, L65, L97, L101, L102, L103, L120, L126, L127, L144, L245, L1023, L1715, I_add, I_sub, I_mul, I_neg, I_lt, I_le, I_eq, a5_cO h, a5_g0 h, a5_g1 h, a5_g2 h, a5_g3 h, a5_g4 h, a5_g5 h, a5_g6 h, a5_l1 h, a5_l2 h, a5_l3 h, a5_l4 h, a5_l5 h, a5_l6 h, Option.bind_some, if_pos, if_neg, if_true, if_false, ite_true, ite_false]
theorem W_next (h : At m b (o5 b F A)) (hW : WR F A Q nd) {q : Int} (h0 : 0 ≤ q) (h1 : q < Q) : f_X5_nextBranch m b (I q) = some (I (nxF Q nd q)) := by
  have hF := hW.1
  have h6 := hW.2.1.2.1
  obtain ⟨w1, w2, w3, w4, w5, w6⟩ := hW.2.2 q h0 h1
  have hab := hW.2.1.ab h0 h1
  unfold f_X5_nextBranch
  simp only [L1, I_add]
  refine Ok.eq (Ok.bind (P := fun r => (r = .inl () ∧ nxF Q nd q = -1) ∨ r = .inr (I (nxF Q nd q))) ?_ ?_)
  · refine Ok.whl (fun j s => ∃ r, s = I r ∧ q < r ∧ r ≤ Q ∧ j = (Q - r).toNat ∧ ∀ k, q < k → k < r → nd k 5 ≠ nd q 5) _ (j := (Q - (q + 1)).toNat) ?_ ⟨q + 1, rfl, by omega, by omega, rfl, fun k _ _ => by omega⟩ (FU_lt (by omega))
    rintro j s ⟨r, rfl, r0, r1, rfl, hk⟩
    unfold f_X5_nextBranch_L4
    by_cases c1 : Q ≤ r
    · simp (disch := omega) only [L0, L1, L2, L3, L4, L5, L6, L7, L8, L9, L10, L11, L12, L13, L14, L15, L16, L17, L18, L19, L20, L21, L22, L23, L24, L25, L26, L27, L31, L32, L33, L36, L40, L41, L42, L47, L48, L57, L58, L59, L60, L61, L62, L65, L97, L101, L102, L103, L120, L126, L127, L144, L245, L1023, L1715, I_add, I_sub, I_mul, I_neg, I_lt, I_le, I_eq, a5_cO h, a5_g0 h, a5_g1 h, a5_g2 h, a5_g3 h, a5_g4 h, a5_g5 h, a5_g6 h, a5_l1 h, a5_l2 h, a5_l3 h, a5_l4 h, a5_l5 h, a5_l6 h, Option.bind_some, if_pos, if_neg, if_true, if_false, ite_true, ite_false]
      refine Ok.pure (Or.inr ⟨_, rfl, Or.inl ⟨rfl, ?_⟩⟩)
      by_cases c : nxF Q nd q = -1
      · exact c
      · obtain ⟨d1, d2, d3, d4, d5, d6⟩ := nx_some hW.2.1 h0 h1 c
        exact absurd d5 (hk _ d3 (by omega))
    · obtain ⟨v1, v2, v3, v4, v5, v6⟩ := hW.2.2 r (by omega) (by omega)
      have hab' := hW.2.1.ab (show 0 ≤ r by omega) (by omega)
      by_cases c2 : nd r 5 = nd q 5
      · simp (disch := omega) only [L0, L1, L2, L3, L4, L5, L6, L7, L8, L9, L10, L11, L12, L13, L14, L15, L16, L17, L18, L19, L20, L21, L22, L23, L24, L25, L26, L27, L31, L32, L33, L36, L40, L41, L42, L47, L48, L57, L58, L59, L60, L61, L62, L65, L97, L101, L102, L103, L120, L126, L127, L144, L245, L1023, L1715, I_add, I_sub, I_mul, I_neg, I_lt, I_le, I_eq, a5_cO h, a5_g0 h, a5_g1 h, a5_g2 h, a5_g3 h, a5_g4 h, a5_g5 h, a5_g6 h, a5_l1 h, a5_l2 h, a5_l3 h, a5_l4 h, a5_l5 h, a5_l6 h, w6, v6, Option.bind_some, if_pos, if_neg, if_true, if_false, ite_true, ite_false]
        refine Ok.pure (Or.inr ⟨_, rfl, Or.inr ?_⟩)
        have hb := br_out hW.2.1 h0 h1 r0 (by omega) c2
        have hne : nxF Q nd q ≠ -1 := by
          unfold nxF; rw [if_pos ⟨hb.1, by omega⟩]; have := (eW_in (Q := Q) (nd := nd) (q := q) (by omega)).1; omega
        obtain ⟨d1, d2, d3, d4, d5, d6⟩ := nx_some hW.2.1 h0 h1 hne
        by_cases z : nxF Q nd q = r
        · rw [z]
        · exact absurd d5 (hk _ d3 (by omega))
      · simp (disch := omega) only [L0, L1, L2, L3, L4, L5, L6, L7, L8, L9, L10, L11, L12, L13, L14, L15, L16, L17, L18, L19, L20, L21, L22, L23, L24, L25, L26, L27, L31, L32, L33, L36, L40, L41, L42, L47, L48, L57, L58, L59, L60, L61, L62, L65, L97, L101, L102, L103, L120, L126, L127, L144, L245, L1023, L1715, I_add, I_sub, I_mul, I_neg, I_lt, I_le, I_eq, a5_cO h, a5_g0 h, a5_g1 h, a5_g2 h, a5_g3 h, a5_g4 h, a5_g5 h, a5_g6 h, a5_l1 h, a5_l2 h, a5_l3 h, a5_l4 h, a5_l5 h, a5_l6 h, w6, v6, Option.bind_some, if_pos, if_neg, if_true, if_false, ite_true, ite_false]
        refine Ok.pure (Or.inl ⟨_, (Q - (r + 1)).toNat, rfl, ⟨r + 1, rfl, by omega, by omega, rfl, fun k k0 k1 => ?_⟩, by omega⟩)
        by_cases z : k = r
        · rw [z]; exact c2
        · exact hk k k0 (by omega)
  · rintro r (⟨rfl, hr⟩ | rfl)
    · rw [hr]; exact Ok.pure rfl
    · exact Ok.pure rfl
theorem W_prev (h : At m b (o5 b F A)) (hW : WR F A Q nd) {q : Int} (h0 : 0 ≤ q) (h1 : q < Q) : f_X5_previousBranch m b (I q) = some (I (pvF nd q)) := by
  have h6 := hW.2.1.2.1
  obtain ⟨w1, w2, w3, w4, w5, w6⟩ := hW.2.2 q h0 h1
  have hab := hW.2.1.ab h0 h1
  obtain ⟨a1, a2, a3, a4⟩ := pv_spec nd h0
  unfold f_X5_previousBranch
  simp only [L1, I_sub]
  refine Ok.eq (Ok.bind (P := fun r => (r = .inl () ∧ pvF nd q = -1) ∨ r = .inr (I (pvF nd q))) ?_ ?_)
  · refine Ok.whl (fun j s => ∃ r, s = I r ∧ pvF nd q ≤ r ∧ r < q ∧ j = (r + 1).toNat) _ (j := (q - 1 + 1).toNat) ?_ ⟨q - 1, rfl, by omega, by omega, rfl⟩ (FU_lt (by omega))
    rintro j s ⟨r, rfl, r0, r1, rfl⟩
    unfold f_X5_previousBranch_L4
    by_cases c1 : r < 0
    · simp (disch := omega) only [L0, L1, L2, L3, L4, L5, L6, L7, L8, L9, L10, L11, L12, L13, L14, L15, L16, L17, L18, L19, L20, L21, L22, L23, L24, L25, L26, L27, L31, L32, L33, L36, L40, L41, L42, L47, L48, L57, L58, L59, L60, L61, L62, L65, L97, L101, L102, L103, L120, L126, L127, L144, L245, L1023, L1715, I_add, I_sub, I_mul, I_neg, I_lt, I_le, I_eq, Option.bind_some, if_pos, if_neg, if_true, if_false, ite_true, ite_false]
      exact Ok.pure (Or.inr ⟨_, rfl, Or.inl ⟨rfl, by omega⟩⟩)
    · obtain ⟨v1, v2, v3, v4, v5, v6⟩ := hW.2.2 r (by omega) (by omega)
      have hab' := hW.2.1.ab (show 0 ≤ r by omega) (by omega)
      by_cases c2 : nd r 5 = nd q 5
      · simp (disch := omega) only [L0, L1, L2, L3, L4, L5, L6, L7, L8, L9, L10, L11, L12, L13, L14, L15, L16, L17, L18, L19, L20, L21, L22, L23, L24, L25, L26, L27, L31, L32, L33, L36, L40, L41, L42, L47, L48, L57, L58, L59, L60, L61, L62, L65, L97, L101, L102, L103, L120, L126, L127, L144, L245, L1023, L1715, I_add, I_sub, I_mul, I_neg, I_lt, I_le, I_eq, a5_cO h, a5_g0 h, a5_g1 h, a5_g2 h, a5_g3 h, a5_g4 h, a5_g5 h, a5_g6 h, a5_l1 h, a5_l2 h, a5_l3 h, a5_l4 h, a5_l5 h, a5_l6 h, w6, v6, Option.bind_some, if_pos, if_neg, if_true, if_false, ite_true, ite_false]
        refine Ok.pure (Or.inr ⟨_, rfl, Or.inr ?_⟩)
        by_cases z : pvF nd q = r
        · rw [z]
        · exact absurd c2 (a4 r (by omega) r1 (by omega))
      · simp (disch := omega) only [L0, L1, L2, L3, L4, L5, L6, L7, L8, L9, L10, L11, L12, L13, L14, L15, L16, L17, L18, L19, L20, L21, L22, L23, L24, L25, L26, L27, L31, L32, L33, L36, L40, L41, L42, L47, L48, L57, L58, L59, L60, L61, L62, L65, L97, L101, L102, L103, L120, L126, L127, L144, L245, L1023, L1715, I_add, I_sub, I_mul, I_neg, I_lt, I_le, I_eq, a5_cO h, a5_g0 h, a5_g1 h, a5_g2 h, a5_g3 h, a5_g4 h, a5_g5 h, a5_g6 h, a5_l1 h, a5_l2 h, a5_l3 h, a5_l4 h, a5_l5 h, a5_l6 h, w6, v6, Option.bind_some, if_pos, if_neg, if_true, if_false, ite_true, ite_false]
        refine Ok.pure (Or.inl ⟨_, (r + -1 + 1).toNat, rfl, ⟨r + -1, rfl, ?_, by omega, rfl⟩, by omega⟩)
        by_cases z : pvF nd q = r
        · exact absurd (by rw [← z]; exact a3 (by omega)) c2
        · omega
  · rintro r (⟨rfl, hr⟩ | rfl)
    · rw [hr]; exact Ok.pure rfl
    · exact Ok.pure rfl
/-- a node's properties -/
def ndP (nd : Int → Int → Int) (q w : Int) : Int32 := if w = 0 then I (nd q 0) else if w = 1 then psS nd q else if w = 2 then I (nd q 3) else if w = 3 then I (nd q 4) else I (nd q 5)
theorem W_property (h : At m b (o5 b F A)) (hW : WR F A Q nd) {q w : Int} (h0 : 0 ≤ q) (h1 : q < Q) (hw1 : 0 ≤ w) (hw2 : w < 5) : f_X5_property m b (I q) (I w) = some (ndP nd q w) := by
  have h6 := hW.2.1.2.1
  obtain ⟨w1, w2, w3, w4, w5, w6⟩ := hW.2.2 q h0 h1
  unfold f_X5_property
  have hc : w = 0 ∨ w = 1 ∨ w = 2 ∨ w = 3 ∨ w = 4 := by omega
  rcases hc with rfl | rfl | rfl | rfl | rfl
  · simp (disch := omega) only [L0, L1, L2, L3, L4, L5, L6, L7, L8, L9, L10, L11, L12, L13, L14, L15, L16, L17, L18, L19, L20, L21, L22, L23, L24, L25, L26, L27, L31, L32, L33, L36, L40, L41, L42, L47, L48, L57, L58, L59, L60, L61, L62, L65, L97, L101, L102, L103, L120, L126, L127, L144, L245, L1023, L1715, I_add, I_sub, I_mul, I_neg, I_lt, I_le, I_eq, a5_cO h, a5_g0 h, a5_g1 h, a5_g2 h, a5_g3 h, a5_g4 h, a5_g5 h, a5_g6 h, a5_l1 h, a5_l2 h, a5_l3 h, a5_l4 h, a5_l5 h, a5_l6 h, w1, Option.bind_some, if_pos, if_neg, if_true, if_false, ite_true, ite_false]; rfl
  · simp (disch := omega) only [L0, L1, L2, L3, L4, L5, L6, L7, L8, L9, L10, L11, L12, L13, L14, L15, L16, L17, L18, L19, L20, L21, L22, L23, L24, L25, L26, L27, L31, L32, L33, L36, L40, L41, L42, L47, L48, L57, L58, L59, L60, L61, L62, L65, L97, L101, L102, L103, L120, L126, L127, L144, L245, L1023, L1715, I_add, I_sub, I_mul, I_neg, I_lt, I_le, I_eq, a5_cO h, a5_g0 h, a5_g1 h, a5_g2 h, a5_g3 h, a5_g4 h, a5_g5 h, a5_g6 h, a5_l1 h, a5_l2 h, a5_l3 h, a5_l4 h, a5_l5 h, a5_l6 h, W_passing h hW, Option.bind_some, if_pos, if_neg, if_true, if_false, ite_true, ite_false]; rfl
  · simp (disch := omega) only [L0, L1, L2, L3, L4, L5, L6, L7, L8, L9, L10, L11, L12, L13, L14, L15, L16, L17, L18, L19, L20, L21, L22, L23, L24, L25, L26, L27, L31, L32, L33, L36, L40, L41, L42, L47, L48, L57, L58, L59, L60, L61, L62, L65, L97, L101, L102, L103, L120, L126, L127, L144, L245, L1023, L1715, I_add, I_sub, I_mul, I_neg, I_lt, I_le, I_eq, a5_cO h, a5_g0 h, a5_g1 h, a5_g2 h, a5_g3 h, a5_g4 h, a5_g5 h, a5_g6 h, a5_l1 h, a5_l2 h, a5_l3 h, a5_l4 h, a5_l5 h, a5_l6 h, w4, Option.bind_some, if_pos, if_neg, if_true, if_false, ite_true, ite_false]; rfl
  · simp (disch := omega) only [L0, L1, L2, L3, L4, L5, L6, L7, L8, L9, L10, L11, L12, L13, L14, L15, L16, L17, L18, L19, L20, L21, L22, L23, L24, L25, L26, L27, L31, L32, L33, L36, L40, L41, L42, L47, L48, L57, L58, L59, L60, L61, L62, L65, L97, L101, L102, L103, L120, L126, L127, L144, L245, L1023, L1715, I_add, I_sub, I_mul, I_neg, I_lt, I_le, I_eq, a5_cO h, a5_g0 h, a5_g1 h, a5_g2 h, a5_g3 h, a5_g4 h, a5_g5 h, a5_g6 h, a5_l1 h, a5_l2 h, a5_l3 h, a5_l4 h, a5_l5 h, a5_l6 h, w5, Option.bind_some, if_pos, if_neg, if_true, if_false, ite_true, ite_false]; rfl
  · simp (disch := omega) only [L0, L1, L2, L3, L4, L5, L6, L7, L8, L9, L10, L11, L12, L13, L14, L15, L16, L17, L18, L19, L20, L21, L22, L23, L24, L25, L26, L27, L31, L32, L33, L36, L40, L41, L42, L47, L48, L57, L58, L59, L60, L61, L62, L65, L97, L101, L102, L103, L120, L126, L127, L144, L245, L1023, L1715, I_add, I_sub, I_mul, I_neg, I_lt, I_le, I_eq, a5_cO h, a5_g0 h, a5_g1 h, a5_g2 h, a5_g3 h, a5_g4 h, a5_g5 h, a5_g6 h, a5_l1 h, a5_l2 h, a5_l3 h, a5_l4 h, a5_l5 h, a5_l6 h, w6, Option.bind_some, if_pos, if_neg, if_true, if_false, ite_true, ite_false]; rfl
/-- some node is ordered -/
def hoF (Q : Int) (nd : Int → Int → Int) : Prop := ∃ q, 0 ≤ q ∧ q < Q ∧ nd q 4 ≠ 0
theorem W_hasOrdered (h : At m b (o5 b F A)) (hW : WR F A Q nd) : ∃ r : Int, f_X5_hasOrdered m b = some (I r) ∧ ((r = 1 ∧ hoF Q nd) ∨ (r = 0 ∧ ¬ hoF Q nd)) := by
  have hF := hW.1
  have h6 := hW.2.1.2.1
  have h60 := hW.2.1.1
  unfold f_X5_hasOrdered
  have key : Ok (whl (σ := Int32) (ρ := ((Unit) ⊕ (Unit))) FU (fun t1 => f_X5_hasOrdered_L2 m b t1) (0 : Int32)) (fun r => (r = .inl () ∧ ¬ hoF Q nd) ∨ (r = .inr () ∧ hoF Q nd)) := by
    refine Ok.whl (fun j s => ∃ r, s = I r ∧ 0 ≤ r ∧ r ≤ Q ∧ j = (Q - r).toNat ∧ ∀ k, 0 ≤ k → k < r → nd k 4 = 0) _ (j := (Q - 0).toNat) ?_ ⟨0, rfl, by omega, by omega, rfl, fun k _ _ => by omega⟩ (FU_lt (by omega))
    rintro j s ⟨r, rfl, r0, r1, rfl, hk⟩
    unfold f_X5_hasOrdered_L2
    by_cases c1 : Q ≤ r
    · simp (disch := omega) only [L0, L1, L2, L3, L4, L5, L6, L7, L8, L9, L10, L11, L12, L13, L14, L15, L16, L17, L18, L19, L20, L21, L22, L23, L24, L25, L26, L27, L31, L32, L33, L36, L40, L41, L42, L47, L48, L57, L58, L59, L60, L61, L62, L65, L97, L101, L102, L103, L120, L126, L127, L144, L245, L1023, L1715, I_add, I_sub, I_mul, I_neg, I_lt, I_le, I_eq, a5_cO h, a5_g0 h, a5_g1 h, a5_g2 h, a5_g3 h, a5_g4 h, a5_g5 h, a5_g6 h, a5_l1 h, a5_l2 h, a5_l3 h, a5_l4 h, a5_l5 h, a5_l6 h, Option.bind_some, if_pos, if_neg, if_true, if_false, ite_true, ite_false]
      refine Ok.pure (Or.inr ⟨_, rfl, Or.inl ⟨rfl, ?_⟩⟩)
      rintro ⟨q, q0, q1, q2⟩
      exact q2 (hk q q0 (by omega))
    · obtain ⟨v1, v2, v3, v4, v5, v6⟩ := hW.2.2 r (by omega) (by omega)
      have := (hW.2.1.2.2 r r0 (by omega)).2.2.2.2.1
      by_cases c2 : nd r 4 = 0
      · simp (disch := omega) only [L0, L1, L2, L3, L4, L5, L6, L7, L8, L9, L10, L11, L12, L13, L14, L15, L16, L17, L18, L19, L20, L21, L22, L23, L24, L25, L26, L27, L31, L32, L33, L36, L40, L41, L42, L47, L48, L57, L58, L59, L60, L61, L62, L65, L97, L101, L102, L103, L120, L126, L127, L144, L245, L1023, L1715, I_add, I_sub, I_mul, I_neg, I_lt, I_le, I_eq, a5_cO h, a5_g0 h, a5_g1 h, a5_g2 h, a5_g3 h, a5_g4 h, a5_g5 h, a5_g6 h, a5_l1 h, a5_l2 h, a5_l3 h, a5_l4 h, a5_l5 h, a5_l6 h, v5, Option.bind_some, if_pos, if_neg, if_true, if_false, ite_true, ite_false]
        refine Ok.pure (Or.inl ⟨_, (Q - (r + 1)).toNat, rfl, ⟨r + 1, rfl, by omega, by omega, rfl, fun k k0 k1 => ?_⟩, by omega⟩)
        by_cases z : k = r
        · rw [z]; exact c2
        · exact hk k k0 (by omega)
      · simp (disch := omega) only [L0, L1, L2, L3, L4, L5, L6, L7, L8, L9, L10, L11, L12, L13, L14, L15, L16, L17, L18, L19, L20, L21, L22, L23, L24, L25, L26, L27, L31, L32, L33, L36, L40, L41, L42, L47, L48, L57, L58, L59, L60, L61, L62, L65, L97, L101, L102, L103, L120, L126, L127, L144, L245, L1023, L1715, I_add, I_sub, I_mul, I_neg, I_lt, I_le, I_eq, a5_cO h, a5_g0 h, a5_g1 h, a5_g2 h, a5_g3 h, a5_g4 h, a5_g5 h, a5_g6 h, a5_l1 h, a5_l2 h, a5_l3 h, a5_l4 h, a5_l5 h, a5_l6 h, v5, Option.bind_some, if_pos, if_neg, if_true, if_false, ite_true, ite_false]
        exact Ok.pure (Or.inr ⟨_, rfl, Or.inr ⟨rfl, r, r0, by omega, c2⟩⟩)
  obtain ⟨r, hr, hq⟩ := key
  rw [hr]
  rcases hq with ⟨rfl, hq⟩ | ⟨rfl, hq⟩
  · exact ⟨0, rfl, Or.inr ⟨rfl, hq⟩⟩
  · exact ⟨1, rfl, Or.inl ⟨rfl, hq⟩⟩
end CW
