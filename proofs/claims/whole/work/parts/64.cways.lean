/-! ===== the class's matcher: tails ===== -/
theorem upN_upN {α : Type} {A : Nat → α} {k : Nat} {x y : α} : upN (upN A k x) k y = upN A k y := by
  funext i
  unfold upN
  split <;> rfl
section CWY
variable {m : Mm} {F : Nat → Int} {A : Nat → Int → Int} {w : Nat} {n : Int} {tg vl lv : Int → Int} {Q : Int} {nd : Int → Int → Int} {W : Int → Int → Int}
theorem en_eE {e x : Int} (h0 : -1 ≤ e) (h1 : e < n) (x0 : e + 1 ≤ x) (x1 : x < eE n lv e) : enF n lv x ≤ eE n lv e := by
  unfold eE at *
  by_cases z : e = -1
  · rw [if_pos z] at *
    exact (enF_spec lv x1).2.1
  · rw [if_neg z] at *
    exact en_le h1 (by omega) x1
theorem K_lastBelow (K : KX m F w n tg vl lv Q nd) {e : Int} (h0 : -1 ≤ e) (h1 : e < n) : f_X4_lastBelow (ov m 53 (o1 53 F A)) 2 (I e) = some (I (eE n lv e - 1)) := by
  obtain ⟨Ft, At', hat, hT⟩ := K.T
  have h := hat A
  have hF := hT.1
  have hn2 := hT.2.1.2.1
  unfold f_X4_lastBelow eE
  by_cases z : e = -1
  · rw [if_pos z]
    simp (disch := omega) only [L0, L1, L2, L3, L4, L5, L6, L7, L8, L9, L10, L11, L12, L13, L14, L15, L16, L17, L18, L19, L20, L21, L22, L23, L24, L25, L26, L27, L31, L32, L33, L36, L40, L41, L42, L47, L48, L57, L58, L59, L60, L61, L62, L65, L97, L101, L102, L103, L120, L126, L127, L144, L245, L1023, L1715, I_add, I_sub, I_mul, I_neg, I_lt, I_le, I_eq, a4_cO h, a4_g0 h, a4_g1 h, a4_g2 h, a4_g3 h, a4_g4 h, a4_g5 h, a4_l1 h, a4_l2 h, a4_l3 h, a4_l4 h, a4_l5 h, hF, Option.bind_some, if_pos, if_neg, if_true, if_false, ite_true, ite_false]
  · rw [if_neg z]
    have := (hT.2.2 e (by omega) h1).2.2.2.2.1
    simp (disch := omega) only [L0, L1, L2, L3, L4, L5, L6, L7, L8, L9, L10, L11, L12, L13, L14, L15, L16, L17, L18, L19, L20, L21, L22, L23, L24, L25, L26, L27, L31, L32, L33, L36, L40, L41, L42, L47, L48, L57, L58, L59, L60, L61, L62, L65, L97, L101, L102, L103, L120, L126, L127, L144, L245, L1023, L1715, I_add, I_sub, I_mul, I_neg, I_lt, I_le, I_eq, a4_cO h, a4_g0 h, a4_g1 h, a4_g2 h, a4_g3 h, a4_g4 h, a4_g5 h, a4_l1 h, a4_l2 h, a4_l3 h, a4_l4 h, a4_l5 h, this, Option.bind_some, if_pos, if_neg, if_true, if_false, ite_true, ite_false]
theorem K_edge (K : KX m F w n tg vl lv Q nd) {c e x : Int} (c0 : 0 ≤ c) (c1 : c < Q) (h0 : -1 ≤ e) (h1 : e < n) (x0 : 0 ≤ x) (x1 : x < n) : f_X1_edgeHolds (ov m 53 (o1 53 F A)) 53 (I c) (I e) (I x) = some (I (ind (egF lv nd c e x))) := by
  obtain ⟨Ft, At', hat, hT⟩ := K.T
  have h := hat A
  obtain ⟨Fw, Aw, haw, hW⟩ := K.W
  have hv := haw A
  have h6 := hW.2.1.2.1
  have hn2 := hT.2.1.2.1
  have hp := (hT.2.2 x x0 x1).2.2.2.1
  obtain ⟨g1, g2, -, -⟩ := prF_spec lv x0
  have hw4 := (hW.2.2 c c0 c1).2.2.2.1
  have ht := (hW.2.1.2.2 c c0 c1).2.2.2.1
  unfold f_X1_edgeHolds
  by_cases z : nd c 3 = 1
  · by_cases y : prF lv x = e
    · rw [ind_t (Or.inr y)]
      simp (disch := omega) only [L0, L1, L2, L3, L4, L5, L6, L7, L8, L9, L10, L11, L12, L13, L14, L15, L16, L17, L18, L19, L20, L21, L22, L23, L24, L25, L26, L27, L31, L32, L33, L36, L40, L41, L42, L47, L48, L57, L58, L59, L60, L61, L62, L65, L97, L101, L102, L103, L120, L126, L127, L144, L245, L1023, L1715, I_add, I_sub, I_mul, I_neg, I_lt, I_le, I_eq, K.g0, K.g1, a4_cO h, a4_g0 h, a4_g1 h, a4_g2 h, a4_g3 h, a4_g4 h, a4_g5 h, a4_l1 h, a4_l2 h, a4_l3 h, a4_l4 h, a4_l5 h, a5_cO hv, a5_g0 hv, a5_g1 hv, a5_g2 hv, a5_g3 hv, a5_g4 hv, a5_g5 hv, a5_g6 hv, a5_l1 hv, a5_l2 hv, a5_l3 hv, a5_l4 hv, a5_l5 hv, a5_l6 hv, hw4, hp, Option.bind_some, if_pos, if_neg, if_true, if_false, ite_true, ite_false]
    · rw [ind_f (by omega)]
      simp (disch := omega) only [L0, L1, L2, L3, L4, L5, L6, L7, L8, L9, L10, L11, L12, L13, L14, L15, L16, L17, L18, L19, L20, L21, L22, L23, L24, L25, L26, L27, L31, L32, L33, L36, L40, L41, L42, L47, L48, L57, L58, L59, L60, L61, L62, L65, L97, L101, L102, L103, L120, L126, L127, L144, L245, L1023, L1715, I_add, I_sub, I_mul, I_neg, I_lt, I_le, I_eq, K.g0, K.g1, a4_cO h, a4_g0 h, a4_g1 h, a4_g2 h, a4_g3 h, a4_g4 h, a4_g5 h, a4_l1 h, a4_l2 h, a4_l3 h, a4_l4 h, a4_l5 h, a5_cO hv, a5_g0 hv, a5_g1 hv, a5_g2 hv, a5_g3 hv, a5_g4 hv, a5_g5 hv, a5_g6 hv, a5_l1 hv, a5_l2 hv, a5_l3 hv, a5_l4 hv, a5_l5 hv, a5_l6 hv, hw4, hp, Option.bind_some, if_pos, if_neg, if_true, if_false, ite_true, ite_false]
  · rw [ind_t (Or.inl z)]
    simp (disch := omega) only [L0, L1, L2, L3, L4, L5, L6, L7, L8, L9, L10, L11, L12, L13, L14, L15, L16, L17, L18, L19, L20, L21, L22, L23, L24, L25, L26, L27, L31, L32, L33, L36, L40, L41, L42, L47, L48, L57, L58, L59, L60, L61, L62, L65, L97, L101, L102, L103, L120, L126, L127, L144, L245, L1023, L1715, I_add, I_sub, I_mul, I_neg, I_lt, I_le, I_eq, K.g0, K.g1, a5_cO hv, a5_g0 hv, a5_g1 hv, a5_g2 hv, a5_g3 hv, a5_g4 hv, a5_g5 hv, a5_g6 hv, a5_l1 hv, a5_l2 hv, a5_l3 hv, a5_l4 hv, a5_l5 hv, a5_l6 hv, hw4, Option.bind_some, if_pos, if_neg, if_true, if_false, ite_true, ite_false]
/-- the tails of the branch after c are there -/
abbrev nxR (Q : Int) (nd : Int → Int → Int) (n : Int) (lv : Int → Int) (W : Int → Int → Int) (A : Nat → Int → Int) (e c : Int) : Prop := nxF Q nd c ≠ -1 → ∀ f, e + 1 ≤ f → f ≤ eE n lv e → A (10 + (nxF Q nd c).toNat) f = TL Q nd n lv W e (nxF Q nd c) f
theorem K_after (K : KX m F w n tg vl lv Q nd) {c e x : Int} (c0 : 0 ≤ c) (c1 : c < Q) (h0 : -1 ≤ e) (h1 : e < n) (x0 : e + 1 ≤ x) (x1 : x < eE n lv e) (hR : nxR Q nd n lv W A e c) : f_X1_waysAfter (ov m 53 (o1 53 F A)) 53 (I (nxF Q nd c)) (I e) (I x) = some (J (AF Q nd n lv W e c x)) := by
  obtain ⟨Ft, At', hat, hT⟩ := K.T
  have h := hat A
  obtain ⟨Fw, Aw, haw, hW⟩ := K.W
  have hv := haw A
  have h6 := hW.2.1.2.1
  have hn2 := hT.2.1.2.1
  have hl := K.1
  have hee := eE_in (lv := lv) h0 h1
  unfold f_X1_waysAfter AF af
  by_cases z : nxF Q nd c = -1
  · rw [if_pos z]
    simp (disch := omega) only [L0, L1, L2, L3, L4, L5, L6, L7, L8, L9, L10, L11, L12, L13, L14, L15, L16, L17, L18, L19, L20, L21, L22, L23, L24, L25, L26, L27, L31, L32, L33, L36, L40, L41, L42, L47, L48, L57, L58, L59, L60, L61, L62, L65, L97, L101, L102, L103, L120, L126, L127, L144, L245, L1023, L1715, I_add, I_sub, I_mul, I_neg, I_lt, I_le, I_eq, J0, J1, J31, J32, J1716, Option.bind_some, if_pos, if_neg, if_true, if_false, ite_true, ite_false]
  · obtain ⟨d1, d2, d3, d4, d5, d6⟩ := nx_some hW.2.1 c0 c1 z
    have hw5 := (hW.2.2 (nxF Q nd c) (by omega) d4).2.2.2.2.1
    have ht := (hW.2.1.2.2 (nxF Q nd c) (by omega) d4).2.2.2.2.1
    have hla := (hT.2.2 x (by omega) (by omega)).2.2.2.2.1
    have hen := (enF_spec lv (show x < n by omega)).1
    have hen2 := en_eE (lv := lv) h0 h1 x0 x1
    rw [if_neg z]
    by_cases y : nd (nxF Q nd c) 4 = 0
    · rw [if_pos y]
      simp (disch := omega) only [L0, L1, L2, L3, L4, L5, L6, L7, L8, L9, L10, L11, L12, L13, L14, L15, L16, L17, L18, L19, L20, L21, L22, L23, L24, L25, L26, L27, L31, L32, L33, L36, L40, L41, L42, L47, L48, L57, L58, L59, L60, L61, L62, L65, L97, L101, L102, L103, L120, L126, L127, L144, L245, L1023, L1715, I_add, I_sub, I_mul, I_neg, I_lt, I_le, I_eq, K.g0, K.g1, o1_g4, o1_r9, r_lT, a5_cO hv, a5_g0 hv, a5_g1 hv, a5_g2 hv, a5_g3 hv, a5_g4 hv, a5_g5 hv, a5_g6 hv, a5_l1 hv, a5_l2 hv, a5_l3 hv, a5_l4 hv, a5_l5 hv, a5_l6 hv, hw5, Option.bind_some, if_pos, if_neg, if_true, if_false, ite_true, ite_false]
      rw [hR z (e + 1) (Int.le_refl _) (by omega)]
    · rw [if_neg y]
      simp (disch := omega) only [L0, L1, L2, L3, L4, L5, L6, L7, L8, L9, L10, L11, L12, L13, L14, L15, L16, L17, L18, L19, L20, L21, L22, L23, L24, L25, L26, L27, L31, L32, L33, L36, L40, L41, L42, L47, L48, L57, L58, L59, L60, L61, L62, L65, L97, L101, L102, L103, L120, L126, L127, L144, L245, L1023, L1715, I_add, I_sub, I_mul, I_neg, I_lt, I_le, I_eq, K.g0, K.g1, o1_g4, o1_r9, a4_cO h, a4_g0 h, a4_g1 h, a4_g2 h, a4_g3 h, a4_g4 h, a4_g5 h, a4_l1 h, a4_l2 h, a4_l3 h, a4_l4 h, a4_l5 h, hla, a5_cO hv, a5_g0 hv, a5_g1 hv, a5_g2 hv, a5_g3 hv, a5_g4 hv, a5_g5 hv, a5_g6 hv, a5_l1 hv, a5_l2 hv, a5_l3 hv, a5_l4 hv, a5_l5 hv, a5_l6 hv, hw5, Option.bind_some, if_pos, if_neg, if_true, if_false, ite_true, ite_false]
      rw [show enF n lv x - 1 + 1 = enF n lv x by omega]
      simp (disch := omega) only [r_lT, Option.bind_some, if_pos, if_neg, if_true, if_false, ite_true, ite_false]
      rw [hR z _ (by omega) hen2]
theorem K_fillTail (K : KX m F w n tg vl lv Q nd) {c e : Int} (c0 : 0 ≤ c) (c1 : c < Q) (h0 : -1 ≤ e) (h1 : e < n) (hR : nxR Q nd n lv W A e c) (hWA : ∀ x, 0 ≤ x → x < n → A (3 + c.toNat) x = W c x) (hbd : ∀ x, 0 ≤ x → x < n → 0 ≤ W c x ∧ W c x < 4611686018427387904) : Ok (f_X1_fillTail (ov m 53 (o1 53 F A)) 53 (I c) (I e)) (fun m' => ∃ R, m' = ov m 53 (o1 53 F (upN A (10 + c.toNat) R)) ∧ ∀ f, e + 1 ≤ f → f ≤ eE n lv e → R f = TL Q nd n lv W e c f) := by
  obtain ⟨Ft, At', hat, hT⟩ := K.T
  obtain ⟨Fw, Aw, haw, hW⟩ := K.W
  have h6 := hW.2.1.2.1
  have hn2 := hT.2.1.2.1
  have hl := K.1
  obtain ⟨hee1, hee2⟩ := eE_in (lv := lv) h0 h1
  unfold f_X1_fillTail
  simp (disch := omega) only [K.g0, K.g1, a4_cO (hat A), a5_cO (haw A), K_lastBelow K, W_next (haw A) hW, o1_g4, o1_r9, L0, L1, L2, L3, L4, L5, L6, L7, L8, L9, L10, L11, L12, L13, L14, L15, L16, L17, L18, L19, L20, L21, L22, L23, L24, L25, L26, L27, L31, L32, L33, L36, L40, L41, L42, L47, L48, L57, L58, L59, L60, L61, L62, L65, L97, L101, L102, L103, L120, L126, L127, L144, L245, L1023, L1715, J0, J1, J31, J32, J1716, I_add, Option.bind_some]
  rw [show eE n lv e - 1 + 1 = eE n lv e by omega]
  simp (disch := omega) only [r_sT, Option.bind_some]
  refine Ok.bind (P := fun m' => ∃ R, m' = ov m 53 (o1 53 F (upN A (10 + c.toNat) R)) ∧ ∀ f, e + 1 ≤ f → f ≤ eE n lv e → R f = TL Q nd n lv W e c f) ?_ (fun _ h => Ok.pure h)
  have hTf : ∀ f, e + 1 ≤ f → f < eE n lv e → TL Q nd n lv W e c f = wv lv nd W e c f * AF Q nd n lv W e c f + TL Q nd n lv W e c (f + 1) := by
    intro f f0 f1
    show tl _ _ _ _ _ _ _ _ = _ + tl _ _ _ _ _ _ _ _
    rw [tl_eq hW.2.1 c0 c1, tl_eq hW.2.1 c0 c1, Sm_front f1]
  refine Ok.whl (fun j s => ∃ f R, s = (I f, ov m 53 (o1 53 F (upN A (10 + c.toNat) R))) ∧ e ≤ f ∧ f < eE n lv e ∧ j = (f - e).toNat ∧ ∀ k, f + 1 ≤ k → k ≤ eE n lv e → R k = TL Q nd n lv W e c k) _ (j := (eE n lv e - 1 - e).toNat) ?_ ⟨eE n lv e - 1, _, rfl, by omega, by omega, rfl, fun k k0 k1 => ?_⟩ (FU_lt (by omega))
  · rintro j s ⟨f, R, rfl, f0, f1, rfl, hk⟩
    dsimp only
    unfold f_X1_fillTail_L33
    by_cases d1 : f ≤ e
    · simp (disch := omega) only [I_add, I_sub, I_mul, I_neg, I_lt, I_le, I_eq, Option.bind_some, if_pos, if_neg, if_true, if_false, ite_true, ite_false]
      exact Ok.pure (Or.inr ⟨_, rfl, R, rfl, fun k k0 k1 => hk k (by omega) k1⟩)
    · have hbf := hbd f (by omega) (by omega)
      have hkf := hk (f + 1) (by omega) (by omega)
      have hrow : ∀ R' : Int → Int, upN A (10 + c.toNat) R' (3 + c.toNat) f = W c f := fun R' => by rw [upN_ne (by omega)]; exact hWA f (by omega) (by omega)
      have hR' : ∀ R' : Int → Int, nxR Q nd n lv W (upN A (10 + c.toNat) R') e c := by
        intro R' z k k0 k1
        obtain ⟨d1, d2, d3, d4, d5, d6⟩ := nx_some hW.2.1 c0 c1 z
        rw [upN_ne (by omega)]
        exact hR z k k0 k1
      have fin : ∀ R' : Int → Int, R' f = TL Q nd n lv W e c f → (∀ k, f + 1 ≤ k → k ≤ eE n lv e → R' k = R k) → ∃ f' R'', ((I (f + -1), ov m 53 (o1 53 F (upN A (10 + c.toNat) R'))) : Int32 × Mm) = (I f', ov m 53 (o1 53 F (upN A (10 + c.toNat) R''))) ∧ e ≤ f' ∧ f' < eE n lv e ∧ (f + -1 - e).toNat = (f' - e).toNat ∧ ∀ k, f' + 1 ≤ k → k ≤ eE n lv e → R'' k = TL Q nd n lv W e c k := by
        intro R' hf hk'
        refine ⟨f + -1, R', rfl, by omega, by omega, rfl, fun k k0 k1 => ?_⟩
        by_cases z : k = f
        · rw [z]; exact hf
        · rw [hk' k (by omega) k1]; exact hk k (by omega) k1
      simp (disch := omega) only [L0, L1, L2, L3, L4, L5, L6, L7, L8, L9, L10, L11, L12, L13, L14, L15, L16, L17, L18, L19, L20, L21, L22, L23, L24, L25, L26, L27, L31, L32, L33, L36, L40, L41, L42, L47, L48, L57, L58, L59, L60, L61, L62, L65, L97, L101, L102, L103, L120, L126, L127, L144, L245, L1023, L1715, I_add, I_sub, I_mul, I_neg, I_lt, I_le, I_eq, o1_g4, o1_r9, r_lT, r_sT, upN_at, upN_upN, o1_g3, o1_r2, r_lW, hrow, o1_cO, Option.bind_some, if_neg d1]
      by_cases d2 : W c f = 0
      · simp (disch := omega) only [d2, J0, J1, J31, J32, J1716, if_true]
        refine Ok.pure (Or.inl ⟨_, (f + -1 - e).toNat, rfl, fin _ ?_ (fun k k0 k1 => upZ_ne (by omega)), by omega⟩)
        rw [upZ_at, hkf, hTf f (by omega) f1]
        unfold wv
        rw [d2, Int.zero_mul, Int.zero_mul, Int.zero_add]
      · have hne : ¬ (J (W c f) = (0 : Int64)) := by rw [show (0 : Int64) = J 0 from rfl, J_eq (by omega) (by omega) (by omega) (by omega)]; exact d2
        simp (disch := omega) only [if_neg hne, K_edge K, Option.bind_some]
        by_cases d3 : egF lv nd c e f
        · rw [ind_t d3]
          simp (disch := omega) only [L0, L1, L2, L3, L4, L5, L6, L7, L8, L9, L10, L11, L12, L13, L14, L15, L16, L17, L18, L19, L20, L21, L22, L23, L24, L25, L26, L27, L31, L32, L33, L36, L40, L41, L42, L47, L48, L57, L58, L59, L60, L61, L62, L65, L97, L101, L102, L103, L120, L126, L127, L144, L245, L1023, L1715, I_add, I_sub, I_mul, I_neg, I_lt, I_le, I_eq, o1_g4, o1_r9, r_lT, r_sT, upN_at, upN_upN, upZ_at, o1_g3, o1_r2, r_lW, hrow, o1_cO, K_after K c0 c1 h0 h1 (show e + 1 ≤ f by omega) f1 (hR' _), Option.bind_some, if_pos, if_neg, if_true, if_false, ite_true, ite_false, J_add, J_mul]
          refine Ok.pure (Or.inl ⟨_, (f + -1 - e).toNat, rfl, fin _ ?_ (fun k k0 k1 => by rw [upZ_ne (by omega), upZ_ne (by omega)]), by omega⟩)
          rw [upZ_at, hkf, hTf f (by omega) f1]
          unfold wv
          rw [ind_t d3, Int.mul_one, Int.add_comm]
        · rw [ind_f d3]
          simp (disch := omega) only [L0, L1, L2, L3, L4, L5, L6, L7, L8, L9, L10, L11, L12, L13, L14, L15, L16, L17, L18, L19, L20, L21, L22, L23, L24, L25, L26, L27, L31, L32, L33, L36, L40, L41, L42, L47, L48, L57, L58, L59, L60, L61, L62, L65, L97, L101, L102, L103, L120, L126, L127, L144, L245, L1023, L1715, I_add, I_sub, I_mul, I_neg, I_lt, I_le, I_eq, Option.bind_some, if_pos, if_neg, if_true, if_false, ite_true, ite_false]
          refine Ok.pure (Or.inl ⟨_, (f + -1 - e).toNat, rfl, fin _ ?_ (fun k k0 k1 => upZ_ne (by omega)), by omega⟩)
          rw [upZ_at, hkf, hTf f (by omega) f1]
          unfold wv
          rw [ind_f d3, Int.mul_zero, Int.zero_mul, Int.zero_add]
  · rw [show k = eE n lv e by omega, upZ_at]
    show 0 = tl _ _ _ _ _ _ _ _
    rw [tl_eq hW.2.1 c0 c1, Sm_nil (Int.le_refl _)]
end CWY
