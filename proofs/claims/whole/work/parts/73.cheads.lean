/-! ===== the class's matcher: heads ===== -/
abbrev FW (nd : Int → Int → Int) (n : Int) (lv : Int → Int) (W : Int → Int → Int) (e c x : Int) : Int := fw nd (enF n lv) (e + 1) (eE n lv e) (wv lv nd W e) c x
/-- the head of a branch, where it ends before f -/
def hdV (nd : Int → Int → Int) (n : Int) (lv : Int → Int) (W : Int → Int → Int) (e c f : Int) : Int := Sm (fun y => FW nd n lv W e c y * ind (enF n lv y ≤ f)) (e + 1) (eE n lv e)
abbrev hdR (nd : Int → Int → Int) (n : Int) (lv : Int → Int) (W : Int → Int → Int) (A : Nat → Int → Int) (e c : Int) : Prop := ∀ f, e + 1 ≤ f → f ≤ eE n lv e → A (17 + c.toNat) f = hdV nd n lv W e c f
section CHD
variable {m : Mm} {F : Nat → Int} {A : Nat → Int → Int} {w : Nat} {n : Int} {tg vl lv : Int → Int} {Q : Int} {nd : Int → Int → Int} {W : Int → Int → Int}
theorem K_before (K : KX m F w n tg vl lv Q nd) {c e x : Int} (c0 : 0 ≤ c) (c1 : c < Q) (h0 : 0 ≤ e) (h1 : e < n) (x0 : e + 1 ≤ x) (x1 : x < eE n lv e) (hR : pvF nd c ≠ -1 → hdR nd n lv W A e (pvF nd c)) : f_X1_waysBefore (ov m 53 (o1 53 F A)) 53 (I c) (I e) (I x) = some (J (BF Q nd n lv W e c x)) := by
  obtain ⟨Ft, At', hat, hT⟩ := K.T
  have ht := hat A
  obtain ⟨Fw, Aw, haw, hW⟩ := K.W
  have hv := haw A
  have h6 := hW.2.1.2.1
  have hn2 := hT.2.1.2.1
  have hl := K.1
  have hee := eE_in (lv := lv) (show -1 ≤ e by omega) h1
  have w5 := (hW.2.2 c c0 c1).2.2.2.2.1
  have t5 := (hW.2.1.2.2 c c0 c1).2.2.2.2.1
  have hpv := pv_spec nd c0
  unfold f_X1_waysBefore BF bf
  by_cases z : pvF nd c = -1
  · rw [if_pos z]
    simp (disch := omega) only [K.g1, a5_cO hv, W_prev hv hW, z, L0, L1, L2, L3, L4, L5, L6, L7, L8, L9, L10, L11, L12, L13, L14, L15, L16, L17, L18, L19, L20, L21, L22, L23, L24, L25, L26, L27, L31, L32, L33, L36, L40, L41, L42, L47, L48, L57, L58, L59, L60, L61, L62, L65, L97, L101, L102, L103, L120, L126, L127, L144, L245, L1023, L1715, I_add, I_sub, I_mul, I_neg, I_lt, I_le, I_eq, J0, J1, J31, J32, J1716, Option.bind_some, if_pos, if_neg, if_true, if_false, ite_true, ite_false]
  · rw [if_neg z]
    have hr := hR z
    by_cases y : nd c 4 = 0
    · simp (disch := omega) only [K.g1, K.g0, a5_cO hv, W_prev hv hW, o1_g5, o1_r16, a5_cO hv, a5_g0 hv, a5_g1 hv, a5_g2 hv, a5_g3 hv, a5_g4 hv, a5_g5 hv, a5_g6 hv, a5_l1 hv, a5_l2 hv, a5_l3 hv, a5_l4 hv, a5_l5 hv, a5_l6 hv, w5, a4_cO ht, K_lastBelow K, L0, L1, L2, L3, L4, L5, L6, L7, L8, L9, L10, L11, L12, L13, L14, L15, L16, L17, L18, L19, L20, L21, L22, L23, L24, L25, L26, L27, L31, L32, L33, L36, L40, L41, L42, L47, L48, L57, L58, L59, L60, L61, L62, L65, L97, L101, L102, L103, L120, L126, L127, L144, L245, L1023, L1715, I_add, I_sub, I_mul, I_neg, I_lt, I_le, I_eq, Option.bind_some, if_pos, if_neg, if_true, if_false, ite_true, ite_false]
      rw [show eE n lv e - 1 + 1 = eE n lv e by omega]
      simp (disch := omega) only [r_lH, Option.bind_some, if_pos, if_neg, if_true, if_false, ite_true, ite_false]
      rw [hr (eE n lv e) (by omega) (Int.le_refl _)]
      congr 2
      refine Sm_congr (fun t t0 t1 => ?_)
      rw [ind_t (Or.inl y), ind_t (en_eE (by omega) h1 t0 t1)]
    · simp (disch := omega) only [K.g1, K.g0, a5_cO hv, W_prev hv hW, o1_g5, o1_r16, a5_cO hv, a5_g0 hv, a5_g1 hv, a5_g2 hv, a5_g3 hv, a5_g4 hv, a5_g5 hv, a5_g6 hv, a5_l1 hv, a5_l2 hv, a5_l3 hv, a5_l4 hv, a5_l5 hv, a5_l6 hv, w5, r_lH, L0, L1, L2, L3, L4, L5, L6, L7, L8, L9, L10, L11, L12, L13, L14, L15, L16, L17, L18, L19, L20, L21, L22, L23, L24, L25, L26, L27, L31, L32, L33, L36, L40, L41, L42, L47, L48, L57, L58, L59, L60, L61, L62, L65, L97, L101, L102, L103, L120, L126, L127, L144, L245, L1023, L1715, I_add, I_sub, I_mul, I_neg, I_lt, I_le, I_eq, Option.bind_some, if_pos, if_neg, if_true, if_false, ite_true, ite_false]
      rw [hr x x0 (by omega)]
      congr 2
      refine Sm_congr (fun t t0 t1 => ?_)
      rw [ind_congr (show (nd c 4 = 0 ∨ enF n lv t ≤ x) ↔ enF n lv t ≤ x from ⟨fun q => q.elim (fun q => absurd q y) id, Or.inr⟩)]
theorem K_fillHead (K : KX m F w n tg vl lv Q nd) {c e : Int} (c0 : 0 ≤ c) (c1 : c < Q) (h0 : 0 ≤ e) (h1 : e < n) (hR : pvF nd c ≠ -1 → hdR nd n lv W A e (pvF nd c)) (hWA : ∀ x, 0 ≤ x → x < n → A (3 + c.toNat) x = W c x) (hbd : ∀ x, 0 ≤ x → x < n → 0 ≤ W c x ∧ W c x < 4611686018427387904) : Ok (f_X1_fillHead (ov m 53 (o1 53 F A)) 53 (I c) (I e)) (fun m' => ∃ R, m' = ov m 53 (o1 53 F (upN A (17 + c.toNat) R)) ∧ ∀ f, e + 1 ≤ f → f ≤ eE n lv e → R f = hdV nd n lv W e c f) := by
  obtain ⟨Ft, At', hat, hT⟩ := K.T
  obtain ⟨Fw, Aw, haw, hW⟩ := K.W
  have h6 := hW.2.1.2.1
  have hw := hW.2.1
  have hn2 := hT.2.1.2.1
  have hl := K.1
  obtain ⟨hee1, hee2⟩ := eE_in (lv := lv) (show -1 ≤ e by omega) h1
  have hpv := pv_spec nd c0
  unfold f_X1_fillHead
  simp (disch := omega) only [K.g0, a4_cO (hat A), K_lastBelow K, L0, L1, L2, L3, L4, L5, L6, L7, L8, L9, L10, L11, L12, L13, L14, L15, L16, L17, L18, L19, L20, L21, L22, L23, L24, L25, L26, L27, L31, L32, L33, L36, L40, L41, L42, L47, L48, L57, L58, L59, L60, L61, L62, L65, L97, L101, L102, L103, L120, L126, L127, L144, L245, L1023, L1715, I_add, Option.bind_some]
  -- the row is emptied
  refine Ok.bind (P := fun m' => ∃ R, m' = ov m 53 (o1 53 F (upN A (17 + c.toNat) R)) ∧ ∀ f, e + 1 ≤ f → f ≤ eE n lv e → R f = 0) ?_ ?_
  · refine Ok.whl (fun j s => ∃ f R, s = (I f, ov m 53 (o1 53 F (upN A (17 + c.toNat) R))) ∧ e + 1 ≤ f ∧ f ≤ eE n lv e + 1 ∧ j = (eE n lv e + 1 - f).toNat ∧ ∀ k, e + 1 ≤ k → k < f → R k = 0) _ (j := (eE n lv e + 1 - (e + 1)).toNat) ?_ ⟨e + 1, A (17 + c.toNat), by rw [upN_self], by omega, by omega, rfl, fun k k0 k1 => by omega⟩ (FU_lt (by omega))
    rintro j s ⟨f, R, rfl, f0, f1, rfl, hk⟩
    dsimp only
    unfold f_X1_fillHead_L14
    simp only [L1, I_add]
    by_cases d1 : eE n lv e - 1 + 1 < f
    · simp (disch := omega) only [I_add, I_sub, I_mul, I_neg, I_lt, I_le, I_eq, if_pos d1]
      exact Ok.pure (Or.inr ⟨_, rfl, R, rfl, fun k k0 k1 => hk k k0 (by omega)⟩)
    · simp (disch := omega) only [I_add, I_sub, I_mul, I_neg, I_lt, I_le, I_eq, L0, L1, L2, L3, L4, L5, L6, L7, L8, L9, L10, L11, L12, L13, L14, L15, L16, L17, L18, L19, L20, L21, L22, L23, L24, L25, L26, L27, L31, L32, L33, L36, L40, L41, L42, L47, L48, L57, L58, L59, L60, L61, L62, L65, L97, L101, L102, L103, L120, L126, L127, L144, L245, L1023, L1715, J0, J1, J31, J32, J1716, if_neg d1, o1_g5, o1_r16, r_sH, upN_at, upN_upN, Option.bind_some]
      refine Ok.pure (Or.inl ⟨_, (eE n lv e + 1 - (f + 1)).toNat, rfl, ⟨f + 1, _, rfl, by omega, by omega, rfl, fun k k0 k1 => ?_⟩, by omega⟩)
      by_cases z : k = f
      · rw [z, upZ_at]
      · rw [upZ_ne z]; exact hk k k0 (by omega)
  rintro m' ⟨R0, rfl, hR0⟩
  -- each element's ways, where it ends
  refine Ok.bind (P := fun m' => ∃ R, m' = ov m 53 (o1 53 F (upN A (17 + c.toNat) R)) ∧ ∀ f, e + 1 ≤ f → f ≤ eE n lv e → R f = Sm (fun y => FW nd n lv W e c y * ind (enF n lv y = f)) (e + 1) (eE n lv e)) ?_ ?_
  · refine Ok.whl (fun j s => ∃ f R, s = (I f, ov m 53 (o1 53 F (upN A (17 + c.toNat) R))) ∧ e + 1 ≤ f ∧ f ≤ eE n lv e ∧ j = (eE n lv e - f).toNat ∧ ∀ k, e + 1 ≤ k → k ≤ eE n lv e → R k = Sm (fun y => FW nd n lv W e c y * ind (enF n lv y = k)) (e + 1) f) _ (j := (eE n lv e - (e + 1)).toNat) ?_ ⟨e + 1, R0, rfl, by omega, by omega, rfl, fun k k0 k1 => by rw [hR0 k k0 k1, Sm_nil (Int.le_refl _)]⟩ (FU_lt (by omega))
    rintro j s ⟨f, R, rfl, f0, f1, rfl, hk⟩
    dsimp only
    unfold f_X1_fillHead_L43
    by_cases d1 : eE n lv e - 1 < f
    · simp (disch := omega) only [I_add, I_sub, I_mul, I_neg, I_lt, I_le, I_eq, if_pos d1]
      have hf : f = eE n lv e := by omega
      subst hf
      exact Ok.pure (Or.inr ⟨_, rfl, R, rfl, hk⟩)
    · have hbf := hbd f (by omega) (by omega)
      have hrow : upN A (17 + c.toNat) R (3 + c.toNat) f = W c f := by rw [upN_ne (by omega)]; exact hWA f (by omega) (by omega)
      have hR' : pvF nd c ≠ -1 → hdR nd n lv W (upN A (17 + c.toNat) R) e (pvF nd c) := by
        intro z k k0 k1
        rw [upN_ne (by omega)]
        exact hR z k k0 k1
      have hFW : FW nd n lv W e c f = W c f * ind (egF lv nd c e f) * BF Q nd n lv W e c f := by
        show fw _ _ _ _ _ _ _ = _
        rw [fw_eq hw c0 c1]
        rfl
      have skip : W c f * ind (egF lv nd c e f) = 0 → ∃ f' R', ((I (f + 1), ov m 53 (o1 53 F (upN A (17 + c.toNat) R))) : Int32 × Mm) = (I f', ov m 53 (o1 53 F (upN A (17 + c.toNat) R'))) ∧ e + 1 ≤ f' ∧ f' ≤ eE n lv e ∧ (eE n lv e - (f + 1)).toNat = (eE n lv e - f').toNat ∧ ∀ k, e + 1 ≤ k → k ≤ eE n lv e → R' k = Sm (fun y => FW nd n lv W e c y * ind (enF n lv y = k)) (e + 1) f' := by
        intro z
        refine ⟨f + 1, R, rfl, by omega, by omega, rfl, fun k k0 k1 => ?_⟩
        rw [Sm_succ f0, hk k k0 k1, hFW, z, Int.zero_mul, Int.zero_mul, Int.add_zero]
      simp (disch := omega) only [I_add, I_sub, I_mul, I_neg, I_lt, I_le, I_eq, L0, L1, L2, L3, L4, L5, L6, L7, L8, L9, L10, L11, L12, L13, L14, L15, L16, L17, L18, L19, L20, L21, L22, L23, L24, L25, L26, L27, L31, L32, L33, L36, L40, L41, L42, L47, L48, L57, L58, L59, L60, L61, L62, L65, L97, L101, L102, L103, L120, L126, L127, L144, L245, L1023, L1715, J0, J1, J31, J32, J1716, if_neg d1, o1_g3, o1_r2, r_lW, hrow, o1_cO, Option.bind_some]
      by_cases d2 : W c f = 0
      · simp (disch := omega) only [d2, if_true]
        exact Ok.pure (Or.inl ⟨_, (eE n lv e - (f + 1)).toNat, rfl, skip (by rw [d2, Int.zero_mul]), by omega⟩)
      · have hne : ¬ (J (W c f) = J 0) := by rw [J_eq (by omega) (by omega) (by omega) (by omega)]; exact d2
        simp (disch := omega) only [if_neg hne, K_edge K, Option.bind_some]
        by_cases d3 : egF lv nd c e f
        · obtain ⟨r1, r2, -, -⟩ := enF_spec lv (show f < n by omega)
          have hen2 := en_eE (lv := lv) (show -1 ≤ e by omega) h1 f0 (show f < eE n lv e by omega)
          have ht := hat (upN A (17 + c.toNat) R)
          have hla := (hT.2.2 f (by omega) (by omega)).2.2.2.2.1
          rw [ind_t d3]
          simp (disch := omega) only [L0, L1, L2, L3, L4, L5, L6, L7, L8, L9, L10, L11, L12, L13, L14, L15, L16, L17, L18, L19, L20, L21, L22, L23, L24, L25, L26, L27, L31, L32, L33, L36, L40, L41, L42, L47, L48, L57, L58, L59, L60, L61, L62, L65, L97, L101, L102, L103, L120, L126, L127, L144, L245, L1023, L1715, I_add, I_sub, I_mul, I_neg, I_lt, I_le, I_eq, K.g0, a4_g5 ht, a4_l5 ht, hla, o1_g5, o1_r16, o1_g3, o1_r2, o1_cO, K_before K c0 c1 h0 h1 f0 (show f < eE n lv e by omega) hR', Option.bind_some]
          rw [show enF n lv f - 1 + 1 = enF n lv f by omega]
          simp (disch := omega) only [r_lH, r_lW, hrow, r_sH, upN_at, upN_upN, J_mul, J_add, Option.bind_some, I_add, I_sub, I_mul, I_neg, I_lt, I_le, I_eq, Option.bind_some, if_pos, if_neg, if_true, if_false, ite_true, ite_false]
          refine Ok.pure (Or.inl ⟨_, (eE n lv e - (f + 1)).toNat, rfl, ⟨f + 1, _, rfl, by omega, by omega, rfl, fun k k0 k1 => ?_⟩, by omega⟩)
          rw [Sm_succ f0, hFW, ind_t d3, Int.mul_one]
          by_cases z : k = enF n lv f
          · subst z
            rw [upZ_at, ind_t rfl, Int.mul_one, hk _ k0 k1]
          · rw [upZ_ne z, ind_f (fun q => z q.symm), Int.mul_zero, Int.add_zero, hk k k0 k1]
        · rw [ind_f d3]
          simp (disch := omega) only [L0, L1, L2, L3, L4, L5, L6, L7, L8, L9, L10, L11, L12, L13, L14, L15, L16, L17, L18, L19, L20, L21, L22, L23, L24, L25, L26, L27, L31, L32, L33, L36, L40, L41, L42, L47, L48, L57, L58, L59, L60, L61, L62, L65, L97, L101, L102, L103, L120, L126, L127, L144, L245, L1023, L1715, I_add, I_sub, I_mul, I_neg, I_lt, I_le, I_eq, Option.bind_some, if_pos, if_neg, if_true, if_false, ite_true, ite_false]
          exact Ok.pure (Or.inl ⟨_, (eE n lv e - (f + 1)).toNat, rfl, skip (by rw [ind_f d3, Int.mul_zero]), by omega⟩)
  rintro m' ⟨R1, rfl, hR1⟩
  -- the sums
  refine Ok.bind (P := fun m' => ∃ R, m' = ov m 53 (o1 53 F (upN A (17 + c.toNat) R)) ∧ ∀ f, e + 1 ≤ f → f ≤ eE n lv e → R f = hdV nd n lv W e c f) ?_ (fun _ h => Ok.pure h)
  refine Ok.whl (fun j s => ∃ f R, s = (I f, ov m 53 (o1 53 F (upN A (17 + c.toNat) R))) ∧ e + 1 ≤ f ∧ f ≤ eE n lv e ∧ j = (eE n lv e - f).toNat ∧ (∀ k, e + 1 ≤ k → k ≤ f → R k = hdV nd n lv W e c k) ∧ ∀ k, f < k → R k = R1 k) _ (j := (eE n lv e - (e + 1)).toNat) ?_ ⟨e + 1, R1, rfl, by omega, by omega, rfl, fun k k0 k1 => ?_, fun _ _ => rfl⟩ (FU_lt (by omega))
  · rintro j s ⟨f, R, rfl, f0, f1, rfl, hk, hk2⟩
    dsimp only
    unfold f_X1_fillHead_L125
    by_cases d1 : eE n lv e - 1 < f
    · simp (disch := omega) only [I_add, I_sub, I_mul, I_neg, I_lt, I_le, I_eq, if_pos d1]
      exact Ok.pure (Or.inr ⟨_, rfl, R, rfl, fun k k0 k1 => hk k k0 (by omega)⟩)
    · simp (disch := omega) only [I_add, I_sub, I_mul, I_neg, I_lt, I_le, I_eq, L0, L1, L2, L3, L4, L5, L6, L7, L8, L9, L10, L11, L12, L13, L14, L15, L16, L17, L18, L19, L20, L21, L22, L23, L24, L25, L26, L27, L31, L32, L33, L36, L40, L41, L42, L47, L48, L57, L58, L59, L60, L61, L62, L65, L97, L101, L102, L103, L120, L126, L127, L144, L245, L1023, L1715, if_neg d1, o1_g5, o1_r16, r_lH, r_sH, upN_at, upN_upN, J_add, Option.bind_some]
      refine Ok.pure (Or.inl ⟨_, (eE n lv e - (f + 1)).toNat, rfl, ⟨f + 1, _, rfl, by omega, by omega, rfl, fun k k0 k1 => ?_, fun k k0 => ?_⟩, by omega⟩)
      · by_cases z : k = f + 1
        · subst z
          rw [upZ_at, hk2 (f + 1) (by omega), hR1 (f + 1) (by omega) (by omega), hk f f0 (Int.le_refl _)]
          unfold hdV
          rw [← Sm_add]
          refine Sm_congr (fun y y0 y1 => ?_)
          rw [← Int.mul_add]
          congr 1
          by_cases q1 : enF n lv y = f + 1
          · rw [ind_t q1, ind_f (by omega), ind_t (by omega)]; rfl
          · by_cases q2 : enF n lv y ≤ f
            · rw [ind_f q1, ind_t q2, ind_t (by omega)]; rfl
            · rw [ind_f q1, ind_f q2, ind_f (by omega)]; rfl
        · rw [upZ_ne z]; exact hk k k0 (by omega)
      · rw [upZ_ne (by omega)]; exact hk2 k (by omega)
  · have hke : k = e + 1 := by omega
    subst hke
    rw [hR1 (e + 1) (by omega) (by omega)]
    unfold hdV
    refine Sm_congr (fun y y0 y1 => ?_)
    have := (enF_spec lv (show y < n by omega)).1
    rw [ind_f (by omega), ind_f (by omega)]
theorem K_heads (K : KX m F w n tg vl lv Q nd) {c e : Int} (c0 : 0 < c) (c1 : c < Q) (h0 : 0 ≤ e) (h1 : e < n) (hWA : ∀ c x, 0 ≤ c → c < Q → 0 ≤ x → x < n → A (3 + c.toNat) x = W c x) (hbd : ∀ c x, 0 ≤ c → c < Q → 0 ≤ x → x < n → 0 ≤ W c x ∧ W c x < 4611686018427387904) : Ok (f_X1_fillHeadsBefore (ov m 53 (o1 53 F A)) 53 (I c) (I e)) (fun m' => ∃ A', m' = ov m 53 (o1 53 F A') ∧ (pvF nd c ≠ -1 → hdR nd n lv W A' e (pvF nd c)) ∧ ∀ i, i < 17 ∨ 23 ≤ i → A' i = A i) := by
  obtain ⟨Fw, Aw, haw, hW⟩ := K.W
  have h6 := hW.2.1.2.1
  have hw := hW.2.1
  have hl := K.1
  have w6 := (hW.2.2 c (by omega) c1).2.2.2.2.2
  have hab := hw.ab (show 0 ≤ c by omega) c1
  unfold f_X1_fillHeadsBefore
  simp (disch := omega) only [K.g1, a5_g6 (haw A), a5_l6 (haw A), w6, L0, L1, L2, L3, L4, L5, L6, L7, L8, L9, L10, L11, L12, L13, L14, L15, L16, L17, L18, L19, L20, L21, L22, L23, L24, L25, L26, L27, L31, L32, L33, L36, L40, L41, L42, L47, L48, L57, L58, L59, L60, L61, L62, L65, L97, L101, L102, L103, L120, L126, L127, L144, L245, L1023, L1715, I_add, Option.bind_some]
  refine Ok.bind (P := fun m' => ∃ A', m' = ov m 53 (o1 53 F A') ∧ (∀ b, 0 ≤ b → b < c → nd b 5 = nd c 5 → hdR nd n lv W A' e b) ∧ ∀ i, i < 17 ∨ 23 ≤ i → A' i = A i) ?_ ?_
  · refine Ok.whl (fun j s => ∃ b A', s = (I b, ov m 53 (o1 53 F A')) ∧ nd c 5 < b ∧ b ≤ c ∧ j = (c - b).toNat ∧ (∀ k, 0 ≤ k → k < b → nd k 5 = nd c 5 → hdR nd n lv W A' e k) ∧ ∀ i, i < 17 ∨ 23 ≤ i → A' i = A i) _ (j := (c - (nd c 5 + 1)).toNat) ?_ ⟨nd c 5 + 1, A, rfl, by omega, by omega, rfl, fun k k0 k1 k2 => ?_, fun _ _ => rfl⟩ (FU_lt (by omega))
    · rintro j s ⟨b, A1, rfl, b0, b1, rfl, hk, hi⟩
      dsimp only
      have hv := haw A1
      unfold f_X1_fillHeadsBefore_L12
      by_cases d1 : c ≤ b
      · simp (disch := omega) only [I_add, I_sub, I_mul, I_neg, I_lt, I_le, I_eq, if_pos d1]
        exact Ok.pure (Or.inr ⟨_, rfl, A1, rfl, fun k k0 k1 => hk k k0 (by omega), hi⟩)
      · have hb0 : 0 ≤ b := by have := hab.1; omega
        have w6b := (hW.2.2 b hb0 (by omega)).2.2.2.2.2
        have habb := hw.ab hb0 (show b < Q by omega)
        simp (disch := omega) only [I_add, I_sub, I_mul, I_neg, I_lt, I_le, I_eq, L0, L1, L2, L3, L4, L5, L6, L7, L8, L9, L10, L11, L12, L13, L14, L15, L16, L17, L18, L19, L20, L21, L22, L23, L24, L25, L26, L27, L31, L32, L33, L36, L40, L41, L42, L47, L48, L57, L58, L59, L60, L61, L62, L65, L97, L101, L102, L103, L120, L126, L127, L144, L245, L1023, L1715, if_neg d1, K.g1, a5_g6 hv, a5_l6 hv, w6, w6b, o1_cO, Option.bind_some]
        by_cases d2 : nd b 5 = nd c 5
        · simp only [if_pos d2]
          refine Ok.bind (K_fillHead (W := W) K hb0 (by omega) h0 h1 (fun z => ?_) (fun x x0 x1 => by rw [hi _ (by omega)]; exact hWA b x hb0 (by omega) x0 x1) (fun x x0 x1 => hbd b x hb0 (by omega) x0 x1)) ?_
          · obtain ⟨p1, p2, p3, p4⟩ := pv_some hw hb0 (by omega) z
            exact hk _ (by omega) p2 (by omega)
          · rintro m' ⟨R, rfl, hR⟩
            refine Ok.pure (Or.inl ⟨_, (c - (b + 1)).toNat, rfl, ⟨b + 1, _, rfl, by omega, by omega, rfl, fun k k0 k1 k2 f f0 f1 => ?_, fun i hi' => by rw [upN_ne (by omega)]; exact hi i hi'⟩, by omega⟩)
            by_cases z : k = b
            · rw [z, upN_at]; exact hR f f0 f1
            · rw [upN_ne (by omega)]; exact hk k k0 (by omega) k2 f f0 f1
        · simp only [if_neg d2]
          refine Ok.pure (Or.inl ⟨_, (c - (b + 1)).toNat, rfl, ⟨b + 1, A1, rfl, by omega, by omega, rfl, fun k k0 k1 k2 => ?_, hi⟩, by omega⟩)
          by_cases z : k = b
          · rw [z] at k2; exact absurd k2 d2
          · exact hk k k0 (by omega) k2
    · have := hw.ab k0 (show k < Q by omega)
      omega
  · rintro m' ⟨A', rfl, hk, hi⟩
    refine Ok.pure ⟨A', rfl, fun z => ?_, hi⟩
    obtain ⟨p1, p2, p3, p4⟩ := pv_some hw (by omega) c1 z
    exact hk _ (by omega) p2 p3
end CHD
