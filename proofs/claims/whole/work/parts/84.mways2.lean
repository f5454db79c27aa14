/-! ===== the reference: ways, to its end ===== -/
section MW2
variable {m : Mm} {a : Nat} {F : Nat → Int} {A : Nat → Int → Int} {X : FS}
theorem M_climbs (hl : a + 25 < m.length) (h : MB F A X) {i c u : Int} (i0 : 0 ≤ i) (i1 : i < 4) (c0 : 0 < c) (c1 : c < tqn (fS X) i) (hu : u = 0 ∨ u = 1) (hI : IsW (tqn (fS X) i) (tnd (fS X) i) (tn (fS X)) (tlv (fS X)) (ftX X i) (bR A)) (hU : ∀ x, 0 ≤ x → x < tn (fS X) → 0 ≤ A 18 x ∧ A 18 x < 4611686018427387904) : Ok (f_X8_climbs (ov m a (o8 a F A)) a (I i) (I c) (I u)) (fun m' => ∃ A', m' = ov m a (o8 a F A') ∧ MB F A' X ∧ A' 13 = A 13 ∧ ∀ e, 0 ≤ e → e < tn (fS X) → A' 18 e = clV (tqn (fS X) i) (tnd (fS X) i) (tn (fS X)) (tlv (fS X)) (ftX X i) (bR A) u c (A 18) e) := by
  have hAt : At (ov m a (o8 a F A)) a (o8 a F A) := o8_At hl
  obtain ⟨ex1, hw, -⟩ := h.2.1 i i0 i1
  have h66 := hw.2.1
  have hF := h.1.1
  have hn1 := h.1.2.1.1
  have hn2 := h.1.2.1.2.1
  unfold f_X8_climbs
  simp (disch := omega) only [o8_cO, N_of hAt h.2.1, Option.bind_some]
  refine Ok.bind (P := fun m' => ∃ A', m' = ov m a (o8 a F A') ∧ (∀ i, i ≠ 14 → i ≠ 15 → i ≠ 16 → i ≠ 19 → A' i = A i) ∧ ∀ e, 0 ≤ e → e < tn (fS X) → A' 19 e = clV (tqn (fS X) i) (tnd (fS X) i) (tn (fS X)) (tlv (fS X)) (ftX X i) (bR A) u c (A 18) e) ?_ ?_
  · refine Ok.whl (fun j s => ∃ e A', s = (I e, ov m a (o8 a F A')) ∧ 0 ≤ e ∧ e ≤ tn (fS X) ∧ j = (tn (fS X) - e).toNat ∧ (∀ i, i ≠ 14 → i ≠ 15 → i ≠ 16 → i ≠ 19 → A' i = A i) ∧ ∀ k, 0 ≤ k → k < e → A' 19 k = clV (tqn (fS X) i) (tnd (fS X) i) (tn (fS X)) (tlv (fS X)) (ftX X i) (bR A) u c (A 18) k) _ (j := (tn (fS X) - 0).toNat) ?_ ⟨0, A, rfl, by omega, by omega, rfl, fun _ _ _ _ _ => rfl, fun k k0 k1 => by omega⟩ (FU_lt (by omega))
    rintro j s ⟨e, A1, rfl, e0, e1, rfl, hi, hk⟩
    dsimp only
    unfold f_X8_climbs_L11
    by_cases d1 : tn (fS X) ≤ e
    · simp (disch := omega) only [o8_g1, hF, I_add, I_sub, I_mul, I_neg, I_lt, I_le, I_eq, if_pos d1, Option.bind_some]
      exact Ok.pure (Or.inr ⟨_, rfl, A1, rfl, hi, fun k k0 k1 => hk k k0 (by omega)⟩)
    · have hB2 : MB F (upN A1 19 (upZ (A1 19) e 0)) X := h.congr (fun _ _ => rfl) (fun i hi' => by rw [upN_ne (by omega)]; exact hi i (by omega) (by omega) (by omega) (by omega))
      have h18 : upN A1 19 (upZ (A1 19) e 0) 18 = A 18 := by rw [upN_ne (by omega)]; exact hi 18 (by omega) (by omega) (by omega) (by omega)
      have h13 : bR (upN A1 19 (upZ (A1 19) e 0)) = bR A := by funext q e'; show upN A1 19 _ 13 _ = A 13 _; rw [upN_ne (by omega), hi 13 (by omega) (by omega) (by omega) (by omega)]
      simp (disch := omega) only [o8_g1, hF, L0, L1, L2, L3, L4, L5, L6, L7, L8, L9, L10, L11, L12, L13, L14, L15, L16, L17, L18, L19, L20, L21, L22, L23, L24, L25, L26, L27, L31, L32, L33, L36, L40, L41, L42, L47, L48, L57, L58, L59, L60, L61, L62, L65, L97, L101, L102, L103, L120, L126, L127, L144, L245, L1023, L1715, J0, J1, J31, J32, J1716, I_add, I_sub, I_mul, I_neg, I_lt, I_le, I_eq, if_neg d1, o8_g20, o8_s19, Option.bind_some]
      refine Ok.bind (M_climb1 hl hB2 i0 i1 c0 c1 e0 (by omega) hu (by rw [h13]; exact hI) (by rw [h18]; exact hU)) ?_
      rintro m' ⟨A2, rfl, q1, q2, q3⟩
      refine Ok.pure (Or.inl ⟨_, (tn (fS X) - (e + 1)).toNat, rfl, ⟨e + 1, A2, rfl, by omega, by omega, rfl, fun i g1 g2 g3 g4 => ?_, fun k k0 k1 => ?_⟩, by omega⟩)
      · rw [q1 i g1 g2 g3 g4, upN_ne g4]; exact hi i g1 g2 g3 g4
      · by_cases z : k = e
        · rw [z, q3, upN_at, upZ_at, h18, h13, Int.zero_add]
        · rw [q2 k z, upN_at, upZ_ne z]; exact hk k k0 (by omega)
  rintro m' ⟨A1, rfl, hi, hk⟩
  refine Ok.bind (P := fun m' => ∃ K, m' = ov m a (o8 a F (upN A1 18 K)) ∧ ∀ e, 0 ≤ e → e < tn (fS X) → K e = A1 19 e) ?_ ?_
  · refine Ok.whl (fun j s => ∃ e K, s = (I e, ov m a (o8 a F (upN A1 18 K))) ∧ 0 ≤ e ∧ e ≤ tn (fS X) ∧ j = (tn (fS X) - e).toNat ∧ ∀ k, 0 ≤ k → k < e → K k = A1 19 k) _ (j := (tn (fS X) - 0).toNat) ?_ ⟨0, A1 18, by rw [upN_self]; rfl, by omega, by omega, rfl, fun k k0 k1 => by omega⟩ (FU_lt (by omega))
    rintro j s ⟨e, K, rfl, e0, e1, rfl, hkk⟩
    dsimp only
    unfold f_X8_climbs_L164
    by_cases d1 : tn (fS X) ≤ e
    · simp (disch := omega) only [o8_g1, hF, I_add, I_sub, I_mul, I_neg, I_lt, I_le, I_eq, if_pos d1, Option.bind_some]
      exact Ok.pure (Or.inr ⟨_, rfl, K, rfl, fun k k0 k1 => hkk k k0 (by omega)⟩)
    · have h19 : upN A1 18 K 19 = A1 19 := upN_ne (by omega)
      simp (disch := omega) only [o8_g1, hF, L0, L1, L2, L3, L4, L5, L6, L7, L8, L9, L10, L11, L12, L13, L14, L15, L16, L17, L18, L19, L20, L21, L22, L23, L24, L25, L26, L27, L31, L32, L33, L36, L40, L41, L42, L47, L48, L57, L58, L59, L60, L61, L62, L65, L97, L101, L102, L103, L120, L126, L127, L144, L245, L1023, L1715, I_add, I_sub, I_mul, I_neg, I_lt, I_le, I_eq, if_neg d1, o8_g19, o8_g20, o8_l19, h19, o8_s18, upN_at, upN_upN, Option.bind_some]
      refine Ok.pure (Or.inl ⟨_, (tn (fS X) - (e + 1)).toNat, rfl, ⟨e + 1, _, rfl, by omega, by omega, rfl, fun k k0 k1 => ?_⟩, by omega⟩)
      by_cases z : k = e
      · rw [z, upZ_at]
      · rw [upZ_ne z]; exact hkk k k0 (by omega)
  · rintro m' ⟨K, rfl, hK⟩
    refine Ok.pure ⟨_, rfl, h.congr (fun _ _ => rfl) (fun i hi' => by rw [upN_ne (by omega)]; exact hi i (by omega) (by omega) (by omega) (by omega)), by rw [upN_ne (by omega)]; exact hi 13 (by omega) (by omega) (by omega) (by omega), fun e e0 e1 => ?_⟩
    rw [upN_at, hK e e0 e1, hk e e0 e1]
theorem M_ways (hl : a + 25 < m.length) (h : MB F A X) {i q u : Int} {r : Int64} {X' : FS} (h1 : -2147483648 ≤ i) (h2 : i < 2147483648) (h3 : -2147483648 ≤ q) (h4 : q < 2147483648) (h5 : -2147483648 ≤ u) (h6 : u < 2147483648) (hS : SWays X i q u r X') : Ok (f_X8_ways (ov m a (o8 a F A)) a (I i) (I q) (I u)) (fun t => t.1 = r ∧ MP m a t.2 X') := by
  unfold f_X8_ways
  simp only [N_isTwig h1 h2, Option.bind_some]
  unfold SWays at hS
  by_cases c1 : 0 ≤ i ∧ i < 4
  · rw [ind_t c1]
    obtain ⟨ex1, hw, -⟩ := h.2.1 i c1.1 c1.2
    have h60 := hw.1
    have h66 := hw.2.1
    have hn1 := h.1.2.1.1
    have hn2 := h.1.2.1.2.1
    by_cases c2 : q < 0
    · rw [if_neg (by omega)] at hS
      obtain ⟨rfl, rfl⟩ := hS
      simp (disch := omega) only [L0, L1, L2, L3, L4, L5, L6, L7, L8, L9, L10, L11, L12, L13, L14, L15, L16, L17, L18, L19, L20, L21, L22, L23, L24, L25, L26, L27, L31, L32, L33, L36, L40, L41, L42, L47, L48, L57, L58, L59, L60, L61, L62, L65, L97, L101, L102, L103, L120, L126, L127, L144, L245, L1023, L1715, I_add, I_sub, I_mul, I_neg, I_lt, I_le, I_eq, Option.bind_some, if_pos, if_neg, if_true, if_false, ite_true, ite_false, o8_cO, if_pos c2]
      exact M_badJ hl h
    · have hin : f_X8_in (ov m a (o8 a F A)) (I u) (I 0) (I 1) = some (I (ind (u = 0 ∨ u = 1))) := by
        rw [D_in h5 h6 (by omega) (by omega) (by omega) (by omega), ind_congr (show (0 ≤ u ∧ u ≤ 1) ↔ (u = 0 ∨ u = 1) by omega)]
      by_cases c3 : u = 0 ∨ u = 1
      · rw [if_pos (show (0 ≤ i ∧ i < 4) ∧ 0 ≤ q ∧ (u = 0 ∨ u = 1) by omega)] at hS
        by_cases c4 : q < tqn (fS X) i
        · rw [if_pos c4] at hS
          obtain ⟨rfl, W, P, hI, hP, rfl⟩ := hS
          simp (disch := omega) only [L0, L1, L2, L3, L4, L5, L6, L7, L8, L9, L10, L11, L12, L13, L14, L15, L16, L17, L18, L19, L20, L21, L22, L23, L24, L25, L26, L27, L31, L32, L33, L36, L40, L41, L42, L47, L48, L57, L58, L59, L60, L61, L62, L65, L97, L101, L102, L103, L120, L126, L127, L144, L245, L1023, L1715, I_add, I_sub, I_mul, I_neg, I_lt, I_le, I_eq, Option.bind_some, if_pos, if_neg, if_true, if_false, ite_true, ite_false, o8_cO, if_neg c2, hin, ind_t c3, o8_g7, o8_l7, ex1, if_pos c4]
          refine Ok.bind (M_matchesOf hl h c1.1 c1.2 (by omega)) ?_
          rintro ⟨v, m'⟩ ⟨e1, A1, rfl, hB1, hI1, -, -⟩
          dsimp only at e1 ⊢
          rw [e1]
          have hz := zM_bd (X := X') (i := i) (al := ftX X' i) hn1 hn2 h66
          have hzs := zM_sum hw hn1 (by omega) hI1
          have hWW := IsW_uniq hw (fun _ _ _ _ _ _ => Iff.rfl) hI hI1
          have hP1 := hP.ofW hw (by omega) c4 hWW
          have hPn := fun c x => hP1.bd hw (by omega) hn2 c x
          have hqq := (eW_in (nd := tnd (fS X') i) c4).1
          have hF1 := hB1.1.1
          -- the start
          refine Ok.bind (P := fun m' => ∃ K, m' = ov m a (o8 a F (upN A1 18 K)) ∧ ∀ x, 0 ≤ x → x < tn (fS X') → K x = ind ((u = 0 ∧ hb (ftX X' i q) x) ∨ (u ≠ 0 ∧ 0 < bR A1 q x ∧ 0 < zM X' i (ftX X' i)))) ?_ ?_
          · obtain ⟨t0, ht0⟩ : ∃ t0 : Int → Int, ∀ x, t0 x = ind ((u = 0 ∧ hb (ftX X' i q) x) ∨ (u ≠ 0 ∧ 0 < bR A1 q x ∧ 0 < zM X' i (ftX X' i))) := ⟨_, fun _ => rfl⟩
            refine (Ok.whl (fun j s => ∃ x K, s = (I x, ov m a (o8 a F (upN A1 18 K))) ∧ 0 ≤ x ∧ x ≤ tn (fS X') ∧ j = (tn (fS X') - x).toNat ∧ ∀ k, 0 ≤ k → k < x → K k = t0 k) (fun m' => ∃ K, m' = ov m a (o8 a F (upN A1 18 K)) ∧ ∀ x, 0 ≤ x → x < tn (fS X') → K x = t0 x) (j := (tn (fS X') - 0).toNat) ?_ ⟨0, A1 18, by rw [upN_self], by omega, by omega, rfl, fun k k0 k1 => by omega⟩ (FU_lt (by omega))).mono (fun m' ⟨K, q1, q2⟩ => ⟨K, q1, fun x x0 x1 => (q2 x x0 x1).trans (ht0 x)⟩)
            rintro j s ⟨x, K, rfl, x0, x1, rfl, hk⟩
            dsimp only
            have hAt : At (ov m a (o8 a F (upN A1 18 K))) a (o8 a F (upN A1 18 K)) := o8_At hl
            have hB2 : MB F (upN A1 18 K) X' := hB1.free (by omega) (by omega)
            unfold f_X8_ways_L52
            by_cases d1 : tn (fS X') ≤ x
            · simp (disch := omega) only [o8_g1, hF1, I_add, I_sub, I_mul, I_neg, I_lt, I_le, I_eq, if_pos d1, Option.bind_some]
              exact Ok.pure (Or.inr ⟨_, rfl, K, rfl, fun k k0 k1 => hk k k0 (by omega)⟩)
            · have nxt : ∀ w, w = t0 x → ∃ x' K', ((I (x + 1), ov m a (o8 a F (upN A1 18 (upZ K x w)))) : Int32 × Mm) = (I x', ov m a (o8 a F (upN A1 18 K'))) ∧ 0 ≤ x' ∧ x' ≤ tn (fS X') ∧ (tn (fS X') - (x + 1)).toNat = (tn (fS X') - x').toNat ∧ ∀ k, 0 ≤ k → k < x' → K' k = t0 k := by
                intro w hw'
                refine ⟨x + 1, _, rfl, by omega, by omega, rfl, fun k k0 k1 => ?_⟩
                by_cases z : k = x
                · rw [z, upZ_at]; exact hw'
                · rw [upZ_ne z]; exact hk k k0 (by omega)
              have hft := hb_ftX (X := X') (i := i) (q := q) hn1 hn2 x0 (show x < tn (fS X') by omega)
              rcases c3 with hu0 | hu1
              · by_cases z : ftF (ttg (fS X')) (tvl (fS X')) (tnd (fS X') i) q x
                · simp (disch := omega) only [hu0, o8_g1, hF1, L0, L1, L2, L3, L4, L5, L6, L7, L8, L9, L10, L11, L12, L13, L14, L15, L16, L17, L18, L19, L20, L21, L22, L23, L24, L25, L26, L27, L31, L32, L33, L36, L40, L41, L42, L47, L48, L57, L58, L59, L60, L61, L62, L65, L97, L101, L102, L103, L120, L126, L127, L144, L245, L1023, L1715, J0, J1, J31, J32, J1716, I_add, I_sub, I_mul, I_neg, I_lt, I_le, I_eq, Option.bind_some, if_pos, if_neg, if_true, if_false, ite_true, ite_false, if_neg d1, o8_g19, o8_cO, N_fits hAt hB2.mc, ind_t z, o8_s18, upN_at, upN_upN, Option.bind_some, if_true]
                  exact Ok.pure (Or.inl ⟨_, (tn (fS X') - (x + 1)).toNat, rfl, nxt 1 (by rw [ht0, ind_t (Or.inl ⟨hu0, hft.mpr z⟩)]), by omega⟩)
                · simp (disch := omega) only [hu0, o8_g1, hF1, L0, L1, L2, L3, L4, L5, L6, L7, L8, L9, L10, L11, L12, L13, L14, L15, L16, L17, L18, L19, L20, L21, L22, L23, L24, L25, L26, L27, L31, L32, L33, L36, L40, L41, L42, L47, L48, L57, L58, L59, L60, L61, L62, L65, L97, L101, L102, L103, L120, L126, L127, L144, L245, L1023, L1715, J0, J1, J31, J32, J1716, I_add, I_sub, I_mul, I_neg, I_lt, I_le, I_eq, Option.bind_some, if_pos, if_neg, if_true, if_false, ite_true, ite_false, if_neg d1, o8_g19, o8_cO, N_fits hAt hB2.mc, ind_f z, o8_s18, upN_at, upN_upN, Option.bind_some, if_true]
                  exact Ok.pure (Or.inl ⟨_, (tn (fS X') - (x + 1)).toNat, rfl, nxt 0 (by rw [ht0, ind_f (fun y => y.elim (fun y => z (hft.mp y.2)) (fun y => y.1 hu0))]), by omega⟩)
              · have hun : u ≠ 0 := by omega
                have h13 : upN A1 18 K 13 (32 * q + x) = bR A1 q x := by rw [upN_ne (by omega)]
                have hbd := hI1.lt hw hn2 (Int.le_refl _) (show 0 ≤ q by omega) c4 x0 (show x < tn (fS X') by omega)
                by_cases z : 0 < bR A1 q x
                · by_cases z2 : 0 < zM X' i (ftX X' i)
                  · simp (disch := omega) only [hu1, o8_g1, hF1, L0, L1, L2, L3, L4, L5, L6, L7, L8, L9, L10, L11, L12, L13, L14, L15, L16, L17, L18, L19, L20, L21, L22, L23, L24, L25, L26, L27, L31, L32, L33, L36, L40, L41, L42, L47, L48, L57, L58, L59, L60, L61, L62, L65, L97, L101, L102, L103, L120, L126, L127, L144, L245, L1023, L1715, J0, J1, J31, J32, J1716, I_add, I_sub, I_mul, I_neg, I_lt, I_le, I_eq, J_add, J_sub, J_mul, J_neg, J_lt, J_le, J_eq, Option.bind_some, if_pos, if_neg, if_true, if_false, ite_true, ite_false, if_neg d1, o8_g19, o8_g14, o8_l13, h13, if_neg (show ¬ bR A1 q x ≤ 0 by omega), if_neg (show ¬ zM X' i (ftX X' i) ≤ 0 by omega), o8_s18, upN_at, upN_upN, Option.bind_some]
                    exact Ok.pure (Or.inl ⟨_, (tn (fS X') - (x + 1)).toNat, rfl, nxt 1 (by rw [ht0, ind_t (Or.inr ⟨hun, z, z2⟩)]), by omega⟩)
                  · simp (disch := omega) only [hu1, o8_g1, hF1, L0, L1, L2, L3, L4, L5, L6, L7, L8, L9, L10, L11, L12, L13, L14, L15, L16, L17, L18, L19, L20, L21, L22, L23, L24, L25, L26, L27, L31, L32, L33, L36, L40, L41, L42, L47, L48, L57, L58, L59, L60, L61, L62, L65, L97, L101, L102, L103, L120, L126, L127, L144, L245, L1023, L1715, J0, J1, J31, J32, J1716, I_add, I_sub, I_mul, I_neg, I_lt, I_le, I_eq, J_add, J_sub, J_mul, J_neg, J_lt, J_le, J_eq, Option.bind_some, if_pos, if_neg, if_true, if_false, ite_true, ite_false, if_neg d1, o8_g19, o8_g14, o8_l13, h13, if_neg (show ¬ bR A1 q x ≤ 0 by omega), if_pos (show zM X' i (ftX X' i) ≤ 0 by omega), o8_s18, upN_at, upN_upN, Option.bind_some]
                    exact Ok.pure (Or.inl ⟨_, (tn (fS X') - (x + 1)).toNat, rfl, nxt 0 (by rw [ht0, ind_f (fun y => y.elim (fun y => hun y.1) (fun y => z2 y.2.2))]), by omega⟩)
                · simp (disch := omega) only [hu1, o8_g1, hF1, L0, L1, L2, L3, L4, L5, L6, L7, L8, L9, L10, L11, L12, L13, L14, L15, L16, L17, L18, L19, L20, L21, L22, L23, L24, L25, L26, L27, L31, L32, L33, L36, L40, L41, L42, L47, L48, L57, L58, L59, L60, L61, L62, L65, L97, L101, L102, L103, L120, L126, L127, L144, L245, L1023, L1715, J0, J1, J31, J32, J1716, I_add, I_sub, I_mul, I_neg, I_lt, I_le, I_eq, J_add, J_sub, J_mul, J_neg, J_lt, J_le, J_eq, Option.bind_some, if_pos, if_neg, if_true, if_false, ite_true, ite_false, if_neg d1, o8_g19, o8_g14, o8_l13, h13, if_pos (show bR A1 q x ≤ 0 by omega), o8_s18, upN_at, upN_upN, Option.bind_some]
                  exact Ok.pure (Or.inl ⟨_, (tn (fS X') - (x + 1)).toNat, rfl, nxt 0 (by rw [ht0, ind_f (fun y => y.elim (fun y => hun y.1) (fun y => z y.2.1))]), by omega⟩)
          rintro m' ⟨K, rfl, hK⟩
          -- up to the root
          refine Ok.bind (P := fun m' => ∃ A', m' = ov m a (o8 a F A') ∧ MB F A' X' ∧ Sm (fun x => A' 18 x) 0 (tn (fS X')) = Sm (fun x => P q x) 0 (tn (fS X'))) ?_ ?_
          · refine Ok.whl (fun j s => ∃ c A', s = (I c, ov m a (o8 a F A')) ∧ 0 ≤ c ∧ c ≤ q ∧ q < eW (tqn (fS X') i) (tnd (fS X') i) c ∧ j = c.toNat ∧ MB F A' X' ∧ A' 13 = A1 13 ∧ (∀ x, 0 ≤ x → x < tn (fS X') → 0 ≤ A' 18 x ∧ A' 18 x ≤ 32 ^ (q - c).toNat) ∧ (∀ x, 0 ≤ x → x < tn (fS X') → A' 18 x ≠ 0 → spF (ftX X' i) (bR A1) u c x) ∧ Sm (fun x => P c x * A' 18 x) 0 (tn (fS X')) = Sm (fun x => P q x) 0 (tn (fS X'))) _ (j := q.toNat) ?_ ⟨q, _, rfl, by omega, by omega, hqq, rfl, hB1.free (by omega) (by omega), by rw [upN_ne (by omega)], fun x x0 x1 => ?_, fun x x0 x1 hx => ?_, Sm_congr (fun x x0 x1 => ?_)⟩ (FU_lt (by omega))
            · rintro j s ⟨c, A2, rfl, cc0, cc1, ccq, rfl, hB2, h13, hU, hUs, hsum⟩
              dsimp only
              unfold f_X8_ways_L129
              by_cases d1 : c = 0
              · simp (disch := omega) only [d1, L0, L1, L2, L3, L4, L5, L6, L7, L8, L9, L10, L11, L12, L13, L14, L15, L16, L17, L18, L19, L20, L21, L22, L23, L24, L25, L26, L27, L31, L32, L33, L36, L40, L41, L42, L47, L48, L57, L58, L59, L60, L61, L62, L65, L97, L101, L102, L103, L120, L126, L127, L144, L245, L1023, L1715, I_add, I_sub, I_mul, I_neg, I_lt, I_le, I_eq, if_true]
                refine Ok.pure (Or.inr ⟨_, rfl, A2, rfl, hB2, ?_⟩)
                rw [← hsum]
                refine Sm_congr (fun x x0 x1 => ?_)
                by_cases z : A2 18 x = 0
                · rw [z, Int.mul_zero]
                · have hs := hUs x x0 x1 z
                  rw [d1] at hs ⊢
                  have hp0 : P 0 x = 1 := by
                    rw [hP1.1 x x0 x1]
                    by_cases hu : u = 0
                    · exact ind_t (Or.inl ⟨hu, hs.1 hu⟩)
                    · exact ind_t (Or.inr ⟨hu, hs.2 hu⟩)
                  rw [hp0, Int.one_mul]
              · have hub : Option.bind (α := Int32) (if I u = (1 : Int32) then some (1 : Int32) else some (0 : Int32)) = Option.bind (some (I u)) (β := (Int32 × Mm) ⊕ Mm) := by
                  congr 1
                  rcases c3 with rfl | rfl <;> rfl
                rw [hub]
                obtain ⟨g1, g2, g3⟩ := on_path hw (show 0 < c by omega) (by omega) ccq
                have h13' : bR A2 = bR A1 := by funext q e; show A2 13 _ = A1 13 _; rw [h13]
                have hpw := pow6 (show (q - c).toNat ≤ 6 by omega)
                simp (disch := omega) only [L0, L1, L2, L3, L4, L5, L6, L7, L8, L9, L10, L11, L12, L13, L14, L15, L16, L17, L18, L19, L20, L21, L22, L23, L24, L25, L26, L27, L31, L32, L33, L36, L40, L41, L42, L47, L48, L57, L58, L59, L60, L61, L62, L65, L97, L101, L102, L103, L120, L126, L127, L144, L245, L1023, L1715, I_add, I_sub, I_mul, I_neg, I_lt, I_le, I_eq, if_neg d1, o8_cO, Option.bind_some]
                refine Ok.bind (M_climbs hl hB2 c1.1 c1.2 (show 0 < c by omega) (by omega) c3 (by rw [h13']; exact hI1) (fun x x0 x1 => by have := hU x x0 x1; omega)) ?_
                rintro m' ⟨A3, rfl, hB3, h133, hcl⟩
                have hAt3 : At (ov m a (o8 a F A3)) a (o8 a F A3) := o8_At hl
                simp (disch := omega) only [o8_cO, N_of hAt3 hB3.2.1, Option.bind_some]
                have hst := ways_step hw hn2 c4 hI1 hP1 (show 0 < c by omega) cc1 ccq (U := A2 18) (fun x x0 x1 => (hU x x0 x1).1) hUs
                rw [h13'] at hcl
                refine Ok.pure (Or.inl ⟨_, (tnd (fS X') i c 5).toNat, rfl, ⟨tnd (fS X') i c 5, A3, rfl, g1, by omega, g3, rfl, hB3, h133.trans h13, fun x x0 x1 => ?_, fun x x0 x1 hx => ?_, ?_⟩, by omega⟩)
                · rw [hcl x x0 x1]
                  have hb1 := clV_bd (Q := tqn (fS X') i) (nd := tnd (fS X') i) (lv := tlv (fS X')) (al := ftX X' i) (W := bR A1) (u := u) (c := c) hn2 x0 x1 hU (Int.le_of_lt (I_pow_pos _))
                  refine ⟨hb1.1, Int.le_trans hb1.2 ?_⟩
                  have := I_pow_le (show (q - c).toNat + 1 ≤ (q - tnd (fS X') i c 5).toNat by omega)
                  rw [Int.pow_succ, Int.mul_comm] at this
                  exact this
                · rw [hcl x x0 x1] at hx
                  exact hst.2 x x0 x1 hx
                · rw [← hsum, ← hst.1]
                  exact Sm_congr (fun x x0 x1 => by rw [hcl x x0 x1])
            · rw [upN_at, hK x x0 x1]
              refine ⟨ind_nn, ?_⟩
              have := @ind_le ((u = 0 ∧ hb (ftX X' i q) x) ∨ (u ≠ 0 ∧ 0 < bR A1 q x ∧ 0 < zM X' i (ftX X' i))) _
              rw [show (q - q).toNat = 0 by omega, Int.pow_zero]
              exact this
            · rw [upN_at, hK x x0 x1] at hx
              rcases ind_ne hx with ⟨y1, y2⟩ | ⟨y1, y2, -⟩
              · exact ⟨fun _ => y2, fun t => absurd y1 t⟩
              · exact ⟨fun t => absurd t y1, fun _ => by omega⟩
            · rw [upN_at, hK x x0 x1]
              by_cases z : P q x = 0
              · rw [z, Int.zero_mul]
              · have hs := P_sp hw c4 hP1 (show 0 ≤ q by omega) (Int.le_refl _) hqq x0 x1 z
                by_cases hu : u = 0
                · rw [ind_t (Or.inl ⟨hu, hs.1 hu⟩), Int.mul_one]
                · obtain ⟨e, e0, e1', he⟩ := P_root hw c4 hP1 q x (by omega) (Int.le_refl _) hqq x0 x1 z
                  have hs0 := (P_sp hw c4 hP1 (c := 0) (Int.le_refl _) (by omega) (by rw [eW_0 hw (by omega)]; exact c4) e0 e1' he).2 hu
                  have hnq := hI1.nn (Int.le_refl _) hw q x (by omega) c4 x0 x1
                  have hn0 := hI1.nn (Int.le_refl _) hw 0 e (Int.le_refl _) (by omega) e0 e1'
                  have hzp : 0 < zM X' i (ftX X' i) := by
                    rw [hzs]
                    exact (Sm_pos (fun k k0 k1 => hI1.nn (Int.le_refl _) hw 0 k (Int.le_refl _) (by omega) k0 k1)).mpr ⟨e, e0, e1', by omega⟩
                  have hsq := hs.2 hu
                  rw [ind_t (Or.inr ⟨hu, by omega, hzp⟩), Int.mul_one]
          rintro m' ⟨A2, rfl, hB2, hsum⟩
          have hF2 := hB2.1.1
          refine Ok.bind (P := fun v => v = J (Sm (fun x => P q x) 0 (tn (fS X')))) ?_ (fun v hv => Ok.pure ⟨hv, F, A2, rfl, hB2⟩)
          rw [← hsum]
          refine Ok.whl (fun j s => ∃ x, s = (J (Sm (fun x => A2 18 x) 0 x), I x) ∧ 0 ≤ x ∧ x ≤ tn (fS X') ∧ j = (tn (fS X') - x).toNat) _ (j := (tn (fS X') - 0).toNat) ?_ ⟨0, by rw [Sm_nil (Int.le_refl _)]; rfl, by omega, by omega, rfl⟩ (FU_lt (by omega))
          rintro j s ⟨x, rfl, x0, x1, rfl⟩
          dsimp only
          unfold f_X8_ways_L169
          by_cases d1 : tn (fS X') ≤ x
          · simp (disch := omega) only [o8_g1, hF2, I_add, I_sub, I_mul, I_neg, I_lt, I_le, I_eq, if_pos d1, Option.bind_some]
            exact Ok.pure (Or.inr ⟨_, rfl, by rw [show x = tn (fS X') by omega]⟩)
          · simp (disch := omega) only [o8_g1, hF2, L0, L1, L2, L3, L4, L5, L6, L7, L8, L9, L10, L11, L12, L13, L14, L15, L16, L17, L18, L19, L20, L21, L22, L23, L24, L25, L26, L27, L31, L32, L33, L36, L40, L41, L42, L47, L48, L57, L58, L59, L60, L61, L62, L65, L97, L101, L102, L103, L120, L126, L127, L144, L245, L1023, L1715, I_add, I_sub, I_mul, I_neg, I_lt, I_le, I_eq, if_neg d1, o8_g19, o8_l18, J_add, Option.bind_some]
            exact Ok.pure (Or.inl ⟨_, (tn (fS X') - (x + 1)).toNat, rfl, ⟨x + 1, by rw [Sm_succ x0], by omega, by omega, rfl⟩, by omega⟩)
        · rw [if_neg c4] at hS
          obtain ⟨rfl, rfl⟩ := hS
          simp (disch := omega) only [L0, L1, L2, L3, L4, L5, L6, L7, L8, L9, L10, L11, L12, L13, L14, L15, L16, L17, L18, L19, L20, L21, L22, L23, L24, L25, L26, L27, L31, L32, L33, L36, L40, L41, L42, L47, L48, L57, L58, L59, L60, L61, L62, L65, L97, L101, L102, L103, L120, L126, L127, L144, L245, L1023, L1715, I_add, I_sub, I_mul, I_neg, I_lt, I_le, I_eq, Option.bind_some, if_pos, if_neg, if_true, if_false, ite_true, ite_false, o8_cO, if_neg c2, hin, ind_t c3, o8_g7, o8_l7, ex1, if_neg c4]
          exact M_noJ hl h
      · rw [if_neg (fun z => c3 z.2.2)] at hS
        obtain ⟨rfl, rfl⟩ := hS
        simp (disch := omega) only [L0, L1, L2, L3, L4, L5, L6, L7, L8, L9, L10, L11, L12, L13, L14, L15, L16, L17, L18, L19, L20, L21, L22, L23, L24, L25, L26, L27, L31, L32, L33, L36, L40, L41, L42, L47, L48, L57, L58, L59, L60, L61, L62, L65, L97, L101, L102, L103, L120, L126, L127, L144, L245, L1023, L1715, I_add, I_sub, I_mul, I_neg, I_lt, I_le, I_eq, Option.bind_some, if_pos, if_neg, if_true, if_false, ite_true, ite_false, o8_cO, if_neg c2, hin, ind_f c3]
        exact M_badJ hl h
  · rw [if_neg (fun z => c1 z.1)] at hS
    obtain ⟨rfl, rfl⟩ := hS
    rw [ind_f c1]
    simp (disch := omega) only [L0, L1, L2, L3, L4, L5, L6, L7, L8, L9, L10, L11, L12, L13, L14, L15, L16, L17, L18, L19, L20, L21, L22, L23, L24, L25, L26, L27, L31, L32, L33, L36, L40, L41, L42, L47, L48, L57, L58, L59, L60, L61, L62, L65, L97, L101, L102, L103, L120, L126, L127, L144, L245, L1023, L1715, I_add, I_sub, I_mul, I_neg, I_lt, I_le, I_eq, Option.bind_some, if_pos, if_neg, if_true, if_false, ite_true, ite_false, o8_cO]
    exact M_badJ hl h
end MW2
