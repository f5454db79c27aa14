/-! ===== the reference: matches, fits, part, less ===== -/
section MMT
variable {M m : Mm} {a : Nat} {F : Nat → Int} {A : Nat → Int → Int} {X : FS}
theorem MB.mc (h : MB F A X) : MC F A (fS X) := ⟨h.1, h.2.1⟩
theorem hb_aM {S : TS} {i q x : Int} (hn1 : 1 ≤ tn S) (hn : tn S ≤ 32) (x0 : 0 ≤ x) (x1 : x < tn S) : hb (aM A S i q) x ↔ hb (I (A 12 q)) x ∧ ftF (ttg S) (tvl S) (tnd S i) q x := by
  unfold aM ftS
  rw [hb_and, hb_bsn (by omega) hn x0 x1]
theorem hb_ftX {i q x : Int} (hn1 : 1 ≤ tn (fS X)) (hn : tn (fS X) ≤ 32) (x0 : 0 ≤ x) (x1 : x < tn (fS X)) : hb (ftX X i q) x ↔ ftF (ttg (fS X)) (tvl (fS X)) (tnd (fS X) i) q x := by
  unfold ftX ftS
  exact hb_bsn (by omega) hn x0 x1
theorem M_mayAll (hl : a + 25 < m.length) : Ok (f_X8_mayAll (ov m a (o8 a F A)) a) (fun m' => ∃ K, m' = ov m a (o8 a F (upN A 12 K)) ∧ ∀ q, 0 ≤ q → q < 6 → K q = -1) := by
  unfold f_X8_mayAll
  refine Ok.bind (P := fun m' => ∃ K, m' = ov m a (o8 a F (upN A 12 K)) ∧ ∀ q, 0 ≤ q → q < 6 → K q = -1) ?_ (fun _ h => Ok.pure h)
  refine Ok.whl (fun j s => ∃ q K, s = (I q, ov m a (o8 a F (upN A 12 K))) ∧ 0 ≤ q ∧ q ≤ 6 ∧ j = (6 - q).toNat ∧ ∀ k, 0 ≤ k → k < q → K k = -1) _ (j := (6 - 0 : Int).toNat) ?_ ⟨0, A 12, by rw [upN_self]; rfl, by omega, by omega, rfl, fun k k0 k1 => by omega⟩ (FU_lt (by omega))
  rintro j s ⟨q, K, rfl, q0, q1, rfl, hk⟩
  dsimp only
  unfold f_X8_mayAll_L2
  by_cases d1 : 6 ≤ q
  · simp (disch := omega) only [L0, L1, L2, L3, L4, L5, L6, L7, L8, L9, L10, L11, L12, L13, L14, L15, L16, L17, L18, L19, L20, L21, L22, L23, L24, L25, L26, L27, L31, L32, L33, L36, L40, L41, L42, L47, L48, L57, L58, L59, L60, L61, L62, L65, L97, L101, L102, L103, L120, L126, L127, L144, L245, L1023, L1715, I_add, I_sub, I_mul, I_neg, I_lt, I_le, I_eq, if_pos d1]
    exact Ok.pure (Or.inr ⟨_, rfl, K, rfl, fun k k0 k1 => hk k k0 (by omega)⟩)
  · simp (disch := omega) only [L0, L1, L2, L3, L4, L5, L6, L7, L8, L9, L10, L11, L12, L13, L14, L15, L16, L17, L18, L19, L20, L21, L22, L23, L24, L25, L26, L27, L31, L32, L33, L36, L40, L41, L42, L47, L48, L57, L58, L59, L60, L61, L62, L65, L97, L101, L102, L103, L120, L126, L127, L144, L245, L1023, L1715, I_add, I_sub, I_mul, I_neg, I_lt, I_le, I_eq, if_neg d1, o8_g13, o8_s12, upN_at, upN_upN, Option.bind_some]
    refine Ok.pure (Or.inl ⟨_, (6 - (q + 1)).toNat, rfl, ⟨q + 1, _, rfl, by omega, by omega, rfl, fun k k0 k1 => ?_⟩, by omega⟩)
    by_cases z : k = q
    · rw [z, upZ_at]
    · rw [upZ_ne z]; exact hk k k0 (by omega)
/-- a count, for what al allows -/
theorem M_cz (hl : a + 25 < m.length) (h : MB F A X) {i : Int} (i0 : 0 ≤ i) (i1 : i < 4) (hQ : 1 ≤ tqn (fS X) i) {al : Int → Int32} (ha : ∀ q x, 0 ≤ q → q < tqn (fS X) i → 0 ≤ x → x < tn (fS X) → (hb (aM A (fS X) i q) x ↔ hb (al q) x)) : Ok (f_X8_counts (ov m a (o8 a F A)) a (I i)) (fun t => t.1 = J (zM X i al) ∧ ∃ A', t.2 = ov m a (o8 a F A') ∧ MB F A' X ∧ IsW (tqn (fS X) i) (tnd (fS X) i) (tn (fS X)) (tlv (fS X)) al (bR A') ∧ ∀ i, i ≠ 13 → i ≠ 14 → i ≠ 15 → i ≠ 16 → A' i = A i) := by
  have hw := (h.2.1 i i0 i1).2.1
  have hn1 := h.1.2.1.1
  refine (M_counts hl h.mc i0 i1).mono ?_
  rintro ⟨v, m'⟩ ⟨A', e1, e2, e3, e4⟩
  dsimp only at e1 e2
  have hI := e3.al ha
  refine ⟨?_, A', e1, h.congr (fun _ _ => rfl) (fun i hi => e4 i (by omega) (by omega) (by omega) (by omega)), hI, e4⟩
  show v = _
  rw [e2, zM, zQ, sQ_all hw hQ hn1 hI (fun j => ⟨Int.le_refl 0, show (0 : Int) < _ by omega⟩)]
theorem M_matchesOf (hl : a + 25 < m.length) (h : MB F A X) {i : Int} (i0 : 0 ≤ i) (i1 : i < 4) (hQ : 1 ≤ tqn (fS X) i) : Ok (f_X8_matchesOf (ov m a (o8 a F A)) a (I i)) (fun t => t.1 = J (zM X i (ftX X i)) ∧ ∃ A', t.2 = ov m a (o8 a F A') ∧ MB F A' X ∧ IsW (tqn (fS X) i) (tnd (fS X) i) (tn (fS X)) (tlv (fS X)) (ftX X i) (bR A') ∧ (∀ q, 0 ≤ q → q < 6 → A' 12 q = -1) ∧ ∀ i, i ≠ 12 → i ≠ 13 → i ≠ 14 → i ≠ 15 → i ≠ 16 → A' i = A i) := by
  have hw := (h.2.1 i i0 i1).2.1
  have h6 := hw.2.1
  have hn1 := h.1.2.1.1
  have hn2 := h.1.2.1.2.1
  unfold f_X8_matchesOf
  simp (disch := omega) only [o8_cO]
  refine Ok.bind (M_mayAll hl) ?_
  rintro m' ⟨K, rfl, hK⟩
  simp (disch := omega) only [o8_cO]
  refine Ok.bind (M_cz (al := ftX X i) hl (h.free (k := 12) (K := K) (by omega) (by omega)) i0 i1 hQ (fun q x q0 q1 x0 x1 => ?_)) ?_
  · rw [hb_aM hn1 hn2 x0 x1, hb_ftX hn1 hn2 x0 x1, upN_at, hK q q0 (by omega)]
    exact ⟨fun z => z.2, fun z => ⟨hb_m1 (by omega), z⟩⟩
  · rintro ⟨v, m'⟩ ⟨e1, A', e2, e3, e4, e5⟩
    refine Ok.pure ⟨e1, A', e2, e3, e4, fun q q0 q1 => ?_, fun i g1 g2 g3 g4 g5 => ?_⟩
    · rw [e5 12 (by omega) (by omega) (by omega) (by omega), upN_at]; exact hK q q0 q1
    · rw [e5 i g2 g3 g4 g5, upN_ne g1]
theorem M_badJ (hl : a + 25 < m.length) (h : MB F A X) : Ok ((f_X8_bad (ov m a (o8 a F A)) a).bind fun t => some (t.1.toInt64, t.2)) (fun q => q.1 = J (-2) ∧ MP m a q.2 (incB X (-2))) := Ok.bind (M_bad hl h) (fun t ht => Ok.pure ⟨by rw [ht.1]; exact I_J (by omega) (by omega), F, ht.2⟩)
theorem M_noJ (hl : a + 25 < m.length) (h : MB F A X) : Ok ((f_X8_no (ov m a (o8 a F A)) a).bind fun t => some (t.1.toInt64, t.2)) (fun q => q.1 = J (-3) ∧ MP m a q.2 (incB X (-3))) := Ok.bind (M_no hl h) (fun t ht => Ok.pure ⟨by rw [ht.1]; exact I_J (by omega) (by omega), F, ht.2⟩)
theorem M_bad0 (hl : a + 25 < m.length) (h : MB F A X) : Ok ((f_X8_bad (ov m a (o8 a F A)) a).bind fun t => some (I 0 * t.1, t.2)) (fun q => q.1 = I 0 ∧ MP m a q.2 (incB X (-2))) := Ok.bind (M_bad hl h) (fun t ht => Ok.pure ⟨by rw [ht.1]; rfl, F, ht.2⟩)
theorem M_no0 (hl : a + 25 < m.length) (h : MB F A X) : Ok ((f_X8_no (ov m a (o8 a F A)) a).bind fun t => some (I 0 * t.1, t.2)) (fun q => q.1 = I 0 ∧ MP m a q.2 (incB X (-3))) := Ok.bind (M_no hl h) (fun t ht => Ok.pure ⟨by rw [ht.1]; rfl, F, ht.2⟩)
theorem M_matches (hl : a + 25 < m.length) (h : MB F A X) {i : Int} (h1 : -2147483648 ≤ i) (h2 : i < 2147483648) : Ok (f_X8_matches (ov m a (o8 a F A)) a (I i)) (fun t => t.1 = J (rMatches X i).1 ∧ MP m a t.2 (rMatches X i).2) := by
  unfold f_X8_matches
  simp only [N_isTwig h1 h2, Option.bind_some]
  by_cases c : 0 ≤ i ∧ i < 4
  · have hr : rMatches X i = _ := if_pos c
    rw [hr, ind_t c]
    obtain ⟨ex1, ex, -⟩ := h.2.1 i c.1 c.2
    have h60 := ex.1
    have h6 := ex.2.1
    by_cases c3 : tqn (fS X) i = 0
    · rw [if_pos c3]
      simp (disch := omega) only [L0, L1, L2, L3, L4, L5, L6, L7, L8, L9, L10, L11, L12, L13, L14, L15, L16, L17, L18, L19, L20, L21, L22, L23, L24, L25, L26, L27, L31, L32, L33, L36, L40, L41, L42, L47, L48, L57, L58, L59, L60, L61, L62, L65, L97, L101, L102, L103, L120, L126, L127, L144, L245, L1023, L1715, I_add, I_sub, I_mul, I_neg, I_lt, I_le, I_eq, Option.bind_some, if_pos, if_neg, if_true, if_false, ite_true, ite_false, o8_g7, o8_l7, ex1, o8_cO]
      exact M_noJ hl h
    · rw [if_neg c3]
      simp (disch := omega) only [L0, L1, L2, L3, L4, L5, L6, L7, L8, L9, L10, L11, L12, L13, L14, L15, L16, L17, L18, L19, L20, L21, L22, L23, L24, L25, L26, L27, L31, L32, L33, L36, L40, L41, L42, L47, L48, L57, L58, L59, L60, L61, L62, L65, L97, L101, L102, L103, L120, L126, L127, L144, L245, L1023, L1715, I_add, I_sub, I_mul, I_neg, I_lt, I_le, I_eq, Option.bind_some, if_pos, if_neg, if_true, if_false, ite_true, ite_false, o8_g7, o8_l7, ex1, o8_cO]
      refine Ok.bind (M_matchesOf hl h c.1 c.2 (by omega)) ?_
      rintro ⟨v, m'⟩ ⟨e1, A', e2, e3, -⟩
      exact Ok.pure ⟨e1, F, A', e2, e3⟩
  · have hr : rMatches X i = _ := if_neg c
    rw [hr, ind_f c]
    simp (disch := omega) only [L0, L1, L2, L3, L4, L5, L6, L7, L8, L9, L10, L11, L12, L13, L14, L15, L16, L17, L18, L19, L20, L21, L22, L23, L24, L25, L26, L27, L31, L32, L33, L36, L40, L41, L42, L47, L48, L57, L58, L59, L60, L61, L62, L65, L97, L101, L102, L103, L120, L126, L127, L144, L245, L1023, L1715, I_add, I_sub, I_mul, I_neg, I_lt, I_le, I_eq, Option.bind_some, if_pos, if_neg, if_true, if_false, ite_true, ite_false, o8_cO]
    exact M_badJ hl h
theorem M_fits (hl : a + 25 < m.length) (h : MB F A X) {i q : Int} (h1 : -2147483648 ≤ i) (h2 : i < 2147483648) (h3 : -2147483648 ≤ q) (h4 : q < 2147483648) : Ok (f_X8_fits (ov m a (o8 a F A)) a (I i) (I q)) (fun t => t.1 = (rFits X i q).1 ∧ MP m a t.2 (rFits X i q).2) := by
  unfold f_X8_fits
  simp only [N_isTwig h1 h2, Option.bind_some]
  by_cases c1 : 0 ≤ i ∧ i < 4
  · rw [ind_t c1]
    obtain ⟨ex1, ex, -⟩ := h.2.1 i c1.1 c1.2
    have h60 := ex.1
    have h6 := ex.2.1
    have hF := h.1.1
    have hn1 := h.1.2.1.1
    have hn2 := h.1.2.1.2.1
    by_cases c2 : 0 ≤ q
    · have hr : rFits X i q = _ := if_pos ⟨c1, c2⟩
      rw [hr]
      by_cases c3 : q < tqn (fS X) i
      · rw [if_pos c3]
        simp (disch := omega) only [L0, L1, L2, L3, L4, L5, L6, L7, L8, L9, L10, L11, L12, L13, L14, L15, L16, L17, L18, L19, L20, L21, L22, L23, L24, L25, L26, L27, L31, L32, L33, L36, L40, L41, L42, L47, L48, L57, L58, L59, L60, L61, L62, L65, L97, L101, L102, L103, L120, L126, L127, L144, L245, L1023, L1715, I_add, I_sub, I_mul, I_neg, I_lt, I_le, I_eq, Option.bind_some, if_pos, if_neg, if_true, if_false, ite_true, ite_false, o8_g7, o8_l7, ex1, o8_cO, if_pos c2, if_pos c3]
        refine Ok.bind (P := fun v => v = ftX X i q) ?_ (fun v hv => Ok.pure ⟨hv, F, A, rfl, h⟩)
        have hAt : At (ov m a (o8 a F A)) a (o8 a F A) := o8_At hl
        refine Ok.whl (fun j s => ∃ e, s = (bs (fun e => ftF (ttg (fS X)) (tvl (fS X)) (tnd (fS X) i) q e) e.toNat, I e) ∧ 0 ≤ e ∧ e ≤ tn (fS X) ∧ j = (tn (fS X) - e).toNat) _ (j := (tn (fS X) - 0).toNat) ?_ ⟨0, rfl, by omega, by omega, rfl⟩ (FU_lt (by omega))
        rintro j s ⟨e, rfl, e0, e1, rfl⟩
        dsimp only
        unfold f_X8_fits_L40
        by_cases d1 : tn (fS X) ≤ e
        · simp (disch := omega) only [o8_g1, hF, I_add, I_sub, I_mul, I_neg, I_lt, I_le, I_eq, if_pos d1, Option.bind_some]
          refine Ok.pure (Or.inr ⟨_, rfl, ?_⟩)
          unfold ftX ftS
          rw [show e = tn (fS X) by omega]
        · by_cases d2 : ftF (ttg (fS X)) (tvl (fS X)) (tnd (fS X) i) q e
          · simp (disch := omega) only [o8_g1, hF, L0, L1, L2, L3, L4, L5, L6, L7, L8, L9, L10, L11, L12, L13, L14, L15, L16, L17, L18, L19, L20, L21, L22, L23, L24, L25, L26, L27, L31, L32, L33, L36, L40, L41, L42, L47, L48, L57, L58, L59, L60, L61, L62, L65, L97, L101, L102, L103, L120, L126, L127, L144, L245, L1023, L1715, I_add, I_sub, I_mul, I_neg, I_lt, I_le, I_eq, Option.bind_some, if_pos, if_neg, if_true, if_false, ite_true, ite_false, if_neg d1, o8_cO, N_fits hAt h.mc, ind_t d2, Option.bind_some]
            exact Ok.pure (Or.inl ⟨_, (tn (fS X) - (e + 1)).toNat, rfl, ⟨e + 1, by rw [bs_t e0 d2], by omega, by omega, rfl⟩, by omega⟩)
          · simp (disch := omega) only [o8_g1, hF, L0, L1, L2, L3, L4, L5, L6, L7, L8, L9, L10, L11, L12, L13, L14, L15, L16, L17, L18, L19, L20, L21, L22, L23, L24, L25, L26, L27, L31, L32, L33, L36, L40, L41, L42, L47, L48, L57, L58, L59, L60, L61, L62, L65, L97, L101, L102, L103, L120, L126, L127, L144, L245, L1023, L1715, I_add, I_sub, I_mul, I_neg, I_lt, I_le, I_eq, Option.bind_some, if_pos, if_neg, if_true, if_false, ite_true, ite_false, if_neg d1, o8_cO, N_fits hAt h.mc, ind_f d2, or0, Option.bind_some]
            exact Ok.pure (Or.inl ⟨_, (tn (fS X) - (e + 1)).toNat, rfl, ⟨e + 1, by rw [bs_f e0 d2], by omega, by omega, rfl⟩, by omega⟩)
      · rw [if_neg c3]
        simp (disch := omega) only [L0, L1, L2, L3, L4, L5, L6, L7, L8, L9, L10, L11, L12, L13, L14, L15, L16, L17, L18, L19, L20, L21, L22, L23, L24, L25, L26, L27, L31, L32, L33, L36, L40, L41, L42, L47, L48, L57, L58, L59, L60, L61, L62, L65, L97, L101, L102, L103, L120, L126, L127, L144, L245, L1023, L1715, I_add, I_sub, I_mul, I_neg, I_lt, I_le, I_eq, Option.bind_some, if_pos, if_neg, if_true, if_false, ite_true, ite_false, o8_g7, o8_l7, ex1, o8_cO, if_pos c2, if_neg c3]
        exact M_no0 hl h
    · have hr : rFits X i q = _ := if_neg (fun z => c2 z.2)
      rw [hr]
      simp (disch := omega) only [L0, L1, L2, L3, L4, L5, L6, L7, L8, L9, L10, L11, L12, L13, L14, L15, L16, L17, L18, L19, L20, L21, L22, L23, L24, L25, L26, L27, L31, L32, L33, L36, L40, L41, L42, L47, L48, L57, L58, L59, L60, L61, L62, L65, L97, L101, L102, L103, L120, L126, L127, L144, L245, L1023, L1715, I_add, I_sub, I_mul, I_neg, I_lt, I_le, I_eq, Option.bind_some, if_pos, if_neg, if_true, if_false, ite_true, ite_false, o8_cO, if_neg c2]
      exact M_bad0 hl h
  · have hr : rFits X i q = _ := if_neg (fun z => c1 z.1)
    rw [hr, ind_f c1]
    simp (disch := omega) only [L0, L1, L2, L3, L4, L5, L6, L7, L8, L9, L10, L11, L12, L13, L14, L15, L16, L17, L18, L19, L20, L21, L22, L23, L24, L25, L26, L27, L31, L32, L33, L36, L40, L41, L42, L47, L48, L57, L58, L59, L60, L61, L62, L65, L97, L101, L102, L103, L120, L126, L127, L144, L245, L1023, L1715, I_add, I_sub, I_mul, I_neg, I_lt, I_le, I_eq, Option.bind_some, if_pos, if_neg, if_true, if_false, ite_true, ite_false, o8_cO]
    exact M_bad0 hl h
theorem M_partOf (hl : a + 25 < m.length) (h : MB F A X) {i q e : Int} (i0 : 0 ≤ i) (i1 : i < 4) (q0 : 0 ≤ q) (q1 : q < tqn (fS X) i) (e0 : 0 ≤ e) (e1 : e < tn (fS X)) : Ok (f_X8_partOf (ov m a (o8 a F A)) a (I i) (I q) (I e)) (fun t => t.1 = J (zM X i (pnS (tn (fS X)) (ttg (fS X)) (tvl (fS X)) (tnd (fS X) i) q e)) ∧ ∃ A', t.2 = ov m a (o8 a F A') ∧ MB F A' X) := by
  have hw := (h.2.1 i i0 i1).2.1
  have h6 := hw.2.1
  have hn1 := h.1.2.1.1
  have hn2 := h.1.2.1.2.1
  unfold f_X8_partOf
  simp (disch := omega) only [o8_cO]
  refine Ok.bind (M_mayAll hl) ?_
  rintro m' ⟨K, rfl, hK⟩
  obtain ⟨z, hz, -, -⟩ := I_ex (I 1 <<< (I e &&& I 31))
  simp (disch := omega) only [o8_g13, L0, L1, L2, L3, L4, L5, L6, L7, L8, L9, L10, L11, L12, L13, L14, L15, L16, L17, L18, L19, L20, L21, L22, L23, L24, L25, L26, L27, L31, L32, L33, L36, L40, L41, L42, L47, L48, L57, L58, L59, L60, L61, L62, L65, L97, L101, L102, L103, L120, L126, L127, L144, L245, L1023, L1715, Option.bind_some]
  rw [hz]
  simp (disch := omega) only [o8_s12, upN_at, upN_upN, o8_cO, Option.bind_some]
  refine Ok.bind (M_cz (al := pnS (tn (fS X)) (ttg (fS X)) (tvl (fS X)) (tnd (fS X) i) q e) hl (h.free (k := 12) (by omega) (by omega)) i0 i1 (by omega) (fun k x k0 k1 x0 x1 => ?_)) ?_
  · rw [hb_aM hn1 hn2 x0 x1, upN_at]
    unfold pnS
    rw [hb_bsn (by omega) hn2 x0 x1]
    by_cases y : k = q
    · subst y
      rw [upZ_at, ← hz, hb_bit e0 (by omega) x0 (by omega)]
      exact ⟨fun t => ⟨t.2, Or.inr t.1⟩, fun t => ⟨t.2.elim (fun s => absurd rfl s) id, t.1⟩⟩
    · rw [upZ_ne y, hK k k0 (by omega)]
      exact ⟨fun t => ⟨t.2, Or.inl y⟩, fun t => ⟨hb_m1 (by omega), t.1⟩⟩
  · rintro ⟨v, m'⟩ ⟨e1, A', e2, e3, -⟩
    exact Ok.pure ⟨e1, A', e2, e3⟩
theorem M_part (hl : a + 25 < m.length) (h : MB F A X) {i q e : Int} (h1 : -2147483648 ≤ i) (h2 : i < 2147483648) (h3 : -2147483648 ≤ q) (h4 : q < 2147483648) (h5 : -2147483648 ≤ e) (h6 : e < 2147483648) : Ok (f_X8_part (ov m a (o8 a F A)) a (I i) (I q) (I e)) (fun t => t.1 = J (rPart X i q e).1 ∧ MP m a t.2 (rPart X i q e).2) := by
  have hAt : At (ov m a (o8 a F A)) a (o8 a F A) := o8_At hl
  have hF := h.1.1
  have hn1 := h.1.2.1.1
  have hn2 := h.1.2.1.2.1
  unfold f_X8_part
  simp only [N_isTwig h1 h2, Option.bind_some]
  by_cases c1 : 0 ≤ i ∧ i < 4
  · rw [ind_t c1]
    obtain ⟨ex1, ex, -⟩ := h.2.1 i c1.1 c1.2
    have h60 := ex.1
    have h66 := ex.2.1
    by_cases c2 : q < 0
    · have hr : rPart X i q e = _ := if_neg (by omega)
      rw [hr]
      simp (disch := omega) only [L0, L1, L2, L3, L4, L5, L6, L7, L8, L9, L10, L11, L12, L13, L14, L15, L16, L17, L18, L19, L20, L21, L22, L23, L24, L25, L26, L27, L31, L32, L33, L36, L40, L41, L42, L47, L48, L57, L58, L59, L60, L61, L62, L65, L97, L101, L102, L103, L120, L126, L127, L144, L245, L1023, L1715, I_add, I_sub, I_mul, I_neg, I_lt, I_le, I_eq, Option.bind_some, if_pos, if_neg, if_true, if_false, ite_true, ite_false, o8_cO, if_pos c2]
      exact M_badJ hl h
    · by_cases c3 : 0 ≤ e ∧ e < tn (fS X)
      · have hr : rPart X i q e = _ := if_pos (show (0 ≤ i ∧ i < 4) ∧ 0 ≤ q ∧ 0 ≤ e ∧ e < tn (fS X) by omega)
        rw [hr]
        by_cases c4 : q < tqn (fS X) i
        · rw [if_pos c4]
          simp (disch := omega) only [L0, L1, L2, L3, L4, L5, L6, L7, L8, L9, L10, L11, L12, L13, L14, L15, L16, L17, L18, L19, L20, L21, L22, L23, L24, L25, L26, L27, L31, L32, L33, L36, L40, L41, L42, L47, L48, L57, L58, L59, L60, L61, L62, L65, L97, L101, L102, L103, L120, L126, L127, L144, L245, L1023, L1715, I_add, I_sub, I_mul, I_neg, I_lt, I_le, I_eq, Option.bind_some, if_pos, if_neg, if_true, if_false, ite_true, ite_false, o8_cO, if_neg c2, D_isElement hAt h5 h6, hF, ind_t c3, o8_g7, o8_l7, ex1]
          refine Ok.bind (M_partOf hl h c1.1 c1.2 (by omega) c4 c3.1 c3.2) ?_
          rintro ⟨v, m'⟩ ⟨e1, A', e2, e3⟩
          exact Ok.pure ⟨e1, F, A', e2, e3⟩
        · rw [if_neg c4]
          simp (disch := omega) only [L0, L1, L2, L3, L4, L5, L6, L7, L8, L9, L10, L11, L12, L13, L14, L15, L16, L17, L18, L19, L20, L21, L22, L23, L24, L25, L26, L27, L31, L32, L33, L36, L40, L41, L42, L47, L48, L57, L58, L59, L60, L61, L62, L65, L97, L101, L102, L103, L120, L126, L127, L144, L245, L1023, L1715, I_add, I_sub, I_mul, I_neg, I_lt, I_le, I_eq, Option.bind_some, if_pos, if_neg, if_true, if_false, ite_true, ite_false, o8_cO, if_neg c2, D_isElement hAt h5 h6, hF, ind_t c3, o8_g7, o8_l7, ex1]
          exact M_noJ hl h
      · have hr : rPart X i q e = _ := if_neg (fun z => c3 z.2.2)
        rw [hr]
        simp (disch := omega) only [L0, L1, L2, L3, L4, L5, L6, L7, L8, L9, L10, L11, L12, L13, L14, L15, L16, L17, L18, L19, L20, L21, L22, L23, L24, L25, L26, L27, L31, L32, L33, L36, L40, L41, L42, L47, L48, L57, L58, L59, L60, L61, L62, L65, L97, L101, L102, L103, L120, L126, L127, L144, L245, L1023, L1715, I_add, I_sub, I_mul, I_neg, I_lt, I_le, I_eq, Option.bind_some, if_pos, if_neg, if_true, if_false, ite_true, ite_false, o8_cO, if_neg c2, D_isElement hAt h5 h6, hF, ind_f c3]
        exact M_badJ hl h
  · have hr : rPart X i q e = _ := if_neg (fun z => c1 z.1)
    rw [hr, ind_f c1]
    simp (disch := omega) only [L0, L1, L2, L3, L4, L5, L6, L7, L8, L9, L10, L11, L12, L13, L14, L15, L16, L17, L18, L19, L20, L21, L22, L23, L24, L25, L26, L27, L31, L32, L33, L36, L40, L41, L42, L47, L48, L57, L58, L59, L60, L61, L62, L65, L97, L101, L102, L103, L120, L126, L127, L144, L245, L1023, L1715, I_add, I_sub, I_mul, I_neg, I_lt, I_le, I_eq, Option.bind_some, if_pos, if_neg, if_true, if_false, ite_true, ite_false, o8_cO]
    exact M_badJ hl h
theorem M_less (hl : a + 25 < m.length) (h : MB F A X) {i e : Int} (h1 : -2147483648 ≤ i) (h2 : i < 2147483648) (h5 : -2147483648 ≤ e) (h6 : e < 2147483648) : Ok (f_X8_less (ov m a (o8 a F A)) a (I i) (I e)) (fun t => t.1 = J (rLess X i e).1 ∧ MP m a t.2 (rLess X i e).2) := by
  have hAt : At (ov m a (o8 a F A)) a (o8 a F A) := o8_At hl
  have hF := h.1.1
  have hn1 := h.1.2.1.1
  have hn2 := h.1.2.1.2.1
  unfold f_X8_less
  simp only [N_isTwig h1 h2, Option.bind_some]
  by_cases c1 : 0 ≤ i ∧ i < 4
  · rw [ind_t c1]
    obtain ⟨ex1, ex, -⟩ := h.2.1 i c1.1 c1.2
    have h60 := ex.1
    have h66 := ex.2.1
    by_cases c3 : 0 ≤ e ∧ e < tn (fS X)
    · have hr : rLess X i e = _ := if_pos (show (0 ≤ i ∧ i < 4) ∧ 0 ≤ e ∧ e < tn (fS X) by omega)
      rw [hr]
      by_cases c4 : tqn (fS X) i = 0
      · rw [if_pos (Or.inl c4)]
        simp (disch := omega) only [L0, L1, L2, L3, L4, L5, L6, L7, L8, L9, L10, L11, L12, L13, L14, L15, L16, L17, L18, L19, L20, L21, L22, L23, L24, L25, L26, L27, L31, L32, L33, L36, L40, L41, L42, L47, L48, L57, L58, L59, L60, L61, L62, L65, L97, L101, L102, L103, L120, L126, L127, L144, L245, L1023, L1715, I_add, I_sub, I_mul, I_neg, I_lt, I_le, I_eq, Option.bind_some, if_pos, if_neg, if_true, if_false, ite_true, ite_false, o8_cO, D_isElement hAt h5 h6, hF, ind_t c3, o8_g7, o8_l7, ex1]
        exact M_noJ hl h
      · by_cases c5 : e = 0
        · rw [if_pos (Or.inr c5)]
          simp (disch := omega) only [L0, L1, L2, L3, L4, L5, L6, L7, L8, L9, L10, L11, L12, L13, L14, L15, L16, L17, L18, L19, L20, L21, L22, L23, L24, L25, L26, L27, L31, L32, L33, L36, L40, L41, L42, L47, L48, L57, L58, L59, L60, L61, L62, L65, L97, L101, L102, L103, L120, L126, L127, L144, L245, L1023, L1715, I_add, I_sub, I_mul, I_neg, I_lt, I_le, I_eq, Option.bind_some, if_pos, if_neg, if_true, if_false, ite_true, ite_false, o8_cO, D_isElement hAt h5 h6, hF, ind_t c3, o8_g7, o8_l7, ex1]
          exact M_noJ hl h
        · rw [if_neg (show ¬ (tqn (fS X) i = 0 ∨ e = 0) by omega)]
          simp (disch := omega) only [L0, L1, L2, L3, L4, L5, L6, L7, L8, L9, L10, L11, L12, L13, L14, L15, L16, L17, L18, L19, L20, L21, L22, L23, L24, L25, L26, L27, L31, L32, L33, L36, L40, L41, L42, L47, L48, L57, L58, L59, L60, L61, L62, L65, L97, L101, L102, L103, L120, L126, L127, L144, L245, L1023, L1715, I_add, I_sub, I_mul, I_neg, I_lt, I_le, I_eq, Option.bind_some, if_pos, if_neg, if_true, if_false, ite_true, ite_false, o8_cO, D_isElement hAt h5 h6, hF, ind_t c3, o8_g7, o8_l7, ex1]
          refine Ok.bind (M_matchesOf hl h c1.1 c1.2 (by omega)) ?_
          rintro ⟨v, m'⟩ ⟨e1, A1, rfl, e3, -⟩
          dsimp only at e1 ⊢
          have p5 := (e3.1.2.2 e c3.1 c3.2).2.2.2.1
          obtain ⟨k1, k2, -, -⟩ := enF_spec (tlv (fS X)) c3.2
          refine Ok.bind (P := fun w => ∀ k, 0 ≤ k → k < 32 → (hb w k ↔ ¬ (e ≤ k ∧ k < enF (tn (fS X)) (tlv (fS X)) e))) ?_ ?_
          · refine Ok.whl (fun j s => ∃ x w, s = (w, I x) ∧ e ≤ x ∧ x ≤ enF (tn (fS X)) (tlv (fS X)) e ∧ j = (enF (tn (fS X)) (tlv (fS X)) e - x).toNat ∧ ∀ k, 0 ≤ k → k < 32 → (hb w k ↔ ¬ (e ≤ k ∧ k < x))) _ (j := (enF (tn (fS X)) (tlv (fS X)) e - e).toNat) ?_ ⟨e, I (-1), rfl, by omega, by omega, rfl, fun k k0 k1 => ⟨fun _ => by omega, fun _ => hb_m1 k1⟩⟩ (FU_lt (by omega))
            rintro j s ⟨x, w, rfl, x0, x1, rfl, hk⟩
            dsimp only
            unfold f_X8_less_L52
            by_cases d1 : enF (tn (fS X)) (tlv (fS X)) e ≤ x
            · simp (disch := omega) only [o8_g5, o8_l5, p5, I_add, I_sub, I_mul, I_neg, I_lt, I_le, I_eq, if_pos d1, Option.bind_some]
              rw [show x = enF (tn (fS X)) (tlv (fS X)) e by omega] at hk
              exact Ok.pure (Or.inr ⟨_, rfl, hk⟩)
            · simp (disch := omega) only [o8_g5, o8_l5, p5, L0, L1, L2, L3, L4, L5, L6, L7, L8, L9, L10, L11, L12, L13, L14, L15, L16, L17, L18, L19, L20, L21, L22, L23, L24, L25, L26, L27, L31, L32, L33, L36, L40, L41, L42, L47, L48, L57, L58, L59, L60, L61, L62, L65, L97, L101, L102, L103, L120, L126, L127, L144, L245, L1023, L1715, I_add, I_sub, I_mul, I_neg, I_lt, I_le, I_eq, if_neg d1, Option.bind_some]
              refine Ok.pure (Or.inl ⟨_, (enF (tn (fS X)) (tlv (fS X)) e - (x + 1)).toNat, rfl, ⟨x + 1, _, rfl, by omega, by omega, rfl, fun k k0 k1 => ?_⟩, by omega⟩)
              rw [hb_and, hk k k0 k1, hb_not k1, hb_bit (by omega) (by omega) k0 k1]
              omega
          · intro w hw
            obtain ⟨z, hz, -, -⟩ := I_ex w
            refine Ok.bind (P := fun m' => ∃ K, m' = ov m a (o8 a F (upN A1 12 K)) ∧ ∀ q, 0 ≤ q → q < 6 → I (K q) = w) ?_ ?_
            · refine Ok.whl (fun j s => ∃ q K, s = (I q, ov m a (o8 a F (upN A1 12 K))) ∧ 0 ≤ q ∧ q ≤ 6 ∧ j = (6 - q).toNat ∧ ∀ k, 0 ≤ k → k < q → I (K k) = w) _ (j := (6 - 0 : Int).toNat) ?_ ⟨0, A1 12, by rw [upN_self], by omega, by omega, rfl, fun k k0 k1 => by omega⟩ (FU_lt (by omega))
              rintro j s ⟨q, K, rfl, q0, q1, rfl, hk⟩
              dsimp only
              unfold f_X8_less_L83
              rw [hz] at hk ⊢
              by_cases d1 : 6 ≤ q
              · simp (disch := omega) only [L0, L1, L2, L3, L4, L5, L6, L7, L8, L9, L10, L11, L12, L13, L14, L15, L16, L17, L18, L19, L20, L21, L22, L23, L24, L25, L26, L27, L31, L32, L33, L36, L40, L41, L42, L47, L48, L57, L58, L59, L60, L61, L62, L65, L97, L101, L102, L103, L120, L126, L127, L144, L245, L1023, L1715, I_add, I_sub, I_mul, I_neg, I_lt, I_le, I_eq, if_pos d1]
                exact Ok.pure (Or.inr ⟨_, rfl, K, rfl, fun k k0 k1 => hk k k0 (by omega)⟩)
              · simp (disch := omega) only [L0, L1, L2, L3, L4, L5, L6, L7, L8, L9, L10, L11, L12, L13, L14, L15, L16, L17, L18, L19, L20, L21, L22, L23, L24, L25, L26, L27, L31, L32, L33, L36, L40, L41, L42, L47, L48, L57, L58, L59, L60, L61, L62, L65, L97, L101, L102, L103, L120, L126, L127, L144, L245, L1023, L1715, I_add, I_sub, I_mul, I_neg, I_lt, I_le, I_eq, if_neg d1, o8_g13, o8_s12, upN_at, upN_upN, Option.bind_some]
                refine Ok.pure (Or.inl ⟨_, (6 - (q + 1)).toNat, rfl, ⟨q + 1, _, rfl, by omega, by omega, rfl, fun k k0 k1 => ?_⟩, by omega⟩)
                by_cases y : k = q
                · rw [y, upZ_at]
                · rw [upZ_ne y]; exact hk k k0 (by omega)
            · rintro m' ⟨K, rfl, hK⟩
              simp (disch := omega) only [o8_cO]
              refine Ok.bind (M_cz (al := hdS (tn (fS X)) (ttg (fS X)) (tvl (fS X)) (tlv (fS X)) (tnd (fS X) i) e) hl (e3.free (k := 12) (K := K) (by omega) (by omega)) c1.1 c1.2 (by omega) (fun k x k0 k1 x0 x1 => ?_)) ?_
              · rw [hb_aM hn1 hn2 x0 x1, upN_at, hK k k0 (by omega), hw x x0 (by omega)]
                unfold hdS
                rw [hb_bsn (by omega) hn2 x0 x1]
                exact ⟨fun t => ⟨t.2, t.1⟩, fun t => ⟨t.2, t.1⟩⟩
              · rintro ⟨v2, m'⟩ ⟨q1, A2, q2, q3, -⟩
                dsimp only at q1
                refine Ok.pure ⟨?_, F, A2, q2, q3⟩
                show v2 - v = _
                rw [q1, e1, J_sub]
    · have hr : rLess X i e = _ := if_neg (fun z => c3 z.2)
      rw [hr]
      simp (disch := omega) only [L0, L1, L2, L3, L4, L5, L6, L7, L8, L9, L10, L11, L12, L13, L14, L15, L16, L17, L18, L19, L20, L21, L22, L23, L24, L25, L26, L27, L31, L32, L33, L36, L40, L41, L42, L47, L48, L57, L58, L59, L60, L61, L62, L65, L97, L101, L102, L103, L120, L126, L127, L144, L245, L1023, L1715, I_add, I_sub, I_mul, I_neg, I_lt, I_le, I_eq, Option.bind_some, if_pos, if_neg, if_true, if_false, ite_true, ite_false, o8_cO, D_isElement hAt h5 h6, hF, ind_f c3]
      exact M_badJ hl h
  · have hr : rLess X i e = _ := if_neg (fun z => c1 z.1)
    rw [hr, ind_f c1]
    simp (disch := omega) only [L0, L1, L2, L3, L4, L5, L6, L7, L8, L9, L10, L11, L12, L13, L14, L15, L16, L17, L18, L19, L20, L21, L22, L23, L24, L25, L26, L27, L31, L32, L33, L36, L40, L41, L42, L47, L48, L57, L58, L59, L60, L61, L62, L65, L97, L101, L102, L103, L120, L126, L127, L144, L245, L1023, L1715, I_add, I_sub, I_mul, I_neg, I_lt, I_le, I_eq, Option.bind_some, if_pos, if_neg, if_true, if_false, ite_true, ite_false, o8_cO]
    exact M_badJ hl h
end MMT
