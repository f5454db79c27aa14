/-! ===== the class's matcher: paths ===== -/
section CPT
variable {m : Mm} {F : Nat → Int} {A : Nat → Int → Int} {w : Nat} {n : Int} {tg vl lv : Int → Int} {Q : Int} {nd : Int → Int → Int} {W : Int → Int → Int} {al : Int → Int32} {u : Int}
theorem J_ne0 {x : Int} (h0 : 0 ≤ x) (h1 : x < 4611686018427387904) (h : x ≠ 0) : ¬ (J x = (0 : Int64)) := by rw [show (0 : Int64) = J 0 from rfl, J_eq (by omega) (by omega) (by omega) (by omega)]; exact h
theorem K_isUsed (K : KX m F w n tg vl lv Q nd) (hI : IsW Q nd n lv al W) {c e x : Int} (c0 : 0 ≤ c) (c1 : c < Q) (h0 : 0 ≤ e) (h1 : e < n) (x0 : e + 1 ≤ x) (x1 : x < eE n lv e) (hWA : A (3 + c.toNat) x = W c x) (hH : pvF nd c ≠ -1 → hdR nd n lv W A e (pvF nd c)) (hR : nxR Q nd n lv W A e c) : f_X1_isUsed (ov m 53 (o1 53 F A)) 53 (I c) (I e) (I x) = some (I (ind (W c x ≠ 0 ∧ egF lv nd c e x ∧ BF Q nd n lv W e c x ≠ 0 ∧ AF Q nd n lv W e c x ≠ 0))) := by
  obtain ⟨Ft, At', hat, hT⟩ := K.T
  obtain ⟨Fw, Aw, haw, hW⟩ := K.W
  have hw := hW.2.1
  have h6 := hW.2.1.2.1
  have hn2 := hT.2.1.2.1
  have hl := K.1
  have hee := eE_in (lv := lv) (show -1 ≤ e by omega) h1
  have b1 := hI.lt hw hn2 (Int.le_refl _) c0 c1 (show 0 ≤ x by omega) (by omega)
  have b2 := BF_bd (x := x) hw hn2 hI h0 h1 c0 c1
  have b3 := AF_bd hw hn2 hI h0 h1 c0 c1 x0 x1
  unfold f_X1_isUsed
  simp (disch := omega) only [L0, L1, L2, L3, L4, L5, L6, L7, L8, L9, L10, L11, L12, L13, L14, L15, L16, L17, L18, L19, L20, L21, L22, L23, L24, L25, L26, L27, L31, L32, L33, L36, L40, L41, L42, L47, L48, L57, L58, L59, L60, L61, L62, L65, L97, L101, L102, L103, L120, L126, L127, L144, L245, L1023, L1715, o1_g3, o1_r2, r_lW, hWA, o1_cO, K_edge K, K_before K c0 c1 h0 h1 x0 x1 hH, K.g1, a5_cO (haw A), W_next (haw A) hW, K_after K c0 c1 (show -1 ≤ e by omega) h1 x0 x1 hR, Option.bind_some]
  by_cases d1 : W c x = 0
  · rw [ind_f (fun z : W c x ≠ 0 ∧ egF lv nd c e x ∧ BF Q nd n lv W e c x ≠ 0 ∧ AF Q nd n lv W e c x ≠ 0 => z.1 d1), d1]
    exact if_pos rfl
  · simp only [if_neg (J_ne0 (by omega) (by omega) d1)]
    by_cases d2 : egF lv nd c e x
    · simp (disch := omega) only [ind_t d2, I_add, I_sub, I_mul, I_neg, I_lt, I_le, I_eq, Option.bind_some, if_pos, if_neg, if_true, if_false, ite_true, ite_false]
      by_cases d3 : BF Q nd n lv W e c x = 0
      · rw [ind_f (fun z : W c x ≠ 0 ∧ egF lv nd c e x ∧ BF Q nd n lv W e c x ≠ 0 ∧ AF Q nd n lv W e c x ≠ 0 => z.2.2.1 d3), d3]
        exact if_pos rfl
      · simp only [if_neg (J_ne0 (by omega) (by omega) d3)]
        by_cases d4 : AF Q nd n lv W e c x = 0
        · rw [ind_f (fun z : W c x ≠ 0 ∧ egF lv nd c e x ∧ BF Q nd n lv W e c x ≠ 0 ∧ AF Q nd n lv W e c x ≠ 0 => z.2.2.2 d4), d4]
          exact if_pos rfl
        · rw [ind_t (show W c x ≠ 0 ∧ egF lv nd c e x ∧ BF Q nd n lv W e c x ≠ 0 ∧ AF Q nd n lv W e c x ≠ 0 from ⟨d1, d2, d3, d4⟩)]
          simp only [if_neg (J_ne0 (by omega) (by omega) d4)]
    · rw [ind_f (fun z : W c x ≠ 0 ∧ egF lv nd c e x ∧ BF Q nd n lv W e c x ≠ 0 ∧ AF Q nd n lv W e c x ≠ 0 => d2 z.2.1)]
      simp (disch := omega) only [ind_f d2, I_add, I_sub, I_mul, I_neg, I_lt, I_le, I_eq, Option.bind_some, if_pos, if_neg, if_true, if_false, ite_true, ite_false]
theorem K_lengthen (K : KX m F w n tg vl lv Q nd) (hI : IsW Q nd n lv al W) {c e : Int} (c0 : 0 < c) (c1 : c < Q) (h0 : 0 ≤ e) (h1 : e < n) (hu : u = 0 ∨ u = 1) (hWA : ∀ x, 0 ≤ x → x < n → A (3 + c.toNat) x = W c x) (hal : ∀ x, 0 ≤ x → x < n → (hb (aR A c) x ↔ hb (al c) x)) (hH : u = 1 → pvF nd c ≠ -1 → hdR nd n lv W A e (pvF nd c)) (hR : u = 1 → nxR Q nd n lv W A e c) : Ok (f_X1_lengthenPaths (ov m 53 (o1 53 F A)) 53 (I c) (I e) (I u)) (fun m' => ∃ R, m' = ov m 53 (o1 53 F (upN A (24 + c.toNat) R)) ∧ ∀ x, 0 ≤ x → x < n → R x = A (24 + c.toNat) x + A (24 + (nd c 5).toNat) e * stp Q nd n lv al W u c e x) := by
  obtain ⟨Ft, At', hat, hT⟩ := K.T
  obtain ⟨Fw, Aw, haw, hW⟩ := K.W
  have hw := hW.2.1
  have h6 := hW.2.1.2.1
  have hn2 := hT.2.1.2.1
  have hl := K.1
  have w6 := (hW.2.2 c (by omega) c1).2.2.2.2.2
  have h5 := ((hw.2.2 c (by omega) c1).2.2.2.2.2.2.2 c0).2.1
  have hab := hw.ab (show 0 ≤ c by omega) c1
  have hEe : eE n lv e = enF n lv e := if_neg (by omega)
  obtain ⟨r1, r2, -, -⟩ := enF_spec lv h1
  have hla := (hT.2.2 e h0 h1).2.2.2.2.1
  unfold f_X1_lengthenPaths
  simp (disch := omega) only [o1_g6, K.g1, a5_g6 (haw A), a5_l6 (haw A), w6, o1_r23, r_lP, L0, L1, L2, L3, L4, L5, L6, L7, L8, L9, L10, L11, L12, L13, L14, L15, L16, L17, L18, L19, L20, L21, L22, L23, L24, L25, L26, L27, L31, L32, L33, L36, L40, L41, L42, L47, L48, L57, L58, L59, L60, L61, L62, L65, L97, L101, L102, L103, L120, L126, L127, L144, L245, L1023, L1715, I_add, Option.bind_some]
  refine Ok.bind (P := fun m' => ∃ R, m' = ov m 53 (o1 53 F (upN A (24 + c.toNat) R)) ∧ ∀ x, 0 ≤ x → x < n → R x = A (24 + c.toNat) x + A (24 + (nd c 5).toNat) e * stp Q nd n lv al W u c e x) ?_ (fun _ h => Ok.pure h)
  refine Ok.whl (fun j s => ∃ f R, s = (I f, ov m 53 (o1 53 F (upN A (24 + c.toNat) R))) ∧ e + 1 ≤ f ∧ f ≤ enF n lv e ∧ j = (enF n lv e - f).toNat ∧ (∀ x, 0 ≤ x → x < f → R x = A (24 + c.toNat) x + A (24 + (nd c 5).toNat) e * stp Q nd n lv al W u c e x) ∧ ∀ x, f ≤ x → R x = A (24 + c.toNat) x) _ (j := (enF n lv e - (e + 1)).toNat) ?_ ⟨e + 1, A (24 + c.toNat), by rw [upN_self], by omega, by omega, rfl, fun x x0 x1 => ?_, fun _ _ => rfl⟩ (FU_lt (by omega))
  · rintro j s ⟨f, R, rfl, f0, f1, rfl, hk, hk2⟩
    dsimp only
    have ht := hat (upN A (24 + c.toNat) R)
    unfold f_X1_lengthenPaths_L23 f_X1_lengthenPaths_J80
    by_cases d1 : enF n lv e - 1 < f
    · simp (disch := omega) only [K.g0, a4_g5 ht, a4_l5 ht, hla, I_add, I_sub, I_mul, I_neg, I_lt, I_le, I_eq, if_pos d1, Option.bind_some]
      refine Ok.pure (Or.inr ⟨_, rfl, R, rfl, fun x x0 x1 => ?_⟩)
      by_cases z : x < f
      · exact hk x x0 z
      · rw [hk2 x (by omega)]
        unfold stp
        rw [ind_f (fun q => by have := q.2.1; omega), Int.mul_zero, Int.add_zero]
    · have hrowW : upN A (24 + c.toNat) R (3 + c.toNat) f = W c f := by rw [upN_ne (by omega)]; exact hWA f (by omega) (by omega)
      have hrow1 : upN A (24 + c.toNat) R 1 = A 1 := upN_ne (by omega)
      have yes : usF Q nd n lv al W u c e f → ∃ f' R', ((I (f + 1), ov m 53 (o1 53 F (upN A (24 + c.toNat) (upZ R f (R f + A (24 + (nd c 5).toNat) e))))) : Int32 × Mm) = (I f', ov m 53 (o1 53 F (upN A (24 + c.toNat) R'))) ∧ e + 1 ≤ f' ∧ f' ≤ enF n lv e ∧ (enF n lv e - (f + 1)).toNat = (enF n lv e - f').toNat ∧ (∀ x, 0 ≤ x → x < f' → R' x = A (24 + c.toNat) x + A (24 + (nd c 5).toNat) e * stp Q nd n lv al W u c e x) ∧ ∀ x, f' ≤ x → R' x = A (24 + c.toNat) x := by
        intro z
        refine ⟨f + 1, _, rfl, by omega, by omega, rfl, fun x x0 x1 => ?_, fun x x0 => ?_⟩
        · by_cases y : x = f
          · subst y
            rw [upZ_at, hk2 x (Int.le_refl _)]
            unfold stp
            rw [ind_t ⟨by omega, by omega, z⟩, Int.mul_one]
          · rw [upZ_ne y]; exact hk x x0 (by omega)
        · rw [upZ_ne (by omega)]; exact hk2 x (by omega)
      have no : ¬ usF Q nd n lv al W u c e f → ∃ f' R', ((I (f + 1), ov m 53 (o1 53 F (upN A (24 + c.toNat) R))) : Int32 × Mm) = (I f', ov m 53 (o1 53 F (upN A (24 + c.toNat) R'))) ∧ e + 1 ≤ f' ∧ f' ≤ enF n lv e ∧ (enF n lv e - (f + 1)).toNat = (enF n lv e - f').toNat ∧ (∀ x, 0 ≤ x → x < f' → R' x = A (24 + c.toNat) x + A (24 + (nd c 5).toNat) e * stp Q nd n lv al W u c e x) ∧ ∀ x, f' ≤ x → R' x = A (24 + c.toNat) x := by
        intro z
        refine ⟨f + 1, R, rfl, by omega, by omega, rfl, fun x x0 x1 => ?_, fun x x0 => hk2 x (by omega)⟩
        by_cases y : x = f
        · subst y
          rw [hk2 x (Int.le_refl _)]
          unfold stp
          rw [ind_f (fun q => z q.2.2), Int.mul_zero, Int.add_zero]
        · exact hk x x0 (by omega)
      rcases hu with rfl | rfl
      · simp (disch := omega) only [K.g0, a4_g5 ht, a4_l5 ht, hla, L0, L1, L2, L3, L4, L5, L6, L7, L8, L9, L10, L11, L12, L13, L14, L15, L16, L17, L18, L19, L20, L21, L22, L23, L24, L25, L26, L27, L31, L32, L33, L36, L40, L41, L42, L47, L48, L57, L58, L59, L60, L61, L62, L65, L97, L101, L102, L103, L120, L126, L127, L144, L245, L1023, L1715, I_add, I_sub, I_mul, I_neg, I_lt, I_le, I_eq, if_neg d1, o1_g2, o1_l1, hrow1, C_holds, o1_cO, K_edge K, o1_g6, o1_r23, r_lP, r_sP, upN_at, upN_upN, J_add, Option.bind_some, Option.bind_some, if_pos, if_neg, if_true, if_false, ite_true, ite_false]
        by_cases z1 : hb (aR A c) f
        · by_cases z2 : egF lv nd c e f
          · simp (disch := omega) only [ind_t z1, ind_t z2, I_add, I_sub, I_mul, I_neg, I_lt, I_le, I_eq, Option.bind_some, if_pos, if_neg, if_true, if_false, ite_true, ite_false]
            exact Ok.pure (Or.inl ⟨_, (enF n lv e - (f + 1)).toNat, rfl, yes (Or.inl ⟨rfl, (hal f (by omega) (by omega)).mp z1, z2⟩), by omega⟩)
          · simp (disch := omega) only [ind_t z1, ind_f z2, I_add, I_sub, I_mul, I_neg, I_lt, I_le, I_eq, Option.bind_some, if_pos, if_neg, if_true, if_false, ite_true, ite_false]
            exact Ok.pure (Or.inl ⟨_, (enF n lv e - (f + 1)).toNat, rfl, no (fun z => z.elim (fun q => z2 q.2.2) (fun q => q.1 rfl)), by omega⟩)
        · simp (disch := omega) only [ind_f z1, I_add, I_sub, I_mul, I_neg, I_lt, I_le, I_eq, Option.bind_some, if_pos, if_neg, if_true, if_false, ite_true, ite_false]
          exact Ok.pure (Or.inl ⟨_, (enF n lv e - (f + 1)).toNat, rfl, no (fun z => z.elim (fun q => z1 ((hal f (by omega) (by omega)).mpr q.2.1)) (fun q => q.1 rfl)), by omega⟩)
      · have hH' : pvF nd c ≠ -1 → hdR nd n lv W (upN A (24 + c.toNat) R) e (pvF nd c) := by
          intro z k k0 k1
          have := pv_spec nd (show 0 ≤ c by omega)
          rw [upN_ne (by omega)]
          exact hH rfl z k k0 k1
        have hR' : nxR Q nd n lv W (upN A (24 + c.toNat) R) e c := by
          intro z k k0 k1
          obtain ⟨d1, d2, d3, d4, d5, d6⟩ := nx_some hw (show 0 ≤ c by omega) c1 z
          rw [upN_ne (by omega)]
          exact hR rfl z k k0 k1
        simp (disch := omega) only [K.g0, a4_g5 ht, a4_l5 ht, hla, L0, L1, L2, L3, L4, L5, L6, L7, L8, L9, L10, L11, L12, L13, L14, L15, L16, L17, L18, L19, L20, L21, L22, L23, L24, L25, L26, L27, L31, L32, L33, L36, L40, L41, L42, L47, L48, L57, L58, L59, L60, L61, L62, L65, L97, L101, L102, L103, L120, L126, L127, L144, L245, L1023, L1715, I_add, I_sub, I_mul, I_neg, I_lt, I_le, I_eq, if_neg d1, o1_cO, K_isUsed K hI (show 0 ≤ c by omega) c1 h0 h1 f0 (show f < eE n lv e by omega) hrowW hH' hR', o1_g6, o1_r23, r_lP, r_sP, upN_at, upN_upN, J_add, Option.bind_some, Option.bind_some, if_pos, if_neg, if_true, if_false, ite_true, ite_false]
        by_cases z1 : W c f ≠ 0 ∧ egF lv nd c e f ∧ BF Q nd n lv W e c f ≠ 0 ∧ AF Q nd n lv W e c f ≠ 0
        · simp (disch := omega) only [ind_t z1, I_add, I_sub, I_mul, I_neg, I_lt, I_le, I_eq, Option.bind_some, if_pos, if_neg, if_true, if_false, ite_true, ite_false]
          exact Ok.pure (Or.inl ⟨_, (enF n lv e - (f + 1)).toNat, rfl, yes (Or.inr ⟨by omega, z1⟩), by omega⟩)
        · simp (disch := omega) only [ind_f z1, I_add, I_sub, I_mul, I_neg, I_lt, I_le, I_eq, Option.bind_some, if_pos, if_neg, if_true, if_false, ite_true, ite_false]
          exact Ok.pure (Or.inl ⟨_, (enF n lv e - (f + 1)).toNat, rfl, no (fun z => z.elim (fun q => absurd q.1 (by omega)) (fun q => z1 q.2)), by omega⟩)
  · unfold stp
    rw [ind_f (fun q => by have := q.1; omega), Int.mul_zero, Int.add_zero]
theorem K_stepDown (K : KX m F w n tg vl lv Q nd) (hI : IsW Q nd n lv al W) {c : Int} (c0 : 0 < c) (c1 : c < Q) (hu : u = 0 ∨ u = 1) (hWA : ∀ c x, 0 ≤ c → c < Q → 0 ≤ x → x < n → A (3 + c.toNat) x = W c x) (hal : ∀ c x, 0 ≤ c → c < Q → 0 ≤ x → x < n → (hb (aR A c) x ↔ hb (al c) x)) (hP : ∀ e, 0 ≤ e → e < n → 0 ≤ A (24 + (nd c 5).toNat) e ∧ A (24 + (nd c 5).toNat) e < 4611686018427387904) : Ok (f_X1_stepDown (ov m 53 (o1 53 F A)) 53 (I c) (I u)) (fun m' => ∃ A', m' = ov m 53 (o1 53 F A') ∧ (∀ x, 0 ≤ x → x < n → A' (24 + c.toNat) x = Sm (fun e => A (24 + (nd c 5).toNat) e * stp Q nd n lv al W u c e x) 0 n) ∧ ∀ i, i < 10 ∨ (24 ≤ i ∧ i ≠ 24 + c.toNat) → A' i = A i) := by
  obtain ⟨Ft, At', hat, hT⟩ := K.T
  obtain ⟨Fw, Aw, haw, hW⟩ := K.W
  have hw := hW.2.1
  have h6 := hW.2.1.2.1
  have hFt := hT.1
  have hn1 := hT.2.1.1
  have hn2 := hT.2.1.2.1
  have hl := K.1
  have w6 := (hW.2.2 c (by omega) c1).2.2.2.2.2
  have h5 := ((hw.2.2 c (by omega) c1).2.2.2.2.2.2.2 c0).2.1
  have hab := hw.ab (show 0 ≤ c by omega) c1
  have hew := (eW_in (nd := nd) (q := nd c 5) (Q := Q) (by omega)).2
  unfold f_X1_stepDown
  simp (disch := omega) only [K.g1, a5_g6 (haw A), a5_l6 (haw A), w6, Option.bind_some]
  refine Ok.bind (P := fun m' => ∃ R, m' = ov m 53 (o1 53 F (upN A (24 + c.toNat) R)) ∧ ∀ x, 0 ≤ x → x < n → R x = 0) ?_ ?_
  · refine Ok.whl (fun j s => ∃ f R, s = (I f, ov m 53 (o1 53 F (upN A (24 + c.toNat) R))) ∧ 0 ≤ f ∧ f ≤ n ∧ j = (n - f).toNat ∧ ∀ x, 0 ≤ x → x < f → R x = 0) _ (j := (n - 0).toNat) ?_ ⟨0, A (24 + c.toNat), by rw [upN_self]; rfl, by omega, by omega, rfl, fun x x0 x1 => by omega⟩ (FU_lt (by omega))
    rintro j s ⟨f, R, rfl, f0, f1, rfl, hk⟩
    dsimp only
    have ht := hat (upN A (24 + c.toNat) R)
    unfold f_X1_stepDown_L13
    by_cases d1 : n ≤ f
    · simp (disch := omega) only [K.g0, a4_g0 ht, hFt, I_add, I_sub, I_mul, I_neg, I_lt, I_le, I_eq, if_pos d1, Option.bind_some]
      exact Ok.pure (Or.inr ⟨_, rfl, R, rfl, fun x x0 x1 => hk x x0 (by omega)⟩)
    · simp (disch := omega) only [K.g0, a4_g0 ht, hFt, L0, L1, L2, L3, L4, L5, L6, L7, L8, L9, L10, L11, L12, L13, L14, L15, L16, L17, L18, L19, L20, L21, L22, L23, L24, L25, L26, L27, L31, L32, L33, L36, L40, L41, L42, L47, L48, L57, L58, L59, L60, L61, L62, L65, L97, L101, L102, L103, L120, L126, L127, L144, L245, L1023, L1715, J0, J1, J31, J32, J1716, I_add, I_sub, I_mul, I_neg, I_lt, I_le, I_eq, if_neg d1, o1_g6, o1_r23, r_sP, upN_at, upN_upN, Option.bind_some]
      refine Ok.pure (Or.inl ⟨_, (n - (f + 1)).toNat, rfl, ⟨f + 1, _, rfl, by omega, by omega, rfl, fun x x0 x1 => ?_⟩, by omega⟩)
      by_cases z : x = f
      · rw [z, upZ_at]
      · rw [upZ_ne z]; exact hk x x0 (by omega)
  rintro m' ⟨R0, rfl, hR0⟩
  refine Ok.bind (P := fun m' => ∃ A', m' = ov m 53 (o1 53 F A') ∧ (∀ x, 0 ≤ x → x < n → A' (24 + c.toNat) x = Sm (fun e => A (24 + (nd c 5).toNat) e * stp Q nd n lv al W u c e x) 0 n) ∧ ∀ i, i < 10 ∨ (24 ≤ i ∧ i ≠ 24 + c.toNat) → A' i = A i) ?_ (fun _ h => Ok.pure h)
  refine Ok.whl (fun j s => ∃ e A', s = (I e, ov m 53 (o1 53 F A')) ∧ 0 ≤ e ∧ e ≤ n ∧ j = (n - e).toNat ∧ (∀ x, 0 ≤ x → x < n → A' (24 + c.toNat) x = Sm (fun e => A (24 + (nd c 5).toNat) e * stp Q nd n lv al W u c e x) 0 e) ∧ ∀ i, i < 10 ∨ (24 ≤ i ∧ i ≠ 24 + c.toNat) → A' i = A i) _ (j := (n - 0).toNat) ?_ ⟨0, _, rfl, by omega, by omega, rfl, fun x x0 x1 => by rw [upN_at, hR0 x x0 x1, Sm_nil (Int.le_refl _)], fun i hi => upN_ne (by omega)⟩ (FU_lt (by omega))
  rintro j s ⟨e, A1, rfl, e0, e1, rfl, hk, hi⟩
  dsimp only
  have ht := hat A1
  unfold f_X1_stepDown_L44
  by_cases d1 : n ≤ e
  · simp (disch := omega) only [K.g0, a4_g0 ht, hFt, I_add, I_sub, I_mul, I_neg, I_lt, I_le, I_eq, if_pos d1, Option.bind_some]
    have : e = n := by omega
    subst this
    exact Ok.pure (Or.inr ⟨_, rfl, A1, rfl, hk, hi⟩)
  · have hPe := hP e e0 (by omega)
    have hrd : A1 (24 + (nd c 5).toNat) e = A (24 + (nd c 5).toNat) e := by rw [hi _ (by omega)]
    have hWA1 : ∀ (A2 : Nat → Int → Int), (∀ i, i < 10 → A2 i = A1 i) → ∀ c x, 0 ≤ c → c < Q → 0 ≤ x → x < n → A2 (3 + c.toNat) x = W c x := fun A2 h2 c x c0 c1 x0 x1 => by rw [h2 _ (by omega), hi _ (by omega)]; exact hWA c x c0 c1 x0 x1
    have hbd : ∀ c x, 0 ≤ c → c < Q → 0 ≤ x → x < n → 0 ≤ W c x ∧ W c x < 4611686018427387904 := fun c x c0 c1 x0 x1 => by
      have := hI.lt hw hn2 (Int.le_refl _) c0 c1 x0 x1
      omega
    have nxt : ∀ (A2 : Nat → Int → Int) (R : Int → Int), (∀ i, i < 10 ∨ 24 ≤ i → A2 i = A1 i) → (∀ x, 0 ≤ x → x < n → R x = A2 (24 + c.toNat) x + A2 (24 + (nd c 5).toNat) e * stp Q nd n lv al W u c e x) → ∃ e' A', ((I (e + 1), ov m 53 (o1 53 F (upN A2 (24 + c.toNat) R))) : Int32 × Mm) = (I e', ov m 53 (o1 53 F A')) ∧ 0 ≤ e' ∧ e' ≤ n ∧ (n - (e + 1)).toNat = (n - e').toNat ∧ (∀ x, 0 ≤ x → x < n → A' (24 + c.toNat) x = Sm (fun e => A (24 + (nd c 5).toNat) e * stp Q nd n lv al W u c e x) 0 e') ∧ ∀ i, i < 10 ∨ (24 ≤ i ∧ i ≠ 24 + c.toNat) → A' i = A i := by
      intro A2 R h2 hR
      refine ⟨e + 1, _, rfl, by omega, by omega, rfl, fun x x0 x1 => ?_, fun i hi' => ?_⟩
      · rw [upN_at, hR x x0 x1, h2 _ (by omega), h2 _ (by omega), hrd, hk x x0 x1, Sm_succ e0]
      · rw [upN_ne (by omega), h2 i (by omega)]; exact hi i hi'
    simp (disch := omega) only [K.g0, a4_g0 ht, hFt, L0, L1, L2, L3, L4, L5, L6, L7, L8, L9, L10, L11, L12, L13, L14, L15, L16, L17, L18, L19, L20, L21, L22, L23, L24, L25, L26, L27, L31, L32, L33, L36, L40, L41, L42, L47, L48, L57, L58, L59, L60, L61, L62, L65, L97, L101, L102, L103, L120, L126, L127, L144, L245, L1023, L1715, I_add, I_sub, I_mul, I_neg, I_lt, I_le, I_eq, if_neg d1, o1_g6, o1_r23, r_lP, hrd, Option.bind_some]
    by_cases d2 : A (24 + (nd c 5).toNat) e = 0
    · simp only [d2, J0, J1, J31, J32, J1716, if_true]
      have := nxt A1 (A1 (24 + c.toNat)) (fun _ _ => rfl) (fun x x0 x1 => by rw [hrd, d2, Int.zero_mul, Int.add_zero])
      rw [upN_self] at this
      exact Ok.pure (Or.inl ⟨_, (n - (e + 1)).toNat, rfl, this, by omega⟩)
    · simp only [if_neg (J_ne0 hPe.1 hPe.2 d2)]
      refine Ok.bind (P := fun m' => ∃ A2, m' = ov m 53 (o1 53 F A2) ∧ (∀ i, i < 10 ∨ 24 ≤ i → A2 i = A1 i) ∧ (u = 1 → pvF nd c ≠ -1 → hdR nd n lv W A2 e (pvF nd c)) ∧ (u = 1 → nxR Q nd n lv W A2 e c)) ?_ ?_
      · rcases hu with rfl | rfl
        · simp (disch := omega) only [I_add, I_sub, I_mul, I_neg, I_lt, I_le, I_eq, Option.bind_some, if_pos, if_neg, if_true, if_false, ite_true, ite_false, if_true]
          exact Ok.pure ⟨A1, rfl, fun _ _ => rfl, fun z => absurd z (by omega), fun z => absurd z (by omega)⟩
        · simp (disch := omega) only [I_add, I_sub, I_mul, I_neg, I_lt, I_le, I_eq, Option.bind_some, if_pos, if_neg, if_true, if_false, ite_true, ite_false, o1_cO]
          refine Ok.bind (K_spread (W := W) K h5 (by omega) e0 (by omega) (fun c x p1 p2 p3 p4 => hWA1 A1 (fun _ _ => rfl) c x (by omega) p2 p3 p4) (fun c x p1 p2 p3 p4 => hbd c x (by omega) p2 p3 p4)) ?_
          rintro m' ⟨A2, rfl, hs, hi2⟩
          simp (disch := omega) only [o1_cO]
          refine Ok.bind (K_heads (W := W) K c0 c1 e0 (by omega) (hWA1 A2 (fun i hi' => hi2 i (fun c' p1 p2 => by omega))) hbd) ?_
          rintro m' ⟨A3, rfl, hh, hi3⟩
          refine Ok.pure ⟨A3, rfl, fun i hi' => by rw [hi3 i (by omega)]; exact hi2 i (fun c' p1 p2 => by omega), fun _ => hh, fun _ => ?_⟩
          intro z k k0 k1
          obtain ⟨p1, p2, p3, p4, p5, p6⟩ := nx_some hw (show 0 ≤ c by omega) c1 z
          rw [hi3 _ (by omega)]
          exact hs _ (by omega) p4 p5 k k0 k1
      · rintro m' ⟨A2, rfl, h2, hH, hR⟩
        simp (disch := omega) only [o1_cO]
        refine Ok.bind (K_lengthen (W := W) (al := al) K hI c0 c1 e0 (by omega) hu (hWA1 A2 (fun i hi' => h2 i (by omega)) c · (by omega) c1) (fun x x0 x1 => ?_) hH hR) ?_
        · rw [← hal c x (by omega) c1 x0 x1]
          show hb (I (A2 1 c)) x ↔ hb (I (A 1 c)) x
          rw [h2 1 (by omega), hi 1 (by omega)]
        · rintro m' ⟨R, rfl, hR'⟩
          exact Ok.pure (Or.inl ⟨_, (n - (e + 1)).toNat, rfl, nxt A2 R h2 hR', by omega⟩)
end CPT
