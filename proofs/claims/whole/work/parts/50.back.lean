/-! ===== back of both ===== -/
theorem C_back {m : Mm} {X : FS} (h : CI m X) : Ok (f_X7_back m 0) (fun q => q.1 = I (rBack X).1 ∧ CI q.2 (rBack X).2 ∧ Fr m q.2 0 376) := by
  have hci := h
  obtain ⟨h1, ⟨F, A, a1, a2, a3, a4, a5, a6, a7, a8, a9, ⟨f, b1, b2⟩, b3, b4⟩, h3, h4, h5⟩ := h
  have hl := a7_len a1
  have hov := a1.ov
  by_cases c : fks X = 0
  · have hr : rBack X = _ := if_pos c
    rw [hr]
    unfold f_X7_back
    simp (disch := omega) only [L0, L1, L2, L3, L4, L5, L6, L7, L8, L9, L10, L11, L12, L13, L14, L15, L16, L17, L18, L19, L20, L21, L22, L23, L24, L25, L26, L27, L31, L32, L33, L36, L40, L41, L42, L47, L48, L57, L58, L59, L60, L61, L62, L65, L97, L101, L102, L103, L120, L126, L127, L144, L245, L1023, L1715, I_add, I_sub, I_mul, I_neg, I_lt, I_le, I_eq, a7_cO a1, a7_g0 a1, a7_g1 a1, a7_g2 a1, a7_g3 a1, a7_g4 a1, a7_g5 a1, a7_g6 a1, a7_g7 a1, a7_g8 a1, a7_g9 a1, a7_g10 a1, a7_g11 a1, a7_g12 a1, Option.bind_some, if_pos, if_neg, if_true, if_false, ite_true, ite_false]
    exact C_fail hci (by omega)
  · have hr : rBack X = _ := if_neg c
    rw [hr]
    have hf1 : Fr m (ov m 0 (o7 0 (upN F 3 (F 3 - 1)) A)) 0 1 := Fr.ov (N := 0) (fun off h => o7_N off h)
    generalize hm1 : ov m 0 (o7 0 (upN F 3 (F 3 - 1)) A) = m1 at hf1
    have at1 : At m1 0 (o7 0 (upN F 3 (F 3 - 1)) A) := by rw [← hm1]; exact o7_At hl
    have hlr : lR m1 37 2 (I ((F 2 + (F 3 - 1)) % 8)) = some (88 + 36 * ((F 2 + (F 3 - 1)) % 8).toNat) := lR_c (by rw [hf1.2 37 (by omega)]; exact b1) (by omega) (by omega) (by omega) (b2 _ (by omega))
    have hp3 : pI m 0 7 3 (I (F 3 - 1)) = some m1 := by
      rw [← hm1]
      have := o7_p3 (m := m) (a := 0) (F := F) (A := A) (v := F 3 - 1) hl
      rwa [hov] at this
    unfold f_X7_back
    have e2 : upN F 3 (F 3 - 1) 2 = F 2 := rfl
    have e3 : upN F 3 (F 3 - 1) 3 = F 3 - 1 := rfl
    have hs1 : SR m1 1 (fS X) := h3.fr hf1 (by omega)
    have hk := (b4 (F 3 - 1) (by omega) (by omega)).fr hf1 (by omega)
    simp (disch := omega) only [L0, L1, L2, L3, L4, L5, L6, L7, L8, L9, L10, L11, L12, L13, L14, L15, L16, L17, L18, L19, L20, L21, L22, L23, L24, L25, L26, L27, L31, L32, L33, L36, L40, L41, L42, L47, L48, L57, L58, L59, L60, L61, L62, L65, L97, L101, L102, L103, L120, L126, L127, L144, L245, L1023, L1715, I_add, I_sub, I_mul, I_neg, I_lt, I_le, I_eq, a7_cO a1, a7_g0 a1, a7_g1 a1, a7_g2 a1, a7_g3 a1, a7_g4 a1, a7_g5 a1, a7_g6 a1, a7_g7 a1, a7_g8 a1, a7_g9 a1, a7_g10 a1, a7_g11 a1, a7_g12 a1, hp3, a7_g0 at1, a7_g1 at1, a7_g2 at1, a7_g3 at1, e2, e3, I_rem8, hlr, hs1.1.cO, Option.bind_some, if_pos, if_neg, if_true, if_false, ite_true, ite_false]
    refine Ok.bind (S_copyFrom hs1.y hk (by omega)) ?_
    rintro m2 ⟨hs2, hf2⟩
    have at2 := at1.fr (K := 0) (fun off h => o7_N off h) hf2 (by omega)
    simp only [a7_g3 at2, Option.bind_some, e3]
    rw [a4] at *
    refine Ok.pure ⟨rfl, ⟨by rw [hf2.1, hf1.1]; exact h1, ⟨_, A, at2, a2, a3, rfl, ?_, ?_, a7, a8, a9, ⟨f, by rw [hf2.2 37 (by omega), hf1.2 37 (by omega)]; exact b1, b2⟩, fun i hi => ((b3 i hi).fr hf1 (by omega)).fr hf2 (by omega), fun j j0 j1 => ?_⟩, hs2, ?_, (h5.fr hf1 (by omega)).fr hf2 (by omega)⟩, (hf1.mono (by omega) (by omega)).tr (hf2.mono (by omega) (by omega))⟩
    · show 0 ≤ fks X - 1; omega
    · show fks X - 1 ≤ 8; omega
    · have j1 : j < fks X - 1 := j1
      exact ((b4 j j0 (by omega)).fr hf1 (by omega)).fr hf2 (by omega)
    · exact (show CT m (fkp X (fks X - 1), fks X - 1, X.2.2) from h4).fr hf1 (by omega) |>.fr hf2 (by omega)
section MBK
variable {m : Mm} {a : Nat} {F : Nat → Int} {A : Nat → Int → Int} {X : FS}
/-- the state comes out of the row -/
theorem M_read (hl : a + 25 < m.length) {b : Int} (hb0 : 0 ≤ b) (hb1 : b + 245 ≤ 1960) : Ok ((whl FU (fun t31 : Int32 × Mm => f_X8_back_L43 t31.2 a (I b) t31.1) ((0 : Int32), ov m a (o8 a F A))).bind fun e32 => (whl FU (fun t61 : Int32 × Mm => f_X8_back_L107 t61.2 a (I b) t61.1) ((0 : Int32), e32)).bind fun e62 => (whl FU (fun t75 : Int32 × Mm => f_X8_back_L137 t75.2 a (I b) t75.1) ((0 : Int32), e62))) (fun m' => ∃ A', m' = ov m a (o8 a F A') ∧ (∀ i, i ≠ 2 → i ≠ 3 → i ≠ 4 → i ≠ 7 → i ≠ 8 → A' i = A i) ∧ (∀ k, 0 ≤ k → k < 32 → A' 2 k = A 9 (b + 1 + k) ∧ A' 3 k = A 9 (b + 33 + k) ∧ A' 4 k = A 9 (b + 65 + k)) ∧ (∀ i, 0 ≤ i → i < 4 → A' 7 i = A 9 (b + 97 + i)) ∧ ∀ k, 0 ≤ k → k < 144 → A' 8 k = A 9 (b + 101 + k)) := by
  refine Ok.bind (P := fun m' => ∃ A', m' = ov m a (o8 a F A') ∧ (∀ i, i ≠ 2 → i ≠ 3 → i ≠ 4 → A' i = A i) ∧ ∀ k, 0 ≤ k → k < 32 → A' 2 k = A 9 (b + 1 + k) ∧ A' 3 k = A 9 (b + 33 + k) ∧ A' 4 k = A 9 (b + 65 + k)) ?_ ?_
  · refine Ok.whl (fun j s => ∃ k A', s = (I k, ov m a (o8 a F A')) ∧ 0 ≤ k ∧ k ≤ 32 ∧ j = (32 - k).toNat ∧ (∀ i, i ≠ 2 → i ≠ 3 → i ≠ 4 → A' i = A i) ∧ ∀ x, 0 ≤ x → x < k → A' 2 x = A 9 (b + 1 + x) ∧ A' 3 x = A 9 (b + 33 + x) ∧ A' 4 x = A 9 (b + 65 + x)) _ (j := 32) ?_ ⟨0, A, rfl, by omega, by omega, rfl, fun _ _ _ _ => rfl, fun x _ _ => by omega⟩ (FU_lt (by omega))
    rintro j s ⟨k, A1, rfl, h0, h1, rfl, hA, hB⟩
    dsimp only
    unfold f_X8_back_L43
    by_cases hk : 32 ≤ k
    · simp (disch := omega) only [L0, L1, L2, L3, L4, L5, L6, L7, L8, L9, L10, L11, L12, L13, L14, L15, L16, L17, L18, L19, L20, L21, L22, L23, L24, L25, L26, L27, L31, L32, L33, L36, L40, L41, L42, L47, L48, L57, L58, L59, L60, L61, L62, L65, L97, L101, L102, L103, L120, L126, L127, L144, L245, L1023, L1715, I_add, I_sub, I_mul, I_neg, I_lt, I_le, I_eq, Option.bind_some, if_pos, if_neg, if_true, if_false, ite_true, ite_false]
      exact Ok.pure (Or.inr ⟨_, rfl, A1, rfl, hA, fun x x0 x1 => hB x x0 (by omega)⟩)
    · have e9 := hA 9 (by decide) (by decide) (by decide)
      simp (disch := omega) only [L0, L1, L2, L3, L4, L5, L6, L7, L8, L9, L10, L11, L12, L13, L14, L15, L16, L17, L18, L19, L20, L21, L22, L23, L24, L25, L26, L27, L31, L32, L33, L36, L40, L41, L42, L47, L48, L57, L58, L59, L60, L61, L62, L65, L97, L101, L102, L103, L120, L126, L127, L144, L245, L1023, L1715, I_add, I_sub, I_mul, I_neg, I_lt, I_le, I_eq, o8_g10, o8_g2, o8_g3, o8_g4, o8_l9, o8_s2, o8_s3, o8_s4, Option.bind_some, if_pos, if_neg, if_true, if_false, ite_true, ite_false]
      generalize hA5 : upN (upN (upN A1 2 _) 3 _) 4 _ = A5
      have f2 : A5 2 = upZ (A1 2) k (A1 9 (b + 1 + k)) := by rw [← hA5]; rfl
      have f3 : A5 3 = upZ (A1 3) k (A1 9 (b + 33 + k)) := by rw [← hA5]; rfl
      have f4 : A5 4 = upZ (A1 4) k (A1 9 (b + 65 + k)) := by rw [← hA5]; rfl
      have fo : ∀ i, i ≠ 2 → i ≠ 3 → i ≠ 4 → A5 i = A1 i := fun i i2 i3 i4 => by rw [← hA5]; unfold upN; rw [if_neg i4, if_neg i3, if_neg i2]
      refine Ok.pure (Or.inl ⟨_, (32 - (k + 1)).toNat, rfl, ⟨k + 1, A5, rfl, by omega, by omega, rfl, fun i i2 i3 i4 => (fo i i2 i3 i4).trans (hA i i2 i3 i4), fun x x0 x1 => ?_⟩, by omega⟩)
      rw [f2, f3, f4, e9]
      by_cases hx : x = k
      · subst hx; rw [upZ_at, upZ_at, upZ_at]; exact ⟨rfl, rfl, rfl⟩
      · rw [upZ_ne hx, upZ_ne hx, upZ_ne hx]; exact hB x x0 (by omega)
  · rintro m' ⟨A1, rfl, p1, p2⟩
    refine Ok.bind (P := fun m' => ∃ A', m' = ov m a (o8 a F A') ∧ (∀ i, i ≠ 7 → A' i = A1 i) ∧ ∀ i, 0 ≤ i → i < 4 → A' 7 i = A 9 (b + 97 + i)) ?_ ?_
    · refine Ok.whl (fun j s => ∃ k A', s = (I k, ov m a (o8 a F A')) ∧ 0 ≤ k ∧ k ≤ 4 ∧ j = (4 - k).toNat ∧ (∀ i, i ≠ 7 → A' i = A1 i) ∧ ∀ x, 0 ≤ x → x < k → A' 7 x = A 9 (b + 97 + x)) _ (j := 4) ?_ ⟨0, A1, rfl, by omega, by omega, rfl, fun _ _ => rfl, fun x _ _ => by omega⟩ (FU_lt (by omega))
      rintro j s ⟨k, A2, rfl, h0, h1, rfl, hA, hB⟩
      dsimp only
      unfold f_X8_back_L107
      by_cases hk : 4 ≤ k
      · simp (disch := omega) only [L0, L1, L2, L3, L4, L5, L6, L7, L8, L9, L10, L11, L12, L13, L14, L15, L16, L17, L18, L19, L20, L21, L22, L23, L24, L25, L26, L27, L31, L32, L33, L36, L40, L41, L42, L47, L48, L57, L58, L59, L60, L61, L62, L65, L97, L101, L102, L103, L120, L126, L127, L144, L245, L1023, L1715, I_add, I_sub, I_mul, I_neg, I_lt, I_le, I_eq, Option.bind_some, if_pos, if_neg, if_true, if_false, ite_true, ite_false]
        exact Ok.pure (Or.inr ⟨_, rfl, A2, rfl, hA, fun x x0 x1 => hB x x0 (by omega)⟩)
      · have e9 : A2 9 = A 9 := (hA 9 (by decide)).trans (p1 9 (by decide) (by decide) (by decide))
        simp (disch := omega) only [L0, L1, L2, L3, L4, L5, L6, L7, L8, L9, L10, L11, L12, L13, L14, L15, L16, L17, L18, L19, L20, L21, L22, L23, L24, L25, L26, L27, L31, L32, L33, L36, L40, L41, L42, L47, L48, L57, L58, L59, L60, L61, L62, L65, L97, L101, L102, L103, L120, L126, L127, L144, L245, L1023, L1715, I_add, I_sub, I_mul, I_neg, I_lt, I_le, I_eq, o8_g10, o8_g7, o8_l9, o8_s7, Option.bind_some, if_pos, if_neg, if_true, if_false, ite_true, ite_false]
        refine Ok.pure (Or.inl ⟨_, (4 - (k + 1)).toNat, rfl, ⟨k + 1, _, rfl, by omega, by omega, rfl, fun i i7 => (upN_ne i7).trans (hA i i7), fun x x0 x1 => ?_⟩, by omega⟩)
        rw [upN_at, e9]
        by_cases hx : x = k
        · subst hx; rw [upZ_at]
        · rw [upZ_ne hx]; exact hB x x0 (by omega)
    · rintro m' ⟨A2, rfl, p3, p4⟩
      refine Ok.whl (fun j s => ∃ k A', s = (I k, ov m a (o8 a F A')) ∧ 0 ≤ k ∧ k ≤ 144 ∧ j = (144 - k).toNat ∧ (∀ i, i ≠ 8 → A' i = A2 i) ∧ ∀ x, 0 ≤ x → x < k → A' 8 x = A 9 (b + 101 + x)) _ (j := 144) ?_ ⟨0, A2, rfl, by omega, by omega, rfl, fun _ _ => rfl, fun x _ _ => by omega⟩ (FU_lt (by omega))
      rintro j s ⟨k, A3, rfl, h0, h1, rfl, hA, hB⟩
      dsimp only
      unfold f_X8_back_L137
      by_cases hk : 144 ≤ k
      · simp (disch := omega) only [L0, L1, L2, L3, L4, L5, L6, L7, L8, L9, L10, L11, L12, L13, L14, L15, L16, L17, L18, L19, L20, L21, L22, L23, L24, L25, L26, L27, L31, L32, L33, L36, L40, L41, L42, L47, L48, L57, L58, L59, L60, L61, L62, L65, L97, L101, L102, L103, L120, L126, L127, L144, L245, L1023, L1715, I_add, I_sub, I_mul, I_neg, I_lt, I_le, I_eq, Option.bind_some, if_pos, if_neg, if_true, if_false, ite_true, ite_false]
        refine Ok.pure (Or.inr ⟨_, rfl, A3, rfl, fun i i2 i3 i4 i7 i8 => ?_, fun x x0 x1 => ?_, fun x x0 x1 => ?_, fun x x0 x1 => hB x x0 (by omega)⟩)
        · rw [hA i i8, p3 i i7, p1 i i2 i3 i4]
        · rw [hA 2 (by decide), hA 3 (by decide), hA 4 (by decide), p3 2 (by decide), p3 3 (by decide), p3 4 (by decide)]; exact p2 x x0 x1
        · rw [hA 7 (by decide)]; exact p4 x x0 x1
      · have e9 : A3 9 = A 9 := ((hA 9 (by decide)).trans (p3 9 (by decide))).trans (p1 9 (by decide) (by decide) (by decide))
        simp (disch := omega) only [L0, L1, L2, L3, L4, L5, L6, L7, L8, L9, L10, L11, L12, L13, L14, L15, L16, L17, L18, L19, L20, L21, L22, L23, L24, L25, L26, L27, L31, L32, L33, L36, L40, L41, L42, L47, L48, L57, L58, L59, L60, L61, L62, L65, L97, L101, L102, L103, L120, L126, L127, L144, L245, L1023, L1715, I_add, I_sub, I_mul, I_neg, I_lt, I_le, I_eq, o8_g10, o8_g8, o8_l9, o8_s8, Option.bind_some, if_pos, if_neg, if_true, if_false, ite_true, ite_false]
        refine Ok.pure (Or.inl ⟨_, (144 - (k + 1)).toNat, rfl, ⟨k + 1, _, rfl, by omega, by omega, rfl, fun i i7 => (upN_ne i7).trans (hA i i7), fun x x0 x1 => ?_⟩, by omega⟩)
        rw [upN_at, e9]
        by_cases hx : x = k
        · subst hx; rw [upZ_at]
        · rw [upZ_ne hx]; exact hB x x0 (by omega)
theorem M_back (hl : a + 25 < m.length) (h : MB F A X) : Ok (f_X8_back (ov m a (o8 a F A)) a) (fun q => q.1 = I (rBack X).1 ∧ MP m a q.2 (rBack X).2) := by
  have h0 := h
  obtain ⟨h1, h2, ⟨k1, k2, k3, k4⟩, h4, h5⟩ := h
  by_cases c : fks X = 0
  · have hr : rBack X = _ := if_pos c
    rw [hr]
    unfold f_X8_back
    simp (disch := omega) only [L0, L1, L2, L3, L4, L5, L6, L7, L8, L9, L10, L11, L12, L13, L14, L15, L16, L17, L18, L19, L20, L21, L22, L23, L24, L25, L26, L27, L31, L32, L33, L36, L40, L41, L42, L47, L48, L57, L58, L59, L60, L61, L62, L65, L97, L101, L102, L103, L120, L126, L127, L144, L245, L1023, L1715, I_add, I_sub, I_mul, I_neg, I_lt, I_le, I_eq, o8_g9, o8_cO, Option.bind_some, if_pos, if_neg, if_true, if_false, ite_true, ite_false]
    exact M_noR hl h0
  · have hr : rBack X = _ := if_neg c
    rw [hr]
    obtain ⟨g1, g2, g3, g4⟩ := k4 (fks X - 1) (by omega) (by omega)
    have hn1 := g2.1
    have hn2 := g2.2.1
    unfold f_X8_back
    have e9 : upN F 9 (F 9 - 1) 9 = F 9 - 1 := rfl
    simp (disch := omega) only [L0, L1, L2, L3, L4, L5, L6, L7, L8, L9, L10, L11, L12, L13, L14, L15, L16, L17, L18, L19, L20, L21, L22, L23, L24, L25, L26, L27, L31, L32, L33, L36, L40, L41, L42, L47, L48, L57, L58, L59, L60, L61, L62, L65, L97, L101, L102, L103, L120, L126, L127, L144, L245, L1023, L1715, I_add, I_sub, I_mul, I_neg, I_lt, I_le, I_eq, o8_g9, o8_p9, o8_g10, o8_l9, o8_p1, e9, Option.bind_some, if_pos, if_neg, if_true, if_false, ite_true, ite_false]
    generalize hF2 : upN (upN F 9 (F 9 - 1)) 1 (A 9 (245 * (F 9 - 1))) = F2
    have f1 : F2 1 = tn (fkp X (fks X - 1)) := by rw [← hF2, upN_at, k1]; exact g1
    have f9 : F2 9 = fks X - 1 := by rw [← hF2, ← k1]; rfl
    have fo : ∀ i, i ≠ 1 → i ≠ 9 → F2 i = F i := fun i i1 i9 => by rw [← hF2]; unfold upN; rw [if_neg i1, if_neg i9]
    have hrd := M_read (m := m) (a := a) (F := F2) (A := A) hl (b := 245 * (F 9 - 1)) (by omega) (by omega)
    simp only [L0] at hrd
    obtain ⟨m9, hm9, A1, rfl, p1, p2, p3, p4⟩ := hrd
    obtain ⟨e1, he1, hm9⟩ := ob hm9
    obtain ⟨e2, he2, hm9⟩ := ob hm9
    rw [he1]
    simp only [Option.bind_some]
    rw [he2]
    simp only [Option.bind_some]
    rw [hm9]
    simp (disch := omega) only [o8_cO, Option.bind_some]
    have hA3 : ∀ k, 0 ≤ k → k < tn (fkp X (fks X - 1)) → A1 2 k = ttg (fkp X (fks X - 1)) k ∧ A1 3 k = tvl (fkp X (fks X - 1)) k ∧ A1 4 k = tlv (fkp X (fks X - 1)) k ∧ 0 ≤ ttg (fkp X (fks X - 1)) k ∧ ttg (fkp X (fks X - 1)) k ≤ 5 ∧ 0 ≤ tvl (fkp X (fks X - 1)) k ∧ tvl (fkp X (fks X - 1)) k ≤ 9 := by
      intro k k0 k1'
      obtain ⟨y1, y2, y3⟩ := p2 k k0 (by omega)
      obtain ⟨w1, w2, w3, w4⟩ := g3 k k0 k1'
      rw [k1] at y1 y2 y3
      exact ⟨y1.trans w1, y2.trans w2, y3.trans w3, w4⟩
    refine Ok.bind (D_tellsTree hl (n := tn (fkp X (fks X - 1))) f1 (by omega) (by omega) (fun k k0 k1 => by rw [(hA3 k k0 k1).2.2.1]; have := g2.ge1 k0 k1; omega)) ?_
    rintro m4 ⟨A4, rfl, q3, q4⟩
    have hT4 := MT.of (F' := F2) f1 g2 hA3 q3 q4
    simp (disch := omega) only [o8_g9, Option.bind_some, f9]
    have ho : ∀ i, i = 1 ∨ i = 9 ∨ i = 20 → A4 i = A i := fun i hi => by rw [q3 i (by omega) (by omega), p1 i (by omega) (by omega) (by omega) (by omega) (by omega)]
    refine Ok.pure ⟨rfl, F2, A4, rfl, hT4, fun i i0 i1 => ?_, ⟨f9, by show 0 ≤ fks X - 1; omega, by show fks X - 1 ≤ 8; omega, fun j j0 j1 => ?_⟩, ?_, ?_⟩
    · obtain ⟨y1, y2, y3⟩ := g4 i i0 i1
      have := y2.2.1
      rw [q3 7 (by decide) (by decide), q3 8 (by decide) (by decide)]
      refine ⟨by rw [p3 i i0 i1, k1]; exact y1, y2, fun q w q0 q1 w0 w1 => ?_⟩
      have q1 : q < tqn (fkp X (fks X - 1)) i := q1
      rw [p4 _ (by omega) (by omega), k1]
      exact y3 q w q0 q1 w0 w1
    · have j1 : j < fks X - 1 := j1
      rw [ho 9 (by omega)]
      exact k4 j j0 (by omega)
    · rw [fo 22 (by decide) (by decide), fo 23 (by decide) (by decide), ho 20 (by omega)]; exact h4
    · rw [ho 1 (by omega)]; exact h5
end MBK
