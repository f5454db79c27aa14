/-! ===== the class's matcher: solve ===== -/
theorem pow6 {k : Nat} (h : k ≤ 6) : (32 : Int) ^ k ≤ 1073741824 := I_pow_le h
section CS2
variable {m : Mm} {F : Nat → Int} {A : Nat → Int → Int} {w : Nat} {n : Int} {tg vl lv : Int → Int} {Q : Int} {nd : Int → Int → Int}
abbrev wR (A : Nat → Int → Int) : Int → Int → Int := fun q e => A (3 + q.toNat) e
abbrev aR (A : Nat → Int → Int) : Int → Int32 := fun q => I (A 1 q)
theorem cw1_congr (hw : WW Q nd) {W W' : Int → Int → Int} {q e : Int} (q0 : 0 ≤ q) (q1 : q < Q) (e0 : 0 ≤ e) (e1 : e < n) (h : ∀ c x, q < c → c < Q → 0 ≤ x → x < n → W c x = W' c x) : cw1 Q nd n lv W q e = cw1 Q nd n lv W' q e := by
  obtain ⟨hT1, hT2⟩ := eE_in (lv := lv) (show -1 ≤ e by omega) e1
  unfold cw1
  by_cases z : q + 1 < eW Q nd q
  · rw [if_pos z, if_pos z]
    have := (eW_in (nd := nd) q1).2
    refine tl_congr hw (fun x x0 x1 => en_gt e1 x x0 x1 (by omega)) (q + 1) (e + 1) (by omega) (by omega) (Int.le_refl _) (fun c' x p1 p2 p3 p4 p5 => ?_)
    unfold wv
    rw [h c' x (by omega) p2 (by omega) (by omega)]
  · rw [if_neg z, if_neg z]
theorem IsWf.congr (hw : WW Q nd) {al : Int → Int32} {W W' : Int → Int → Int} {k : Int} (hk : 0 ≤ k) (h : IsWf Q nd n lv al W k) (he : ∀ q e, k ≤ q → q < Q → 0 ≤ e → e < n → W q e = W' q e) : IsWf Q nd n lv al W' k := by
  intro q e q0 q1 e0 e1
  obtain ⟨y1, y2⟩ := h q e q0 q1 e0 e1
  rw [← he q e q0 q1 e0 e1]
  refine ⟨fun ha => ?_, y2⟩
  rw [y1 ha]
  exact cw1_congr hw (by omega) q1 e0 e1 (fun c x p1 p2 p3 p4 => he c x (by omega) p2 p3 p4)
theorem TL_all (hw : WW Q nd) (hQ : 1 ≤ Q) (hn : 1 ≤ n) {W : Int → Int → Int} : TL Q nd n lv W (-1) 0 0 = Sm (fun e => W 0 e) 0 n := by
  unfold TL
  rw [tl_eq hw (by omega) (by omega), show eE n lv (-1) = n from if_pos rfl]
  refine Sm_congr (fun x x0 x1 => ?_)
  have h3 : nd 0 3 ≠ 1 := by have := ((hw.2.2 0 (by omega) (by omega)).2.2.2.2.2.2.1 rfl).1; omega
  have hnx : nxF Q nd 0 = -1 := by unfold nxF; rw [if_neg (by omega)]
  unfold wv af
  rw [ind_t (Or.inl h3), if_pos hnx, Int.mul_one, Int.mul_one]
theorem IsWf.lt (hw : WW Q nd) (hn : n ≤ 32) {al : Int → Int32} {W : Int → Int → Int} {k : Int} (hk : 0 ≤ k) (h : IsWf Q nd n lv al W k) {q e : Int} (q0 : k ≤ q) (q1 : q < Q) (e0 : 0 ≤ e) (e1 : e < n) : 0 ≤ W q e ∧ W q e ≤ 1073741824 := by
  refine ⟨h.nn hk hw q e q0 q1 e0 e1, Int.le_trans (h.bd hk hw hn q e q0 q1 e0 e1) (pow6 ?_)⟩
  have := (eW_in (nd := nd) q1).2
  have := hw.2.1
  omega
theorem K_solve (K : KX m F w n tg vl lv Q nd) (hQ : 1 ≤ Q) : Ok (f_X1_solve (ov m 53 (o1 53 F A)) 53) (fun t => ∃ A', t.2 = ov m 53 (o1 53 F A') ∧ t.1 = J (Sm (fun e => wR A' 0 e) 0 n) ∧ IsW Q nd n lv (aR A) (wR A') ∧ (∀ f, 0 ≤ f → f ≤ n → A' 10 f = TL Q nd n lv (wR A') (-1) 0 f) ∧ ∀ i, i < 3 ∨ 16 ≤ i → A' i = A i) := by
  obtain ⟨Fw, Aw, haw, hW⟩ := K.W
  have hFw := hW.1
  have h6 := hW.2.1.2.1
  have hw := hW.2.1
  obtain ⟨Ft, At', hat, hT⟩ := K.T
  have hFt := hT.1
  have hn1 := hT.2.1.1
  have hn2 := hT.2.1.2.1
  have hl := K.1
  unfold f_X1_solve
  simp (disch := omega) only [K.g1, a5_g0 (haw A), hFw, L0, L1, L2, L3, L4, L5, L6, L7, L8, L9, L10, L11, L12, L13, L14, L15, L16, L17, L18, L19, L20, L21, L22, L23, L24, L25, L26, L27, L31, L32, L33, L36, L40, L41, L42, L47, L48, L57, L58, L59, L60, L61, L62, L65, L97, L101, L102, L103, L120, L126, L127, L144, L245, L1023, L1715, I_add, I_sub, I_mul, I_neg, I_lt, I_le, I_eq, Option.bind_some]
  refine Ok.bind (P := fun m' => ∃ A', m' = ov m 53 (o1 53 F A') ∧ IsW Q nd n lv (aR A) (wR A') ∧ ∀ i, i < 3 ∨ 16 ≤ i → A' i = A i) ?_ ?_
  · refine Ok.whl (fun j s => ∃ q A', s = (I q, ov m 53 (o1 53 F A')) ∧ -1 ≤ q ∧ q < Q ∧ j = (q + 1).toNat ∧ IsWf Q nd n lv (aR A) (wR A') (q + 1) ∧ ∀ i, i < 3 ∨ 16 ≤ i → A' i = A i) _ (j := (Q - 1 + 1).toNat) ?_ ⟨Q - 1, A, rfl, by omega, by omega, rfl, fun q e q0 q1 => by omega, fun _ _ => rfl⟩ (FU_lt (by omega))
    rintro j s ⟨q, A1, rfl, q0, q1, rfl, hI, hi⟩
    dsimp only
    unfold f_X1_solve_L10
    by_cases d1 : q < 0
    · simp (disch := omega) only [L0, L1, L2, L3, L4, L5, L6, L7, L8, L9, L10, L11, L12, L13, L14, L15, L16, L17, L18, L19, L20, L21, L22, L23, L24, L25, L26, L27, L31, L32, L33, L36, L40, L41, L42, L47, L48, L57, L58, L59, L60, L61, L62, L65, L97, L101, L102, L103, L120, L126, L127, L144, L245, L1023, L1715, I_add, I_sub, I_mul, I_neg, I_lt, I_le, I_eq, Option.bind_some, if_pos, if_neg, if_true, if_false, ite_true, ite_false]
      exact Ok.pure (Or.inr ⟨_, rfl, A1, rfl, by have := hI; rwa [show q + 1 = 0 by omega] at this, hi⟩)
    · simp (disch := omega) only [L0, L1, L2, L3, L4, L5, L6, L7, L8, L9, L10, L11, L12, L13, L14, L15, L16, L17, L18, L19, L20, L21, L22, L23, L24, L25, L26, L27, L31, L32, L33, L36, L40, L41, L42, L47, L48, L57, L58, L59, L60, L61, L62, L65, L97, L101, L102, L103, L120, L126, L127, L144, L245, L1023, L1715, I_add, I_sub, I_mul, I_neg, I_lt, I_le, I_eq, if_neg d1]
      -- the row of q
      refine Ok.bind (P := fun m' => ∃ A', m' = ov m 53 (o1 53 F A') ∧ IsWf Q nd n lv (aR A) (wR A') q ∧ ∀ i, i < 3 ∨ 16 ≤ i → A' i = A i) ?_ ?_
      · refine Ok.whl (fun j s => ∃ e A', s = (I e, ov m 53 (o1 53 F A')) ∧ 0 ≤ e ∧ e ≤ n ∧ j = (n - e).toNat ∧ (∀ k, 0 ≤ k → k < Q → k ≠ q → A' (3 + k.toNat) = A1 (3 + k.toNat)) ∧ (∀ x, 0 ≤ x → x < e → (hb (aR A q) x → wR A' q x = cw1 Q nd n lv (wR A1) q x) ∧ (¬ hb (aR A q) x → wR A' q x = 0)) ∧ ∀ i, i < 3 ∨ 16 ≤ i → A' i = A i) _ (j := (n - 0).toNat) ?_ ⟨0, A1, rfl, by omega, by omega, rfl, fun _ _ _ _ => rfl, fun x x0 x1 => by omega, hi⟩ (FU_lt (by omega))
        rintro j s ⟨e, A2, rfl, e0, e1, rfl, hr, hx, hi2⟩
        dsimp only
        have ht := hat A2
        unfold f_X1_solve_L16
        by_cases d2 : n ≤ e
        · simp (disch := omega) only [K.g0, a4_g0 ht, hFt, I_add, I_sub, I_mul, I_neg, I_lt, I_le, I_eq, Option.bind_some, if_pos, if_neg, if_true, if_false, ite_true, ite_false]
          refine Ok.pure (Or.inr ⟨_, rfl, A2, rfl, fun k x k0 k1 x0 x1 => ?_, hi2⟩)
          by_cases z : k = q
          · subst z
            obtain ⟨y1, y2⟩ := hx x x0 (by omega)
            refine ⟨fun ha => ?_, y2⟩
            rw [y1 ha]
            exact cw1_congr hw (by omega) k1 x0 x1 (fun c x p1 p2 p3 p4 => by show A1 (3 + c.toNat) x = A2 (3 + c.toNat) x; rw [hr c (by omega) p2 (by omega)])
          · obtain ⟨y1, y2⟩ := hI k x (by omega) k1 x0 x1
            have hrk : wR A2 k x = wR A1 k x := by show A2 (3 + k.toNat) x = A1 (3 + k.toNat) x; rw [hr k (by omega) k1 z]
            rw [hrk]
            refine ⟨fun ha => ?_, y2⟩
            rw [y1 ha]
            exact cw1_congr hw (by omega) k1 x0 x1 (fun c x p1 p2 p3 p4 => by show A1 (3 + c.toNat) x = A2 (3 + c.toNat) x; rw [hr c (by omega) p2 (by omega)])
        · have hal : A2 1 = A 1 := hi2 1 (by omega)
          have hbd : ∀ c x, q < c → c < Q → 0 ≤ x → x < n → 0 ≤ wR A1 c x ∧ wR A1 c x < 4611686018427387904 := fun c x p1 p2 p3 p4 => by
            have := hI.lt hw hn2 (by omega) (show q + 1 ≤ c by omega) p2 p3 p4
            omega
          have hWA : ∀ c x, q < c → c < Q → 0 ≤ x → x < n → A2 (3 + c.toNat) x = wR A1 c x := fun c x p1 p2 p3 p4 => by rw [hr c (by omega) p2 (by omega)]
          simp (disch := omega) only [K.g0, a4_g0 ht, hFt, L0, L1, L2, L3, L4, L5, L6, L7, L8, L9, L10, L11, L12, L13, L14, L15, L16, L17, L18, L19, L20, L21, L22, L23, L24, L25, L26, L27, L31, L32, L33, L36, L40, L41, L42, L47, L48, L57, L58, L59, L60, L61, L62, L65, L97, L101, L102, L103, L120, L126, L127, L144, L245, L1023, L1715, I_add, I_sub, I_mul, I_neg, I_lt, I_le, I_eq, o1_g3, o1_r2, o1_g2, o1_l1, hal, C_holds, if_neg d2, Option.bind_some, o1_cO]
          have nxt : ∀ (A3 : Nat → Int → Int) (v : Int), (∀ i, i < 10 ∨ 16 ≤ i → A3 i = A2 i) → (hb (aR A q) e → v = cw1 Q nd n lv (wR A1) q e) → (¬ hb (aR A q) e → v = 0) → ∃ e' A', ((I (e + 1), ov m 53 (o1 53 F (upN A3 (3 + q.toNat) (upZ (A3 (3 + q.toNat)) e v)))) : Int32 × Mm) = (I e', ov m 53 (o1 53 F A')) ∧ 0 ≤ e' ∧ e' ≤ n ∧ (n - (e + 1)).toNat = (n - e').toNat ∧ (∀ k, 0 ≤ k → k < Q → k ≠ q → A' (3 + k.toNat) = A1 (3 + k.toNat)) ∧ (∀ x, 0 ≤ x → x < e' → (hb (aR A q) x → wR A' q x = cw1 Q nd n lv (wR A1) q x) ∧ (¬ hb (aR A q) x → wR A' q x = 0)) ∧ ∀ i, i < 3 ∨ 16 ≤ i → A' i = A i := by
            intro A3 v h3 v1 v2
            refine ⟨e + 1, _, rfl, by omega, by omega, rfl, fun k k0 k1 kq => ?_, fun x x0 x1 => ?_, fun i hii => ?_⟩
            · rw [upN_ne (by omega), h3 _ (by omega), hr k k0 k1 kq]
            · show (_ → upN A3 (3 + q.toNat) _ (3 + q.toNat) x = _) ∧ (_ → upN A3 (3 + q.toNat) _ (3 + q.toNat) x = 0)
              rw [upN_at]
              by_cases z : x = e
              · rw [z, upZ_at]; exact ⟨v1, v2⟩
              · rw [upZ_ne z, h3 _ (by omega)]; exact hx x x0 (by omega)
            · rw [upN_ne (by omega), h3 _ (by omega)]; exact hi2 i hii
          by_cases d3 : hb (aR A q) e
          · simp (disch := omega) only [ind_t d3, L0, L1, L2, L3, L4, L5, L6, L7, L8, L9, L10, L11, L12, L13, L14, L15, L16, L17, L18, L19, L20, L21, L22, L23, L24, L25, L26, L27, L31, L32, L33, L36, L40, L41, L42, L47, L48, L57, L58, L59, L60, L61, L62, L65, L97, L101, L102, L103, L120, L126, L127, L144, L245, L1023, L1715, I_add, I_sub, I_mul, I_neg, I_lt, I_le, I_eq, Option.bind_some, if_pos, if_neg, if_true, if_false, ite_true, ite_false]
            refine Ok.bind (K_below (W := wR A1) K (by omega) q1 e0 (by omega) hWA hbd) ?_
            rintro ⟨v, m3⟩ ⟨rfl, A3, rfl, h3⟩
            dsimp only
            simp (disch := omega) only [r_sW, Option.bind_some]
            exact Ok.pure (Or.inl ⟨_, (n - (e + 1)).toNat, rfl, nxt A3 _ h3 (fun _ => rfl) (fun z => absurd d3 z), by omega⟩)
          · simp (disch := omega) only [ind_f d3, L0, L1, L2, L3, L4, L5, L6, L7, L8, L9, L10, L11, L12, L13, L14, L15, L16, L17, L18, L19, L20, L21, L22, L23, L24, L25, L26, L27, L31, L32, L33, L36, L40, L41, L42, L47, L48, L57, L58, L59, L60, L61, L62, L65, L97, L101, L102, L103, L120, L126, L127, L144, L245, L1023, L1715, I_add, I_sub, I_mul, I_neg, I_lt, I_le, I_eq, J0, J1, J31, J32, J1716, r_sW, Option.bind_some, if_pos, if_neg, if_true, if_false, ite_true, ite_false]
            exact Ok.pure (Or.inl ⟨_, (n - (e + 1)).toNat, rfl, nxt A2 _ (fun _ _ => rfl) (fun z => absurd z d3) (fun _ => rfl), by omega⟩)
      · rintro m' ⟨A', rfl, hI', hi'⟩
        exact Ok.pure (Or.inl ⟨_, (q + -1 + 1).toNat, rfl, ⟨q + -1, A', rfl, by omega, by omega, rfl, by rw [show q + -1 + 1 = q by omega]; exact hI', hi'⟩, by omega⟩)
  · rintro m' ⟨A1, rfl, hI, hi⟩
    have hnx : nxF Q nd 0 = -1 := by unfold nxF; rw [if_neg (by omega)]
    simp (disch := omega) only [o1_cO]
    have hft := K_fillTail (A := A1) (W := wR A1) K (c := 0) (e := -1) (by omega) (by omega) (by omega) (by omega) (fun z => absurd hnx z) (fun _ _ _ => rfl) (fun x x0 x1 => by have := hI.lt hw hn2 (by omega) (show (0 : Int) ≤ 0 by omega) (by omega) x0 x1; omega)
    refine Ok.bind hft ?_
    rintro m' ⟨R, rfl, hR⟩
    have hee : eE n lv (-1) = n := if_pos rfl
    rw [hee] at hR
    simp (disch := omega) only [o1_g4, o1_r9, r_lT, upN_at, Option.bind_some]
    have hag : ∀ q e, 0 ≤ q → q < Q → 0 ≤ e → e < n → wR A1 q e = wR (upN A1 (10 + (0 : Int).toNat) R) q e := fun q e q0 q1 _ _ => by
      show A1 (3 + q.toNat) e = upN A1 (10 + (0 : Int).toNat) R (3 + q.toNat) e
      rw [upN_ne (by omega)]
    have hI' := hI.congr hw (by omega) hag
    refine Ok.pure ⟨_, rfl, ?_, hI', fun f f0 f1 => ?_, fun i hii => by rw [upN_ne (by omega)]; exact hi i hii⟩
    · show J (R 0) = _
      rw [hR 0 (by omega) (by omega), TL_all hw hQ hn1, Sm_congr (fun e e0 e1 => hag 0 e (by omega) (by omega) e0 e1)]
    · show R f = _
      rw [hR f (by omega) f1]
      refine tl_congr hw (fun x x0 x1 => en_gt (by omega) x x0 x1 (by omega)) 0 f (by omega) (by omega) (by omega) (fun c' x p1 p2 p3 p4 p5 => ?_)
      rw [hee] at p5
      unfold wv
      rw [hag c' x p1 p2 (by omega) p5]
end CS2
