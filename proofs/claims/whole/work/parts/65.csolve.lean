/-! ===== the class's matcher: spread, solve ===== -/
section CSV
variable {m : Mm} {F : Nat → Int} {A : Nat → Int → Int} {w : Nat} {n : Int} {tg vl lv : Int → Int} {Q : Int} {nd : Int → Int → Int} {W : Int → Int → Int}
/-- the tails of all branches of q are there, for the case that q is e -/
abbrev spR (Q : Int) (nd : Int → Int → Int) (n : Int) (lv : Int → Int) (W : Int → Int → Int) (A : Nat → Int → Int) (q e : Int) : Prop := ∀ c, q < c → c < Q → nd c 5 = q → ∀ f, e + 1 ≤ f → f ≤ eE n lv e → A (10 + c.toNat) f = TL Q nd n lv W e c f
theorem K_spread (K : KX m F w n tg vl lv Q nd) {q e : Int} (q0 : 0 ≤ q) (q1 : q < Q) (h0 : 0 ≤ e) (h1 : e < n) (hWA : ∀ c x, q < c → c < Q → 0 ≤ x → x < n → A (3 + c.toNat) x = W c x) (hbd : ∀ c x, q < c → c < Q → 0 ≤ x → x < n → 0 ≤ W c x ∧ W c x < 4611686018427387904) : Ok (f_X1_spread (ov m 53 (o1 53 F A)) 53 (I q) (I e)) (fun m' => ∃ A', m' = ov m 53 (o1 53 F A') ∧ spR Q nd n lv W A' q e ∧ ∀ i, (∀ c, q < c → c < eW Q nd q → i ≠ 10 + c.toNat) → A' i = A i) := by
  obtain ⟨Fw, Aw, haw, hW⟩ := K.W
  have h6 := hW.2.1.2.1
  have hw := hW.2.1
  obtain ⟨e1, e2⟩ := eW_in (nd := nd) q1
  unfold f_X1_spread
  simp (disch := omega) only [K.g1, a5_cO (haw A), W_last (haw A) hW, Option.bind_some]
  refine Ok.bind (P := fun m' => ∃ A', m' = ov m 53 (o1 53 F A') ∧ spR Q nd n lv W A' q e ∧ ∀ i, (∀ c, q < c → c < eW Q nd q → i ≠ 10 + c.toNat) → A' i = A i) ?_ (fun _ h => Ok.pure h)
  refine Ok.whl (fun j s => ∃ c A', s = (I c, ov m 53 (o1 53 F A')) ∧ q ≤ c ∧ c < eW Q nd q ∧ j = (c - q).toNat ∧ (∀ k, c < k → k < eW Q nd q → nd k 5 = q → ∀ f, e + 1 ≤ f → f ≤ eE n lv e → A' (10 + k.toNat) f = TL Q nd n lv W e k f) ∧ ∀ i, (∀ c, q < c → c < eW Q nd q → i ≠ 10 + c.toNat) → A' i = A i) _ (j := (eW Q nd q - 1 - q).toNat) ?_ ⟨eW Q nd q - 1, A, rfl, by omega, by omega, rfl, fun k k0 k1 => by omega, fun _ _ => rfl⟩ (FU_lt (by omega))
  rintro j s ⟨c, A1, rfl, c0, c1, rfl, hk, hi⟩
  dsimp only
  unfold f_X1_spread_L9
  by_cases d1 : c ≤ q
  · simp (disch := omega) only [I_add, I_sub, I_mul, I_neg, I_lt, I_le, I_eq, Option.bind_some, if_pos, if_neg, if_true, if_false, ite_true, ite_false]
    refine Ok.pure (Or.inr ⟨_, rfl, A1, rfl, fun k k0 k1 k2 => hk k (by omega) ?_ k2, hi⟩)
    have := (eW_nest hw (show 0 < k by omega) k1).1
    rwa [k2] at this
  · have hv := haw A1
    have hw6 := (hW.2.2 c (by omega) (by omega)).2.2.2.2.2
    have hab := hw.ab (show 0 ≤ c by omega) (by omega)
    by_cases d2 : nd c 5 = q
    · simp (disch := omega) only [L0, L1, L2, L3, L4, L5, L6, L7, L8, L9, L10, L11, L12, L13, L14, L15, L16, L17, L18, L19, L20, L21, L22, L23, L24, L25, L26, L27, L31, L32, L33, L36, L40, L41, L42, L47, L48, L57, L58, L59, L60, L61, L62, L65, L97, L101, L102, L103, L120, L126, L127, L144, L245, L1023, L1715, I_add, I_sub, I_mul, I_neg, I_lt, I_le, I_eq, K.g1, a5_cO hv, a5_g0 hv, a5_g1 hv, a5_g2 hv, a5_g3 hv, a5_g4 hv, a5_g5 hv, a5_g6 hv, a5_l1 hv, a5_l2 hv, a5_l3 hv, a5_l4 hv, a5_l5 hv, a5_l6 hv, hw6, o1_cO K.1, if_neg d1, if_pos d2, Option.bind_some]
      have hr3 : ∀ k : Int, 0 ≤ k → k < Q → A1 (3 + k.toNat) = A (3 + k.toNat) := fun k k0 k1 => hi _ (fun c' p1 p2 => by omega)
      refine Ok.bind (K_fillTail (W := W) K (by omega) (by omega) (by omega) h1 ?_ (fun x x0 x1 => ?_) (fun x x0 x1 => hbd c x (by omega) (by omega) x0 x1)) ?_
      · intro z f f0 f1
        obtain ⟨p1, p2, p3, p4, p5, p6⟩ := nx_some hw (show 0 ≤ c by omega) (by omega) z
        rw [d2] at p5 p6
        exact hk _ p3 p6 p5 f f0 f1
      · rw [hr3 c (by omega) (by omega)]; exact hWA c x (by omega) (by omega) x0 x1
      · rintro m' ⟨R, rfl, hR⟩
        refine Ok.pure (Or.inl ⟨_, (c + -1 - q).toNat, rfl, ⟨c + -1, _, rfl, by omega, by omega, rfl, fun k k0 k1 k2 f f0 f1 => ?_, fun i hi' => ?_⟩, by omega⟩)
        · by_cases z : k = c
          · rw [z, upN_at]; exact hR f f0 f1
          · rw [upN_ne (by omega)]; exact hk k (by omega) k1 k2 f f0 f1
        · rw [upN_ne (hi' c (by omega) c1)]; exact hi i hi'
    · simp (disch := omega) only [L0, L1, L2, L3, L4, L5, L6, L7, L8, L9, L10, L11, L12, L13, L14, L15, L16, L17, L18, L19, L20, L21, L22, L23, L24, L25, L26, L27, L31, L32, L33, L36, L40, L41, L42, L47, L48, L57, L58, L59, L60, L61, L62, L65, L97, L101, L102, L103, L120, L126, L127, L144, L245, L1023, L1715, I_add, I_sub, I_mul, I_neg, I_lt, I_le, I_eq, K.g1, a5_cO hv, a5_g0 hv, a5_g1 hv, a5_g2 hv, a5_g3 hv, a5_g4 hv, a5_g5 hv, a5_g6 hv, a5_l1 hv, a5_l2 hv, a5_l3 hv, a5_l4 hv, a5_l5 hv, a5_l6 hv, hw6, if_neg d1, if_neg d2, Option.bind_some]
      refine Ok.pure (Or.inl ⟨_, (c + -1 - q).toNat, rfl, ⟨c + -1, _, rfl, by omega, by omega, rfl, fun k k0 k1 k2 f f0 f1 => ?_, hi⟩, by omega⟩)
      by_cases z : k = c
      · rw [z] at k2; exact absurd k2 d2
      · exact hk k (by omega) k1 k2 f f0 f1
theorem K_below (K : KX m F w n tg vl lv Q nd) {q e : Int} (q0 : 0 ≤ q) (q1 : q < Q) (h0 : 0 ≤ e) (h1 : e < n) (hWA : ∀ c x, q < c → c < Q → 0 ≤ x → x < n → A (3 + c.toNat) x = W c x) (hbd : ∀ c x, q < c → c < Q → 0 ≤ x → x < n → 0 ≤ W c x ∧ W c x < 4611686018427387904) : Ok (f_X1_waysBelow (ov m 53 (o1 53 F A)) 53 (I q) (I e)) (fun t => t.1 = J (cw1 Q nd n lv W q e) ∧ ∃ A', t.2 = ov m 53 (o1 53 F A') ∧ ∀ i, i < 10 ∨ 16 ≤ i → A' i = A i) := by
  obtain ⟨Fw, Aw, haw, hW⟩ := K.W
  have h6 := hW.2.1.2.1
  have hw := hW.2.1
  obtain ⟨hT1, hT2⟩ := eE_in (lv := lv) (show -1 ≤ e by omega) h1
  obtain ⟨Ft, At', hat, hT⟩ := K.T
  have hn2 := hT.2.1.2.1
  obtain ⟨e1, e2⟩ := eW_in (nd := nd) q1
  have hfc := fc_iff hw q0 q1
  unfold f_X1_waysBelow cw1
  by_cases z : q + 1 < eW Q nd q
  · have hf : fcF Q nd q = q + 1 := if_pos z
    rw [if_pos z]
    simp (disch := omega) only [K.g1, a5_cO (haw A), W_first (haw A) hW, hf, L0, L1, L2, L3, L4, L5, L6, L7, L8, L9, L10, L11, L12, L13, L14, L15, L16, L17, L18, L19, L20, L21, L22, L23, L24, L25, L26, L27, L31, L32, L33, L36, L40, L41, L42, L47, L48, L57, L58, L59, L60, L61, L62, L65, L97, L101, L102, L103, L120, L126, L127, L144, L245, L1023, L1715, I_add, I_sub, I_mul, I_neg, I_lt, I_le, I_eq, Option.bind_some, o1_cO K.1]
    rw [if_neg (by omega)]
    refine Ok.bind (K_spread (W := W) K q0 q1 h0 h1 hWA hbd) ?_
    rintro m' ⟨A', rfl, hs, hi⟩
    have hl := K.1
    simp (disch := omega) only [o1_g4, o1_r9, r_lT, Option.bind_some]
    refine Ok.pure ⟨?_, A', rfl, fun i hi' => hi i (fun c c0 c1 => by omega)⟩
    rw [hs (q + 1) (by omega) (by omega) (hfc.mp z).2 (e + 1) (Int.le_refl _) (by omega)]
  · have hf : fcF Q nd q = -1 := if_neg z
    rw [if_neg z]
    simp (disch := omega) only [K.g1, a5_cO (haw A), W_first (haw A) hW, hf, L0, L1, L2, L3, L4, L5, L6, L7, L8, L9, L10, L11, L12, L13, L14, L15, L16, L17, L18, L19, L20, L21, L22, L23, L24, L25, L26, L27, L31, L32, L33, L36, L40, L41, L42, L47, L48, L57, L58, L59, L60, L61, L62, L65, L97, L101, L102, L103, L120, L126, L127, L144, L245, L1023, L1715, I_add, I_sub, I_mul, I_neg, I_lt, I_le, I_eq, J0, J1, J31, J32, J1716, Option.bind_some, if_true]
    exact Ok.pure ⟨rfl, A, rfl, fun _ _ => rfl⟩
end CSV
