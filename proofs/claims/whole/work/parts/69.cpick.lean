/-! ===== the class's matcher: choices ===== -/
/-- the choices of the nodes before c are there -/
def CH (Q : Int) (nd : Int → Int → Int) (n : Int) (lv : Int → Int) (al : Int → Int32) (W : Int → Int → Int) (g : Int → Int) (c : Int) (A : Nat → Int → Int) : Prop := (∀ k, 0 ≤ k → k < c → A 30 k = g k) ∧ (∀ k, 0 ≤ k → k < c → c < eW Q nd k → A 31 k = sQ Q nd n lv al (eW Q nd k) g) ∧ ∀ d, c ≤ d → d < Q → nd d 5 < c → ∀ f, ga nd g d + 1 ≤ f → f ≤ eE n lv (ga nd g d) → A (10 + d.toNat) f = TL Q nd n lv W (ga nd g d) d f
section CPK
variable {m : Mm} {F : Nat → Int} {A : Nat → Int → Int} {w : Nat} {n : Int} {tg vl lv : Int → Int} {Q : Int} {nd : Int → Int → Int} {W : Int → Int → Int} {al : Int → Int32} {g : Int → Int}
theorem K_above (K : KX m F w n tg vl lv Q nd) {c : Int} (c0 : 0 ≤ c) (c1 : c < Q) (hA : ∀ k, 0 ≤ k → k < c → A 30 k = g k) : f_X1_elementAbove (ov m 53 (o1 53 F A)) 53 (I c) = some (I (ga nd g c)) := by
  obtain ⟨Fw, Aw, haw, hW⟩ := K.W
  have hv := haw A
  have h6 := hW.2.1.2.1
  have hl := K.1
  have hab := hW.2.1.ab c0 c1
  have w6 := (hW.2.2 c c0 c1).2.2.2.2.2
  unfold f_X1_elementAbove ga
  by_cases z : nd c 5 = -1
  · rw [if_pos z]
    simp (disch := omega) only [K.g1, a5_cO hv, a5_g0 hv, a5_g1 hv, a5_g2 hv, a5_g3 hv, a5_g4 hv, a5_g5 hv, a5_g6 hv, a5_l1 hv, a5_l2 hv, a5_l3 hv, a5_l4 hv, a5_l5 hv, a5_l6 hv, w6, L0, L1, L2, L3, L4, L5, L6, L7, L8, L9, L10, L11, L12, L13, L14, L15, L16, L17, L18, L19, L20, L21, L22, L23, L24, L25, L26, L27, L31, L32, L33, L36, L40, L41, L42, L47, L48, L57, L58, L59, L60, L61, L62, L65, L97, L101, L102, L103, L120, L126, L127, L144, L245, L1023, L1715, I_add, I_sub, I_mul, I_neg, I_lt, I_le, I_eq, Option.bind_some, if_pos, if_neg, if_true, if_false, ite_true, ite_false]
  · rw [if_neg z]
    simp (disch := omega) only [K.g1, a5_cO hv, a5_g0 hv, a5_g1 hv, a5_g2 hv, a5_g3 hv, a5_g4 hv, a5_g5 hv, a5_g6 hv, a5_l1 hv, a5_l2 hv, a5_l3 hv, a5_l4 hv, a5_l5 hv, a5_l6 hv, w6, o1_g7, o1_l30, hA, L0, L1, L2, L3, L4, L5, L6, L7, L8, L9, L10, L11, L12, L13, L14, L15, L16, L17, L18, L19, L20, L21, L22, L23, L24, L25, L26, L27, L31, L32, L33, L36, L40, L41, L42, L47, L48, L57, L58, L59, L60, L61, L62, L65, L97, L101, L102, L103, L120, L126, L127, L144, L245, L1023, L1715, I_add, I_sub, I_mul, I_neg, I_lt, I_le, I_eq, Option.bind_some, if_pos, if_neg, if_true, if_false, ite_true, ite_false]
theorem K_least (K : KX m F w n tg vl lv Q nd) {c : Int} (c0 : 0 ≤ c) (c1 : c < Q) (hA : ∀ k, 0 ≤ k → k < c → A 30 k = g k) (hg : ∀ j, 0 ≤ g j ∧ g j < n) : f_X1_least (ov m 53 (o1 53 F A)) 53 (I c) = some (I (ls nd n lv g c)) := by
  obtain ⟨Fw, Aw, haw, hW⟩ := K.W
  obtain ⟨Ft, At', hat, hT⟩ := K.T
  have hv := haw A
  have ht := hat A
  have h6 := hW.2.1.2.1
  have hn2 := hT.2.1.2.1
  have hl := K.1
  have hpv := pv_spec nd c0
  have w5 := (hW.2.2 c c0 c1).2.2.2.2.1
  have t5 := (hW.2.1.2.2 c c0 c1).2.2.2.2.1
  unfold f_X1_least ls
  by_cases z : pvF nd c = -1
  · rw [if_pos (Or.inl z)]
    simp (disch := omega) only [K.g1, a5_cO hv, W_prev hv hW, z, K_above K c0 c1 hA, o1_cO, L0, L1, L2, L3, L4, L5, L6, L7, L8, L9, L10, L11, L12, L13, L14, L15, L16, L17, L18, L19, L20, L21, L22, L23, L24, L25, L26, L27, L31, L32, L33, L36, L40, L41, L42, L47, L48, L57, L58, L59, L60, L61, L62, L65, L97, L101, L102, L103, L120, L126, L127, L144, L245, L1023, L1715, I_add, I_sub, I_mul, I_neg, I_lt, I_le, I_eq, Option.bind_some, if_pos, if_neg, if_true, if_false, ite_true, ite_false]
  · by_cases y : nd c 4 = 0
    · rw [if_pos (Or.inr y)]
      simp (disch := omega) only [K.g1, a5_cO hv, W_prev hv hW, a5_cO hv, a5_g0 hv, a5_g1 hv, a5_g2 hv, a5_g3 hv, a5_g4 hv, a5_g5 hv, a5_g6 hv, a5_l1 hv, a5_l2 hv, a5_l3 hv, a5_l4 hv, a5_l5 hv, a5_l6 hv, w5, y, K_above K c0 c1 hA, o1_cO, L0, L1, L2, L3, L4, L5, L6, L7, L8, L9, L10, L11, L12, L13, L14, L15, L16, L17, L18, L19, L20, L21, L22, L23, L24, L25, L26, L27, L31, L32, L33, L36, L40, L41, L42, L47, L48, L57, L58, L59, L60, L61, L62, L65, L97, L101, L102, L103, L120, L126, L127, L144, L245, L1023, L1715, I_add, I_sub, I_mul, I_neg, I_lt, I_le, I_eq, Option.bind_some, if_pos, if_neg, if_true, if_false, ite_true, ite_false]
    · rw [if_neg (show ¬ (pvF nd c = -1 ∨ nd c 4 = 0) by omega)]
      have hgp := hg (pvF nd c)
      have hla := (hT.2.2 (g (pvF nd c)) hgp.1 hgp.2).2.2.2.2.1
      simp (disch := omega) only [K.g1, K.g0, a5_cO hv, W_prev hv hW, a5_cO hv, a5_g0 hv, a5_g1 hv, a5_g2 hv, a5_g3 hv, a5_g4 hv, a5_g5 hv, a5_g6 hv, a5_l1 hv, a5_l2 hv, a5_l3 hv, a5_l4 hv, a5_l5 hv, a5_l6 hv, w5, o1_g7, o1_l30, hA, a4_cO ht, a4_g0 ht, a4_g1 ht, a4_g2 ht, a4_g3 ht, a4_g4 ht, a4_g5 ht, a4_l1 ht, a4_l2 ht, a4_l3 ht, a4_l4 ht, a4_l5 ht, hla, L0, L1, L2, L3, L4, L5, L6, L7, L8, L9, L10, L11, L12, L13, L14, L15, L16, L17, L18, L19, L20, L21, L22, L23, L24, L25, L26, L27, L31, L32, L33, L36, L40, L41, L42, L47, L48, L57, L58, L59, L60, L61, L62, L65, L97, L101, L102, L103, L120, L126, L127, L144, L245, L1023, L1715, I_add, I_sub, I_mul, I_neg, I_lt, I_le, I_eq, Option.bind_some, if_pos, if_neg, if_true, if_false, ite_true, ite_false]
      rw [show enF n lv (g (pvF nd c)) - 1 + 1 = enF n lv (g (pvF nd c)) by omega]
theorem K_outer (K : KX m F w n tg vl lv Q nd) {c : Int} (c0 : 0 ≤ c) (c1 : c < Q) (hA : ∀ k, 0 ≤ k → k < c → c < eW Q nd k → A 31 k = sQ Q nd n lv al (eW Q nd k) g) : f_X1_outerAbove (ov m 53 (o1 53 F A)) 53 (I c) = some (J (sQ Q nd n lv al (eA Q nd c) g)) := by
  obtain ⟨Fw, Aw, haw, hW⟩ := K.W
  have hv := haw A
  have h6 := hW.2.1.2.1
  have hl := K.1
  have hab := hW.2.1.ab c0 c1
  have w6 := (hW.2.2 c c0 c1).2.2.2.2.2
  unfold f_X1_outerAbove eA
  by_cases z : c = 0
  · rw [if_pos z, sQ_end (Int.le_refl _)]
    have z5 : nd c 5 = -1 := by omega
    simp (disch := omega) only [K.g1, a5_cO hv, a5_g0 hv, a5_g1 hv, a5_g2 hv, a5_g3 hv, a5_g4 hv, a5_g5 hv, a5_g6 hv, a5_l1 hv, a5_l2 hv, a5_l3 hv, a5_l4 hv, a5_l5 hv, a5_l6 hv, w6, L0, L1, L2, L3, L4, L5, L6, L7, L8, L9, L10, L11, L12, L13, L14, L15, L16, L17, L18, L19, L20, L21, L22, L23, L24, L25, L26, L27, L31, L32, L33, L36, L40, L41, L42, L47, L48, L57, L58, L59, L60, L61, L62, L65, L97, L101, L102, L103, L120, L126, L127, L144, L245, L1023, L1715, J0, J1, J31, J32, J1716, I_add, I_sub, I_mul, I_neg, I_lt, I_le, I_eq, Option.bind_some, if_pos, if_neg, if_true, if_false, ite_true, ite_false]
  · rw [if_neg z]
    have z5 : 0 ≤ nd c 5 := ((hW.2.1.2.2 c c0 c1).2.2.2.2.2.2.2 (by omega)).2.1
    have hn := eW_nest hW.2.1 (show 0 < c by omega) c1
    simp (disch := omega) only [K.g1, a5_cO hv, a5_g0 hv, a5_g1 hv, a5_g2 hv, a5_g3 hv, a5_g4 hv, a5_g5 hv, a5_g6 hv, a5_l1 hv, a5_l2 hv, a5_l3 hv, a5_l4 hv, a5_l5 hv, a5_l6 hv, w6, o1_g8, o1_l31, hA, L0, L1, L2, L3, L4, L5, L6, L7, L8, L9, L10, L11, L12, L13, L14, L15, L16, L17, L18, L19, L20, L21, L22, L23, L24, L25, L26, L27, L31, L32, L33, L36, L40, L41, L42, L47, L48, L57, L58, L59, L60, L61, L62, L65, L97, L101, L102, L103, L120, L126, L127, L144, L245, L1023, L1715, I_add, I_sub, I_mul, I_neg, I_lt, I_le, I_eq, Option.bind_some, if_pos, if_neg, if_true, if_false, ite_true, ite_false]
theorem K_waysAt (K : KX m F w n tg vl lv Q nd) (hn1 : 1 ≤ n) (hI : IsW Q nd n lv al W) {c f : Int} (c0 : 0 ≤ c) (c1 : c < Q) (hg : ∀ j, 0 ≤ g j ∧ g j < n) (hC : CH Q nd n lv al W g c A) (f0 : ga nd g c + 1 ≤ f) (f1 : f < eE n lv (ga nd g c)) : f_X1_waysAt (ov m 53 (o1 53 F A)) 53 (I c) (I f) = some (J (wA Q nd n lv al g c f)) := by
  obtain ⟨Fw, Aw, haw, hW⟩ := K.W
  obtain ⟨Ft, At', hat, hT⟩ := K.T
  have h6 := hW.2.1.2.1
  have hn2 := hT.2.1.2.1
  have hl := K.1
  have hab := hW.2.1.ab c0 c1
  have hgg := ga_ge (nd := nd) hg c hn1
  have hee := (eE_in (lv := lv) hgg.1 hgg.2).2
  have r1 := hC.2.2 c (Int.le_refl _) c1 hab.2 f f0 (by omega)
  have r2 := hC.2.2 c (Int.le_refl _) c1 hab.2 (f + 1) (by omega) (by omega)
  unfold f_X1_waysAt
  simp (disch := omega) only [o1_g4, o1_r9, r_lT, r1, r2, L0, L1, L2, L3, L4, L5, L6, L7, L8, L9, L10, L11, L12, L13, L14, L15, L16, L17, L18, L19, L20, L21, L22, L23, L24, L25, L26, L27, L31, L32, L33, L36, L40, L41, L42, L47, L48, L57, L58, L59, L60, L61, L62, L65, L97, L101, L102, L103, L120, L126, L127, L144, L245, L1023, L1715, I_add, o1_cO, K_outer K c0 c1 hC.2.1, J_sub, J_mul, Option.bind_some]
  rw [wA_tl hW.2.1 hn1 hI c0 c1 hg f0 f1]
theorem K_choose (K : KX m F w n tg vl lv Q nd) (hn1 : 1 ≤ n) (hI : IsW Q nd n lv al W) {c f : Int} (c0 : 0 ≤ c) (c1 : c < Q) (hg : ∀ j, 0 ≤ g j ∧ g j < n) (hC : CH Q nd n lv al W g c A) (f0 : ga nd g c + 1 ≤ f) (f1 : f < eE n lv (ga nd g c)) (hWA : ∀ c x, 0 ≤ c → c < Q → 0 ≤ x → x < n → A (3 + c.toNat) x = W c x) : Ok (f_X1_choose (ov m 53 (o1 53 F A)) 53 (I c) (I f)) (fun m' => ∃ A', m' = ov m 53 (o1 53 F A') ∧ CH Q nd n lv al W (upZ g c f) (c + 1) A' ∧ ∀ i, i < 10 → A' i = A i) := by
  obtain ⟨Fw, Aw, haw, hW⟩ := K.W
  obtain ⟨Ft, At', hat, hT⟩ := K.T
  have h6 := hW.2.1.2.1
  have hw := hW.2.1
  have hn2 := hT.2.1.2.1
  have hl := K.1
  have hab := hw.ab c0 c1
  have hgg := ga_ge (nd := nd) hg c hn1
  have hee := (eE_in (lv := lv) hgg.1 hgg.2).2
  obtain ⟨hC1, hC2, hC3⟩ := hC
  unfold f_X1_choose
  simp (disch := omega) only [o1_g7, o1_s30, Option.bind_some]
  have hA1 : ∀ k, 0 ≤ k → k < c → upN A 30 (upZ (A 30) c f) 30 k = g k := fun k k0 k1 => by rw [upN_at, upZ_ne (by omega)]; exact hC1 k k0 k1
  have hA2 : ∀ k, 0 ≤ k → k < c → c < eW Q nd k → upN A 30 (upZ (A 30) c f) 31 k = sQ Q nd n lv al (eW Q nd k) g := fun k k0 k1 k2 => by rw [upN_ne (by omega)]; exact hC2 k k0 k1 k2
  have hR : nxR Q nd n lv W (upN A 30 (upZ (A 30) c f)) (ga nd g c) c := by
    intro z k k0 k1
    obtain ⟨d1, d2, d3, d4, d5, d6⟩ := nx_some hw c0 c1 z
    rw [upN_ne (by omega)]
    have hgn : ga nd g (nxF Q nd c) = ga nd g c := by unfold ga; rw [d5]
    have := hC3 (nxF Q nd c) (by omega) d4 (by omega) k (by rw [hgn]; exact k0) (by rw [hgn]; exact k1)
    rwa [hgn] at this
  simp (disch := omega) only [o1_g8, o1_cO, K_outer K c0 c1 hA2, K.g1, a5_cO (haw _), W_next (haw _) hW, K_above K c0 c1 hA1, K_after K c0 c1 hgg.1 hgg.2 f0 f1 hR, J_mul, o1_s31, Option.bind_some]
  refine Ok.bind (K_spread (W := W) K c0 c1 (by omega) (by omega) (fun k x k0 k1 x0 x1 => ?_) (fun k x k0 k1 x0 x1 => ?_)) ?_
  · rw [upN_ne (by omega), upN_ne (by omega)]; exact hWA k x (by omega) k1 x0 x1
  · have := hI.lt hw hn2 (Int.le_refl _) (show 0 ≤ k by omega) k1 x0 x1
    omega
  rintro m' ⟨A', rfl, hs, hi⟩
  have h30 : A' 30 = upZ (A 30) c f := by rw [hi 30 (fun c' p1 p2 => by have := (eW_in (nd := nd) c1).2; omega), upN_ne (by omega), upN_at]
  have h31 : A' 31 = upZ (A 31) c (sQ Q nd n lv al (eA Q nd c) g * AF Q nd n lv W (ga nd g c) c f) := by rw [hi 31 (fun c' p1 p2 => by have := (eW_in (nd := nd) c1).2; omega), upN_at, upN_ne (by omega)]
  refine Ok.pure ⟨A', rfl, ⟨fun k k0 k1 => ?_, fun k k0 k1 k2 => ?_, fun d d0 d1 d2 => ?_⟩, fun i hi' => ?_⟩
  · rw [h30]
    by_cases z : k = c
    · rw [z, upZ_at, upZ_at]
    · rw [upZ_ne z, upZ_ne z]; exact hC1 k k0 (by omega)
  · rw [h31]
    by_cases z : k = c
    · rw [z, upZ_at, sQ_out hw hn1 hI c0 c1 hg (by omega) (by omega)]
    · rw [upZ_ne z, hC2 k k0 (by omega) (by omega)]
      have h1 := (eW_ab hw k0 (show k < Q by omega)).1 c (by omega) (by omega)
      have h2 := eW_mono (nd := nd) (show k < Q by omega) h1 (show nd c 5 < eW Q nd k by omega)
      rw [sQ_loc hw c0 c1 (eW Q nd k) g (by unfold eA; rw [if_neg (by omega)]; exact h2)]
  · intro k k0 k1
    by_cases z : nd d 5 = c
    · have hgd : ga nd (upZ g c f) d = f := by unfold ga; rw [z, if_neg (by omega), upZ_at]
      rw [hgd] at k0 k1 ⊢
      exact hs d (by omega) d1 z k k0 k1
    · have hgd : ga nd (upZ g c f) d = ga nd g d := by
        unfold ga
        by_cases y : nd d 5 = -1
        · rw [if_pos y, if_pos y]
        · rw [if_neg y, if_neg y, upZ_ne z]
      rw [hgd] at k0 k1 ⊢
      have hde : eW Q nd c ≤ d := by
        by_cases y : eW Q nd c ≤ d
        · exact y
        · have := (eW_ab hw c0 c1).1 d (by omega) (by omega)
          omega
      rw [hi _ (fun c' p1 p2 => by omega), upN_ne (by omega), upN_ne (by omega)]
      exact hC3 d (by omega) d1 (by omega) k k0 k1
  · rw [hi i (fun c' p1 p2 => by omega), upN_ne (by omega), upN_ne (by omega)]
end CPK
