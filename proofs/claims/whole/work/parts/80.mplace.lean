/-! ===== the reference: place ===== -/
section MPL
variable {m : Mm} {a : Nat} {F : Nat → Int} {A : Nat → Int → Int} {X : FS}
theorem M_place (hl : a + 25 < m.length) (h : MB F A X) {i row : Int} (h1 : -2147483648 ≤ i) (h2 : i < 2147483648) (h5 : -9223372036854775808 ≤ row) (h6 : row < 9223372036854775808) : Ok (f_X8_place (ov m a (o8 a F A)) a (I i) (J row)) (fun t => ∃ X', MP m a t.2 X' ∧ SPlace X i row t.1 X') := by
  unfold f_X8_place SPlace
  simp only [N_isTwig h1 h2, Option.bind_some]
  by_cases c1 : 0 ≤ i ∧ i < 4
  · rw [ind_t c1]
    obtain ⟨ex1, hw, -⟩ := h.2.1 i c1.1 c1.2
    have h60 := hw.1
    have h66 := hw.2.1
    have hn1 := h.1.2.1.1
    have hn2 := h.1.2.1.2.1
    by_cases c2 : 0 ≤ row
    · simp only [if_pos (show (0 ≤ i ∧ i < 4) ∧ 0 ≤ row by omega)]
      by_cases c4 : tqn (fS X) i = 0
      · simp only [if_pos c4]
        simp (disch := omega) only [L0, L1, L2, L3, L4, L5, L6, L7, L8, L9, L10, L11, L12, L13, L14, L15, L16, L17, L18, L19, L20, L21, L22, L23, L24, L25, L26, L27, L31, L32, L33, L36, L40, L41, L42, L47, L48, L57, L58, L59, L60, L61, L62, L65, L97, L101, L102, L103, L120, L126, L127, L144, L245, L1023, L1715, J0, J1, J31, J32, J1716, I_add, I_sub, I_mul, I_neg, I_lt, I_le, I_eq, J_add, J_sub, J_mul, J_neg, J_lt, J_le, J_eq, Option.bind_some, if_pos, if_neg, if_true, if_false, ite_true, ite_false, o8_cO, if_pos c2, o8_g7, o8_l7, ex1]
        exact (M_noJ hl h).mono (fun t ht => ⟨_, ht.2, ht.1, rfl⟩)
      · simp only [if_neg c4]
        simp (disch := omega) only [L0, L1, L2, L3, L4, L5, L6, L7, L8, L9, L10, L11, L12, L13, L14, L15, L16, L17, L18, L19, L20, L21, L22, L23, L24, L25, L26, L27, L31, L32, L33, L36, L40, L41, L42, L47, L48, L57, L58, L59, L60, L61, L62, L65, L97, L101, L102, L103, L120, L126, L127, L144, L245, L1023, L1715, J0, J1, J31, J32, J1716, I_add, I_sub, I_mul, I_neg, I_lt, I_le, I_eq, J_add, J_sub, J_mul, J_neg, J_lt, J_le, J_eq, Option.bind_some, if_pos, if_neg, if_true, if_false, ite_true, ite_false, o8_cO, if_pos c2, o8_g7, o8_l7, ex1]
        have hdg : ∀ c, 0 ≤ dg (tqn (fS X) i) row c ∧ dg (tqn (fS X) i) row c < 32 := fun c => by unfold dg; omega
        -- the digits
        refine Ok.bind (P := fun t => ∃ K, t = (J (row / 32 ^ (tqn (fS X) i).toNat), ov m a (o8 a F (upN A 17 K))) ∧ ∀ k, 0 ≤ k → k < tqn (fS X) i → K k = dg (tqn (fS X) i) row k) ?_ ?_
        · refine Ok.whl (fun j s => ∃ q K, s = (J (row / 32 ^ (tqn (fS X) i - 1 - q).toNat), I q, ov m a (o8 a F (upN A 17 K))) ∧ -1 ≤ q ∧ q < tqn (fS X) i ∧ j = (q + 1).toNat ∧ ∀ k, q < k → k < tqn (fS X) i → K k = dg (tqn (fS X) i) row k) _ (j := (tqn (fS X) i - 1 + 1).toNat) ?_ ⟨tqn (fS X) i - 1, A 17, ?_, by omega, by omega, rfl, fun k k0 k1 => by omega⟩ (FU_lt (by omega))
          · rintro j s ⟨q, K, rfl, q0, q1, rfl, hk⟩
            dsimp only
            unfold f_X8_place_L47
            by_cases d1 : q < 0
            · simp (disch := omega) only [L0, L1, L2, L3, L4, L5, L6, L7, L8, L9, L10, L11, L12, L13, L14, L15, L16, L17, L18, L19, L20, L21, L22, L23, L24, L25, L26, L27, L31, L32, L33, L36, L40, L41, L42, L47, L48, L57, L58, L59, L60, L61, L62, L65, L97, L101, L102, L103, L120, L126, L127, L144, L245, L1023, L1715, I_add, I_sub, I_mul, I_neg, I_lt, I_le, I_eq, if_pos d1]
              rw [show (tqn (fS X) i - 1 - q).toNat = (tqn (fS X) i).toNat by omega]
              exact Ok.pure (Or.inr ⟨_, rfl, K, rfl, fun k k0 k1 => hk k (by omega) k1⟩)
            · have hp := I_pow_pos (tqn (fS X) i - 1 - q).toNat
              have hx0 : 0 ≤ row / 32 ^ (tqn (fS X) i - 1 - q).toNat := Int.ediv_nonneg c2 (Int.le_of_lt hp)
              have hx1 : row / 32 ^ (tqn (fS X) i - 1 - q).toNat ≤ row := Int.ediv_le_self _ c2
              have hdd : row / 32 ^ (tqn (fS X) i - 1 - q).toNat / 32 = row / 32 ^ (tqn (fS X) i - 1 - (q + -1)).toNat := by
                rw [Int.ediv_ediv, if_neg (by omega), Int.sub_zero, show (tqn (fS X) i - 1 - (q + -1)).toNat = (tqn (fS X) i - 1 - q).toNat + 1 by omega, Int.pow_succ]
              simp (disch := omega) only [L0, L1, L2, L3, L4, L5, L6, L7, L8, L9, L10, L11, L12, L13, L14, L15, L16, L17, L18, L19, L20, L21, L22, L23, L24, L25, L26, L27, L31, L32, L33, L36, L40, L41, L42, L47, L48, L57, L58, L59, L60, L61, L62, L65, L97, L101, L102, L103, L120, L126, L127, L144, L245, L1023, L1715, J0, J1, J31, J32, J1716, I_add, I_sub, I_mul, I_neg, I_lt, I_le, I_eq, if_neg d1, o8_g18, J_rem32, o8_s17, upN_at, upN_upN, Option.bind_some]
              rw [J_div hx0 (by omega) (by omega) (by omega), hdd]
              refine Ok.pure (Or.inl ⟨_, (q + -1 + 1).toNat, rfl, ⟨q + -1, _, rfl, by omega, by omega, rfl, fun k k0 k1 => ?_⟩, by omega⟩)
              by_cases z : k = q
              · rw [z, upZ_at]; rfl
              · rw [upZ_ne z]; exact hk k (by omega) k1
          · rw [upN_self, show (tqn (fS X) i - 1 - (tqn (fS X) i - 1)).toNat = 0 by omega, Int.pow_zero, Int.ediv_one]
        rintro ⟨lft, m'⟩ ⟨K, he, hK⟩
        obtain ⟨rfl, rfl⟩ := Prod.mk.inj he
        dsimp only
        simp (disch := omega) only [o8_cO]
        have hB1 : MB F (upN A 17 K) X := h.free (by omega) (by omega)
        refine Ok.bind (M_mayAll hl) ?_
        rintro m' ⟨K1, rfl, hK1⟩
        have hB2 : MB F (upN (upN A 17 K) 12 K1) X := hB1.free (by omega) (by omega)
        have ex2 : ∀ K2 : Int → Int, upN (upN A 17 K) 12 K2 7 i = tqn (fS X) i := fun K2 => by rw [upN_ne (by omega), upN_ne (by omega)]; exact ex1
        have h17 : ∀ (K2 : Int → Int) k, 0 ≤ k → k < tqn (fS X) i → upN (upN A 17 K) 12 K2 17 k = dg (tqn (fS X) i) row k := fun K2 k k0 k1 => by rw [upN_ne (by omega), upN_at]; exact hK k k0 k1
        -- all pinned
        refine Ok.bind (P := fun m' => ∃ K2, m' = ov m a (o8 a F (upN (upN A 17 K) 12 K2)) ∧ ∀ k, 0 ≤ k → k < tqn (fS X) i → I (K2 k) = I 1 <<< (I (dg (tqn (fS X) i) row k) &&& I 31)) ?_ ?_
        · refine Ok.whl (fun j s => ∃ q K2, s = (I q, ov m a (o8 a F (upN (upN A 17 K) 12 K2))) ∧ 0 ≤ q ∧ q ≤ tqn (fS X) i ∧ j = (tqn (fS X) i - q).toNat ∧ ∀ k, 0 ≤ k → k < q → I (K2 k) = I 1 <<< (I (dg (tqn (fS X) i) row k) &&& I 31)) _ (j := (tqn (fS X) i - 0).toNat) ?_ ⟨0, K1, rfl, by omega, by omega, rfl, fun k k0 k1 => by omega⟩ (FU_lt (by omega))
          rintro j s ⟨q, K2, rfl, q0, q1, rfl, hk⟩
          dsimp only
          unfold f_X8_place_L87
          by_cases d1 : tqn (fS X) i ≤ q
          · simp (disch := omega) only [o8_g7, o8_l7, ex2, I_add, I_sub, I_mul, I_neg, I_lt, I_le, I_eq, if_pos d1, Option.bind_some]
            exact Ok.pure (Or.inr ⟨_, rfl, K2, rfl, fun k k0 k1 => hk k k0 (by omega)⟩)
          · obtain ⟨zz, hzz, -, -⟩ := I_ex (I 1 <<< (I (dg (tqn (fS X) i) row q) &&& I 31))
            simp (disch := omega) only [o8_g7, o8_l7, ex2, L0, L1, L2, L3, L4, L5, L6, L7, L8, L9, L10, L11, L12, L13, L14, L15, L16, L17, L18, L19, L20, L21, L22, L23, L24, L25, L26, L27, L31, L32, L33, L36, L40, L41, L42, L47, L48, L57, L58, L59, L60, L61, L62, L65, L97, L101, L102, L103, L120, L126, L127, L144, L245, L1023, L1715, I_add, I_sub, I_mul, I_neg, I_lt, I_le, I_eq, if_neg d1, o8_g13, o8_g18, o8_l17, h17, Option.bind_some]
            rw [hzz]
            simp (disch := omega) only [o8_s12, upN_at, upN_upN, Option.bind_some]
            refine Ok.pure (Or.inl ⟨_, (tqn (fS X) i - (q + 1)).toNat, rfl, ⟨q + 1, _, rfl, by omega, by omega, rfl, fun k k0 k1 => ?_⟩, by omega⟩)
            by_cases z : k = q
            · rw [z, upZ_at]; exact hzz.symm
            · rw [upZ_ne z]; exact hk k k0 (by omega)
        rintro m' ⟨K2, rfl, hK2⟩
        have hB3 : MB F (upN (upN A 17 K) 12 K2) X := hB1.free (by omega) (by omega)
        have hpq := I_pow_pos (tqn (fS X) i).toNat
        have hy0 : 0 ≤ row / 32 ^ (tqn (fS X) i).toNat := Int.ediv_nonneg c2 (Int.le_of_lt hpq)
        have hy1 : row / 32 ^ (tqn (fS X) i).toNat ≤ row := Int.ediv_le_self _ c2
        by_cases c5 : 0 < row / 32 ^ (tqn (fS X) i).toNat
        · simp (disch := omega) only [J_add, J_sub, J_mul, J_neg, J_lt, J_le, J_eq, if_pos c5]
          refine Ok.pure ⟨X, ⟨F, _, rfl, hB3⟩, rfl, Or.inr ⟨?_, rfl⟩⟩
          rintro ⟨g, z, -⟩
          have := Int.ediv_eq_zero_of_lt c2 z
          omega
        · have hrow : row < 32 ^ (tqn (fS X) i).toNat := by
            have g1 := Int.emod_lt_of_pos row hpq
            have g2 := Int.emod_add_mul_ediv row (32 ^ (tqn (fS X) i).toNat)
            rw [show row / 32 ^ (tqn (fS X) i).toNat = 0 by omega, Int.mul_zero] at g2
            omega
          simp (disch := omega) only [J_add, J_sub, J_mul, J_neg, J_lt, J_le, J_eq, if_neg c5, o8_cO]
          refine Ok.bind (M_cz (al := aM (upN (upN A 17 K) 12 K2) (fS X) i) hl hB3 c1.1 c1.2 (by omega) (fun _ _ _ _ _ _ => Iff.rfl)) ?_
          rintro ⟨v, m'⟩ ⟨e1, A3, rfl, hB4, -, e5⟩
          dsimp only at e1 ⊢
          have hpins : ∀ k, 0 ≤ k → k < tqn (fS X) i → ∀ y, 0 ≤ y → y < tn (fS X) → (hb (aM (upN (upN A 17 K) 12 K2) (fS X) i k) y ↔ y = dg (tqn (fS X) i) row k ∧ hb (ftX X i k) y) := fun k k0 k1 y y0 y1 => by
            rw [hb_aM hn1 hn2 y0 y1, hb_ftX hn1 hn2 y0 y1, upN_at, hK2 k k0 k1, hb_bit (hdg k).1 (hdg k).2 y0 (by omega)]
          have hzb := zM_bd (X := X) (i := i) (al := aM (upN (upN A 17 K) 12 K2) (fS X) i) hn1 hn2 h66
          rw [e1]
          by_cases c6 : zM X i (aM (upN (upN A 17 K) 12 K2) (fS X) i) = 0
          · rw [c6]
            simp (disch := omega) only [if_true]
            refine Ok.pure ⟨X, ⟨F, A3, rfl, hB4⟩, rfl, Or.inr ⟨?_, rfl⟩⟩
            rintro ⟨g, -, p2, p3, p4⟩
            unfold zM at c6
            rw [zQ_any hw g, sQ_pins hn1 p2 (al := ftX X i) (tqn (fS X) i) h60 (Int.le_refl _) (fun k k0 k1 => ⟨p4 k k0 k1, fun y y0 y1 => by rw [p3 k k0 k1]; exact hpins k k0 k1 y y0 y1⟩), sQ_end (Int.le_refl _)] at c6
            omega
          · have hne : ¬ (J (zM X i (aM (upN (upN A 17 K) 12 K2) (fS X) i)) = J 0) := by rw [J_eq (by omega) (by omega) (by omega) (by omega)]; exact c6
            simp (disch := omega) only [if_neg hne, o8_cO]
            -- the row is right
            obtain ⟨g, hg, hgt⟩ : ∃ g : Int → Int, (∀ j, 0 ≤ g j ∧ g j < tn (fS X)) ∧ ∀ j, 0 ≤ dg (tqn (fS X) i) row j → dg (tqn (fS X) i) row j < tn (fS X) → g j = dg (tqn (fS X) i) row j := by
              refine ⟨fun j => if dg (tqn (fS X) i) row j < tn (fS X) then dg (tqn (fS X) i) row j else 0, fun j => ?_, fun j j0 j1 => if_pos j1⟩
              have := hdg j
              dsimp only
              split <;> omega
            have hPL := sQ_pinsAll (al := ftX X i) hw hn1 hg hgt hpins (by rw [← zQ_any hw g]; exact c6)
            refine Ok.bind (M_mayAll hl) ?_
            rintro m' ⟨K4, rfl, hK4⟩
            refine Ok.bind (P := fun t => t.1 = J (plV (tqn (fS X) i) (tnd (fS X) i) (tn (fS X)) (tlv (fS X)) (ftX X i) g) ∧ MP m a t.2 X) ?_ ?_
            · refine Ok.whl (fun j s => ∃ c A5, s = (J (Sm (fun c => Sm (wA (tqn (fS X) i) (tnd (fS X) i) (tn (fS X)) (tlv (fS X)) (ftX X i) g c) (ls (tnd (fS X) i) (tn (fS X)) (tlv (fS X)) g c) (g c)) 0 c), I c, ov m a (o8 a F A5)) ∧ 0 ≤ c ∧ c ≤ tqn (fS X) i ∧ j = (tqn (fS X) i - c).toNat ∧ MB F A5 X ∧ (∀ k, 0 ≤ k → k < tqn (fS X) i → A5 17 k = g k) ∧ (∀ k, 0 ≤ k → k < c → I (A5 12 k) = I 1 <<< (I (g k) &&& I 31)) ∧ ∀ k, c ≤ k → k < 6 → A5 12 k = -1) _ (j := (tqn (fS X) i - 0).toNat) ?_ ⟨0, _, by rw [Sm_nil (Int.le_refl _)], by omega, by omega, rfl, hB4.free (by omega) (by omega), fun k k0 k1 => by rw [upN_ne (by omega), e5 17 (by omega) (by omega) (by omega) (by omega), h17 K2 k k0 k1, hPL.2 k k0 k1], fun k k0 k1 => by omega, fun k k0 k1 => by rw [upN_at]; exact hK4 k k0 k1⟩ (FU_lt (by omega))
              rintro j s ⟨c, A5, rfl, c0, cQ, rfl, hB5, n17, n1, n2⟩
              dsimp only
              have ex5 := (hB5.2.1 i c1.1 c1.2).1
              unfold f_X8_place_L151
              by_cases d1 : tqn (fS X) i ≤ c
              · simp (disch := omega) only [o8_g7, o8_l7, ex5, I_add, I_sub, I_mul, I_neg, I_lt, I_le, I_eq, if_pos d1, Option.bind_some]
                refine Ok.pure (Or.inr ⟨_, rfl, ?_, F, A5, rfl, hB5⟩)
                rw [show c = tqn (fS X) i by omega]
                rfl
              · have hgc := hg c
                obtain ⟨zz, hzz, -, -⟩ := I_ex ((I 1 <<< (I (g c) &&& I 31)) - I 1)
                obtain ⟨z2, hz2, -, -⟩ := I_ex (I 1 <<< (I (g c) &&& I 31))
                simp (disch := omega) only [o8_g7, o8_l7, ex5, L0, L1, L2, L3, L4, L5, L6, L7, L8, L9, L10, L11, L12, L13, L14, L15, L16, L17, L18, L19, L20, L21, L22, L23, L24, L25, L26, L27, L31, L32, L33, L36, L40, L41, L42, L47, L48, L57, L58, L59, L60, L61, L62, L65, L97, L101, L102, L103, L120, L126, L127, L144, L245, L1023, L1715, I_add, I_sub, I_mul, I_neg, I_lt, I_le, I_eq, if_neg d1, o8_g13, o8_g18, o8_l17, n17, Option.bind_some]
                rw [hzz]
                simp (disch := omega) only [o8_s12, o8_cO, Option.bind_some]
                refine Ok.bind (M_cz (al := aM (upN A5 12 (upZ (A5 12) c zz)) (fS X) i) hl (hB5.free (by omega) (by omega)) c1.1 c1.2 (by omega) (fun _ _ _ _ _ _ => Iff.rfl)) ?_
                rintro ⟨v2, m'⟩ ⟨q1, A6, rfl, hB6, -, q5⟩
                dsimp only at q1 ⊢
                have h612 : A6 12 = upZ (A5 12) c zz := by rw [q5 12 (by omega) (by omega) (by omega) (by omega), upN_at]
                have n17' : ∀ k, 0 ≤ k → k < tqn (fS X) i → A6 17 k = g k := fun k k0 k1 => by rw [q5 17 (by omega) (by omega) (by omega) (by omega), upN_ne (by omega)]; exact n17 k k0 k1
                simp (disch := omega) only [o8_g13, o8_g18, o8_l17, n17', Option.bind_some]
                rw [hz2]
                simp (disch := omega) only [o8_s12, Option.bind_some]
                have hval : zM X i (aM (upN A5 12 (upZ (A5 12) c zz)) (fS X) i) = Sm (wA (tqn (fS X) i) (tnd (fS X) i) (tn (fS X)) (tlv (fS X)) (ftX X i) g c) (ls (tnd (fS X) i) (tn (fS X)) (tlv (fS X)) g c) (g c) := by
                  unfold zM
                  rw [zQ_any hw g]
                  refine sQ_ahead (al := ftX X i) hn1 hg c0 (by omega) (fun k k0 k1 => ⟨hPL.1 k k0 (by omega), fun y y0 y1 => ?_⟩) (fun y y0 y1 => ?_) (fun k y k0 k1 y0 y1 => ?_) (Int.le_of_lt (hPL.1 c c0 (by omega)).2.2.2)
                  · have := hg k
                    rw [hb_aM hn1 hn2 y0 y1, hb_ftX hn1 hn2 y0 y1, upN_at, upZ_ne (by omega), n1 k k0 k1, hb_bit (by omega) (by omega) y0 (by omega)]
                  · rw [hb_aM hn1 hn2 y0 y1, hb_ftX hn1 hn2 y0 y1, upN_at, upZ_at, ← hzz, hb_pre (by omega) (by omega) y0 (by omega)]
                  · rw [hb_aM hn1 hn2 y0 y1, hb_ftX hn1 hn2 y0 y1, upN_at, upZ_ne (by omega), n2 k (by omega) (by omega)]
                    exact ⟨fun z => z.2, fun z => ⟨hb_m1 (by omega), z⟩⟩
                rw [q1, hval, J_add]
                refine Ok.pure (Or.inl ⟨_, (tqn (fS X) i - (c + 1)).toNat, rfl, ⟨c + 1, _, by rw [Sm_succ c0], by omega, by omega, rfl, hB6.free (by omega) (by omega), fun k k0 k1 => by rw [upN_ne (by omega)]; exact n17' k k0 k1, fun k k0 k1 => ?_, fun k k0 k1 => ?_⟩, by omega⟩)
                · rw [upN_at]
                  by_cases z : k = c
                  · rw [z, upZ_at]; exact hz2.symm
                  · rw [upZ_ne z, h612, upZ_ne z]; exact n1 k k0 (by omega)
                · rw [upN_at, upZ_ne (by omega), h612, upZ_ne (by omega)]; exact n2 k (by omega) k1
            · rintro ⟨r, m'⟩ ⟨p1, p2⟩
              exact Ok.pure ⟨X, p2, rfl, Or.inl ⟨g, ⟨hrow, hg, hPL.2, hPL.1⟩, p1⟩⟩
    · simp only [if_neg (show ¬ ((0 ≤ i ∧ i < 4) ∧ 0 ≤ row) by omega)]
      simp (disch := omega) only [L0, L1, L2, L3, L4, L5, L6, L7, L8, L9, L10, L11, L12, L13, L14, L15, L16, L17, L18, L19, L20, L21, L22, L23, L24, L25, L26, L27, L31, L32, L33, L36, L40, L41, L42, L47, L48, L57, L58, L59, L60, L61, L62, L65, L97, L101, L102, L103, L120, L126, L127, L144, L245, L1023, L1715, J0, J1, J31, J32, J1716, I_add, I_sub, I_mul, I_neg, I_lt, I_le, I_eq, J_add, J_sub, J_mul, J_neg, J_lt, J_le, J_eq, Option.bind_some, if_pos, if_neg, if_true, if_false, ite_true, ite_false, o8_cO, if_neg c2]
      exact (M_badJ hl h).mono (fun t ht => ⟨_, ht.2, ht.1, rfl⟩)
  · simp only [if_neg (show ¬ ((0 ≤ i ∧ i < 4) ∧ 0 ≤ row) from fun z => c1 z.1)]
    rw [ind_f c1]
    simp (disch := omega) only [L0, L1, L2, L3, L4, L5, L6, L7, L8, L9, L10, L11, L12, L13, L14, L15, L16, L17, L18, L19, L20, L21, L22, L23, L24, L25, L26, L27, L31, L32, L33, L36, L40, L41, L42, L47, L48, L57, L58, L59, L60, L61, L62, L65, L97, L101, L102, L103, L120, L126, L127, L144, L245, L1023, L1715, I_add, I_sub, I_mul, I_neg, I_lt, I_le, I_eq, Option.bind_some, if_pos, if_neg, if_true, if_false, ite_true, ite_false, o8_cO]
    exact (M_badJ hl h).mono (fun t ht => ⟨_, ht.2, ht.1, rfl⟩)
end MPL
