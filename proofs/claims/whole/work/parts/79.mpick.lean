/-! ===== the reference: match, place ===== -/
theorem J_div {a b : Int} (h0 : 0 ≤ a) (h1 : a < 9223372036854775808) (h2 : 0 < b) (h3 : b < 9223372036854775808) : J a / J b = J (a / b) := by
  have hq : 0 ≤ a / b := Int.ediv_nonneg h0 (by omega)
  have hq2 : a / b ≤ a := Int.ediv_le_self _ h0
  apply Int64.toInt_inj.mp
  rw [Int64.toInt_div, J_toInt (by omega) h1, J_toInt (by omega) h3, J_toInt (by omega) (by omega), Int.tdiv_eq_ediv_of_nonneg h0]
  exact Int.bmod_eq_of_le (by omega) (by omega)
theorem J_rem32 {a : Int} (h0 : 0 ≤ a) (h1 : a < 9223372036854775808) : (J a - J a / J 32 * J 32).toInt32 = I (a % 32) := by
  rw [J_div h0 h1 (by omega) (by omega), J_mul, J_sub, J_I]
  congr 1
  omega
section MPK
variable {Q : Int} {nd : Int → Int → Int} {n : Int} {lv : Int → Int} {al al' : Int → Int32}
theorem PK_ok {g l : Int → Int} {q : Int} (h : PK Q nd n lv al g l q) : ∀ c, 0 ≤ c → c ≤ q → okF nd n lv al g c (g c) := by
  intro c c0 c1
  obtain ⟨h1, h2, h3, h4, -⟩ := h c c0 c1
  have : hb (al c) (g c) ∧ egF lv nd c (ga nd g c) (g c) := by
    by_cases z : hb (al c) (g c) ∧ egF lv nd c (ga nd g c) (g c)
    · exact z
    · unfold wA at h4
      rw [ind_f z, Int.zero_mul] at h4
      omega
  exact ⟨this.1, this.2, h1, h2⟩
theorem zQ_any (hw : WW Q nd) (g : Int → Int) : zQ Q nd n lv al = sQ Q nd n lv al 0 g := sQ_low hw 0 _ _ (Int.le_refl _) (fun k k0 k1 => by omega)
theorem zQ_pin (hw : WW Q nd) (hn1 : 1 ≤ n) {g : Int → Int} {c f : Int} (hg : ∀ j, 0 ≤ g j ∧ g j < n) (c0 : 0 ≤ c) (c1 : c < Q) (f0 : 0 ≤ f) (f1 : f < n) (hb1 : ∀ k, 0 ≤ k → k < c → okF nd n lv al g k (g k) ∧ ∀ y, 0 ≤ y → y < n → (hb (al' k) y ↔ y = g k ∧ hb (al k) y)) (hb2 : ∀ y, 0 ≤ y → y < n → (hb (al' c) y ↔ y = f ∧ hb (al c) y)) (hb3 : ∀ k y, c < k → k < Q → 0 ≤ y → y < n → (hb (al' k) y ↔ hb (al k) y)) : zQ Q nd n lv al' = ind (ls nd n lv g c ≤ f ∧ f < eE n lv (ga nd g c)) * wA Q nd n lv al g c f := by
  rw [zQ_any hw g, sQ_pins hn1 hg (al := al) c c0 (by omega) hb1, sQ_pin1 (al := al) (x := f) c1 hn1 hg hb2]
  rw [sQ_congr (al' := al) hn1 (c + 1) (upZ g c f) (upZ_rg hg f0 f1) (fun k x k0 k1 x0 x1 => hb3 k x (by omega) k1 x0 x1)]
  unfold wA
  by_cases z : ls nd n lv g c ≤ f ∧ f < eE n lv (ga nd g c)
  · rw [ind_t z, Int.one_mul]
    congr 1
    exact ind_congr ⟨fun q => ⟨q.1, q.2.1⟩, fun q => ⟨q.1, q.2, z.1, z.2⟩⟩
  · rw [ind_f z, Int.zero_mul, ind_f (fun q : okF nd n lv al g c f => z q.2.2), Int.zero_mul]
end MPK
section MPM
variable {m : Mm} {a : Nat} {F : Nat → Int} {A : Nat → Int → Int} {X : FS}
/-- the nodes before c are pinned to g, and c is x -/
theorem M_pin (hl : a + 25 < m.length) (h : MB F A X) {i c f : Int} {g : Int → Int} (i0 : 0 ≤ i) (i1 : i < 4) (c0 : 0 ≤ c) (c1 : c < tqn (fS X) i) (hg : ∀ j, 0 ≤ g j ∧ g j < tn (fS X)) (f0 : 0 ≤ f) (f1 : f < tn (fS X)) (hok : ∀ k, 0 ≤ k → k < c → okF (tnd (fS X) i) (tn (fS X)) (tlv (fS X)) (ftX X i) g k (g k)) (hA1 : ∀ k, 0 ≤ k → k < c → I (A 12 k) = I 1 <<< (I (g k) &&& I 31)) (hA2 : I (A 12 c) = I 1 <<< (I f &&& I 31)) (hA3 : ∀ k, c < k → k < 6 → A 12 k = -1) : Ok (f_X8_counts (ov m a (o8 a F A)) a (I i)) (fun t => t.1 = J (ind (ls (tnd (fS X) i) (tn (fS X)) (tlv (fS X)) g c ≤ f ∧ f < eE (tn (fS X)) (tlv (fS X)) (ga (tnd (fS X) i) g c)) * wA (tqn (fS X) i) (tnd (fS X) i) (tn (fS X)) (tlv (fS X)) (ftX X i) g c f) ∧ ∃ A', t.2 = ov m a (o8 a F A') ∧ MB F A' X ∧ A' 12 = A 12) := by
  have hw := (h.2.1 i i0 i1).2.1
  have h6 := hw.2.1
  have hn1 := h.1.2.1.1
  have hn2 := h.1.2.1.2.1
  refine (M_cz (al := aM A (fS X) i) hl h i0 i1 (by omega) (fun _ _ _ _ _ _ => Iff.rfl)).mono ?_
  rintro ⟨v, m'⟩ ⟨e1, A', e2, e3, -, e5⟩
  refine ⟨?_, A', e2, e3, e5 12 (by omega) (by omega) (by omega) (by omega)⟩
  rw [e1]
  unfold zM
  rw [zQ_pin (al := ftX X i) hw hn1 hg c0 c1 f0 f1 (fun k k0 k1 => ⟨hok k k0 k1, fun y y0 y1 => ?_⟩) (fun y y0 y1 => ?_) (fun k y k0 k1 y0 y1 => ?_)]
  · have := hg k
    rw [hb_aM hn1 hn2 y0 y1, hb_ftX hn1 hn2 y0 y1, hA1 k k0 k1, hb_bit (by omega) (by omega) y0 (by omega)]
  · rw [hb_aM hn1 hn2 y0 y1, hb_ftX hn1 hn2 y0 y1, hA2, hb_bit (by omega) (by omega) y0 (by omega)]
  · rw [hb_aM hn1 hn2 y0 y1, hb_ftX hn1 hn2 y0 y1, hA3 k k0 (by omega)]
    exact ⟨fun z => z.2, fun z => ⟨hb_m1 (by omega), z⟩⟩
theorem M_match (hl : a + 25 < m.length) (h : MB F A X) {i j q : Int} (h1 : -2147483648 ≤ i) (h2 : i < 2147483648) (h3 : -2147483648 ≤ q) (h4 : q < 2147483648) (h5 : -9223372036854775808 ≤ j) (h6 : j < 9223372036854775808) : Ok (f_X8_match (ov m a (o8 a F A)) a (I i) (J j) (I q)) (fun t => ∃ X', MP m a t.2 X' ∧ SMatch X i j q t.1 X') := by
  unfold f_X8_match SMatch
  simp only [N_isTwig h1 h2, Option.bind_some]
  by_cases c1 : 0 ≤ i ∧ i < 4
  · rw [ind_t c1]
    obtain ⟨ex1, ex, -⟩ := h.2.1 i c1.1 c1.2
    have h60 := ex.1
    have h66 := ex.2.1
    have hn1 := h.1.2.1.1
    have hn2 := h.1.2.1.2.1
    by_cases c2 : j < 0
    · simp only [if_neg (show ¬ ((0 ≤ i ∧ i < 4) ∧ 0 ≤ q ∧ 0 ≤ j) by omega)]
      simp (disch := omega) only [L0, L1, L2, L3, L4, L5, L6, L7, L8, L9, L10, L11, L12, L13, L14, L15, L16, L17, L18, L19, L20, L21, L22, L23, L24, L25, L26, L27, L31, L32, L33, L36, L40, L41, L42, L47, L48, L57, L58, L59, L60, L61, L62, L65, L97, L101, L102, L103, L120, L126, L127, L144, L245, L1023, L1715, J0, J1, J31, J32, J1716, I_add, I_sub, I_mul, I_neg, I_lt, I_le, I_eq, J_add, J_sub, J_mul, J_neg, J_lt, J_le, J_eq, Option.bind_some, if_pos, if_neg, if_true, if_false, ite_true, ite_false, o8_cO, if_pos c2]
      exact (M_badR hl h).mono (fun t ht => ⟨_, ht.2, ht.1, rfl⟩)
    · by_cases c3 : 0 ≤ q
      · simp only [if_pos (show (0 ≤ i ∧ i < 4) ∧ 0 ≤ q ∧ 0 ≤ j by omega)]
        by_cases c4 : q < tqn (fS X) i
        · simp only [if_pos c4]
          simp (disch := omega) only [L0, L1, L2, L3, L4, L5, L6, L7, L8, L9, L10, L11, L12, L13, L14, L15, L16, L17, L18, L19, L20, L21, L22, L23, L24, L25, L26, L27, L31, L32, L33, L36, L40, L41, L42, L47, L48, L57, L58, L59, L60, L61, L62, L65, L97, L101, L102, L103, L120, L126, L127, L144, L245, L1023, L1715, J0, J1, J31, J32, J1716, I_add, I_sub, I_mul, I_neg, I_lt, I_le, I_eq, J_add, J_sub, J_mul, J_neg, J_lt, J_le, J_eq, Option.bind_some, if_pos, if_neg, if_true, if_false, ite_true, ite_false, o8_cO, if_neg c2, if_pos c3, if_pos c4, o8_g7, o8_l7, ex1]
          refine Ok.bind (M_matchesOf hl h c1.1 c1.2 (by omega)) ?_
          rintro ⟨v, m'⟩ ⟨e1, A1, rfl, e3, e4, e5, -⟩
          dsimp only at e1 ⊢
          have hz := zM_bd (X := X) (i := i) (al := ftX X i) hn1 hn2 h66
          rw [e1]
          by_cases c5 : j < zM X i (ftX X i)
          · simp (disch := omega) only [J_add, J_sub, J_mul, J_neg, J_lt, J_le, J_eq, if_pos c5]
            refine Ok.bind (P := fun t => MP m a t.2 X ∧ ∃ g l : Int → Int, l 0 = j ∧ PK (tqn (fS X) i) (tnd (fS X) i) (tn (fS X)) (tlv (fS X)) (ftX X i) g l q ∧ t.1 = I (g q)) ?_ ?_
            · refine Ok.whl (fun jj s => ∃ c left fd g l A', s = (J left, I fd, I c, ov m a (o8 a F A')) ∧ 0 ≤ c ∧ c ≤ q + 1 ∧ jj = (q + 1 - c).toNat ∧ MB F A' X ∧ (∀ k, 0 ≤ g k ∧ g k < tn (fS X)) ∧ l 0 = j ∧ l c = left ∧ 0 ≤ left ∧ left < sQ (tqn (fS X) i) (tnd (fS X) i) (tn (fS X)) (tlv (fS X)) (ftX X i) c g ∧ PK (tqn (fS X) i) (tnd (fS X) i) (tn (fS X)) (tlv (fS X)) (ftX X i) g l (c - 1) ∧ (0 < c → fd = g (c - 1)) ∧ (∀ k, 0 ≤ k → k < c → I (A' 12 k) = I 1 <<< (I (g k) &&& I 31)) ∧ ∀ k, c ≤ k → k < 6 → A' 12 k = -1) _ (j := (q + 1 - 0).toNat) ?_ ⟨0, j, -1, fun _ => 0, fun _ => j, A1, rfl, by omega, by omega, rfl, e3, fun k => ⟨Int.le_refl 0, show (0 : Int) < _ by omega⟩, rfl, rfl, by omega, c5, fun c c0 c1 => by omega, fun z => by omega, fun k k0 k1 => by omega, fun k k0 k1 => e5 k k0 k1⟩ (FU_lt (by omega))
              rintro jj s ⟨c, left, fd, g, l, A2, rfl, c0, cq, rfl, hB2, hg, hl0, hlc, lf0, lf1, hP, hfd, hm1, hm2⟩
              dsimp only
              unfold f_X8_match_L60
              by_cases d1 : q < c
              · simp (disch := omega) only [I_add, I_sub, I_mul, I_neg, I_lt, I_le, I_eq, if_pos d1]
                have hcq : c - 1 = q := by omega
                rw [hcq] at hP
                exact Ok.pure (Or.inr ⟨_, rfl, ⟨F, A2, rfl, hB2⟩, g, l, hl0, hP, by show I fd = _; rw [hfd (by omega), hcq]⟩)
              · have hgg := ga_ge (nd := tnd (fS X) i) hg c hn1
                have hee := eE_in (lv := tlv (fS X)) hgg.1 hgg.2
                have hls0 := ls_ge (nd := tnd (fS X) i) (lv := tlv (fS X)) hn1 hg c
                have hok := PK_ok hP
                have hQc := sQ_le (Q := tqn (fS X) i) (nd := tnd (fS X) i) (lv := tlv (fS X)) (al := ftX X i) hn1 hn2 c g hg
                have hpw := pow6 (show (tqn (fS X) i - c).toNat ≤ 6 by omega)
                have hsw := sQ_wA (nd := tnd (fS X) i) (n := tn (fS X)) (lv := tlv (fS X)) (al := ftX X i) (g := g) (show c < tqn (fS X) i by omega)
                have hlt : ls (tnd (fS X) i) (tn (fS X)) (tlv (fS X)) g c < eE (tn (fS X)) (tlv (fS X)) (ga (tnd (fS X) i) g c) := by
                  by_cases z : ls (tnd (fS X) i) (tn (fS X)) (tlv (fS X)) g c < eE (tn (fS X)) (tlv (fS X)) (ga (tnd (fS X) i) g c)
                  · exact z
                  · rw [Sm_nil (by omega)] at hsw; omega
                have bit0 : I 1 = I 1 <<< (I 0 &&& I 31) := by decide
                -- a count with c pinned
                have cnt : ∀ (A3 : Nat → Int → Int) (f : Int), MB F A3 X → 0 ≤ f → f < tn (fS X) → (∀ k, 0 ≤ k → k < c → A3 12 k = A2 12 k) → I (A3 12 c) = I 1 <<< (I f &&& I 31) → (∀ k, c < k → k < 6 → A3 12 k = A2 12 k) → Ok (f_X8_counts (ov m a (o8 a F A3)) a (I i)) (fun t => t.1 = J (ind (ls (tnd (fS X) i) (tn (fS X)) (tlv (fS X)) g c ≤ f ∧ f < eE (tn (fS X)) (tlv (fS X)) (ga (tnd (fS X) i) g c)) * wA (tqn (fS X) i) (tnd (fS X) i) (tn (fS X)) (tlv (fS X)) (ftX X i) g c f) ∧ ∃ A', t.2 = ov m a (o8 a F A') ∧ MB F A' X ∧ A' 12 = A3 12) := fun A3 f hB3 f0 f1 g1 g2 g3 => M_pin hl hB3 c1.1 c1.2 c0 (by omega) hg f0 f1 (fun k k0 k1 => hok k k0 (by omega)) (fun k k0 k1 => by rw [g1 k k0 k1]; exact hm1 k k0 k1) g2 (fun k k0 k1 => by rw [g3 k k0 k1]; exact hm2 k (by omega) k1)
                simp (disch := omega) only [L0, L1, L2, L3, L4, L5, L6, L7, L8, L9, L10, L11, L12, L13, L14, L15, L16, L17, L18, L19, L20, L21, L22, L23, L24, L25, L26, L27, L31, L32, L33, L36, L40, L41, L42, L47, L48, L57, L58, L59, L60, L61, L62, L65, L97, L101, L102, L103, L120, L126, L127, L144, L245, L1023, L1715, I_add, I_sub, I_mul, I_neg, I_lt, I_le, I_eq, if_neg d1, o8_g13, o8_s12, o8_cO, Option.bind_some]
                refine Ok.bind (cnt _ 0 (hB2.free (k := 12) (by omega) (by omega)) (Int.le_refl _) (by omega) (fun k k0 k1 => by rw [upN_at, upZ_ne (by omega)]) (by rw [upN_at, upZ_at]; exact bit0) (fun k k0 k1 => by rw [upN_at, upZ_ne (by omega)])) ?_
                rintro ⟨its, m'⟩ ⟨t1, A3, rfl, hB3, h12⟩
                dsimp only at t1 ⊢
                rw [t1]
                refine Ok.bind (P := fun t => ∃ f l' A4, t = (J l', I f, ov m a (o8 a F A4)) ∧ MB F A4 X ∧ ls (tnd (fS X) i) (tn (fS X)) (tlv (fS X)) g c ≤ f ∧ f < eE (tn (fS X)) (tlv (fS X)) (ga (tnd (fS X) i) g c) ∧ 0 ≤ l' ∧ l' < wA (tqn (fS X) i) (tnd (fS X) i) (tn (fS X)) (tlv (fS X)) (ftX X i) g c f ∧ left = Sm (wA (tqn (fS X) i) (tnd (fS X) i) (tn (fS X)) (tlv (fS X)) (ftX X i) g c) (ls (tnd (fS X) i) (tn (fS X)) (tlv (fS X)) g c) f + l' ∧ (∀ k, 0 ≤ k → k < c → A4 12 k = A2 12 k) ∧ I (A4 12 c) = I 1 <<< (I f &&& I 31) ∧ ∀ k, c < k → k < 6 → A4 12 k = A2 12 k) ?_ ?_
                · refine Ok.whl (fun jj s => ∃ f l' A4, s = (J l', I f, J (ind (ls (tnd (fS X) i) (tn (fS X)) (tlv (fS X)) g c ≤ f ∧ f < eE (tn (fS X)) (tlv (fS X)) (ga (tnd (fS X) i) g c)) * wA (tqn (fS X) i) (tnd (fS X) i) (tn (fS X)) (tlv (fS X)) (ftX X i) g c f), ov m a (o8 a F A4)) ∧ MB F A4 X ∧ 0 ≤ f ∧ f < eE (tn (fS X)) (tlv (fS X)) (ga (tnd (fS X) i) g c) ∧ jj = (eE (tn (fS X)) (tlv (fS X)) (ga (tnd (fS X) i) g c) - f).toNat ∧ 0 ≤ l' ∧ left = Sm (wA (tqn (fS X) i) (tnd (fS X) i) (tn (fS X)) (tlv (fS X)) (ftX X i) g c) (ls (tnd (fS X) i) (tn (fS X)) (tlv (fS X)) g c) f + l' ∧ (∀ k, 0 ≤ k → k < c → A4 12 k = A2 12 k) ∧ I (A4 12 c) = I 1 <<< (I f &&& I 31) ∧ ∀ k, c < k → k < 6 → A4 12 k = A2 12 k) _ (j := (eE (tn (fS X)) (tlv (fS X)) (ga (tnd (fS X) i) g c) - 0).toNat) ?_ ⟨0, left, A3, rfl, hB3, by omega, by omega, rfl, lf0, by rw [Sm_nil hls0]; omega, fun k k0 k1 => by rw [h12, upN_at, upZ_ne (by omega)], by rw [h12, upN_at, upZ_at]; exact bit0, fun k k0 k1 => by rw [h12, upN_at, upZ_ne (by omega)]⟩ (FU_lt (by omega))
                  rintro jj s ⟨f, l', A4, rfl, hB4, f0, f1, rfl, l0, l2, n1, n2, n3⟩
                  dsimp only
                  unfold f_X8_match_L85
                  have hnn : 0 ≤ wA (tqn (fS X) i) (tnd (fS X) i) (tn (fS X)) (tlv (fS X)) (ftX X i) g c f := wA_nn
                  by_cases zf : ls (tnd (fS X) i) (tn (fS X)) (tlv (fS X)) g c ≤ f
                  · rw [ind_t (show ls (tnd (fS X) i) (tn (fS X)) (tlv (fS X)) g c ≤ f ∧ f < eE (tn (fS X)) (tlv (fS X)) (ga (tnd (fS X) i) g c) from ⟨zf, f1⟩), Int.one_mul]
                    have hfr := Sm_front (f := wA (tqn (fS X) i) (tnd (fS X) i) (tn (fS X)) (tlv (fS X)) (ftX X i) g c) f1
                    have hnn2 : 0 ≤ Sm (wA (tqn (fS X) i) (tnd (fS X) i) (tn (fS X)) (tlv (fS X)) (ftX X i) g c) (f + 1) (eE (tn (fS X)) (tlv (fS X)) (ga (tnd (fS X) i) g c)) := Sm_nonneg (fun _ _ _ => wA_nn)
                    have hnn3 : 0 ≤ Sm (wA (tqn (fS X) i) (tnd (fS X) i) (tn (fS X)) (tlv (fS X)) (ftX X i) g c) (ls (tnd (fS X) i) (tn (fS X)) (tlv (fS X)) g c) f := Sm_nonneg (fun _ _ _ => wA_nn)
                    have hsp := Sm_split (f := wA (tqn (fS X) i) (tnd (fS X) i) (tn (fS X)) (tlv (fS X)) (ftX X i) g c) zf (show f ≤ eE (tn (fS X)) (tlv (fS X)) (ga (tnd (fS X) i) g c) by omega)
                    by_cases e2 : l' < wA (tqn (fS X) i) (tnd (fS X) i) (tn (fS X)) (tlv (fS X)) (ftX X i) g c f
                    · simp (disch := omega) only [J_add, J_sub, J_mul, J_neg, J_lt, J_le, J_eq, if_pos e2]
                      exact Ok.pure (Or.inr ⟨_, rfl, f, l', A4, rfl, hB4, zf, f1, l0, e2, l2, n1, n2, n3⟩)
                    · have hf2 : f + 1 < eE (tn (fS X)) (tlv (fS X)) (ga (tnd (fS X) i) g c) := by
                        by_cases z : f + 1 < eE (tn (fS X)) (tlv (fS X)) (ga (tnd (fS X) i) g c)
                        · exact z
                        · rw [Sm_nil (lo := f + 1) (by omega)] at hfr
                          omega
                      obtain ⟨zz, hzz, -, -⟩ := I_ex (I 1 <<< (I (f + 1) &&& I 31))
                      simp (disch := omega) only [L0, L1, L2, L3, L4, L5, L6, L7, L8, L9, L10, L11, L12, L13, L14, L15, L16, L17, L18, L19, L20, L21, L22, L23, L24, L25, L26, L27, L31, L32, L33, L36, L40, L41, L42, L47, L48, L57, L58, L59, L60, L61, L62, L65, L97, L101, L102, L103, L120, L126, L127, L144, L245, L1023, L1715, I_add, I_sub, I_mul, I_neg, I_lt, I_le, I_eq, J_add, J_sub, J_mul, J_neg, J_lt, J_le, J_eq, if_neg e2, o8_g13, Option.bind_some]
                      rw [hzz]
                      simp (disch := omega) only [o8_s12, o8_cO, Option.bind_some]
                      refine Ok.bind (cnt _ (f + 1) (hB4.free (k := 12) (by omega) (by omega)) (by omega) (by omega) (fun k k0 k1 => by rw [upN_at, upZ_ne (by omega)]; exact n1 k k0 k1) (by rw [upN_at, upZ_at]; exact hzz.symm) (fun k k0 k1 => by rw [upN_at, upZ_ne (by omega)]; exact n3 k k0 k1)) ?_
                      rintro ⟨its, m'⟩ ⟨t1, A5, rfl, hB5, h125⟩
                      dsimp only at t1 ⊢
                      rw [t1]
                      refine Ok.pure (Or.inl ⟨_, (eE (tn (fS X)) (tlv (fS X)) (ga (tnd (fS X) i) g c) - (f + 1)).toNat, rfl, ⟨f + 1, _, A5, rfl, hB5, by omega, hf2, rfl, by omega, ?_, fun k k0 k1 => by rw [h125, upN_at, upZ_ne (by omega)]; exact n1 k k0 k1, by rw [h125, upN_at, upZ_at]; exact hzz.symm, fun k k0 k1 => by rw [h125, upN_at, upZ_ne (by omega)]; exact n3 k k0 k1⟩, by omega⟩)
                      rw [Sm_succ zf]; omega
                  · rw [ind_f (show ¬ (ls (tnd (fS X) i) (tn (fS X)) (tlv (fS X)) g c ≤ f ∧ f < eE (tn (fS X)) (tlv (fS X)) (ga (tnd (fS X) i) g c)) from fun z => zf z.1), Int.zero_mul]
                    rw [Sm_nil (by omega)] at l2
                    obtain ⟨zz, hzz, -, -⟩ := I_ex (I 1 <<< (I (f + 1) &&& I 31))
                    simp (disch := omega) only [L0, L1, L2, L3, L4, L5, L6, L7, L8, L9, L10, L11, L12, L13, L14, L15, L16, L17, L18, L19, L20, L21, L22, L23, L24, L25, L26, L27, L31, L32, L33, L36, L40, L41, L42, L47, L48, L57, L58, L59, L60, L61, L62, L65, L97, L101, L102, L103, L120, L126, L127, L144, L245, L1023, L1715, I_add, I_sub, I_mul, I_neg, I_lt, I_le, I_eq, J_add, J_sub, J_mul, J_neg, J_lt, J_le, J_eq, if_neg (show ¬ l' < 0 by omega), o8_g13, Option.bind_some]
                    rw [hzz]
                    simp (disch := omega) only [o8_s12, o8_cO, Option.bind_some]
                    refine Ok.bind (cnt _ (f + 1) (hB4.free (k := 12) (by omega) (by omega)) (by omega) (by omega) (fun k k0 k1 => by rw [upN_at, upZ_ne (by omega)]; exact n1 k k0 k1) (by rw [upN_at, upZ_at]; exact hzz.symm) (fun k k0 k1 => by rw [upN_at, upZ_ne (by omega)]; exact n3 k k0 k1)) ?_
                    rintro ⟨its, m'⟩ ⟨t1, A5, rfl, hB5, h125⟩
                    dsimp only at t1 ⊢
                    rw [t1]
                    refine Ok.pure (Or.inl ⟨_, (eE (tn (fS X)) (tlv (fS X)) (ga (tnd (fS X) i) g c) - (f + 1)).toNat, rfl, ⟨f + 1, _, A5, rfl, hB5, by omega, by omega, rfl, by omega, by rw [Sm_nil (by omega)]; omega, fun k k0 k1 => by rw [h125, upN_at, upZ_ne (by omega)]; exact n1 k k0 k1, by rw [h125, upN_at, upZ_at]; exact hzz.symm, fun k k0 k1 => by rw [h125, upN_at, upZ_ne (by omega)]; exact n3 k k0 k1⟩, by omega⟩)
                · rintro ⟨l'', f'', m''⟩ ⟨f, l', A4, he, hB4, f0, f1, l0, l1, l2, n1, n2, n3⟩
                  obtain ⟨rfl, he2⟩ := Prod.mk.inj he
                  obtain ⟨rfl, rfl⟩ := Prod.mk.inj he2
                  dsimp only
                  refine Ok.pure (Or.inl ⟨_, (q + 1 - (c + 1)).toNat, rfl, ⟨c + 1, l', f, upZ g c f, upZ l (c + 1) l', A4, rfl, by omega, by omega, rfl, hB4, upZ_rg hg (by omega) (by omega), by rw [upZ_ne (by omega)]; exact hl0, upZ_at, l0, ?_, ?_, fun _ => by rw [show c + 1 - 1 = c by omega, upZ_at], fun k k0 k1 => ?_, fun k k0 k1 => by rw [n3 k (by omega) k1]; exact hm2 k (by omega) k1⟩, by omega⟩)
                  · refine Int.lt_of_lt_of_le l1 ?_
                    unfold wA
                    have g1 := @ind_le (hb (ftX X i c) f ∧ egF (tlv (fS X)) (tnd (fS X) i) c (ga (tnd (fS X) i) g c) f) _
                    have g2 := sQ_nn (Q := tqn (fS X) i) (nd := tnd (fS X) i) (n := tn (fS X)) (lv := tlv (fS X)) (al := ftX X i) (c + 1) (upZ g c f)
                    have := Int.mul_le_mul_of_nonneg_right g1 g2
                    omega
                  · rw [show c + 1 - 1 = c by omega]
                    exact PK_ext ex hP c0 (by omega) f0 f1 l0 l1 (by rw [hlc]; exact l2)
                  · by_cases z : k = c
                    · rw [z, upZ_at]; exact n2
                    · rw [upZ_ne z, n1 k k0 (by omega)]; exact hm1 k k0 (by omega)
            · rintro ⟨r, m'⟩ ⟨p1, g, l, p2, p3, p4⟩
              exact Ok.pure ⟨X, p1, rfl, Or.inr ⟨c5, g, l, p2, p3, p4⟩⟩
          · simp (disch := omega) only [J_add, J_sub, J_mul, J_neg, J_lt, J_le, J_eq, if_neg c5]
            exact Ok.pure ⟨X, ⟨F, A1, rfl, e3⟩, rfl, Or.inl ⟨by omega, rfl⟩⟩
        · simp only [if_neg c4]
          simp (disch := omega) only [L0, L1, L2, L3, L4, L5, L6, L7, L8, L9, L10, L11, L12, L13, L14, L15, L16, L17, L18, L19, L20, L21, L22, L23, L24, L25, L26, L27, L31, L32, L33, L36, L40, L41, L42, L47, L48, L57, L58, L59, L60, L61, L62, L65, L97, L101, L102, L103, L120, L126, L127, L144, L245, L1023, L1715, J0, J1, J31, J32, J1716, I_add, I_sub, I_mul, I_neg, I_lt, I_le, I_eq, J_add, J_sub, J_mul, J_neg, J_lt, J_le, J_eq, Option.bind_some, if_pos, if_neg, if_true, if_false, ite_true, ite_false, o8_cO, if_neg c2, if_pos c3, if_neg c4, o8_g7, o8_l7, ex1]
          exact (M_noR hl h).mono (fun t ht => ⟨_, ht.2, ht.1, rfl⟩)
      · simp only [if_neg (show ¬ ((0 ≤ i ∧ i < 4) ∧ 0 ≤ q ∧ 0 ≤ j) by omega)]
        simp (disch := omega) only [L0, L1, L2, L3, L4, L5, L6, L7, L8, L9, L10, L11, L12, L13, L14, L15, L16, L17, L18, L19, L20, L21, L22, L23, L24, L25, L26, L27, L31, L32, L33, L36, L40, L41, L42, L47, L48, L57, L58, L59, L60, L61, L62, L65, L97, L101, L102, L103, L120, L126, L127, L144, L245, L1023, L1715, J0, J1, J31, J32, J1716, I_add, I_sub, I_mul, I_neg, I_lt, I_le, I_eq, J_add, J_sub, J_mul, J_neg, J_lt, J_le, J_eq, Option.bind_some, if_pos, if_neg, if_true, if_false, ite_true, ite_false, o8_cO, if_neg c2, if_neg c3]
        exact (M_badR hl h).mono (fun t ht => ⟨_, ht.2, ht.1, rfl⟩)
  · simp only [if_neg (show ¬ ((0 ≤ i ∧ i < 4) ∧ 0 ≤ q ∧ 0 ≤ j) from fun z => c1 z.1)]
    rw [ind_f c1]
    simp (disch := omega) only [L0, L1, L2, L3, L4, L5, L6, L7, L8, L9, L10, L11, L12, L13, L14, L15, L16, L17, L18, L19, L20, L21, L22, L23, L24, L25, L26, L27, L31, L32, L33, L36, L40, L41, L42, L47, L48, L57, L58, L59, L60, L61, L62, L65, L97, L101, L102, L103, L120, L126, L127, L144, L245, L1023, L1715, I_add, I_sub, I_mul, I_neg, I_lt, I_le, I_eq, Option.bind_some, if_pos, if_neg, if_true, if_false, ite_true, ite_false, o8_cO]
    exact (M_badR hl h).mono (fun t ht => ⟨_, ht.2, ht.1, rfl⟩)
end MPM
