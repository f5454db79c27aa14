/-! ===== the reference: found, ways ===== -/
section MFD
variable {m : Mm} {a : Nat} {F : Nat → Int} {A : Nat → Int → Int} {X : FS}
theorem bs_ext {p p' : Int → Prop} [DecidablePred p] [DecidablePred p'] {n : Int} (hn0 : 0 ≤ n) (hn : n ≤ 32) (h : ∀ k, 0 ≤ k → k < n → (p k ↔ p' k)) : bs p n.toNat = bs p' n.toNat := by
  apply hb_ext
  intro k k0 k1
  rw [hb_bs (by omega) k0 k1, hb_bs (by omega) k0 k1]
  constructor
  · exact fun z => ⟨z.1, (h k k0 (by omega)).mp z.2⟩
  · exact fun z => ⟨z.1, (h k k0 (by omega)).mpr z.2⟩
theorem zM_sum {i : Int} {al : Int → Int32} {W : Int → Int → Int} (hw : WW (tqn (fS X) i) (tnd (fS X) i)) (hn1 : 1 ≤ tn (fS X)) (hQ : 1 ≤ tqn (fS X) i) (hI : IsW (tqn (fS X) i) (tnd (fS X) i) (tn (fS X)) (tlv (fS X)) al W) : zM X i al = Sm (fun e => W 0 e) 0 (tn (fS X)) := by
  unfold zM zQ
  exact sQ_all hw hQ hn1 hI (fun j => ⟨Int.le_refl 0, show (0 : Int) < _ by omega⟩)
theorem M_found (hl : a + 25 < m.length) (h : MB F A X) {i q : Int} {r : Int32} {X' : FS} (h1 : -2147483648 ≤ i) (h2 : i < 2147483648) (h3 : -2147483648 ≤ q) (h4 : q < 2147483648) (hS : SFound X i q r X') : Ok (f_X8_found (ov m a (o8 a F A)) a (I i) (I q)) (fun t => t.1 = r ∧ MP m a t.2 X') := by
  unfold f_X8_found
  simp only [N_isTwig h1 h2, Option.bind_some]
  unfold SFound at hS
  by_cases c1 : 0 ≤ i ∧ i < 4
  · rw [ind_t c1]
    obtain ⟨ex1, hw, -⟩ := h.2.1 i c1.1 c1.2
    have h60 := hw.1
    have h66 := hw.2.1
    have hn1 := h.1.2.1.1
    have hn2 := h.1.2.1.2.1
    by_cases c2 : 0 ≤ q
    · rw [if_pos (show (0 ≤ i ∧ i < 4) ∧ 0 ≤ q from ⟨c1, c2⟩)] at hS
      by_cases c3 : q < tqn (fS X) i
      · rw [if_pos c3] at hS
        obtain ⟨rfl, W, P, hI, hP, rfl⟩ := hS
        simp (disch := omega) only [L0, L1, L2, L3, L4, L5, L6, L7, L8, L9, L10, L11, L12, L13, L14, L15, L16, L17, L18, L19, L20, L21, L22, L23, L24, L25, L26, L27, L31, L32, L33, L36, L40, L41, L42, L47, L48, L57, L58, L59, L60, L61, L62, L65, L97, L101, L102, L103, L120, L126, L127, L144, L245, L1023, L1715, I_add, I_sub, I_mul, I_neg, I_lt, I_le, I_eq, Option.bind_some, if_pos, if_neg, if_true, if_false, ite_true, ite_false, o8_g7, o8_l7, ex1, o8_cO, if_pos c2, if_pos c3]
        refine Ok.bind (P := fun t => t.1 = bs (fun x => P q x ≠ 0) (tn (fS X')).toNat ∧ MP m a t.2 X') ?_ (fun t ht => Ok.pure ht)
        refine Ok.whl (fun j s => ∃ e A', s = (bs (fun x => 0 < zM X' i (pnS (tn (fS X')) (ttg (fS X')) (tvl (fS X')) (tnd (fS X') i) q x)) e.toNat, I e, ov m a (o8 a F A')) ∧ 0 ≤ e ∧ e ≤ tn (fS X') ∧ j = (tn (fS X') - e).toNat ∧ MB F A' X') _ (j := (tn (fS X') - 0).toNat) ?_ ⟨0, A, rfl, by omega, by omega, rfl, h⟩ (FU_lt (by omega))
        rintro j s ⟨e, A1, rfl, e0, e1, rfl, hB⟩
        dsimp only
        have hF1 := hB.1.1
        unfold f_X8_found_L40
        by_cases d1 : tn (fS X') ≤ e
        · simp (disch := omega) only [o8_g1, hF1, I_add, I_sub, I_mul, I_neg, I_lt, I_le, I_eq, if_pos d1, Option.bind_some]
          refine Ok.pure (Or.inr ⟨_, rfl, ?_, F, A1, rfl, hB⟩)
          rw [show e = tn (fS X') by omega]
          refine bs_ext (by omega) hn2 (fun k k0 k1 => ?_)
          -- a path reaches k just if it is found
          obtain ⟨A2, hW2⟩ : ∃ W', IsW (tqn (fS X') i) (tnd (fS X') i) (tn (fS X')) (tlv (fS X')) (pnS (tn (fS X')) (ttg (fS X')) (tvl (fS X')) (tnd (fS X') i) q k) W' := by
            obtain ⟨t, -, -, A', -, -, t5, -⟩ := M_cz (m := m) (al := pnS (tn (fS X')) (ttg (fS X')) (tvl (fS X')) (tnd (fS X') i) q k) hl (h.free (k := 12) (K := fun k' => if k' = q then (I 1 <<< (I k &&& I 31)).toInt else -1) (by omega) (by omega)) c1.1 c1.2 (by omega) (fun k' x k0' k1' x0 x1 => by
              rw [hb_aM hn1 hn2 x0 x1, upN_at]
              unfold pnS
              rw [hb_bsn (by omega) hn2 x0 x1]
              by_cases y : k' = q
              · rw [if_pos y, I_self, hb_bit k0 (by omega) x0 (by omega)]
                exact ⟨fun t => ⟨t.2, Or.inr t.1⟩, fun t => ⟨t.2.elim (fun s => absurd y s) id, t.1⟩⟩
              · rw [if_neg y]
                exact ⟨fun t => ⟨t.2, Or.inl y⟩, fun t => ⟨hb_m1 (by omega), t.1⟩⟩)
            exact ⟨_, t5⟩
          rw [zM_sum hw hn1 (by omega) hW2]
          refine found_iff hw hn1 hn2 c2 c3 k0 k1 (fun k' y k0' k1' y0 y1 => ?_) hI hW2 hP
          unfold pnS
          rw [hb_bsn (by omega) hn2 y0 y1, hb_ftX hn1 hn2 y0 y1]
        · simp (disch := omega) only [o8_g1, hF1, L0, L1, L2, L3, L4, L5, L6, L7, L8, L9, L10, L11, L12, L13, L14, L15, L16, L17, L18, L19, L20, L21, L22, L23, L24, L25, L26, L27, L31, L32, L33, L36, L40, L41, L42, L47, L48, L57, L58, L59, L60, L61, L62, L65, L97, L101, L102, L103, L120, L126, L127, L144, L245, L1023, L1715, I_add, I_sub, I_mul, I_neg, I_lt, I_le, I_eq, if_neg d1, o8_cO, Option.bind_some]
          refine Ok.bind (M_partOf hl hB c1.1 c1.2 c2 c3 e0 (by omega)) ?_
          rintro ⟨v, m'⟩ ⟨e3, A2, rfl, hB2⟩
          dsimp only at e3 ⊢
          have hz := zM_bd (X := X') (i := i) (al := pnS (tn (fS X')) (ttg (fS X')) (tvl (fS X')) (tnd (fS X') i) q e) hn1 hn2 h66
          rw [e3]
          by_cases d2 : 0 < zM X' i (pnS (tn (fS X')) (ttg (fS X')) (tvl (fS X')) (tnd (fS X') i) q e)
          · simp (disch := omega) only [J0, J1, J31, J32, J1716, J_add, J_sub, J_mul, J_neg, J_lt, J_le, J_eq, if_neg (show ¬ zM X' i (pnS (tn (fS X')) (ttg (fS X')) (tvl (fS X')) (tnd (fS X') i) q e) ≤ 0 by omega)]
            exact Ok.pure (Or.inl ⟨_, (tn (fS X') - (e + 1)).toNat, rfl, ⟨e + 1, A2, by rw [bs_t e0 d2], by omega, by omega, rfl, hB2⟩, by omega⟩)
          · simp (disch := omega) only [J0, J1, J31, J32, J1716, J_add, J_sub, J_mul, J_neg, J_lt, J_le, J_eq, or0, if_pos (show zM X' i (pnS (tn (fS X')) (ttg (fS X')) (tvl (fS X')) (tnd (fS X') i) q e) ≤ 0 by omega)]
            exact Ok.pure (Or.inl ⟨_, (tn (fS X') - (e + 1)).toNat, rfl, ⟨e + 1, A2, by rw [bs_f e0 d2], by omega, by omega, rfl, hB2⟩, by omega⟩)
      · rw [if_neg c3] at hS
        obtain ⟨rfl, rfl⟩ := hS
        simp (disch := omega) only [L0, L1, L2, L3, L4, L5, L6, L7, L8, L9, L10, L11, L12, L13, L14, L15, L16, L17, L18, L19, L20, L21, L22, L23, L24, L25, L26, L27, L31, L32, L33, L36, L40, L41, L42, L47, L48, L57, L58, L59, L60, L61, L62, L65, L97, L101, L102, L103, L120, L126, L127, L144, L245, L1023, L1715, I_add, I_sub, I_mul, I_neg, I_lt, I_le, I_eq, Option.bind_some, if_pos, if_neg, if_true, if_false, ite_true, ite_false, o8_g7, o8_l7, ex1, o8_cO, if_pos c2, if_neg c3]
        exact M_no0 hl h
    · rw [if_neg (fun z => c2 z.2)] at hS
      obtain ⟨rfl, rfl⟩ := hS
      simp (disch := omega) only [L0, L1, L2, L3, L4, L5, L6, L7, L8, L9, L10, L11, L12, L13, L14, L15, L16, L17, L18, L19, L20, L21, L22, L23, L24, L25, L26, L27, L31, L32, L33, L36, L40, L41, L42, L47, L48, L57, L58, L59, L60, L61, L62, L65, L97, L101, L102, L103, L120, L126, L127, L144, L245, L1023, L1715, I_add, I_sub, I_mul, I_neg, I_lt, I_le, I_eq, Option.bind_some, if_pos, if_neg, if_true, if_false, ite_true, ite_false, o8_cO, if_neg c2]
      exact M_bad0 hl h
  · rw [if_neg (fun z => c1 z.1)] at hS
    obtain ⟨rfl, rfl⟩ := hS
    rw [ind_f c1]
    simp (disch := omega) only [L0, L1, L2, L3, L4, L5, L6, L7, L8, L9, L10, L11, L12, L13, L14, L15, L16, L17, L18, L19, L20, L21, L22, L23, L24, L25, L26, L27, L31, L32, L33, L36, L40, L41, L42, L47, L48, L57, L58, L59, L60, L61, L62, L65, L97, L101, L102, L103, L120, L126, L127, L144, L245, L1023, L1715, I_add, I_sub, I_mul, I_neg, I_lt, I_le, I_eq, Option.bind_some, if_pos, if_neg, if_true, if_false, ite_true, ite_false, o8_cO]
    exact M_bad0 hl h
end MFD
