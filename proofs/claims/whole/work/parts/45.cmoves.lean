/-! ===== the class: moves ===== -/
theorem mv_congr {f g : Int → Int} {n e s p d : Int} (h : ∀ k, 0 ≤ k → k < n → f k = g k) (he : 0 ≤ e) (hs : 0 ≤ s) (hes : e + s ≤ n) (hp : 0 ≤ p) (hps : p + s ≤ n) : ∀ k, 0 ≤ k → k < n → mvZ f e s p d k = mvZ g e s p d k := by
  intro k k0 k1
  by_cases c1 : k < p
  · rw [mv_lo c1, mv_lo c1]
    unfold delZ
    split
    · exact h k k0 k1
    · exact h (k + s) (by omega) (by omega)
  · by_cases c2 : k < p + s
    · rw [mv_in (by omega), mv_in (by omega), h (k - p + e) (by omega) (by omega)]
    · rw [mv_hi hs (by omega), mv_hi hs (by omega)]
      unfold delZ
      split
      · exact h (k - s) (by omega) (by omega)
      · exact h (k - s + s) (by omega) (by omega)
theorem mv_bound {f : Int → Int} {n e s p lo hi : Int} (h : ∀ k, 0 ≤ k → k < n → lo ≤ f k ∧ f k ≤ hi) (he : 0 ≤ e) (hs : 0 ≤ s) (hes : e + s ≤ n) (hp : 0 ≤ p) (hps : p + s ≤ n) : ∀ k, 0 ≤ k → k < n → lo ≤ mvZ f e s p 0 k ∧ mvZ f e s p 0 k ≤ hi := by
  intro k k0 k1
  by_cases c1 : k < p
  · rw [mv_lo c1]
    unfold delZ
    split
    · exact h k k0 k1
    · exact h (k + s) (by omega) (by omega)
  · by_cases c2 : k < p + s
    · rw [mv_in (by omega), Int.add_zero]; exact h (k - p + e) (by omega) (by omega)
    · rw [mv_hi hs (by omega)]
      unfold delZ
      split
      · exact h (k - s) (by omega) (by omega)
      · exact h (k - s + s) (by omega) (by omega)
section CMV
variable {m : Mm} {X : FS}
theorem C_moves (h : CI m X) {e t a : Int} (he1 : -2147483648 ≤ e) (he2 : e < 2147483648) (ht1 : -2147483648 ≤ t) (ht2 : t < 2147483648) (ha1 : -2147483648 ≤ a) (ha2 : a < 2147483648) : Ok (f_X7_moves m 0 (I e) (I t) (I a)) (fun q => ∃ r X', q.1 = I r ∧ CI q.2 X' ∧ Fr m q.2 0 376 ∧ SMoves X e t a r X') := by
  obtain ⟨F, A, hat, hT⟩ := h.T
  have hF := hT.1
  have hw := hT.2.1
  have hn1 := hw.1
  have hn2 := hw.2.1
  have hhe := T_has hat he1 he2 (by omega) (by omega)
  have hht := T_has hat ht1 ht2 (by omega) (by omega)
  unfold f_X7_moves
  by_cases c1 : 0 ≤ e ∧ e < F 0
  · rw [ind_t c1] at hhe
    by_cases c2 : 0 ≤ t ∧ t < F 0
    · rw [ind_t c2] at hht
      by_cases c3 : a < 0
      · simp only [h.now, h.tree, a4_cO hat, hhe, hht, Option.bind_some]
        rw [if_neg (show ¬ I 1 = (0 : Int32) by decide), if_neg (show ¬ I 1 = (0 : Int32) by decide), if_pos (by rw [L0, I_lt] <;> omega)]
        simp (disch := omega) only [L0, L1, L2, L3, L4, L5, L6, L7, L8, L9, L10, L11, L12, L13, L14, L15, L16, L17, L18, L19, L20, L21, L22, L23, L24, L25, L26, L27, L31, L32, L33, L36, L40, L41, L42, L47, L48, L57, L58, L59, L60, L61, L62, L65, L97, L101, L102, L103, L120, L126, L127, L144, L245, L1023, L1715, I_add, I_sub, I_mul, I_neg, I_lt, I_le, I_eq, h.self, Option.bind_some, if_pos, if_neg, if_true, if_false, ite_true, ite_false]
        exact (C_fail h (by omega)).mono (fun q hq => ⟨-2, _, hq.1, hq.2.1, hq.2.2, Or.inl ⟨by omega, rfl, rfl⟩⟩)
      · have hcc : f_X4_childCount m 2 (I t) (I e) = some (I (chX (fS X) t e)) := T_childCount hat hT (e := t) (u := e) (by omega) (by omega) (by omega) (by omega)
        obtain ⟨q1, q2, q3, q4⟩ := enF_spec (tlv (fS X)) (show t < tn (fS X) by omega)
        obtain ⟨r1, r2, r3, r4⟩ := enF_spec (tlv (fS X)) (show e < tn (fS X) by omega)
        have hcb : chX (fS X) t e ≤ 32 := by
          have := Sm_le (f := fun g => ind (tlv (fS X) g = tlv (fS X) t + 1 ∧ g ≠ e)) (g := fun _ => 1) (lo := t + 1) (hi := enF (tn (fS X)) (tlv (fS X)) t) (fun _ _ _ => ind_le)
          rw [Sm_const (by omega)] at this
          show Sm _ _ _ ≤ 32
          omega
        have hcn : 0 ≤ chX (fS X) t e := Sm_nonneg (fun _ _ _ => ind_nn)
        by_cases c4 : a ≤ chX (fS X) t e
        · have hC : (0 ≤ e ∧ e < tn (fS X)) ∧ (0 ≤ t ∧ t < tn (fS X)) ∧ 0 ≤ a ∧ a ≤ chX (fS X) t e := by omega
          obtain ⟨y1, y2, y3, y4, y5, -⟩ := hT.2.2 e (by omega) (by omega)
          obtain ⟨w1, w2, w3, w4, w5, -⟩ := hT.2.2 t (by omega) (by omega)
          have hge := hw.ge1 (k := e) (by omega) (by omega)
          have hgt := hw.ge1 (k := t) (by omega) (by omega)
          have hin : Option.bind (α := Int32) (if I t < I e then some (0 : Int32) else (gR m 2 4 5).bind fun v35 => (lI m v35 (I e)).bind fun v37 => (if v37 < I t then some (0 : Int32) else some (1 : Int32))) = Option.bind (some (I (ind (e ≤ t ∧ t < enF (tn (fS X)) (tlv (fS X)) e)))) (β := Int32 × Mm) := by
            congr 1
            by_cases z1 : t < e
            · rw [ind_f (by omega)]; simp (disch := omega) only [L0, L1, L2, L3, L4, L5, L6, L7, L8, L9, L10, L11, L12, L13, L14, L15, L16, L17, L18, L19, L20, L21, L22, L23, L24, L25, L26, L27, L31, L32, L33, L36, L40, L41, L42, L47, L48, L57, L58, L59, L60, L61, L62, L65, L97, L101, L102, L103, L120, L126, L127, L144, L245, L1023, L1715, I_add, I_sub, I_mul, I_neg, I_lt, I_le, I_eq, a4_cO hat, a4_g0 hat, a4_g1 hat, a4_g2 hat, a4_g3 hat, a4_g4 hat, a4_g5 hat, a4_l1 hat, a4_l2 hat, a4_l3 hat, a4_l4 hat, a4_l5 hat, Option.bind_some, if_pos, if_neg, if_true, if_false, ite_true, ite_false]
            · by_cases z2 : A 5 e < t
              · rw [ind_f (by omega)]; simp (disch := omega) only [L0, L1, L2, L3, L4, L5, L6, L7, L8, L9, L10, L11, L12, L13, L14, L15, L16, L17, L18, L19, L20, L21, L22, L23, L24, L25, L26, L27, L31, L32, L33, L36, L40, L41, L42, L47, L48, L57, L58, L59, L60, L61, L62, L65, L97, L101, L102, L103, L120, L126, L127, L144, L245, L1023, L1715, I_add, I_sub, I_mul, I_neg, I_lt, I_le, I_eq, a4_cO hat, a4_g0 hat, a4_g1 hat, a4_g2 hat, a4_g3 hat, a4_g4 hat, a4_g5 hat, a4_l1 hat, a4_l2 hat, a4_l3 hat, a4_l4 hat, a4_l5 hat, Option.bind_some, if_pos, if_neg, if_true, if_false, ite_true, ite_false]
              · rw [ind_t (by omega)]; simp (disch := omega) only [L0, L1, L2, L3, L4, L5, L6, L7, L8, L9, L10, L11, L12, L13, L14, L15, L16, L17, L18, L19, L20, L21, L22, L23, L24, L25, L26, L27, L31, L32, L33, L36, L40, L41, L42, L47, L48, L57, L58, L59, L60, L61, L62, L65, L97, L101, L102, L103, L120, L126, L127, L144, L245, L1023, L1715, I_add, I_sub, I_mul, I_neg, I_lt, I_le, I_eq, a4_cO hat, a4_g0 hat, a4_g1 hat, a4_g2 hat, a4_g3 hat, a4_g4 hat, a4_g5 hat, a4_l1 hat, a4_l2 hat, a4_l3 hat, a4_l4 hat, a4_l5 hat, Option.bind_some, if_pos, if_neg, if_true, if_false, ite_true, ite_false]
          simp only [h.now, h.tree, a4_cO hat, hhe, hht, hin, Option.bind_some]
          rw [if_neg (show ¬ I 1 = (0 : Int32) by decide), if_neg (show ¬ I 1 = (0 : Int32) by decide), if_neg (by rw [L0, I_lt] <;> omega)]
          simp (disch := omega) only [L0, L1, L2, L3, L4, L5, L6, L7, L8, L9, L10, L11, L12, L13, L14, L15, L16, L17, L18, L19, L20, L21, L22, L23, L24, L25, L26, L27, L31, L32, L33, L36, L40, L41, L42, L47, L48, L57, L58, L59, L60, L61, L62, L65, L97, L101, L102, L103, L120, L126, L127, L144, L245, L1023, L1715, I_add, I_sub, I_mul, I_neg, I_lt, I_le, I_eq, h.self, hcc, Option.bind_some, if_pos c4]
          by_cases c5 : e = 0
          · simp (disch := omega) only [L0, L1, L2, L3, L4, L5, L6, L7, L8, L9, L10, L11, L12, L13, L14, L15, L16, L17, L18, L19, L20, L21, L22, L23, L24, L25, L26, L27, L31, L32, L33, L36, L40, L41, L42, L47, L48, L57, L58, L59, L60, L61, L62, L65, L97, L101, L102, L103, L120, L126, L127, L144, L245, L1023, L1715, I_add, I_sub, I_mul, I_neg, I_lt, I_le, I_eq, a4_cO hat, a4_g0 hat, a4_g1 hat, a4_g2 hat, a4_g3 hat, a4_g4 hat, a4_g5 hat, a4_l1 hat, a4_l2 hat, a4_l3 hat, a4_l4 hat, a4_l5 hat, Option.bind_some, if_pos, if_neg, if_true, if_false, ite_true, ite_false]
            exact (C_fail h (by omega)).mono (fun q hq => ⟨-3, _, hq.1, hq.2.1, hq.2.2, Or.inr ⟨hC, Or.inl ⟨Or.inl c5, rfl, rfl⟩⟩⟩)
          · by_cases c6 : e ≤ t ∧ t < enF (tn (fS X)) (tlv (fS X)) e
            · rw [ind_t c6]
              simp (disch := omega) only [L0, L1, L2, L3, L4, L5, L6, L7, L8, L9, L10, L11, L12, L13, L14, L15, L16, L17, L18, L19, L20, L21, L22, L23, L24, L25, L26, L27, L31, L32, L33, L36, L40, L41, L42, L47, L48, L57, L58, L59, L60, L61, L62, L65, L97, L101, L102, L103, L120, L126, L127, L144, L245, L1023, L1715, I_add, I_sub, I_mul, I_neg, I_lt, I_le, I_eq, a4_cO hat, a4_g0 hat, a4_g1 hat, a4_g2 hat, a4_g3 hat, a4_g4 hat, a4_g5 hat, a4_l1 hat, a4_l2 hat, a4_l3 hat, a4_l4 hat, a4_l5 hat, Option.bind_some, if_pos, if_neg, if_true, if_false, ite_true, ite_false]
              exact (C_fail h (by omega)).mono (fun q hq => ⟨-3, _, hq.1, hq.2.1, hq.2.2, Or.inr ⟨hC, Or.inl ⟨Or.inr (Or.inl c6), rfl, rfl⟩⟩⟩)
            · rw [ind_f c6]
              obtain ⟨d, hd, hd1, hd2, kd, hd3, hd4, hd5⟩ := T_deepest hat hT (e := e) (by omega) (by omega)
              have hdl : tlv (fS X) e ≤ d := hd2 e (Int.le_refl _) (by omega)
              by_cases c7 : d + (tlv (fS X) t + 1 - tlv (fS X) e) ≤ 10
              · have hflat : flat (fS X) e t := fun k k0 k1 => by have := hd2 k k0 k1; omega
                simp (disch := omega) only [L0, L1, L2, L3, L4, L5, L6, L7, L8, L9, L10, L11, L12, L13, L14, L15, L16, L17, L18, L19, L20, L21, L22, L23, L24, L25, L26, L27, L31, L32, L33, L36, L40, L41, L42, L47, L48, L57, L58, L59, L60, L61, L62, L65, L97, L101, L102, L103, L120, L126, L127, L144, L245, L1023, L1715, I_add, I_sub, I_mul, I_neg, I_lt, I_le, I_eq, a4_cO hat, a4_g0 hat, a4_g1 hat, a4_g2 hat, a4_g3 hat, a4_g4 hat, a4_g5 hat, a4_l1 hat, a4_l2 hat, a4_l3 hat, a4_l4 hat, a4_l5 hat, hd, Option.bind_some, if_pos, if_neg, if_true, if_false, ite_true, ite_false]
                refine Ok.bind (C_keep h) ?_
                rintro m1 ⟨h', hf1⟩
                obtain ⟨F1, A1, hat1, hT1⟩ := h'.T
                rw [pushK_S] at hT1
                have hF1 := hT1.1
                obtain ⟨x1, x2, x3, x4, x5, -⟩ := hT1.2.2 e (by omega) (by omega)
                have hte : t < e ∨ enF (tn (fS X)) (tlv (fS X)) e ≤ t := by omega
                obtain ⟨p, hp, p1, p2, p3, p4⟩ := T_slot hat1 hT1 (t := t) (at_ := a) (u := e) (by omega) (by omega) (by omega) (by omega) (by omega) c4
                obtain ⟨hsp, hpo⟩ := move_spot hw (show 0 < e by omega) (by omega) (by omega) (by omega) hte p1 p2 p3 p4
                obtain ⟨hwm, hp0, hpn⟩ := WL_mv hw (show 0 < e by omega) (by omega) (by omega) (by omega) hte hsp (fun k k0 k1 => hflat k k0 k1)
                have hmov : (if I p ≤ I e then some (I p) else some (I p - (I (A1 5 e) - I e + I 1))) = some (I (if e < p then p - (enF (tn (fS X)) (tlv (fS X)) e - e) else p)) := by
                  by_cases z1 : e < p
                  · rw [if_pos z1]
                    simp (disch := omega) only [I_add, I_sub, I_mul, I_neg, I_lt, I_le, I_eq, Option.bind_some, if_pos, if_neg, if_true, if_false, ite_true, ite_false]
                    exact congrArg (fun z => some (I z)) (by omega)
                  · rw [if_neg z1]
                    simp (disch := omega) only [I_add, I_sub, I_mul, I_neg, I_lt, I_le, I_eq, Option.bind_some, if_pos, if_neg, if_true, if_false, ite_true, ite_false]
                obtain ⟨⟨Fd, Ad, had⟩, hcs2⟩ := h'.2.2.2.2
                obtain ⟨Ac, hcp, hAc⟩ := T_copyFrom (a := 40) (F := Fd) (A := Ad) (a4_len had) hat1 (by omega)
                rw [had.ov] at hcp
                generalize hmv : (if e < p then p - (enF (tn (fS X)) (tlv (fS X)) e - e) else p) = r at *
                generalize hsz : enF (tn (fS X)) (tlv (fS X)) e - e = s at *
                simp (disch := omega) only [a4_cO hat1, hp, h'.drT, a4_g5 hat1, a4_l5 hat1, hmov, a4_cO had, hcp, Option.bind_some, if_pos, if_neg, if_true, if_false, ite_true, ite_false]
                have hf2 : Fr m1 (ov m1 40 (o4 40 (upN Fd 0 (F1 0)) Ac)) 40 46 := Fr.ov (N := 5) (fun off h => o4_N off h)
                have hcs : CS (ov m1 40 (o4 40 (upN Fd 0 (F1 0)) Ac)) := by
                  obtain ⟨⟨F2, A2, g2⟩, ⟨F3, A3, g3, g3'⟩, ⟨F4, A4, g4⟩, F5, A5, g5⟩ := hcs2
                  exact ⟨⟨_, _, o4_At (a4_len had)⟩, ⟨F2, A2, g2.fr (fun off h => o5_N off h) hf2 (by omega)⟩, ⟨F3, A3, g3.fr (fun off h => o1_N off h) hf2 (by omega), g3'⟩, ⟨F4, A4, g4.fr (fun off h => o0_N off h) hf2 (by omega)⟩, F5, A5, g5.fr (fun off h => o6_N off h) hf2 (by omega)⟩
                have h2 := h'.scr (hf2.mono (by omega) (by omega)) hcs
                generalize hm2 : ov m1 40 (o4 40 (upN Fd 0 (F1 0)) Ac) = m2 at *
                have hat2 := hat1.fr (fun off h => o4_N off h) hf2 (by omega)
                have hold : At m2 40 (o4 40 (upN Fd 0 (F1 0)) Ac) := by rw [← hm2]; exact o4_At (a4_len had)
                have hAc' : ∀ i, 1 ≤ i → i ≤ 5 → ∀ k, 0 ≤ k → k < tn (fS X) → Ac i k = A1 i k := fun i i0 i1 k k0 k1 => hAc i i0 i1 k k0 (by omega)
                have hA3 : ∀ k, 0 ≤ k → k < tn (fS X) → Ac 3 k = tlv (fS X) k := fun k k0 k1 => (hAc' 3 (by omega) (by omega) k k0 k1).trans (hT1.2.2 k k0 k1).2.2.1
                have hcg3 := mv_congr (d := tlv (fS X) t + 1 - tlv (fS X) e) hA3 (show 0 ≤ e by omega) (show 0 ≤ s by omega) (show e + s ≤ tn (fS X) by omega) (show 0 ≤ r by omega) hpn
                have hrl := T_relocate (m := m2) (a := 2) (b := 40) (F := F1) (A := A1) (A' := Ac) (n := tn (fS X)) (a4_len hat2) hold (by omega) hF1 hn2 (e := e) (s := s) (p := r) (d := tlv (fS X) t + 1 - tlv (fS X) e) (by omega) (by omega) (by omega) (by omega) (by rw [hAc' 5 (by omega) (by omega) e (by omega) (by omega)]; omega) (by omega) hpn (fun k k0 k1 => by rw [hA3 k k0 k1]; have := hw.ge1 k0 k1; omega) (by omega) (by omega) (WL_congr hwm hcg3)
                rw [hat2.ov] at hrl
                simp (disch := omega) only [h2.drT, a4_cO hat2, I_add, I_sub, I_mul, I_neg, I_lt, I_le, I_eq, Option.bind_some, if_pos, if_neg, if_true, if_false, ite_true, ite_false]
                rw [show A 3 t + 1 - A 3 e = tlv (fS X) t + 1 - tlv (fS X) e by omega]
                refine Ok.bind hrl ?_
                rintro m3 ⟨A3, rfl, hA3'⟩
                have hf3 : Fr m2 (ov m2 2 (o4 2 F1 A3)) 2 8 := Fr.ov (N := 5) (fun off h => o4_N off h)
                have hT3 : TR F1 A3 (tn (fS X)) (mvZ (ttg (fS X)) e s r 0) (mvZ (tvl (fS X)) e s r 0) (mvZ (tlv (fS X)) e s r (tlv (fS X) t + 1 - tlv (fS X) e)) := by
                  refine ⟨hF1, hwm, fun k k0 k1 => ?_⟩
                  obtain ⟨g1, g2, g3, g4, g5⟩ := hA3' k k0 k1
                  have cg1 := mv_congr (d := 0) (fun k k0 k1 => (hAc' 1 (by omega) (by omega) k k0 k1).trans (hT1.2.2 k k0 k1).1) (show 0 ≤ e by omega) (show 0 ≤ s by omega) (show e + s ≤ tn (fS X) by omega) (show 0 ≤ r by omega) hpn k k0 k1
                  have cg2 := mv_congr (d := 0) (fun k k0 k1 => (hAc' 2 (by omega) (by omega) k k0 k1).trans (hT1.2.2 k k0 k1).2.1) (show 0 ≤ e by omega) (show 0 ≤ s by omega) (show e + s ≤ tn (fS X) by omega) (show 0 ≤ r by omega) hpn k k0 k1
                  have b1 := mv_bound (lo := 0) (hi := 5) (fun k k0 k1 => by have := (hT1.2.2 k k0 k1).2.2.2.2.2; exact ⟨this.1, this.2.1⟩) (show 0 ≤ e by omega) (show 0 ≤ s by omega) (show e + s ≤ tn (fS X) by omega) (show 0 ≤ r by omega) hpn k k0 k1
                  have b2 := mv_bound (lo := 0) (hi := 9) (fun k k0 k1 => (hT1.2.2 k k0 k1).2.2.2.2.2.2.2) (show 0 ≤ e by omega) (show 0 ≤ s by omega) (show e + s ≤ tn (fS X) by omega) (show 0 ≤ r by omega) hpn k k0 k1
                  refine ⟨g1.trans cg1, g2.trans cg2, g3.trans (hcg3 k k0 k1), ?_, ?_, b1.1, b1.2, b2.1, b2.2⟩
                  · rw [g4]; exact prF_congr k0 (fun j j0 j1 => hcg3 j j0 (by omega))
                  · rw [g5, enF_congr k0 k1 (fun j j0 j1 => hcg3 j j0 j1)]
                have hci := h2.newT hf3 (o4_At (a4_len hat2)) hT3
                rw [pushK_S] at hci
                refine Ok.pure ⟨r, _, rfl, hci, (hf1.tr (hf2.mono (by omega) (by omega))).tr (hf3.mono (by omega) (by omega)), Or.inr ⟨hC, Or.inr ⟨fun z => ?_, ?_, ?_⟩⟩⟩
                · rcases z with z | z | z
                  · exact c5 z
                  · exact c6 z
                  · exact z hflat
                · rw [hsz]; exact hsp
                · rw [hsz]
              · have hnf : ¬ flat (fS X) e t := fun z => by have := z kd hd3 hd4; omega
                simp (disch := omega) only [L0, L1, L2, L3, L4, L5, L6, L7, L8, L9, L10, L11, L12, L13, L14, L15, L16, L17, L18, L19, L20, L21, L22, L23, L24, L25, L26, L27, L31, L32, L33, L36, L40, L41, L42, L47, L48, L57, L58, L59, L60, L61, L62, L65, L97, L101, L102, L103, L120, L126, L127, L144, L245, L1023, L1715, I_add, I_sub, I_mul, I_neg, I_lt, I_le, I_eq, a4_cO hat, a4_g0 hat, a4_g1 hat, a4_g2 hat, a4_g3 hat, a4_g4 hat, a4_g5 hat, a4_l1 hat, a4_l2 hat, a4_l3 hat, a4_l4 hat, a4_l5 hat, hd, Option.bind_some, if_pos, if_neg, if_true, if_false, ite_true, ite_false]
                exact (C_fail h (by omega)).mono (fun q hq => ⟨-3, _, hq.1, hq.2.1, hq.2.2, Or.inr ⟨hC, Or.inl ⟨Or.inr (Or.inr hnf), rfl, rfl⟩⟩⟩)
        · simp only [h.now, h.tree, a4_cO hat, hhe, hht, Option.bind_some]
          rw [if_neg (show ¬ I 1 = (0 : Int32) by decide), if_neg (show ¬ I 1 = (0 : Int32) by decide), if_neg (by rw [L0, I_lt] <;> omega)]
          rw [hcc]
          simp only [Option.bind_some]
          rw [if_neg (by rw [I_le] <;> omega)]
          simp (disch := omega) only [L0, L1, L2, L3, L4, L5, L6, L7, L8, L9, L10, L11, L12, L13, L14, L15, L16, L17, L18, L19, L20, L21, L22, L23, L24, L25, L26, L27, L31, L32, L33, L36, L40, L41, L42, L47, L48, L57, L58, L59, L60, L61, L62, L65, L97, L101, L102, L103, L120, L126, L127, L144, L245, L1023, L1715, I_add, I_sub, I_mul, I_neg, I_lt, I_le, I_eq, h.self, Option.bind_some, if_pos, if_neg, if_true, if_false, ite_true, ite_false]
          exact (C_fail h (by omega)).mono (fun q hq => ⟨-2, _, hq.1, hq.2.1, hq.2.2, Or.inl ⟨by omega, rfl, rfl⟩⟩)
    · rw [ind_f c2] at hht
      simp only [h.now, h.tree, a4_cO hat, hhe, hht, Option.bind_some]
      rw [if_neg (show ¬ I 1 = (0 : Int32) by decide), if_pos (show I 0 = (0 : Int32) from rfl)]
      simp (disch := omega) only [L0, L1, L2, L3, L4, L5, L6, L7, L8, L9, L10, L11, L12, L13, L14, L15, L16, L17, L18, L19, L20, L21, L22, L23, L24, L25, L26, L27, L31, L32, L33, L36, L40, L41, L42, L47, L48, L57, L58, L59, L60, L61, L62, L65, L97, L101, L102, L103, L120, L126, L127, L144, L245, L1023, L1715, I_add, I_sub, I_mul, I_neg, I_lt, I_le, I_eq, h.self, Option.bind_some, if_pos, if_neg, if_true, if_false, ite_true, ite_false]
      exact (C_fail h (by omega)).mono (fun q hq => ⟨-2, _, hq.1, hq.2.1, hq.2.2, Or.inl ⟨by omega, rfl, rfl⟩⟩)
  · rw [ind_f c1] at hhe
    simp only [h.now, h.tree, a4_cO hat, hhe, Option.bind_some]
    rw [if_pos (show I 0 = (0 : Int32) from rfl)]
    simp (disch := omega) only [L0, L1, L2, L3, L4, L5, L6, L7, L8, L9, L10, L11, L12, L13, L14, L15, L16, L17, L18, L19, L20, L21, L22, L23, L24, L25, L26, L27, L31, L32, L33, L36, L40, L41, L42, L47, L48, L57, L58, L59, L60, L61, L62, L65, L97, L101, L102, L103, L120, L126, L127, L144, L245, L1023, L1715, I_add, I_sub, I_mul, I_neg, I_lt, I_le, I_eq, h.self, Option.bind_some, if_pos, if_neg, if_true, if_false, ite_true, ite_false]
    exact (C_fail h (by omega)).mono (fun q hq => ⟨-2, _, hq.1, hq.2.1, hq.2.2, Or.inl ⟨by omega, rfl, rfl⟩⟩)
end CMV
