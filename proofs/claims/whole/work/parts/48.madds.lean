/-! ===== the reference: adds, moves ===== -/
section MADDS
variable {m : Mm} {a : Nat} {F : Nat → Int} {A : Nat → Int → Int} {X : FS}
theorem chN_le {S : TS} {e : Int} (h : WL (tn S) (tlv S)) (h0 : 0 ≤ e) (h1 : e < tn S) : 0 ≤ chN S e ∧ chN S e ≤ 32 := by
  obtain ⟨r1, r2, -, -⟩ := enF_spec (tlv S) h1
  have hn := h.2.1
  have := Sm_le (f := fun g => ind (tlv S g = tlv S e + 1)) (g := fun _ => 1) (lo := e + 1) (hi := enF (tn S) (tlv S) e) (fun _ _ _ => ind_le)
  rw [Sm_const (by omega)] at this
  exact ⟨Sm_nonneg (fun _ _ _ => ind_nn), by show Sm _ _ _ ≤ 32; omega⟩
theorem M_adds (hl : a + 25 < m.length) (h : MB F A X) {e b t v : Int} (he1 : -2147483648 ≤ e) (he2 : e < 2147483648) (hb1 : -2147483648 ≤ b) (hb2 : b < 2147483648) (ht1 : -2147483648 ≤ t) (ht2 : t < 2147483648) (hv1 : -2147483648 ≤ v) (hv2 : v < 2147483648) : Ok (f_X8_adds (ov m a (o8 a F A)) a (I e) (I b) (I t) (I v)) (fun q => ∃ r X', q.1 = I r ∧ MP m a q.2 X' ∧ SAdds X e b t v r X') := by
  have hT := h.1
  have hF := hT.1
  have hw := hT.2.1
  have hn1 := hw.1
  have hn2 := hw.2.1
  have hAt := o8_At (m := m) (a := a) (F := F) (A := A) hl
  have hhe := D_isElement hAt he1 he2 (by omega) (by omega)
  have hht := D_in (m := ov m a (o8 a F A)) (x := t) (y := 0) (z := 5) ht1 ht2 (by omega) (by omega) (by omega) (by omega)
  have hhv := D_in (m := ov m a (o8 a F A)) (x := v) (y := 0) (z := 9) hv1 hv2 (by omega) (by omega) (by omega) (by omega)
  unfold f_X8_adds
  by_cases c1 : 0 ≤ e ∧ e < F 1
  · rw [ind_t c1] at hhe
    have hcc : f_X8_children (ov m a (o8 a F A)) a (I e) = some (I (chN (fS X) e)) := D_children hAt hT (by omega) (by omega)
    have hcb := chN_le hw (show 0 ≤ e by omega) (by omega)
    have hhb := D_in (m := ov m a (o8 a F A)) (x := b) (y := 0) (z := chN (fS X) e) hb1 hb2 (by omega) (by omega) (by omega) (by omega)
    by_cases c2 : 0 ≤ b ∧ b ≤ chN (fS X) e
    · rw [ind_t c2] at hhb
      by_cases c3 : 0 ≤ t ∧ t ≤ 5
      · rw [ind_t c3] at hht
        by_cases c4 : 0 ≤ v ∧ v ≤ 9
        · rw [ind_t c4] at hhv
          have hC : (0 ≤ e ∧ e < tn (fS X)) ∧ (0 ≤ t ∧ t ≤ 5 ∧ 0 ≤ v ∧ v ≤ 9) ∧ 0 ≤ b ∧ b ≤ chN (fS X) e := by omega
          obtain ⟨y1, y2, y3, y4, y5, -⟩ := hT.2.2 e (by omega) (by omega)
          have hge := hw.ge1 (k := e) (by omega) (by omega)
          by_cases c5 : tlv (fS X) e < 10
          · by_cases c6 : F 1 < 32
            · simp (disch := omega) only [o8_cO, hhe, hcc, hhb, hht, hhv, o8_g4, o8_g1, o8_l4, L0, L1, L2, L3, L4, L5, L6, L7, L8, L9, L10, L11, L12, L13, L14, L15, L16, L17, L18, L19, L20, L21, L22, L23, L24, L25, L26, L27, L31, L32, L33, L36, L40, L41, L42, L47, L48, L57, L58, L59, L60, L61, L62, L65, L97, L101, L102, L103, L120, L126, L127, L144, L245, L1023, L1715, I_add, I_sub, I_mul, I_neg, I_lt, I_le, I_eq, Option.bind_some, if_pos, if_neg, if_true, if_false, ite_true, ite_false]
              refine Ok.bind (M_leaves hl h) ?_
              rintro m1 ⟨F1, A1, rfl, h', hA1, hF1⟩
              have hT1 := h'.1
              rw [pushK_S] at hT1
              have hAt1 := o8_At (m := m) (a := a) (F := F1) (A := A1) hl
              obtain ⟨p, hp, hsp⟩ := D_spot hAt1 hT1 (t := e) (at_ := b) (by omega) (by omega) c2.1 c2.2
              obtain ⟨s1, s2, s3, s4⟩ := id hsp
              obtain ⟨r1, r2, -, -⟩ := enF_spec (tlv (fS X)) (show e < tn (fS X) by omega)
              have hwi := WL_ins hw (by omega) (by omega) (by omega) c5 hsp
              obtain ⟨x1, x2, x3, -⟩ := hT1.2.2 e (by omega) (by omega)
              simp (disch := omega) only [o8_cO, hp, o8_g4, o8_l4, L0, L1, L2, L3, L4, L5, L6, L7, L8, L9, L10, L11, L12, L13, L14, L15, L16, L17, L18, L19, L20, L21, L22, L23, L24, L25, L26, L27, L31, L32, L33, L36, L40, L41, L42, L47, L48, L57, L58, L59, L60, L61, L62, L65, L97, L101, L102, L103, L120, L126, L127, L144, L245, L1023, L1715, I_add, I_sub, I_mul, I_neg, I_lt, I_le, I_eq, Option.bind_some, if_pos, if_neg, if_true, if_false, ite_true, ite_false]
              refine Ok.bind (D_makesRoom hl hT1.1 (p := p) (s := 1) (by omega) (by omega) (by omega) (by omega)) ?_
              rintro m2 ⟨A2, rfl, q1, q2, q3⟩
              simp (disch := omega) only [o8_cO, o8_g2, o8_g3, o8_g4, o8_s2, o8_s3, o8_s4, L0, L1, L2, L3, L4, L5, L6, L7, L8, L9, L10, L11, L12, L13, L14, L15, L16, L17, L18, L19, L20, L21, L22, L23, L24, L25, L26, L27, L31, L32, L33, L36, L40, L41, L42, L47, L48, L57, L58, L59, L60, L61, L62, L65, L97, L101, L102, L103, L120, L126, L127, L144, L245, L1023, L1715, I_add, I_sub, I_mul, I_neg, I_lt, I_le, I_eq, Option.bind_some, if_pos, if_neg, if_true, if_false, ite_true, ite_false]
              have hA3 : ∀ k, 0 ≤ k → k < tn (fS X) + 1 → upZ (A2 2) p t k = insZ (ttg (fS X)) p t k ∧ upZ (A2 3) p v k = insZ (tvl (fS X)) p v k ∧ upZ (A2 4) p (A1 4 e + 1) k = insZ (tlv (fS X)) p (tlv (fS X) e + 1) k ∧ 0 ≤ insZ (ttg (fS X)) p t k ∧ insZ (ttg (fS X)) p t k ≤ 5 ∧ 0 ≤ insZ (tvl (fS X)) p v k ∧ insZ (tvl (fS X)) p v k ≤ 9 := by
                intro k k0 k1
                unfold insZ upZ
                by_cases z1 : k = p
                · subst z1
                  rw [if_neg (show ¬ k < k by omega), if_neg (show ¬ k < k by omega), if_neg (show ¬ k < k by omega)]
                  simp only [if_true]
                  rw [x3]
                  exact ⟨trivial, trivial, rfl, c3.1, c3.2, c4⟩
                · by_cases z2 : k < p
                  · simp only [if_neg z1, if_pos z2]
                    obtain ⟨w1, w2, w3⟩ := q2 k k0 z2
                    obtain ⟨u1, u2, u3, u4, u5, u6⟩ := hT1.2.2 k k0 (by omega)
                    exact ⟨w1.trans u1, w2.trans u2, w3.trans u3, u6⟩
                  · simp only [if_neg z1, if_neg z2]
                    obtain ⟨w1, w2, w3⟩ := q3 k (by omega) (by omega)
                    obtain ⟨u1, u2, u3, u4, u5, u6⟩ := hT1.2.2 (k - 1) (by omega) (by omega)
                    exact ⟨w1.trans u1, w2.trans u2, w3.trans u3, u6⟩
              refine Ok.bind (D_tellsTree hl (n := tn (fS X) + 1) upN_at (by omega) (by omega) (fun k k0 k1 => ?_)) ?_
              · show -1000 ≤ upZ (A2 4) p (A1 4 e + 1) k ∧ upZ (A2 4) p (A1 4 e + 1) k ≤ 1000
                rw [(hA3 k k0 k1).2.2.1]; have := hwi.ge1 k0 k1; omega
              rintro m3 ⟨A4, rfl, q4, q5⟩
              have hT3 := MT.of (F' := upN F1 1 (tn (fS X) + 1)) upN_at hwi hA3 q4 q5
              refine Ok.pure ⟨p, _, rfl, ⟨_, _, rfl, ?_⟩, Or.inr ⟨hC, Or.inr (Or.inr ⟨c5, by omega, hsp, rfl⟩)⟩⟩
              have := h'.newT hT3 (fun i hi => upN_ne (by omega)) (fun i hi => by rw [q4 i (by omega) (by omega)]; unfold upN; rw [if_neg (by omega), if_neg (by omega), if_neg (by omega)]; exact q1 i (by omega) (by omega) (by omega))
              rw [pushK_S] at this
              exact this
            · simp (disch := omega) only [o8_cO, hhe, hcc, hhb, hht, hhv, o8_g4, o8_g1, o8_l4, L0, L1, L2, L3, L4, L5, L6, L7, L8, L9, L10, L11, L12, L13, L14, L15, L16, L17, L18, L19, L20, L21, L22, L23, L24, L25, L26, L27, L31, L32, L33, L36, L40, L41, L42, L47, L48, L57, L58, L59, L60, L61, L62, L65, L97, L101, L102, L103, L120, L126, L127, L144, L245, L1023, L1715, I_add, I_sub, I_mul, I_neg, I_lt, I_le, I_eq, Option.bind_some, if_pos, if_neg, if_true, if_false, ite_true, ite_false]
              exact (M_fullR hl h).mono (fun q hq => ⟨-4, _, hq.1, hq.2, Or.inr ⟨hC, Or.inr (Or.inl ⟨c5, by omega, rfl, rfl⟩)⟩⟩)
          · simp (disch := omega) only [o8_cO, hhe, hcc, hhb, hht, hhv, o8_g4, o8_g1, o8_l4, L0, L1, L2, L3, L4, L5, L6, L7, L8, L9, L10, L11, L12, L13, L14, L15, L16, L17, L18, L19, L20, L21, L22, L23, L24, L25, L26, L27, L31, L32, L33, L36, L40, L41, L42, L47, L48, L57, L58, L59, L60, L61, L62, L65, L97, L101, L102, L103, L120, L126, L127, L144, L245, L1023, L1715, I_add, I_sub, I_mul, I_neg, I_lt, I_le, I_eq, Option.bind_some, if_pos, if_neg, if_true, if_false, ite_true, ite_false]
            exact (M_noR hl h).mono (fun q hq => ⟨-3, _, hq.1, hq.2, Or.inr ⟨hC, Or.inl ⟨by omega, rfl, rfl⟩⟩⟩)
        · rw [ind_f c4] at hhv
          simp (disch := omega) only [o8_cO, hhe, hcc, hhb, hht, hhv, L0, L1, L2, L3, L4, L5, L6, L7, L8, L9, L10, L11, L12, L13, L14, L15, L16, L17, L18, L19, L20, L21, L22, L23, L24, L25, L26, L27, L31, L32, L33, L36, L40, L41, L42, L47, L48, L57, L58, L59, L60, L61, L62, L65, L97, L101, L102, L103, L120, L126, L127, L144, L245, L1023, L1715, I_add, I_sub, I_mul, I_neg, I_lt, I_le, I_eq, Option.bind_some, if_pos, if_neg, if_true, if_false, ite_true, ite_false]
          exact (M_badR hl h).mono (fun q hq => ⟨-2, _, hq.1, hq.2, Or.inl ⟨by omega, rfl, rfl⟩⟩)
      · rw [ind_f c3] at hht
        simp (disch := omega) only [o8_cO, hhe, hcc, hhb, hht, L0, L1, L2, L3, L4, L5, L6, L7, L8, L9, L10, L11, L12, L13, L14, L15, L16, L17, L18, L19, L20, L21, L22, L23, L24, L25, L26, L27, L31, L32, L33, L36, L40, L41, L42, L47, L48, L57, L58, L59, L60, L61, L62, L65, L97, L101, L102, L103, L120, L126, L127, L144, L245, L1023, L1715, I_add, I_sub, I_mul, I_neg, I_lt, I_le, I_eq, Option.bind_some, if_pos, if_neg, if_true, if_false, ite_true, ite_false]
        exact (M_badR hl h).mono (fun q hq => ⟨-2, _, hq.1, hq.2, Or.inl ⟨by omega, rfl, rfl⟩⟩)
    · rw [ind_f c2] at hhb
      simp (disch := omega) only [o8_cO, hhe, hcc, hhb, L0, L1, L2, L3, L4, L5, L6, L7, L8, L9, L10, L11, L12, L13, L14, L15, L16, L17, L18, L19, L20, L21, L22, L23, L24, L25, L26, L27, L31, L32, L33, L36, L40, L41, L42, L47, L48, L57, L58, L59, L60, L61, L62, L65, L97, L101, L102, L103, L120, L126, L127, L144, L245, L1023, L1715, I_add, I_sub, I_mul, I_neg, I_lt, I_le, I_eq, Option.bind_some, if_pos, if_neg, if_true, if_false, ite_true, ite_false]
      exact (M_badR hl h).mono (fun q hq => ⟨-2, _, hq.1, hq.2, Or.inl ⟨by omega, rfl, rfl⟩⟩)
  · rw [ind_f c1] at hhe
    simp only [o8_cO hl, hhe, Option.bind_some]
    rw [if_pos (show I 0 = (0 : Int32) from rfl)]
    exact (M_badR hl h).mono (fun q hq => ⟨-2, _, hq.1, hq.2, Or.inl ⟨by omega, rfl, rfl⟩⟩)
theorem chX_eq {S : TS} (hw : WL (tn S) (tlv S)) {t e : Int} (ht0 : 0 ≤ t) (ht1 : t < tn S) (he0 : 0 ≤ e) (he1 : e < tn S) : chX S t e = chN S t - ind (prF (tlv S) e = t) := by
  obtain ⟨q1, q2, -, -⟩ := enF_spec (tlv S) ht1
  have hiff := pr_iff hw ht0 ht1 he0 he1
  by_cases c : prF (tlv S) e = t
  · obtain ⟨c1, c2, c3⟩ := hiff.mp c
    rw [ind_t c]
    show Sm _ _ _ = Sm _ _ _ - 1
    rw [Sm_split (lo := t + 1) (mid := e) (hi := enF (tn S) (tlv S) t) (by omega) (by omega), Sm_front (f := fun g => ind (tlv S g = tlv S t + 1 ∧ g ≠ e)) c2, Sm_split (f := fun g => ind (tlv S g = tlv S t + 1)) (lo := t + 1) (mid := e) (hi := enF (tn S) (tlv S) t) (by omega) (by omega), Sm_front (f := fun g => ind (tlv S g = tlv S t + 1)) c2, ind_f (fun z => z.2 rfl), ind_t c3]
    rw [Sm_congr (lo := t + 1) (hi := e) (f := fun g => ind (tlv S g = tlv S t + 1 ∧ g ≠ e)) (g := fun g => ind (tlv S g = tlv S t + 1)) (fun k k0 k1 => ind_congr ⟨fun z => z.1, fun z => ⟨z, by omega⟩⟩), Sm_congr (lo := e + 1) (hi := enF (tn S) (tlv S) t) (f := fun g => ind (tlv S g = tlv S t + 1 ∧ g ≠ e)) (g := fun g => ind (tlv S g = tlv S t + 1)) (fun k k0 k1 => ind_congr ⟨fun z => z.1, fun z => ⟨z, by omega⟩⟩)]
    omega
  · rw [ind_f c, Int.sub_zero]
    refine Sm_congr (fun k k0 k1 => ind_congr ⟨fun z => z.1, fun z => ⟨z, fun hk => ?_⟩⟩)
    subst hk
    exact c (hiff.mpr ⟨by omega, k1, z⟩)
end MADDS
