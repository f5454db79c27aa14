/-! ===== the class: adds, drops, sets, moves, element, size ===== -/
section CT
variable {m : Mm} {X : FS}
theorem CI.main (h : CI m X) : ∃ F A, At m 0 (o7 0 F A) := by
  obtain ⟨h1, ⟨F, A, a1, -⟩, -⟩ := h
  exact ⟨F, A, a1⟩
theorem CI.now (h : CI m X) : gR m 0 7 0 = some 1 := by
  obtain ⟨F, A, a1⟩ := h.main
  exact a7_g0 a1
theorem CI.drT (h : CI m X) : gR m 0 7 5 = some 40 := by
  obtain ⟨F, A, a1⟩ := h.main
  exact a7_g5 a1
theorem CI.self (h : CI m X) {α : Type} {x : Option α} : cO m 0 7 x = x := by
  obtain ⟨F, A, a1⟩ := h.main
  exact a7_cO a1
theorem CI.tree (h : CI m X) : gR m 1 2 0 = some 2 := h.2.2.1.1.g0
theorem CI.tws (h : CI m X) : gR m 1 2 1 = some 8 := h.2.2.1.1.g1
theorem CI.st (h : CI m X) {α : Type} {x : Option α} : cO m 1 2 x = x := h.2.2.1.1.cO
theorem CI.tw (h : CI m X) {i : Int} (h0 : 0 ≤ i) (h1 : i < 4) : lR m 8 3 (I i) = some (9 + 7 * i.toNat) := h.2.2.1.1.r h0 h1
theorem CI.T (h : CI m X) : ∃ F A, At m 2 (o4 2 F A) ∧ TR F A (tn (fS X)) (ttg (fS X)) (tvl (fS X)) (tlv (fS X)) := h.2.2.1.2.1
theorem C_fail (h : CI m X) {c : Int} (hc : c = -2 ∨ c = -3 ∨ c = -4) : Ok ((f_X7_failed m 0 (I c)).bind fun t => some (t.1, t.2)) (fun t => t.1 = I c ∧ CI t.2 (incB X c) ∧ Fr m t.2 0 376) := Ok.bind (C_failed h hc) (fun t ht => Ok.pure ht)
/-- the current tree is another one, in the same object -/
theorem CI.newT {m' : Mm} (h : CI m X) (hf : Fr m m' 2 8) {F : Nat → Int} {A : Nat → Int → Int} (ht : At m' 2 (o4 2 F A)) {n : Int} {tg vl lv : Int → Int} (hT : TR F A n tg vl lv) : CI m' ((n, tg, vl, lv, tqn (fS X), tnd (fS X)), X.2) := by
  refine h.cur (hf.mono (by omega) (by omega)) ⟨h.2.2.1.1.fr hf (by omega), ⟨F, A, ht, hT⟩, fun i hi => ?_⟩
  obtain ⟨F, A, q1, q2⟩ := h.2.2.1.2.2 i hi
  exact ⟨F, A, q1.fr (fun off h => o5_N off h) hf (by omega), q2⟩
theorem pushK_S (X : FS) : fS (pushK X) = fS X := by unfold pushK; split <;> rfl
theorem C_isLabel {t v : Int} (h1 : -2147483648 ≤ t) (h2 : t < 2147483648) (h3 : -2147483648 ≤ v) (h4 : v < 2147483648) : f_X7_isLabel m (I t) (I v) = some (I (ind (0 ≤ t ∧ t ≤ 5 ∧ 0 ≤ v ∧ v ≤ 9))) := by
  unfold f_X7_isLabel
  by_cases c1 : t < 0
  · rw [ind_f (by omega)]; simp (disch := omega) only [L0, L1, L2, L3, L4, L5, L6, L7, L8, L9, L10, L11, L12, L13, L14, L15, L16, L17, L18, L19, L20, L21, L22, L23, L24, L25, L26, L27, L31, L32, L33, L36, L40, L41, L42, L47, L48, L57, L58, L59, L60, L61, L62, L65, L97, L101, L102, L103, L120, L126, L127, L144, L245, L1023, L1715, I_add, I_sub, I_mul, I_neg, I_lt, I_le, I_eq, Option.bind_some, if_pos, if_neg, if_true, if_false, ite_true, ite_false]
  · by_cases c2 : 6 ≤ t
    · rw [ind_f (by omega)]; simp (disch := omega) only [L0, L1, L2, L3, L4, L5, L6, L7, L8, L9, L10, L11, L12, L13, L14, L15, L16, L17, L18, L19, L20, L21, L22, L23, L24, L25, L26, L27, L31, L32, L33, L36, L40, L41, L42, L47, L48, L57, L58, L59, L60, L61, L62, L65, L97, L101, L102, L103, L120, L126, L127, L144, L245, L1023, L1715, I_add, I_sub, I_mul, I_neg, I_lt, I_le, I_eq, Option.bind_some, if_pos, if_neg, if_true, if_false, ite_true, ite_false]
    · by_cases c3 : v < 0
      · rw [ind_f (by omega)]; simp (disch := omega) only [L0, L1, L2, L3, L4, L5, L6, L7, L8, L9, L10, L11, L12, L13, L14, L15, L16, L17, L18, L19, L20, L21, L22, L23, L24, L25, L26, L27, L31, L32, L33, L36, L40, L41, L42, L47, L48, L57, L58, L59, L60, L61, L62, L65, L97, L101, L102, L103, L120, L126, L127, L144, L245, L1023, L1715, I_add, I_sub, I_mul, I_neg, I_lt, I_le, I_eq, Option.bind_some, if_pos, if_neg, if_true, if_false, ite_true, ite_false]
      · by_cases c4 : 10 ≤ v
        · rw [ind_f (by omega)]; simp (disch := omega) only [L0, L1, L2, L3, L4, L5, L6, L7, L8, L9, L10, L11, L12, L13, L14, L15, L16, L17, L18, L19, L20, L21, L22, L23, L24, L25, L26, L27, L31, L32, L33, L36, L40, L41, L42, L47, L48, L57, L58, L59, L60, L61, L62, L65, L97, L101, L102, L103, L120, L126, L127, L144, L245, L1023, L1715, I_add, I_sub, I_mul, I_neg, I_lt, I_le, I_eq, Option.bind_some, if_pos, if_neg, if_true, if_false, ite_true, ite_false]
        · rw [ind_t (by omega)]; simp (disch := omega) only [L0, L1, L2, L3, L4, L5, L6, L7, L8, L9, L10, L11, L12, L13, L14, L15, L16, L17, L18, L19, L20, L21, L22, L23, L24, L25, L26, L27, L31, L32, L33, L36, L40, L41, L42, L47, L48, L57, L58, L59, L60, L61, L62, L65, L97, L101, L102, L103, L120, L126, L127, L144, L245, L1023, L1715, I_add, I_sub, I_mul, I_neg, I_lt, I_le, I_eq, Option.bind_some, if_pos, if_neg, if_true, if_false, ite_true, ite_false]
/-- the number of children -/
abbrev chN (S : TS) (e : Int) : Int := Sm (fun g => ind (tlv S g = tlv S e + 1)) (e + 1) (enF (tn S) (tlv S) e)
theorem ch_u {n : Int} {lv : Int → Int} {e : Int} (he : 0 ≤ e) : Sm (fun g => ind (lv g = lv e + 1 ∧ g ≠ -1)) (e + 1) (enF n lv e) = Sm (fun g => ind (lv g = lv e + 1)) (e + 1) (enF n lv e) := Sm_congr (fun k k1 k2 => ind_congr ⟨fun z => z.1, fun z => ⟨z, by omega⟩⟩)
def SAdds (X : FS) (e a t v r : Int) (X' : FS) : Prop :=
  (¬ ((0 ≤ e ∧ e < tn (fS X)) ∧ (0 ≤ t ∧ t ≤ 5 ∧ 0 ≤ v ∧ v ≤ 9) ∧ 0 ≤ a ∧ a ≤ chN (fS X) e) ∧ r = -2 ∧ X' = incB X (-2)) ∨
  (((0 ≤ e ∧ e < tn (fS X)) ∧ (0 ≤ t ∧ t ≤ 5 ∧ 0 ≤ v ∧ v ≤ 9) ∧ 0 ≤ a ∧ a ≤ chN (fS X) e) ∧ ((10 ≤ tlv (fS X) e ∧ r = -3 ∧ X' = incB X (-3)) ∨ (tlv (fS X) e < 10 ∧ 32 ≤ tn (fS X) ∧ r = -4 ∧ X' = incB X (-4)) ∨ (tlv (fS X) e < 10 ∧ tn (fS X) < 32 ∧ Spot (tn (fS X)) (tlv (fS X)) e a r ∧ X' = ((tn (fS X) + 1, insZ (ttg (fS X)) r t, insZ (tvl (fS X)) r v, insZ (tlv (fS X)) r (tlv (fS X) e + 1), tqn (fS X), tnd (fS X)), (pushK X).2))))
theorem SAdds_uniq {e a t v r r' : Int} {X' X'' : FS} (h : SAdds X e a t v r X') (h' : SAdds X e a t v r' X'') : r = r' ∧ X' = X'' := by
  rcases h with ⟨c, rfl, rfl⟩ | ⟨c, h⟩
  · rcases h' with ⟨-, rfl, rfl⟩ | ⟨c', -⟩
    · exact ⟨rfl, rfl⟩
    · exact absurd c' c
  · rcases h' with ⟨c', -⟩ | ⟨-, h'⟩
    · exact absurd c c'
    · rcases h with ⟨q, rfl, rfl⟩ | ⟨q, q2, rfl, rfl⟩ | ⟨q, q2, q3, rfl⟩ <;> rcases h' with ⟨p, rfl, rfl⟩ | ⟨p, p2, rfl, rfl⟩ | ⟨p, p2, p3, rfl⟩ <;> first | exact ⟨rfl, rfl⟩ | omega | skip
      obtain rfl := Spot_uniq q3 p3
      exact ⟨rfl, rfl⟩
theorem TR_ins {F : Nat → Int} {A : Nat → Int → Int} {n : Int} {tg vl lv : Int → Int} {p t v L : Int} {A0 : Nat → Int → Int} (hF : F 0 = n + 1) (hw : WL (n + 1) (insZ lv p L)) (h0 : ∀ k, 0 ≤ k → k < n → A0 1 k = tg k ∧ A0 2 k = vl k ∧ A0 3 k = lv k ∧ 0 ≤ tg k ∧ tg k ≤ 5 ∧ 0 ≤ vl k ∧ vl k ≤ 9) (ht : 0 ≤ t ∧ t ≤ 5 ∧ 0 ≤ v ∧ v ≤ 9) (hp : 0 ≤ p ∧ p ≤ n)
    (hA : ∀ k, 0 ≤ k → k < n + 1 → A 1 k = insZ (A0 1) p t k ∧ A 2 k = insZ (A0 2) p v k ∧ A 3 k = insZ (A0 3) p L k ∧ A 4 k = prF (insZ (A0 3) p L) k ∧ A 5 k = enF (n + 1) (insZ (A0 3) p L) k - 1) : TR F A (n + 1) (insZ tg p t) (insZ vl p v) (insZ lv p L) := by
  have hin : ∀ k, 0 ≤ k → k < n + 1 → insZ (A0 1) p t k = insZ tg p t k ∧ insZ (A0 2) p v k = insZ vl p v k ∧ insZ (A0 3) p L k = insZ lv p L k ∧ 0 ≤ insZ tg p t k ∧ insZ tg p t k ≤ 5 ∧ 0 ≤ insZ vl p v k ∧ insZ vl p v k ≤ 9 := by
    intro k k0 k1
    unfold insZ
    by_cases c1 : k < p
    · simp only [if_pos c1]; exact h0 k k0 (by omega)
    · by_cases c2 : k = p
      · simp only [if_neg c1, if_pos c2]; exact ⟨trivial, trivial, trivial, ht⟩
      · simp only [if_neg c1, if_neg c2]; exact h0 (k - 1) (by omega) (by omega)
  refine ⟨hF, hw, fun k k0 k1 => ?_⟩
  obtain ⟨b1, b2, b3, b4⟩ := hin k k0 k1
  obtain ⟨a1, a2, a3, a4, a5⟩ := hA k k0 k1
  refine ⟨a1.trans b1, a2.trans b2, a3.trans b3, ?_, ?_, b4⟩
  · rw [a4]; exact prF_congr k0 (fun j j0 j1 => (hin j j0 (by omega)).2.2.1)
  · rw [a5, enF_congr k0 k1 (fun j j0 j1 => (hin j j0 j1).2.2.1)]
theorem C_adds (h : CI m X) {e a t v : Int} (he1 : -2147483648 ≤ e) (he2 : e < 2147483648) (ha1 : -2147483648 ≤ a) (ha2 : a < 2147483648) (ht1 : -2147483648 ≤ t) (ht2 : t < 2147483648) (hv1 : -2147483648 ≤ v) (hv2 : v < 2147483648) : Ok (f_X7_adds m 0 (I e) (I a) (I t) (I v)) (fun q => ∃ r X', q.1 = I r ∧ CI q.2 X' ∧ Fr m q.2 0 376 ∧ SAdds X e a t v r X') := by
  obtain ⟨F, A, hat, hT⟩ := h.T
  have hF := hT.1
  have hw := hT.2.1
  have hn1 := hw.1
  have hn2 := hw.2.1
  unfold f_X7_adds
  simp (disch := omega) only [h.now, h.tree, a4_cO hat, T_has hat, C_isLabel, Option.bind_some, if_pos, if_neg, if_true, if_false, ite_true, ite_false]
  by_cases c1 : 0 ≤ e ∧ e < F 0
  · rw [ind_t c1]
    by_cases c2 : 0 ≤ t ∧ t ≤ 5 ∧ 0 ≤ v ∧ v ≤ 9
    · rw [ind_t c2]
      have hle : A 3 e = tlv (fS X) e := (hT.2.2 e (by omega) (by omega)).2.2.1
      have hge := hw.ge1 (k := e) (by omega) (by omega)
      obtain ⟨r1, r2, -, -⟩ := enF_spec (tlv (fS X)) (show e < tn (fS X) by omega)
      have hcb : chN (fS X) e ≤ 32 := by
        have := Sm_le (f := fun g => ind (tlv (fS X) g = tlv (fS X) e + 1)) (g := fun _ => 1) (lo := e + 1) (hi := enF (tn (fS X)) (tlv (fS X)) e) (fun _ _ _ => ind_le)
        rw [Sm_const (by omega)] at this
        show Sm _ _ _ ≤ 32
        omega
      have hcn : 0 ≤ chN (fS X) e := Sm_nonneg (fun _ _ _ => ind_nn)
      have hcu := ch_u (n := tn (fS X)) (lv := tlv (fS X)) (e := e) (by omega)
      have hcc : f_X4_childCount m 2 (I e) (I (-1)) = some (I (chN (fS X) e)) := by
        rw [T_childCount hat hT (e := e) (u := -1) (by omega) (by omega) (by omega) (by omega), hcu]
      by_cases c3 : a < 0
      · simp (disch := omega) only [L0, L1, L2, L3, L4, L5, L6, L7, L8, L9, L10, L11, L12, L13, L14, L15, L16, L17, L18, L19, L20, L21, L22, L23, L24, L25, L26, L27, L31, L32, L33, L36, L40, L41, L42, L47, L48, L57, L58, L59, L60, L61, L62, L65, L97, L101, L102, L103, L120, L126, L127, L144, L245, L1023, L1715, I_add, I_sub, I_mul, I_neg, I_lt, I_le, I_eq, h.self, Option.bind_some, if_pos, if_neg, if_true, if_false, ite_true, ite_false]
        exact (C_fail h (by omega)).mono (fun q hq => ⟨-2, _, hq.1, hq.2.1, hq.2.2, Or.inl ⟨by omega, rfl, rfl⟩⟩)
      · simp (disch := omega) only [L0, L1, L2, L3, L4, L5, L6, L7, L8, L9, L10, L11, L12, L13, L14, L15, L16, L17, L18, L19, L20, L21, L22, L23, L24, L25, L26, L27, L31, L32, L33, L36, L40, L41, L42, L47, L48, L57, L58, L59, L60, L61, L62, L65, L97, L101, L102, L103, L120, L126, L127, L144, L245, L1023, L1715, I_add, I_sub, I_mul, I_neg, I_lt, I_le, I_eq, h.self, hcc, Option.bind_some, if_pos, if_neg, if_true, if_false, ite_true, ite_false]
        by_cases c4 : a ≤ chN (fS X) e
        · have hC : (0 ≤ e ∧ e < tn (fS X)) ∧ (0 ≤ t ∧ t ≤ 5 ∧ 0 ≤ v ∧ v ≤ 9) ∧ 0 ≤ a ∧ a ≤ chN (fS X) e := by omega
          by_cases c5 : tlv (fS X) e < 10
          · by_cases c6 : F 0 < 32
            · simp (disch := omega) only [a4_cO hat, a4_g0 hat, a4_g1 hat, a4_g2 hat, a4_g3 hat, a4_g4 hat, a4_g5 hat, a4_l1 hat, a4_l2 hat, a4_l3 hat, a4_l4 hat, a4_l5 hat, Option.bind_some, if_pos, if_neg, if_true, if_false, ite_true, ite_false, I_add, I_sub, I_mul, I_neg, I_lt, I_le, I_eq]
              refine Ok.bind (C_keep h) ?_
              rintro m1 ⟨h', hf1⟩
              obtain ⟨F1, A1, hat1, hT1⟩ := h'.T
              rw [pushK_S] at hT1
              have hF1 := hT1.1
              obtain ⟨p, hp, p1, p2, p3, p4⟩ := T_slot hat1 hT1 (t := e) (at_ := a) (u := -1) (by omega) (by omega) (by omega) (by omega) (by omega) (by rw [hcu]; exact c4)
              have hsp := slot_spot hw (by omega) (by omega) p1 p2 p3 p4
              have hle1 : A1 3 e = tlv (fS X) e := (hT1.2.2 e (by omega) (by omega)).2.2.1
              have hwi := WL_ins hw (by omega) (by omega) (by omega) c5 hsp
              have hA3 : ∀ k, 0 ≤ k → k < tn (fS X) → A1 3 k = tlv (fS X) k := fun k k0 k1 => (hT1.2.2 k k0 k1).2.2.1
              have hwi' : WL (tn (fS X) + 1) (insZ (A1 3) p (A1 3 e + 1)) := by
                refine WL_congr hwi (fun k k0 k1 => ?_)
                unfold insZ
                by_cases z1 : k < p
                · rw [if_pos z1, if_pos z1]; exact hA3 k k0 (by omega)
                · by_cases z2 : k = p
                  · rw [if_neg z1, if_pos z2, if_neg z1, if_pos z2, hle1]
                  · rw [if_neg z1, if_neg z2, if_neg z1, if_neg z2]; exact hA3 (k - 1) (by omega) (by omega)
              simp (disch := omega) only [a4_cO hat1, a4_g0 hat1, a4_g1 hat1, a4_g2 hat1, a4_g3 hat1, a4_g4 hat1, a4_g5 hat1, a4_l1 hat1, a4_l2 hat1, a4_l3 hat1, a4_l4 hat1, a4_l5 hat1, hp, Option.bind_some, if_pos, if_neg, if_true, if_false, ite_true, ite_false, I_add, I_sub, I_mul, I_neg, I_lt, I_le, I_eq, L0, L1, L2, L3, L4, L5, L6, L7, L8, L9, L10, L11, L12, L13, L14, L15, L16, L17, L18, L19, L20, L21, L22, L23, L24, L25, L26, L27, L31, L32, L33, L36, L40, L41, L42, L47, L48, L57, L58, L59, L60, L61, L62, L65, L97, L101, L102, L103, L120, L126, L127, L144, L245, L1023, L1715]
              have hins := T_insert (a := 2) (F := F1) (A := A1) (n := tn (fS X)) (a4_len hat1) (p := p) (t := t) (v := v) (L := A1 3 e + 1) hF1 (by omega) (by omega) (by omega) hwi'
              rw [hat1.ov] at hins
              refine Ok.bind hins ?_
              rintro m2 ⟨F2, A2, rfl, hF2, hA2⟩
              have hf2 : Fr m1 (ov m1 2 (o4 2 F2 A2)) 2 8 := Fr.ov (N := 5) (fun off h => o4_N off h)
              rw [hle1] at hA2
              have hT2 := TR_ins (A0 := A1) hF2 hwi (fun k k0 k1 => by obtain ⟨z1, z2, z3, z4, z5, z6⟩ := hT1.2.2 k k0 k1; exact ⟨z1, z2, z3, z6⟩) c2 ⟨by omega, by omega⟩ hA2
              have hci := h'.newT hf2 (o4_At (a4_len hat1)) hT2
              rw [pushK_S] at hci
              exact Ok.pure ⟨p, _, rfl, hci, hf1.tr (hf2.mono (by omega) (by omega)), Or.inr ⟨hC, Or.inr (Or.inr ⟨c5, by omega, hsp, rfl⟩)⟩⟩
            · simp (disch := omega) only [a4_cO hat, a4_g0 hat, a4_g1 hat, a4_g2 hat, a4_g3 hat, a4_g4 hat, a4_g5 hat, a4_l1 hat, a4_l2 hat, a4_l3 hat, a4_l4 hat, a4_l5 hat, Option.bind_some, if_pos, if_neg, if_true, if_false, ite_true, ite_false, I_add, I_sub, I_mul, I_neg, I_lt, I_le, I_eq]
              exact (C_fail h (by omega)).mono (fun q hq => ⟨-4, _, hq.1, hq.2.1, hq.2.2, Or.inr ⟨hC, Or.inr (Or.inl ⟨c5, by omega, rfl, rfl⟩)⟩⟩)
          · simp (disch := omega) only [a4_cO hat, a4_g0 hat, a4_g1 hat, a4_g2 hat, a4_g3 hat, a4_g4 hat, a4_g5 hat, a4_l1 hat, a4_l2 hat, a4_l3 hat, a4_l4 hat, a4_l5 hat, Option.bind_some, if_pos, if_neg, if_true, if_false, ite_true, ite_false, I_add, I_sub, I_mul, I_neg, I_lt, I_le, I_eq]
            exact (C_fail h (by omega)).mono (fun q hq => ⟨-3, _, hq.1, hq.2.1, hq.2.2, Or.inr ⟨hC, Or.inl ⟨by omega, rfl, rfl⟩⟩⟩)
        · simp (disch := omega) only [Option.bind_some, if_pos, if_neg, if_true, if_false, ite_true, ite_false, I_add, I_sub, I_mul, I_neg, I_lt, I_le, I_eq]
          exact (C_fail h (by omega)).mono (fun q hq => ⟨-2, _, hq.1, hq.2.1, hq.2.2, Or.inl ⟨by omega, rfl, rfl⟩⟩)
    · rw [ind_f c2]
      simp (disch := omega) only [L0, L1, L2, L3, L4, L5, L6, L7, L8, L9, L10, L11, L12, L13, L14, L15, L16, L17, L18, L19, L20, L21, L22, L23, L24, L25, L26, L27, L31, L32, L33, L36, L40, L41, L42, L47, L48, L57, L58, L59, L60, L61, L62, L65, L97, L101, L102, L103, L120, L126, L127, L144, L245, L1023, L1715, I_add, I_sub, I_mul, I_neg, I_lt, I_le, I_eq, h.self, Option.bind_some, if_pos, if_neg, if_true, if_false, ite_true, ite_false]
      exact (C_fail h (by omega)).mono (fun q hq => ⟨-2, _, hq.1, hq.2.1, hq.2.2, Or.inl ⟨by omega, rfl, rfl⟩⟩)
  · rw [ind_f c1]
    simp (disch := omega) only [L0, L1, L2, L3, L4, L5, L6, L7, L8, L9, L10, L11, L12, L13, L14, L15, L16, L17, L18, L19, L20, L21, L22, L23, L24, L25, L26, L27, L31, L32, L33, L36, L40, L41, L42, L47, L48, L57, L58, L59, L60, L61, L62, L65, L97, L101, L102, L103, L120, L126, L127, L144, L245, L1023, L1715, I_add, I_sub, I_mul, I_neg, I_lt, I_le, I_eq, h.self, Option.bind_some, if_pos, if_neg, if_true, if_false, ite_true, ite_false]
    exact (C_fail h (by omega)).mono (fun q hq => ⟨-2, _, hq.1, hq.2.1, hq.2.2, Or.inl ⟨by omega, rfl, rfl⟩⟩)
end CT
