/-! ===== the reference: chains ===== -/
/-- the reference's tree and twigs -/
def MC (F : Nat → Int) (A : Nat → Int → Int) (S : TS) : Prop := MT F A (tn S) (ttg S) (tvl S) (tlv S) ∧ MW A S
theorem MC.cg {F : Nat → Int} {A A' : Nat → Int → Int} {S : TS} (h : MC F A S) (hA : ∀ i, i ≤ 8 → A' i = A i) : MC F A' S := by
  refine ⟨h.1.congr rfl (fun i _ _ => hA i (by omega)), ?_⟩
  unfold MW
  rw [hA 7 (by omega), hA 8 (by omega)]
  exact h.2
theorem Sm_rng {g : Int → Int} {e E n : Int} (h0 : 0 ≤ e) (h1 : e < E) (h2 : E ≤ n) : Sm (fun z => ind (e < z ∧ z < E) * g z) 0 n = Sm g (e + 1) E := by
  rw [Sm_split (show (0 : Int) ≤ e + 1 by omega) (show e + 1 ≤ n by omega), Sm_split (show e + 1 ≤ E by omega) h2]
  rw [Sm_zero (lo := 0) (fun z z0 z1 => by rw [ind_f (by omega), Int.zero_mul]), Sm_zero (lo := E) (fun z z0 z1 => by rw [ind_f (by omega), Int.zero_mul]), Int.zero_add, Int.add_zero]
  exact Sm_congr (fun z z0 z1 => by rw [ind_t (by omega), Int.one_mul])
section MCH
variable {M m : Mm} {a : Nat} {F : Nat → Int} {A : Nat → Int → Int} {S : TS}
theorem N_fits (h : At M a (o8 a F A)) (hM : MC F A S) {i q e : Int} (i0 : 0 ≤ i) (i1 : i < 4) (q0 : 0 ≤ q) (q1 : q < tqn S i) (e0 : 0 ≤ e) (e1 : e < tn S) : f_X8_fitsIn M a (I i) (I q) (I e) = some (I (ind (ftF (ttg S) (tvl S) (tnd S i) q e))) := by
  have hn2 := hM.1.2.1.2.1
  obtain ⟨r1, r2, -, -, -, r3, r4, r5, r6⟩ := hM.1.2.2 e e0 e1
  have t1 := ((hM.2 i i0 i1).2.1.2.2 q q0 q1).1
  unfold f_X8_fitsIn f_X8_fitsIn_J26
  simp (disch := omega) only [a8_cO h, N_tag h hM.2, a8_g2 h, a8_l2 h, a8_g3 h, a8_l3 h, r1, r2, N_passes h hM.2, L0, L1, L2, L3, L4, L5, L6, L7, L8, L9, L10, L11, L12, L13, L14, L15, L16, L17, L18, L19, L20, L21, L22, L23, L24, L25, L26, L27, L31, L32, L33, L36, L40, L41, L42, L47, L48, L57, L58, L59, L60, L61, L62, L65, L97, L101, L102, L103, L120, L126, L127, L144, L245, L1023, L1715, I_add, I_sub, I_mul, I_neg, I_lt, I_le, I_eq, Option.bind_some]
  by_cases d2 : psF (tnd S i) q (tvl S e)
  · simp (disch := omega) only [ind_t d2, I_add, I_sub, I_mul, I_neg, I_lt, I_le, I_eq, Option.bind_some, if_pos, if_neg, if_true, if_false, ite_true, ite_false]
    by_cases d3 : tnd S i q 0 = 6
    · rw [ind_t (show ftF (ttg S) (tvl S) (tnd S i) q e from ⟨Or.inl d3, d2⟩)]
      simp only [if_pos d3]
    · by_cases d4 : tnd S i q 0 = ttg S e
      · rw [ind_t (show ftF (ttg S) (tvl S) (tnd S i) q e from ⟨Or.inr d4, d2⟩)]
        simp only [if_neg d3, if_pos d4]
      · rw [ind_f (show ¬ ftF (ttg S) (tvl S) (tnd S i) q e from fun z => z.1.elim d3 d4)]
        simp only [if_neg d3, if_neg d4]
  · rw [ind_f (show ¬ ftF (ttg S) (tvl S) (tnd S i) q e from fun z => d2 z.2)]
    simp (disch := omega) only [ind_f d2, I_add, I_sub, I_mul, I_neg, I_lt, I_le, I_eq, Option.bind_some, if_pos, if_neg, if_true, if_false, ite_true, ite_false]
    by_cases d3 : tnd S i q 0 = 6
    · simp only [if_pos d3]
    · by_cases d4 : tnd S i q 0 = ttg S e
      · simp only [if_neg d3, if_pos d4]
      · simp only [if_neg d3, if_neg d4]
theorem N_joined (h : At M a (o8 a F A)) (hM : MC F A S) {i r e x : Int} (i0 : 0 ≤ i) (i1 : i < 4) (r0 : 0 ≤ r) (r1 : r < tqn S i) (e0 : 0 ≤ e) (e1 : e < tn S) (x0 : 0 ≤ x) (x1 : x < tn S) : f_X8_isJoined M a (I i) (I r) (I e) (I x) = some (I (ind (e < x ∧ x < enF (tn S) (tlv S) e ∧ egF (tlv S) (tnd S i) r e x))) := by
  have hn2 := hM.1.2.1.2.1
  obtain ⟨-, -, -, p5, -⟩ := hM.1.2.2 e e0 e1
  obtain ⟨-, -, -, -, p6, -⟩ := hM.1.2.2 x x0 x1
  have t3 := ((hM.2 i i0 i1).2.1.2.2 r r0 r1).2.2.2.1
  obtain ⟨g1, g2, -, -⟩ := prF_spec (tlv S) x0
  obtain ⟨k1, k2, -, -⟩ := enF_spec (tlv S) e1
  have hpi := pr_iff hM.1.2.1 e0 e1 x0 x1
  unfold f_X8_isJoined
  simp (disch := omega) only [a8_cO h, N_joint h hM.2, a8_g6 h, a8_l6 h, a8_g5 h, a8_l5 h, p5, p6, L0, L1, L2, L3, L4, L5, L6, L7, L8, L9, L10, L11, L12, L13, L14, L15, L16, L17, L18, L19, L20, L21, L22, L23, L24, L25, L26, L27, L31, L32, L33, L36, L40, L41, L42, L47, L48, L57, L58, L59, L60, L61, L62, L65, L97, L101, L102, L103, L120, L126, L127, L144, L245, L1023, L1715, I_add, I_sub, I_mul, I_neg, I_lt, I_le, I_eq, Option.bind_some]
  by_cases z : tnd S i r 3 = 1
  · simp only [if_pos z]
    by_cases y : prF (tlv S) x = e
    · rw [ind_t (show e < x ∧ x < enF (tn S) (tlv S) e ∧ egF (tlv S) (tnd S i) r e x from ⟨(hpi.mp y).1, (hpi.mp y).2.1, Or.inr y⟩)]
      simp only [if_pos y]
    · rw [ind_f (show ¬ (e < x ∧ x < enF (tn S) (tlv S) e ∧ egF (tlv S) (tnd S i) r e x) from fun q => q.2.2.elim (fun t => t z) y)]
      simp only [if_neg y]
  · simp only [if_neg z]
    by_cases y1 : x ≤ e
    · rw [ind_f (show ¬ (e < x ∧ x < enF (tn S) (tlv S) e ∧ egF (tlv S) (tnd S i) r e x) from fun q => by omega)]
      simp only [if_pos y1]
    · by_cases y2 : enF (tn S) (tlv S) e ≤ x
      · rw [ind_f (show ¬ (e < x ∧ x < enF (tn S) (tlv S) e ∧ egF (tlv S) (tnd S i) r e x) from fun q => by omega)]
        simp only [if_neg y1, if_pos y2]
      · rw [ind_t (show e < x ∧ x < enF (tn S) (tlv S) e ∧ egF (tlv S) (tnd S i) r e x from ⟨by omega, by omega, Or.inl z⟩)]
        simp only [if_neg y1, if_neg y2]
theorem M_goesOn (hl : a + 25 < m.length) (hM : MC F A S) {o b : Int} (ho : o = 0 ∨ o = 1) (hb' : b = 0 ∨ b = 1) : Ok (f_X8_goesOn (ov m a (o8 a F A)) a (I o) (I b)) (fun m' => ∃ A', m' = ov m a (o8 a F A') ∧ (∀ i, i ≠ 14 → i ≠ 16 → A' i = A i) ∧ ∀ x, 0 ≤ x → x < tn S → A' 14 x = if b = 0 then A 15 x else A 15 x * Sm (fun y => A 14 y * ind (o = 0 ∨ enF (tn S) (tlv S) y ≤ x)) 0 (tn S)) := by
  have hF := hM.1.1
  have hn1 := hM.1.2.1.1
  have hn2 := hM.1.2.1.2.1
  unfold f_X8_goesOn
  refine Ok.bind (P := fun m' => ∃ R, m' = ov m a (o8 a F (upN A 16 R)) ∧ ∀ x, 0 ≤ x → x ≤ 32 → R x = 0) ?_ ?_
  · refine Ok.whl (fun j s => ∃ x R, s = (I x, ov m a (o8 a F (upN A 16 R))) ∧ 0 ≤ x ∧ x ≤ 33 ∧ j = (33 - x).toNat ∧ ∀ k, 0 ≤ k → k < x → R k = 0) _ (j := (33 - 0 : Int).toNat) ?_ ⟨0, A 16, by rw [upN_self]; rfl, by omega, by omega, rfl, fun k k0 k1 => by omega⟩ (FU_lt (by omega))
    rintro j s ⟨x, R, rfl, x0, x1, rfl, hk⟩
    dsimp only
    unfold f_X8_goesOn_L5
    by_cases d1 : 32 < x
    · simp (disch := omega) only [L0, L1, L2, L3, L4, L5, L6, L7, L8, L9, L10, L11, L12, L13, L14, L15, L16, L17, L18, L19, L20, L21, L22, L23, L24, L25, L26, L27, L31, L32, L33, L36, L40, L41, L42, L47, L48, L57, L58, L59, L60, L61, L62, L65, L97, L101, L102, L103, L120, L126, L127, L144, L245, L1023, L1715, I_add, I_sub, I_mul, I_neg, I_lt, I_le, I_eq, if_pos d1]
      exact Ok.pure (Or.inr ⟨_, rfl, R, rfl, fun k k0 k1 => hk k k0 (by omega)⟩)
    · simp (disch := omega) only [L0, L1, L2, L3, L4, L5, L6, L7, L8, L9, L10, L11, L12, L13, L14, L15, L16, L17, L18, L19, L20, L21, L22, L23, L24, L25, L26, L27, L31, L32, L33, L36, L40, L41, L42, L47, L48, L57, L58, L59, L60, L61, L62, L65, L97, L101, L102, L103, L120, L126, L127, L144, L245, L1023, L1715, J0, J1, J31, J32, J1716, I_add, I_sub, I_mul, I_neg, I_lt, I_le, I_eq, if_neg d1, o8_g17, o8_s16, upN_at, upN_upN, Option.bind_some]
      refine Ok.pure (Or.inl ⟨_, (33 - (x + 1)).toNat, rfl, ⟨x + 1, _, rfl, by omega, by omega, rfl, fun k k0 k1 => ?_⟩, by omega⟩)
      by_cases z : k = x
      · rw [z, upZ_at]
      · rw [upZ_ne z]; exact hk k k0 (by omega)
  rintro m' ⟨R0, rfl, hR0⟩
  refine Ok.bind (P := fun t => ∃ R, t = (J (Sm (fun y => A 14 y) 0 (tn S)), ov m a (o8 a F (upN A 16 R))) ∧ ∀ x, 0 ≤ x → x ≤ 32 → R x = Sm (fun y => A 14 y * ind (enF (tn S) (tlv S) y = x)) 0 (tn S)) ?_ ?_
  · refine Ok.whl (fun j s => ∃ y R, s = (J (Sm (fun y => A 14 y) 0 y), I y, ov m a (o8 a F (upN A 16 R))) ∧ 0 ≤ y ∧ y ≤ tn S ∧ j = (tn S - y).toNat ∧ ∀ x, 0 ≤ x → x ≤ 32 → R x = Sm (fun y => A 14 y * ind (enF (tn S) (tlv S) y = x)) 0 y) _ (j := (tn S - 0).toNat) ?_ ⟨0, R0, by rw [Sm_nil (Int.le_refl _)]; rfl, by omega, by omega, rfl, fun x x0 x1 => by rw [hR0 x x0 x1, Sm_nil (Int.le_refl _)]⟩ (FU_lt (by omega))
    rintro j s ⟨y, R, rfl, y0, y1, rfl, hk⟩
    dsimp only
    unfold f_X8_goesOn_L29
    by_cases d1 : tn S ≤ y
    · simp (disch := omega) only [o8_g1, hF, I_add, I_sub, I_mul, I_neg, I_lt, I_le, I_eq, if_pos d1, Option.bind_some]
      rw [show y = tn S by omega] at hk ⊢
      exact Ok.pure (Or.inr ⟨_, rfl, R, rfl, hk⟩)
    · obtain ⟨-, -, -, p5, -⟩ := hM.1.2.2 y y0 (by omega)
      obtain ⟨k1, k2, -, -⟩ := enF_spec (tlv S) (show y < tn S by omega)
      have r5 : upN A 16 R 5 y = enF (tn S) (tlv S) y := by rw [upN_ne (by omega)]; exact p5
      have r14 : ∀ R' : Int → Int, upN A 16 R' 14 y = A 14 y := fun R' => by rw [upN_ne (by omega)]
      simp (disch := omega) only [o8_g1, hF, L0, L1, L2, L3, L4, L5, L6, L7, L8, L9, L10, L11, L12, L13, L14, L15, L16, L17, L18, L19, L20, L21, L22, L23, L24, L25, L26, L27, L31, L32, L33, L36, L40, L41, L42, L47, L48, L57, L58, L59, L60, L61, L62, L65, L97, L101, L102, L103, L120, L126, L127, L144, L245, L1023, L1715, I_add, I_sub, I_mul, I_neg, I_lt, I_le, I_eq, if_neg d1, o8_g17, o8_g5, o8_l5, r5, o8_l16, upN_at, upN_upN, o8_g15, o8_l14, r14, o8_s16, J_add, Option.bind_some]
      refine Ok.pure (Or.inl ⟨_, (tn S - (y + 1)).toNat, rfl, ⟨y + 1, _, by rw [Sm_succ y0], by omega, by omega, rfl, fun x x0 x1 => ?_⟩, by omega⟩)
      rw [Sm_succ y0]
      by_cases z : x = enF (tn S) (tlv S) y
      · subst z
        rw [upZ_at, ind_t rfl, Int.mul_one, hk _ x0 x1]
      · rw [upZ_ne z, ind_f (fun q => z q.symm), Int.mul_zero, Int.add_zero, hk x x0 x1]
  rintro ⟨sm, m'⟩ ⟨R1, he, hR1⟩
  obtain ⟨rfl, rfl⟩ := Prod.mk.inj he
  dsimp only
  refine Ok.bind (P := fun m' => ∃ A', m' = ov m a (o8 a F A') ∧ (∀ i, i ≠ 14 → i ≠ 16 → A' i = A i) ∧ ∀ x, 0 ≤ x → x < tn S → A' 14 x = if b = 0 then A 15 x else A 15 x * Sm (fun y => A 14 y * ind (o = 0 ∨ enF (tn S) (tlv S) y ≤ x)) 0 (tn S)) ?_ (fun _ h => Ok.pure h)
  obtain ⟨tt, htt⟩ : ∃ tt : Int → Int, ∀ x, tt x = if b = 0 then A 15 x else A 15 x * Sm (fun y => A 14 y * ind (o = 0 ∨ enF (tn S) (tlv S) y ≤ x)) 0 (tn S) := ⟨_, fun _ => rfl⟩
  refine Ok.whl (fun j s => ∃ x R, s = (J (Sm (fun y => A 14 y * ind (enF (tn S) (tlv S) y < x)) 0 (tn S)), I x, ov m a (o8 a F (upN (upN A 16 R1) 14 R))) ∧ 0 ≤ x ∧ x ≤ tn S ∧ j = (tn S - x).toNat ∧ ∀ k, 0 ≤ k → k < x → R k = tt k) _ (j := (tn S - 0).toNat) ?_ ⟨0, A 14, ?_, by omega, by omega, rfl, fun k k0 k1 => by omega⟩ (FU_lt (by omega))
  · rintro j s ⟨x, R, rfl, x0, x1, rfl, hk⟩
    dsimp only
    unfold f_X8_goesOn_L82
    by_cases d1 : tn S ≤ x
    · simp (disch := omega) only [o8_g1, hF, I_add, I_sub, I_mul, I_neg, I_lt, I_le, I_eq, if_pos d1, Option.bind_some]
      refine Ok.pure (Or.inr ⟨_, rfl, _, rfl, fun i hi1 hi2 => by rw [upN_ne hi1, upN_ne hi2], fun k k0 k1 => ?_⟩)
      rw [upN_at, hk k k0 (by omega)]
      exact htt k
    · have r16 : upN (upN A 16 R1) 14 R 16 x = R1 x := by rw [upN_ne (by omega), upN_at]
      have r15 : upN (upN A 16 R1) 14 R 15 x = A 15 x := by rw [upN_ne (by omega), upN_ne (by omega)]
      have hah : Sm (fun y => A 14 y * ind (enF (tn S) (tlv S) y < x)) 0 (tn S) + R1 x = Sm (fun y => A 14 y * ind (enF (tn S) (tlv S) y < x + 1)) 0 (tn S) := by
        rw [hR1 x x0 (by omega), ← Sm_add]
        refine Sm_congr (fun y y0 y1 => ?_)
        rw [← Int.mul_add]
        congr 1
        by_cases q1 : enF (tn S) (tlv S) y = x
        · rw [ind_t q1, ind_f (by omega), ind_t (by omega)]; rfl
        · by_cases q2 : enF (tn S) (tlv S) y < x
          · rw [ind_f q1, ind_t q2, ind_t (by omega)]; rfl
          · rw [ind_f q1, ind_f q2, ind_f (by omega)]; rfl
      have nxt : ∀ v, v = tt x → ∃ x' R', ((J (Sm (fun y => A 14 y * ind (enF (tn S) (tlv S) y < x + 1)) 0 (tn S)), I (x + 1), ov m a (o8 a F (upN (upN A 16 R1) 14 (upZ R x v)))) : Int64 × Int32 × Mm) = (J (Sm (fun y => A 14 y * ind (enF (tn S) (tlv S) y < x')) 0 (tn S)), I x', ov m a (o8 a F (upN (upN A 16 R1) 14 R'))) ∧ 0 ≤ x' ∧ x' ≤ tn S ∧ (tn S - (x + 1)).toNat = (tn S - x').toNat ∧ ∀ k, 0 ≤ k → k < x' → R' k = tt k := by
        intro v hv
        refine ⟨x + 1, _, rfl, by omega, by omega, rfl, fun k k0 k1 => ?_⟩
        by_cases z : k = x
        · rw [z, upZ_at]; exact hv
        · rw [upZ_ne z]; exact hk k k0 (by omega)
      rcases hb' with hbz | hbz
      · simp (disch := omega) only [hbz, o8_g1, hF, L0, L1, L2, L3, L4, L5, L6, L7, L8, L9, L10, L11, L12, L13, L14, L15, L16, L17, L18, L19, L20, L21, L22, L23, L24, L25, L26, L27, L31, L32, L33, L36, L40, L41, L42, L47, L48, L57, L58, L59, L60, L61, L62, L65, L97, L101, L102, L103, L120, L126, L127, L144, L245, L1023, L1715, I_add, I_sub, I_mul, I_neg, I_lt, I_le, I_eq, if_neg d1, o8_g17, o8_l16, r16, o8_g15, o8_g16, o8_l15, r15, o8_s14, upN_at, upN_upN, J_add, hah, Option.bind_some, if_true]
        exact Ok.pure (Or.inl ⟨_, (tn S - (x + 1)).toNat, rfl, nxt _ (by rw [htt, if_pos hbz]), by omega⟩)
      · have hbn : ¬ b = 0 := by omega
        rcases ho with hoz | hoz
        · simp (disch := omega) only [hbz, hoz, o8_g1, hF, L0, L1, L2, L3, L4, L5, L6, L7, L8, L9, L10, L11, L12, L13, L14, L15, L16, L17, L18, L19, L20, L21, L22, L23, L24, L25, L26, L27, L31, L32, L33, L36, L40, L41, L42, L47, L48, L57, L58, L59, L60, L61, L62, L65, L97, L101, L102, L103, L120, L126, L127, L144, L245, L1023, L1715, I_add, I_sub, I_mul, I_neg, I_lt, I_le, I_eq, Option.bind_some, if_pos, if_neg, if_true, if_false, ite_true, ite_false, if_neg d1, o8_g17, o8_l16, r16, o8_g15, o8_g16, o8_l15, r15, o8_s14, upN_at, upN_upN, J_add, J_mul, hah, Option.bind_some, if_true]
          refine Ok.pure (Or.inl ⟨_, (tn S - (x + 1)).toNat, rfl, nxt _ ?_, by omega⟩)
          rw [htt, if_neg hbn]
          congr 1
          exact Sm_congr (fun y y0 y1 => by rw [ind_t (Or.inl hoz), Int.mul_one])
        · simp (disch := omega) only [hbz, hoz, o8_g1, hF, L0, L1, L2, L3, L4, L5, L6, L7, L8, L9, L10, L11, L12, L13, L14, L15, L16, L17, L18, L19, L20, L21, L22, L23, L24, L25, L26, L27, L31, L32, L33, L36, L40, L41, L42, L47, L48, L57, L58, L59, L60, L61, L62, L65, L97, L101, L102, L103, L120, L126, L127, L144, L245, L1023, L1715, I_add, I_sub, I_mul, I_neg, I_lt, I_le, I_eq, Option.bind_some, if_pos, if_neg, if_true, if_false, ite_true, ite_false, if_neg d1, o8_g17, o8_l16, r16, o8_g15, o8_g16, o8_l15, r15, o8_s14, upN_at, upN_upN, J_add, J_mul, hah, Option.bind_some, if_true]
          refine Ok.pure (Or.inl ⟨_, (tn S - (x + 1)).toNat, rfl, nxt _ ?_, by omega⟩)
          rw [htt, if_neg hbn]
          congr 1
          exact Sm_congr (fun y y0 y1 => by rw [ind_congr (show enF (tn S) (tlv S) y < x + 1 ↔ o = 0 ∨ enF (tn S) (tlv S) y ≤ x by omega)])
  · have hz : upN (upN A 16 R1) 14 (A 14) = upN A 16 R1 := by
      have : A 14 = upN A 16 R1 14 := (upN_ne (by omega)).symm
      conv => lhs; rw [this]
      exact upN_self
    rw [hz, Sm_zero (fun y y0 y1 => by
      have := (enF_spec (tlv S) y1).1
      rw [ind_f (by omega), Int.mul_zero])]
    rfl
end MCH
