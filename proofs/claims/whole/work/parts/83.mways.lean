/-! ===== the reference: ways ===== -/
section WST
variable {Q : Int} {nd : Int → Int → Int} {n : Int} {lv : Int → Int} {al : Int → Int32} {W W' P : Int → Int → Int} {u : Int}
/-- the term of x in what climbs to e -/
def clT (Q : Int) (nd : Int → Int → Int) (n : Int) (lv : Int → Int) (al : Int → Int32) (W : Int → Int → Int) (u c e : Int) (U : Int → Int) (x : Int) : Int := ind (0 < U x ∧ egF lv nd c e x ∧ hb (al (nd c 5)) e ∧ (u = 0 ∨ (BF Q nd n lv W e c x ≠ 0 ∧ AF Q nd n lv W e c x ≠ 0))) * U x
def clV (Q : Int) (nd : Int → Int → Int) (n : Int) (lv : Int → Int) (al : Int → Int32) (W : Int → Int → Int) (u c : Int) (U : Int → Int) (e : Int) : Int := Sm (clT Q nd n lv al W u c e U) (e + 1) (enF n lv e)
theorem IsPf.ofW (hw : WW Q nd) {q : Int} (q0 : 0 ≤ q) (q1 : q < Q) (h : IsPf Q nd n lv al W u P q (q + 1)) (he : ∀ c x, 0 ≤ c → c < Q → 0 ≤ x → x < n → W c x = W' c x) : IsPf Q nd n lv al W' u P q (q + 1) := by
  refine ⟨fun x x0 x1 => ?_, fun c c0 c1 c2 x x0 x1 => ?_⟩
  · rw [h.1 x x0 x1, he 0 x (Int.le_refl _) (by omega) x0 x1]
  · rw [h.2 c c0 c1 c2 x x0 x1]
    refine Sm_congr (fun e e0 e1 => ?_)
    congr 1
    unfold stp
    by_cases z : e < x ∧ x < enF n lv e
    · have hEe : eE n lv e = enF n lv e := if_neg (by omega)
      refine ind_congr ?_
      unfold usF
      rw [he c x (by omega) (by omega) x0 x1, BF_cg (W := W) (W' := W') hw (by omega) (by omega) e0 e1 (fun c' y p1 p2 p3 p4 p5 => he c' y p1 (by omega) p4 p5), AF_cg (W := W) (W' := W') hw (by omega) (by omega) e0 e1 (by omega) (by omega) (fun c' y p1 p2 p3 p4 p5 => he c' y (by omega) p2 p4 p5)]
    · rw [ind_f (fun t => z ⟨t.1, t.2.1⟩), ind_f (fun t => z ⟨t.1, t.2.1⟩)]
theorem ways_step (hw : WW Q nd) (hn : n ≤ 32) {q : Int} (q1 : q < Q) (hI : IsW Q nd n lv al W) (h : IsPf Q nd n lv al W u P q (q + 1)) {c : Int} {U : Int → Int} (c0 : 0 < c) (c1 : c ≤ q) (cq : q < eW Q nd c) (hU0 : ∀ x, 0 ≤ x → x < n → 0 ≤ U x) (hUs : ∀ x, 0 ≤ x → x < n → U x ≠ 0 → spF al W u c x) : Sm (fun e => P (nd c 5) e * clV Q nd n lv al W u c U e) 0 n = Sm (fun x => P c x * U x) 0 n ∧ ∀ e, 0 ≤ e → e < n → clV Q nd n lv al W u c U e ≠ 0 → spF al W u (nd c 5) e := by
  obtain ⟨g1, g2, g3⟩ := on_path hw c0 (show c < Q by omega) cq
  refine ⟨?_, fun e e0 e1 he => ?_⟩
  · rw [show Sm (fun x => P c x * U x) 0 n = Sm (fun x => Sm (fun e => P (nd c 5) e * stp Q nd n lv al W u c e x * U x) 0 n) 0 n from Sm_congr (fun x x0 x1 => by rw [h.2 c c0 (by omega) cq x x0 x1, Sm_mulr])]
    rw [Sm_swap]
    refine Sm_congr (fun e e0 e1 => ?_)
    obtain ⟨k1, k2, -, -⟩ := enF_spec lv e1
    have hEe : eE n lv e = enF n lv e := if_neg (by omega)
    unfold clV
    rw [← Sm_rng e0 k1 k2, ← Sm_mul]
    refine Sm_congr (fun x x0 x1 => ?_)
    unfold clT
    by_cases z : U x = 0
    · rw [z]; simp only [Int.mul_zero]
    · by_cases y : P (nd c 5) e = 0
      · rw [y]; simp only [Int.zero_mul]
      · have hs := hUs x x0 x1 z
        have hp := P_sp hw q1 h g1 (by omega) g3 e0 e1 y
        have hUx := hU0 x x0 x1
        rw [Int.mul_assoc]
        congr 1
        rw [← Int.mul_assoc]
        congr 1
        unfold stp
        by_cases t : e < x ∧ x < enF n lv e
        · rw [ind_t t, Int.one_mul]
          refine ind_congr ?_
          by_cases hu : u = 0
          · have hd := hp.1 hu
            have hc := hs.1 hu
            constructor
            · rintro ⟨-, s2, -, -⟩
              exact ⟨t.1, t.2, Or.inl ⟨hu, hc, s2⟩⟩
            · rintro ⟨-, -, s⟩
              rcases s with s | s
              · exact ⟨by omega, s.2.2, hd, Or.inl hu⟩
              · exact absurd hu s.1
          · have hd : hb (al (nd c 5)) e := by
              have h1 := hp.2 hu
              have h2 := hI.nn (Int.le_refl _) hw (nd c 5) e g1 (by omega) e0 e1
              exact ((W_pos hI g1 (by omega) e0 e1).mp (by omega)).1
            have hc := hs.2 hu
            constructor
            · rintro ⟨-, s2, -, s4⟩
              rcases s4 with s4 | s4
              · exact absurd s4 hu
              · exact ⟨t.1, t.2, Or.inr ⟨hu, hc, s2, s4.1, s4.2⟩⟩
            · rintro ⟨-, -, s⟩
              rcases s with s | s
              · exact absurd s.1 hu
              · exact ⟨by omega, s.2.2.1, hd, Or.inr ⟨s.2.2.2.1, s.2.2.2.2⟩⟩
        · rw [ind_f t, Int.zero_mul, ind_f (fun s => t ⟨s.1, s.2.1⟩)]
  · obtain ⟨x, x0, x1, hx⟩ := Sm_ne he
    obtain ⟨k1, k2, -, -⟩ := enF_spec lv e1
    have hEe : eE n lv e = enF n lv e := if_neg (by omega)
    have hc : ind (0 < U x ∧ egF lv nd c e x ∧ hb (al (nd c 5)) e ∧ (u = 0 ∨ (BF Q nd n lv W e c x ≠ 0 ∧ AF Q nd n lv W e c x ≠ 0))) ≠ 0 := fun t => hx (by unfold clT; rw [t, Int.zero_mul])
    obtain ⟨s1, s2, s3, s4⟩ := ind_ne hc
    have hs := hUs x (by omega) (by omega) (by omega)
    refine ⟨fun _ => s3, fun hu => ?_⟩
    rcases s4 with s4 | s4
    · exact absurd s4 hu
    · have h1 := hs.2 hu
      have h2 := hI.nn (Int.le_refl _) hw c x (by omega) (by omega) (by omega) (by omega)
      have := (W_pos hI g1 (by omega) e0 e1).mpr ⟨s3, (cw_pos hw hn hI c0 (by omega) e0 e1).mpr ⟨x, x0, by omega, by omega, s2, s4.1, s4.2⟩⟩
      omega
theorem clV_bd (hn : n ≤ 32) {c e B : Int} {U : Int → Int} (e0 : 0 ≤ e) (e1 : e < n) (hU : ∀ x, 0 ≤ x → x < n → 0 ≤ U x ∧ U x ≤ B) (hB : 0 ≤ B) : 0 ≤ clV Q nd n lv al W u c U e ∧ clV Q nd n lv al W u c U e ≤ 32 * B := by
  obtain ⟨k1, k2, -, -⟩ := enF_spec lv e1
  have ht : ∀ x, e + 1 ≤ x → x < enF n lv e → 0 ≤ clT Q nd n lv al W u c e U x ∧ clT Q nd n lv al W u c e U x ≤ B := by
    intro x x0 x1
    have h1 := hU x (by omega) (by omega)
    unfold clT
    refine ⟨Int.mul_nonneg ind_nn h1.1, ?_⟩
    have := Int.mul_le_mul_of_nonneg_right (@ind_le (0 < U x ∧ egF lv nd c e x ∧ hb (al (nd c 5)) e ∧ (u = 0 ∨ (BF Q nd n lv W e c x ≠ 0 ∧ AF Q nd n lv W e c x ≠ 0))) _) h1.1
    omega
  unfold clV
  refine ⟨Sm_nonneg (fun x x0 x1 => (ht x x0 x1).1), ?_⟩
  have h1 := Sm_le (g := fun _ => B) (fun x x0 x1 => (ht x x0 x1).2)
  rw [Sm_const (by omega)] at h1
  have h2 : (enF n lv e - (e + 1)) * B ≤ 32 * B := Int.mul_le_mul_of_nonneg_right (by omega) hB
  omega
end WST
section MCL
variable {m : Mm} {a : Nat} {F : Nat → Int} {A : Nat → Int → Int} {X : FS}
theorem M_climb1 (hl : a + 25 < m.length) (h : MB F A X) {i c e u : Int} (i0 : 0 ≤ i) (i1 : i < 4) (c0 : 0 < c) (c1 : c < tqn (fS X) i) (e0 : 0 ≤ e) (e1 : e < tn (fS X)) (hu : u = 0 ∨ u = 1) (hI : IsW (tqn (fS X) i) (tnd (fS X) i) (tn (fS X)) (tlv (fS X)) (ftX X i) (bR A)) (hU : ∀ x, 0 ≤ x → x < tn (fS X) → 0 ≤ A 18 x ∧ A 18 x < 4611686018427387904) : Ok (whl (σ := Int32 × Mm) (ρ := (Mm)) FU (fun t8 => f_X8_climbs_L34 t8.2 a (I i) (I c) (I u) (I (tnd (fS X) i c 5)) (I e) t8.1) (I (e + 1), ov m a (o8 a F A))) (fun m' => ∃ A', m' = ov m a (o8 a F A') ∧ (∀ i, i ≠ 14 → i ≠ 15 → i ≠ 16 → i ≠ 19 → A' i = A i) ∧ (∀ k, k ≠ e → A' 19 k = A 19 k) ∧ A' 19 e = A 19 e + clV (tqn (fS X) i) (tnd (fS X) i) (tn (fS X)) (tlv (fS X)) (ftX X i) (bR A) u c (A 18) e) := by
  obtain ⟨ex1, hw, -⟩ := h.2.1 i i0 i1
  have h66 := hw.2.1
  have hn1 := h.1.2.1.1
  have hn2 := h.1.2.1.2.1
  obtain ⟨k1, k2, -, -⟩ := enF_spec (tlv (fS X)) e1
  have hEe : eE (tn (fS X)) (tlv (fS X)) e = enF (tn (fS X)) (tlv (fS X)) e := if_neg (by omega)
  have h5 := ((hw.2.2 c (by omega) c1).2.2.2.2.2.2.2 c0).2.1
  have hab := hw.ab (show 0 ≤ c by omega) c1
  refine Ok.whl (fun j s => ∃ x A', s = (I x, ov m a (o8 a F A')) ∧ e + 1 ≤ x ∧ x ≤ enF (tn (fS X)) (tlv (fS X)) e ∧ j = (enF (tn (fS X)) (tlv (fS X)) e - x).toNat ∧ (∀ i, i ≠ 14 → i ≠ 15 → i ≠ 16 → i ≠ 19 → A' i = A i) ∧ (∀ k, k ≠ e → A' 19 k = A 19 k) ∧ A' 19 e = A 19 e + Sm (clT (tqn (fS X) i) (tnd (fS X) i) (tn (fS X)) (tlv (fS X)) (ftX X i) (bR A) u c e (A 18)) (e + 1) x) _ (j := (enF (tn (fS X)) (tlv (fS X)) e - (e + 1)).toNat) ?_ ⟨e + 1, A, rfl, by omega, by omega, rfl, fun _ _ _ _ _ => rfl, fun _ _ => rfl, by rw [Sm_nil (Int.le_refl _)]; omega⟩ (FU_lt (by omega))
  rintro j s ⟨x, A1, rfl, x0, x1, rfl, hi, hk, he⟩
  dsimp only
  have hB1 : MB F A1 X := h.congr (fun _ _ => rfl) (fun i hi' => hi i (by omega) (by omega) (by omega) (by omega))
  have hAt : At (ov m a (o8 a F A1)) a (o8 a F A1) := o8_At hl
  have p5 := (hB1.1.2.2 e e0 e1).2.2.2.1
  have h18 : A1 18 = A 18 := hi 18 (by omega) (by omega) (by omega) (by omega)
  have h13 : bR A1 = bR A := by funext q e; show A1 13 _ = A 13 _; rw [hi 13 (by omega) (by omega) (by omega) (by omega)]
  unfold f_X8_climbs_L34
  by_cases d1 : enF (tn (fS X)) (tlv (fS X)) e ≤ x
  · simp (disch := omega) only [o8_g5, o8_l5, p5, I_add, I_sub, I_mul, I_neg, I_lt, I_le, I_eq, if_pos d1, Option.bind_some]
    rw [show x = enF (tn (fS X)) (tlv (fS X)) e by omega] at he
    exact Ok.pure (Or.inr ⟨_, rfl, A1, rfl, hi, hk, he⟩)
  · have hUx := hU x (by omega) (by omega)
    have nxt : ∀ (A2 : Nat → Int → Int) (v : Int), (∀ i, i ≠ 14 → i ≠ 15 → i ≠ 16 → A2 i = A1 i) → v = A1 19 e + clT (tqn (fS X) i) (tnd (fS X) i) (tn (fS X)) (tlv (fS X)) (ftX X i) (bR A) u c e (A 18) x → ∃ x' A', ((I (x + 1), ov m a (o8 a F (upN A2 19 (upZ (A2 19) e v)))) : Int32 × Mm) = (I x', ov m a (o8 a F A')) ∧ e + 1 ≤ x' ∧ x' ≤ enF (tn (fS X)) (tlv (fS X)) e ∧ (enF (tn (fS X)) (tlv (fS X)) e - (x + 1)).toNat = (enF (tn (fS X)) (tlv (fS X)) e - x').toNat ∧ (∀ i, i ≠ 14 → i ≠ 15 → i ≠ 16 → i ≠ 19 → A' i = A i) ∧ (∀ k, k ≠ e → A' 19 k = A 19 k) ∧ A' 19 e = A 19 e + Sm (clT (tqn (fS X) i) (tnd (fS X) i) (tn (fS X)) (tlv (fS X)) (ftX X i) (bR A) u c e (A 18)) (e + 1) x' := by
      intro A2 v h2 hv
      have h219 : A2 19 = A1 19 := h2 19 (by omega) (by omega) (by omega)
      refine ⟨x + 1, _, rfl, by omega, by omega, rfl, fun i g1 g2 g3 g4 => ?_, fun k kk => ?_, ?_⟩
      · rw [upN_ne g4, h2 i g1 g2 g3]; exact hi i g1 g2 g3 g4
      · rw [upN_at, upZ_ne kk, h219]; exact hk k kk
      · rw [upN_at, upZ_at, hv, he, Sm_succ x0, Int.add_assoc]
    have hfit : hb (ftX X i (tnd (fS X) i c 5)) e ↔ ftF (ttg (fS X)) (tvl (fS X)) (tnd (fS X) i) (tnd (fS X) i c 5) e := hb_ftX hn1 hn2 e0 e1
    have hfirst : Option.bind (α := Int32) (if J (A 18 x) ≤ (0 : Int64) then some (0 : Int32) else cO (ov m a (o8 a F A1)) a 8 <| (f_X8_isJoined (ov m a (o8 a F A1)) a (I i) (I c) (I e) (I x)).bind fun v15 => (if v15 = (0 : Int32) then some (0 : Int32) else cO (ov m a (o8 a F A1)) a 8 <| (f_X8_fitsIn (ov m a (o8 a F A1)) a (I i) (I (tnd (fS X) i c 5)) (I e)).bind fun v20 => (if v20 = (0 : Int32) then some (0 : Int32) else some (1 : Int32)))) = Option.bind (some (I (ind (0 < A 18 x ∧ egF (tlv (fS X)) (tnd (fS X) i) c e x ∧ hb (ftX X i (tnd (fS X) i c 5)) e)))) (β := (Int32 × Mm) ⊕ Mm) := by
      congr 1
      by_cases z1 : 0 < A 18 x
      · by_cases z2 : egF (tlv (fS X)) (tnd (fS X) i) c e x
        · have zj : e < x ∧ x < enF (tn (fS X)) (tlv (fS X)) e ∧ egF (tlv (fS X)) (tnd (fS X) i) c e x := ⟨by omega, by omega, z2⟩
          by_cases z3 : ftF (ttg (fS X)) (tvl (fS X)) (tnd (fS X) i) (tnd (fS X) i c 5) e
          · rw [ind_t (show 0 < A 18 x ∧ egF (tlv (fS X)) (tnd (fS X) i) c e x ∧ hb (ftX X i (tnd (fS X) i c 5)) e from ⟨z1, z2, hfit.mpr z3⟩)]
            simp (disch := omega) only [L0, L1, L2, L3, L4, L5, L6, L7, L8, L9, L10, L11, L12, L13, L14, L15, L16, L17, L18, L19, L20, L21, L22, L23, L24, L25, L26, L27, L31, L32, L33, L36, L40, L41, L42, L47, L48, L57, L58, L59, L60, L61, L62, L65, L97, L101, L102, L103, L120, L126, L127, L144, L245, L1023, L1715, J0, J1, J31, J32, J1716, I_add, I_sub, I_mul, I_neg, I_lt, I_le, I_eq, J_add, J_sub, J_mul, J_neg, J_lt, J_le, J_eq, Option.bind_some, if_pos, if_neg, if_true, if_false, ite_true, ite_false, if_neg (show ¬ A 18 x ≤ 0 by omega), o8_cO, N_joined hAt hB1.mc, N_fits hAt hB1.mc, ind_t zj, ind_t z3]
          · rw [ind_f (show ¬ (0 < A 18 x ∧ egF (tlv (fS X)) (tnd (fS X) i) c e x ∧ hb (ftX X i (tnd (fS X) i c 5)) e) from fun t => z3 (hfit.mp t.2.2))]
            simp (disch := omega) only [L0, L1, L2, L3, L4, L5, L6, L7, L8, L9, L10, L11, L12, L13, L14, L15, L16, L17, L18, L19, L20, L21, L22, L23, L24, L25, L26, L27, L31, L32, L33, L36, L40, L41, L42, L47, L48, L57, L58, L59, L60, L61, L62, L65, L97, L101, L102, L103, L120, L126, L127, L144, L245, L1023, L1715, J0, J1, J31, J32, J1716, I_add, I_sub, I_mul, I_neg, I_lt, I_le, I_eq, J_add, J_sub, J_mul, J_neg, J_lt, J_le, J_eq, Option.bind_some, if_pos, if_neg, if_true, if_false, ite_true, ite_false, if_neg (show ¬ A 18 x ≤ 0 by omega), o8_cO, N_joined hAt hB1.mc, N_fits hAt hB1.mc, ind_t zj, ind_f z3]
        · have zj : ¬ (e < x ∧ x < enF (tn (fS X)) (tlv (fS X)) e ∧ egF (tlv (fS X)) (tnd (fS X) i) c e x) := fun t => z2 t.2.2
          rw [ind_f (show ¬ (0 < A 18 x ∧ egF (tlv (fS X)) (tnd (fS X) i) c e x ∧ hb (ftX X i (tnd (fS X) i c 5)) e) from fun t => z2 t.2.1)]
          simp (disch := omega) only [L0, L1, L2, L3, L4, L5, L6, L7, L8, L9, L10, L11, L12, L13, L14, L15, L16, L17, L18, L19, L20, L21, L22, L23, L24, L25, L26, L27, L31, L32, L33, L36, L40, L41, L42, L47, L48, L57, L58, L59, L60, L61, L62, L65, L97, L101, L102, L103, L120, L126, L127, L144, L245, L1023, L1715, J0, J1, J31, J32, J1716, I_add, I_sub, I_mul, I_neg, I_lt, I_le, I_eq, J_add, J_sub, J_mul, J_neg, J_lt, J_le, J_eq, Option.bind_some, if_pos, if_neg, if_true, if_false, ite_true, ite_false, if_neg (show ¬ A 18 x ≤ 0 by omega), o8_cO, N_joined hAt hB1.mc, ind_f zj]
      · rw [ind_f (show ¬ (0 < A 18 x ∧ egF (tlv (fS X)) (tnd (fS X) i) c e x ∧ hb (ftX X i (tnd (fS X) i c 5)) e) from fun t => z1 t.1)]
        simp (disch := omega) only [L0, L1, L2, L3, L4, L5, L6, L7, L8, L9, L10, L11, L12, L13, L14, L15, L16, L17, L18, L19, L20, L21, L22, L23, L24, L25, L26, L27, L31, L32, L33, L36, L40, L41, L42, L47, L48, L57, L58, L59, L60, L61, L62, L65, L97, L101, L102, L103, L120, L126, L127, L144, L245, L1023, L1715, J0, J1, J31, J32, J1716, I_add, I_sub, I_mul, I_neg, I_lt, I_le, I_eq, J_add, J_sub, J_mul, J_neg, J_lt, J_le, J_eq, Option.bind_some, if_pos, if_neg, if_true, if_false, ite_true, ite_false, if_pos (show A 18 x ≤ 0 by omega)]
    simp (disch := omega) only [o8_g5, o8_l5, p5, I_add, I_sub, I_mul, I_neg, I_lt, I_le, I_eq, if_neg d1, o8_g19, o8_l18, h18, Option.bind_some]
    rw [hfirst]
    by_cases z : 0 < A 18 x ∧ egF (tlv (fS X)) (tnd (fS X) i) c e x ∧ hb (ftX X i (tnd (fS X) i c 5)) e
    · rw [ind_t z]
      rcases hu with hu0 | hu1
      · subst hu0
        simp (disch := omega) only [L0, L1, L2, L3, L4, L5, L6, L7, L8, L9, L10, L11, L12, L13, L14, L15, L16, L17, L18, L19, L20, L21, L22, L23, L24, L25, L26, L27, L31, L32, L33, L36, L40, L41, L42, L47, L48, L57, L58, L59, L60, L61, L62, L65, L97, L101, L102, L103, L120, L126, L127, L144, L245, L1023, L1715, I_add, I_sub, I_mul, I_neg, I_lt, I_le, I_eq, Option.bind_some, if_pos, if_neg, if_true, if_false, ite_true, ite_false, o8_g20, o8_l19, o8_g19, o8_l18, h18, o8_s19, J_add, Option.bind_some, if_true]
        refine Ok.pure (Or.inl ⟨_, (enF (tn (fS X)) (tlv (fS X)) e - (x + 1)).toNat, rfl, nxt A1 _ (fun _ _ _ _ => rfl) ?_, by omega⟩)
        unfold clT
        rw [ind_t ⟨z.1, z.2.1, z.2.2, Or.inl rfl⟩, Int.one_mul]
      · subst hu1
        simp (disch := omega) only [L0, L1, L2, L3, L4, L5, L6, L7, L8, L9, L10, L11, L12, L13, L14, L15, L16, L17, L18, L19, L20, L21, L22, L23, L24, L25, L26, L27, L31, L32, L33, L36, L40, L41, L42, L47, L48, L57, L58, L59, L60, L61, L62, L65, L97, L101, L102, L103, L120, L126, L127, L144, L245, L1023, L1715, I_add, I_sub, I_mul, I_neg, I_lt, I_le, I_eq, Option.bind_some, if_pos, if_neg, if_true, if_false, ite_true, ite_false, o8_cO, Option.bind_some]
        refine Ok.bind (P := fun t => ∃ A2, t = (I (ind (BF (tqn (fS X) i) (tnd (fS X) i) (tn (fS X)) (tlv (fS X)) (bR A) e c x ≠ 0 ∧ AF (tqn (fS X) i) (tnd (fS X) i) (tn (fS X)) (tlv (fS X)) (bR A) e c x ≠ 0)), ov m a (o8 a F A2)) ∧ ∀ i, i ≠ 14 → i ≠ 15 → i ≠ 16 → A2 i = A1 i) ?_ ?_
        · refine Ok.bind (M_chains hl hB1.mc i0 i1 h5 (by omega) e0 e1 (held := c) (x := x) (by omega) (by omega)) ?_
          rintro ⟨v, m'⟩ ⟨q1, A2, rfl, q3⟩
          dsimp only at q1 ⊢
          have b2 := BF_bd (x := x) hw hn2 hI e0 e1 (show 0 ≤ c by omega) c1
          have b3 := AF_bd hw hn2 hI e0 e1 (show 0 ≤ c by omega) c1 x0 (show x < eE (tn (fS X)) (tlv (fS X)) e by omega)
          rw [h13, cw_held hw c0 c1 e0 e1 x0 (by omega), ind_t z.2.1, Int.one_mul] at q1
          have hpm : 0 ≤ BF (tqn (fS X) i) (tnd (fS X) i) (tn (fS X)) (tlv (fS X)) (bR A) e c x * AF (tqn (fS X) i) (tnd (fS X) i) (tn (fS X)) (tlv (fS X)) (bR A) e c x := Int.mul_nonneg b2.1 b3.1
          have hpb : BF (tqn (fS X) i) (tnd (fS X) i) (tn (fS X)) (tlv (fS X)) (bR A) e c x * AF (tqn (fS X) i) (tnd (fS X) i) (tn (fS X)) (tlv (fS X)) (bR A) e c x ≤ 1073741824 * 1073741824 := Int.mul_le_mul b2.2 b3.2 b3.1 (by omega)
          rw [q1]
          by_cases y : BF (tqn (fS X) i) (tnd (fS X) i) (tn (fS X)) (tlv (fS X)) (bR A) e c x ≠ 0 ∧ AF (tqn (fS X) i) (tnd (fS X) i) (tn (fS X)) (tlv (fS X)) (bR A) e c x ≠ 0
          · have hpp : 0 < BF (tqn (fS X) i) (tnd (fS X) i) (tn (fS X)) (tlv (fS X)) (bR A) e c x * AF (tqn (fS X) i) (tnd (fS X) i) (tn (fS X)) (tlv (fS X)) (bR A) e c x := Int.mul_pos (by omega) (by omega)
            simp (disch := omega) only [J0, J1, J31, J32, J1716, J_add, J_sub, J_mul, J_neg, J_lt, J_le, J_eq, if_neg (show ¬ BF (tqn (fS X) i) (tnd (fS X) i) (tn (fS X)) (tlv (fS X)) (bR A) e c x * AF (tqn (fS X) i) (tnd (fS X) i) (tn (fS X)) (tlv (fS X)) (bR A) e c x ≤ 0 by omega)]
            exact Ok.pure ⟨A2, by rw [ind_t y], q3⟩
          · have hpz : BF (tqn (fS X) i) (tnd (fS X) i) (tn (fS X)) (tlv (fS X)) (bR A) e c x * AF (tqn (fS X) i) (tnd (fS X) i) (tn (fS X)) (tlv (fS X)) (bR A) e c x = 0 := by
              by_cases y1 : BF (tqn (fS X) i) (tnd (fS X) i) (tn (fS X)) (tlv (fS X)) (bR A) e c x = 0
              · rw [y1, Int.zero_mul]
              · rw [show AF (tqn (fS X) i) (tnd (fS X) i) (tn (fS X)) (tlv (fS X)) (bR A) e c x = 0 from Classical.byContradiction (fun t => y ⟨y1, t⟩), Int.mul_zero]
            rw [hpz]
            simp (disch := omega) only [J0, J1, J31, J32, J1716, J_add, J_sub, J_mul, J_neg, J_lt, J_le, J_eq, Option.bind_some, if_pos, if_neg, if_true, if_false, ite_true, ite_false]
            exact Ok.pure ⟨A2, by rw [ind_f y], q3⟩
        · rintro ⟨fl, m'⟩ ⟨A2, hfl, q3⟩
          obtain ⟨rfl, rfl⟩ := Prod.mk.inj hfl
          dsimp only
          have h218 : A2 18 = A 18 := by rw [q3 18 (by omega) (by omega) (by omega), h18]
          have h219 : A2 19 = A1 19 := q3 19 (by omega) (by omega) (by omega)
          by_cases y : BF (tqn (fS X) i) (tnd (fS X) i) (tn (fS X)) (tlv (fS X)) (bR A) e c x ≠ 0 ∧ AF (tqn (fS X) i) (tnd (fS X) i) (tn (fS X)) (tlv (fS X)) (bR A) e c x ≠ 0
          · rw [ind_t y]
            simp (disch := omega) only [L0, L1, L2, L3, L4, L5, L6, L7, L8, L9, L10, L11, L12, L13, L14, L15, L16, L17, L18, L19, L20, L21, L22, L23, L24, L25, L26, L27, L31, L32, L33, L36, L40, L41, L42, L47, L48, L57, L58, L59, L60, L61, L62, L65, L97, L101, L102, L103, L120, L126, L127, L144, L245, L1023, L1715, I_add, I_sub, I_mul, I_neg, I_lt, I_le, I_eq, Option.bind_some, if_pos, if_neg, if_true, if_false, ite_true, ite_false, o8_g20, o8_l19, o8_g19, o8_l18, h218, o8_s19, J_add, Option.bind_some]
            refine Ok.pure (Or.inl ⟨_, (enF (tn (fS X)) (tlv (fS X)) e - (x + 1)).toNat, rfl, nxt A2 _ q3 ?_, by omega⟩)
            unfold clT
            rw [h219, ind_t ⟨z.1, z.2.1, z.2.2, Or.inr y⟩, Int.one_mul]
          · rw [ind_f y]
            simp (disch := omega) only [L0, L1, L2, L3, L4, L5, L6, L7, L8, L9, L10, L11, L12, L13, L14, L15, L16, L17, L18, L19, L20, L21, L22, L23, L24, L25, L26, L27, L31, L32, L33, L36, L40, L41, L42, L47, L48, L57, L58, L59, L60, L61, L62, L65, L97, L101, L102, L103, L120, L126, L127, L144, L245, L1023, L1715, J0, J1, J31, J32, J1716, I_add, I_sub, I_mul, I_neg, I_lt, I_le, I_eq, Option.bind_some, if_pos, if_neg, if_true, if_false, ite_true, ite_false, o8_g20, o8_l19, o8_s19, J_add, Option.bind_some]
            refine Ok.pure (Or.inl ⟨_, (enF (tn (fS X)) (tlv (fS X)) e - (x + 1)).toNat, rfl, nxt A2 _ q3 ?_, by omega⟩)
            unfold clT
            rw [h219, ind_f (fun t => y (t.2.2.2.elim (fun s => absurd s (by omega)) id)), Int.zero_mul]
    · rw [ind_f z]
      simp (disch := omega) only [L0, L1, L2, L3, L4, L5, L6, L7, L8, L9, L10, L11, L12, L13, L14, L15, L16, L17, L18, L19, L20, L21, L22, L23, L24, L25, L26, L27, L31, L32, L33, L36, L40, L41, L42, L47, L48, L57, L58, L59, L60, L61, L62, L65, L97, L101, L102, L103, L120, L126, L127, L144, L245, L1023, L1715, J0, J1, J31, J32, J1716, I_add, I_sub, I_mul, I_neg, I_lt, I_le, I_eq, Option.bind_some, if_pos, if_neg, if_true, if_false, ite_true, ite_false, o8_g20, o8_l19, o8_s19, J_add, Option.bind_some]
      refine Ok.pure (Or.inl ⟨_, (enF (tn (fS X)) (tlv (fS X)) e - (x + 1)).toNat, rfl, nxt A1 _ (fun _ _ _ _ => rfl) ?_, by omega⟩)
      unfold clT
      rw [ind_f (fun t => z ⟨t.1, t.2.1, t.2.2.1⟩), Int.zero_mul]
end MCL
