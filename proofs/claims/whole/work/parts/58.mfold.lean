/-! ===== the reference: folds and spare ===== -/
section MF2
variable {M m : Mm} {a : Nat} {F : Nat → Int} {A : Nat → Int → Int} {X : FS} {S : TS}
theorem N_inner (h : At M a (o8 a F A)) (hM : MW A S) {x y d t g : Int} {but : Int32} (x0 : 0 ≤ x) (x1 : x < 4) (y0 : 0 ≤ y) (y1 : y < 4) (d0 : 0 ≤ d) (d1 : d < tqn S x) (t0 : 0 ≤ t) (t1 : t < tqn S y) (hg : g = 0 ∨ g = 1) : Ok (whl (σ := Int32 × Int32) (ρ := (Int32)) FU (fun t13 => f_X8_findsFolds_L72 M a (I x) (I y) but (I d) (I t) t13.1 t13.2) (I g, I (d + 1))) (fun r => (r = I 1 ∧ g = 1 ∧ brF (tqn S x) (tqn S y) (tnd S x) (tnd S y) (fun c => I (A 11 c)) d t) ∨ (r = I 0 ∧ ¬ (g = 1 ∧ brF (tqn S x) (tqn S y) (tnd S x) (tnd S y) (fun c => I (A 11 c)) d t))) := by
  obtain ⟨ex1, ex, -⟩ := hM x x0 x1
  have ex6 := ex.2.1
  refine Ok.whl (fun j s => ∃ k g', s = (I g', I k) ∧ d < k ∧ k ≤ tqn S x ∧ j = (tqn S x - k).toNat ∧ ((g' = 1 ∧ g = 1 ∧ ∀ c, d < c → c < k → tnd S x c 5 = d → ∃ u, plF (tqn S y) (tnd S y) (tnd S x c 3) t u ∧ hb (I (A 11 c)) u) ∨ (g' = 0 ∧ ¬ (g = 1 ∧ brF (tqn S x) (tqn S y) (tnd S x) (tnd S y) (fun c => I (A 11 c)) d t)))) _ (j := (tqn S x - (d + 1)).toNat) ?_ ⟨d + 1, g, rfl, by omega, by omega, rfl, ?_⟩ (FU_lt (by omega))
  · rintro j s ⟨k, g', rfl, k0, k1, rfl, hk⟩
    dsimp only
    unfold f_X8_findsFolds_L72
    by_cases c1 : tqn S x ≤ k
    · simp (disch := omega) only [L0, L1, L2, L3, L4, L5, L6, L7, L8, L9, L10, L11, L12, L13, L14, L15, L16, L17, L18, L19, L20, L21, L22, L23, L24, L25, L26, L27, L31, L32, L33, L36, L40, L41, L42, L47, L48, L57, L58, L59, L60, L61, L62, L65, L97, L101, L102, L103, L120, L126, L127, L144, L245, L1023, L1715, I_add, I_sub, I_mul, I_neg, I_lt, I_le, I_eq, a8_g7 h, a8_l7 h, ex1, Option.bind_some, if_pos, if_neg, if_true, if_false, ite_true, ite_false]
      refine Ok.pure (Or.inr ⟨_, rfl, ?_⟩)
      rcases hk with ⟨rfl, hg1, hk⟩ | ⟨rfl, hk⟩
      · exact Or.inl ⟨rfl, hg1, fun c c0 c1 c2 => hk c c0 (by omega) c2⟩
      · exact Or.inr ⟨rfl, hk⟩
    · rcases hk with ⟨rfl, hg1, hk⟩ | ⟨rfl, hk⟩
      · have hab := ex.ab (show 0 ≤ k by omega) (by omega)
        by_cases c2 : tnd S x k 5 = d
        · obtain ⟨r, hr, hrq⟩ := N_follows h hM x0 x1 y0 y1 (c := k) (t := t) (by omega) (by omega) t0 t1
          rcases hrq with ⟨rfl, hq⟩ | ⟨rfl, hq⟩
          · simp (disch := omega) only [L0, L1, L2, L3, L4, L5, L6, L7, L8, L9, L10, L11, L12, L13, L14, L15, L16, L17, L18, L19, L20, L21, L22, L23, L24, L25, L26, L27, L31, L32, L33, L36, L40, L41, L42, L47, L48, L57, L58, L59, L60, L61, L62, L65, L97, L101, L102, L103, L120, L126, L127, L144, L245, L1023, L1715, I_add, I_sub, I_mul, I_neg, I_lt, I_le, I_eq, a8_g7 h, a8_l7 h, ex1, a8_cO h, N_of h hM, hr, Option.bind_some, if_pos, if_neg, if_true, if_false, ite_true, ite_false]
            refine Ok.pure (Or.inl ⟨_, (tqn S x - (k + 1)).toNat, rfl, ⟨k + 1, 1, rfl, by omega, by omega, rfl, Or.inl ⟨rfl, hg1, fun c c0 c1 c2 => ?_⟩⟩, by omega⟩)
            by_cases z : c = k
            · rw [z]; exact hq
            · exact hk c c0 (by omega) c2
          · simp (disch := omega) only [L0, L1, L2, L3, L4, L5, L6, L7, L8, L9, L10, L11, L12, L13, L14, L15, L16, L17, L18, L19, L20, L21, L22, L23, L24, L25, L26, L27, L31, L32, L33, L36, L40, L41, L42, L47, L48, L57, L58, L59, L60, L61, L62, L65, L97, L101, L102, L103, L120, L126, L127, L144, L245, L1023, L1715, I_add, I_sub, I_mul, I_neg, I_lt, I_le, I_eq, a8_g7 h, a8_l7 h, ex1, a8_cO h, N_of h hM, hr, Option.bind_some, if_pos, if_neg, if_true, if_false, ite_true, ite_false]
            refine Ok.pure (Or.inl ⟨_, (tqn S x - (k + 1)).toNat, rfl, ⟨k + 1, 0, rfl, by omega, by omega, rfl, Or.inr ⟨rfl, fun z => hq (z.2 k (by omega) (by omega) c2)⟩⟩, by omega⟩)
        · simp (disch := omega) only [L0, L1, L2, L3, L4, L5, L6, L7, L8, L9, L10, L11, L12, L13, L14, L15, L16, L17, L18, L19, L20, L21, L22, L23, L24, L25, L26, L27, L31, L32, L33, L36, L40, L41, L42, L47, L48, L57, L58, L59, L60, L61, L62, L65, L97, L101, L102, L103, L120, L126, L127, L144, L245, L1023, L1715, I_add, I_sub, I_mul, I_neg, I_lt, I_le, I_eq, a8_g7 h, a8_l7 h, ex1, a8_cO h, N_of h hM, Option.bind_some, if_pos, if_neg, if_true, if_false, ite_true, ite_false]
          refine Ok.pure (Or.inl ⟨_, (tqn S x - (k + 1)).toNat, rfl, ⟨k + 1, 1, rfl, by omega, by omega, rfl, Or.inl ⟨rfl, hg1, fun c c0 c1 c3 => ?_⟩⟩, by omega⟩)
          by_cases z : c = k
          · subst z; exact absurd c3 c2
          · exact hk c c0 (by omega) c3
      · simp (disch := omega) only [L0, L1, L2, L3, L4, L5, L6, L7, L8, L9, L10, L11, L12, L13, L14, L15, L16, L17, L18, L19, L20, L21, L22, L23, L24, L25, L26, L27, L31, L32, L33, L36, L40, L41, L42, L47, L48, L57, L58, L59, L60, L61, L62, L65, L97, L101, L102, L103, L120, L126, L127, L144, L245, L1023, L1715, I_add, I_sub, I_mul, I_neg, I_lt, I_le, I_eq, a8_g7 h, a8_l7 h, ex1, Option.bind_some, if_pos, if_neg, if_true, if_false, ite_true, ite_false]
        exact Ok.pure (Or.inr ⟨_, rfl, Or.inr ⟨rfl, hk⟩⟩)
  · rcases hg with rfl | rfl
    · exact Or.inr ⟨rfl, fun z => by omega⟩
    · exact Or.inl ⟨rfl, rfl, fun c c0 c1 => by omega⟩
theorem upN11 {A : Nat → Int → Int} {K K' : Int → Int} : upN (upN A 11 K) 11 K' = upN A 11 K' := by
  funext i
  unfold upN
  split <;> rfl
theorem M_finds (hl : a + 25 < m.length) (hM : MW A S) {x y : Int} {but : Int32} (x0 : 0 ≤ x) (x1 : x < 4) (y0 : 0 ≤ y) (y1 : y < 4) : Ok (f_X8_findsFolds (ov m a (o8 a F A)) a (I x) (I y) but) (fun m' => ∃ K, m' = ov m a (o8 a F (upN A 11 K)) ∧ IsF (tqn S x) (tqn S y) (tnd S x) (tnd S y) but (fun c => I (K c))) := by
  obtain ⟨ex1, ex, -⟩ := hM x x0 x1
  have ex6 := ex.2.1
  have ex60 := ex.1
  obtain ⟨ey1, ey, -⟩ := hM y y0 y1
  have ey6 := ey.2.1
  have ey60 := ey.1
  have e7 : ∀ K : Int → Int, upN A 11 K 7 = A 7 := fun _ => rfl
  unfold f_X8_findsFolds
  simp (disch := omega) only [L0, L1, L2, L3, L4, L5, L6, L7, L8, L9, L10, L11, L12, L13, L14, L15, L16, L17, L18, L19, L20, L21, L22, L23, L24, L25, L26, L27, L31, L32, L33, L36, L40, L41, L42, L47, L48, L57, L58, L59, L60, L61, L62, L65, L97, L101, L102, L103, L120, L126, L127, L144, L245, L1023, L1715, I_add, I_sub, I_mul, I_neg, I_lt, I_le, I_eq, o8_g7, o8_l7, ex1, Option.bind_some, if_pos, if_neg, if_true, if_false, ite_true, ite_false]
  refine Ok.bind (P := fun m' => ∃ K, m' = ov m a (o8 a F (upN A 11 K)) ∧ IsF (tqn S x) (tqn S y) (tnd S x) (tnd S y) but (fun c => I (K c))) ?_ (fun _ hq => Ok.pure hq)
  refine Ok.whl (fun jj s => ∃ d K, s = (I d, ov m a (o8 a F (upN A 11 K))) ∧ -1 ≤ d ∧ d < tqn S x ∧ jj = (d + 1).toNat ∧ ∀ k, d < k → k < tqn S x → IsFa (tqn S x) (tqn S y) (tnd S x) (tnd S y) but (fun c => I (K c)) k) _ (j := (tqn S x - 1 + 1).toNat) ?_ ⟨tqn S x - 1, A 11, by rw [upN_self], by omega, by omega, rfl, fun k k0 k1 => by omega⟩ (FU_lt (by omega))
  rintro jj s ⟨d, K, rfl, d0, d1, rfl, hk⟩
  dsimp only
  unfold f_X8_findsFolds_L10
  by_cases c1 : d < 0
  · simp (disch := omega) only [L0, L1, L2, L3, L4, L5, L6, L7, L8, L9, L10, L11, L12, L13, L14, L15, L16, L17, L18, L19, L20, L21, L22, L23, L24, L25, L26, L27, L31, L32, L33, L36, L40, L41, L42, L47, L48, L57, L58, L59, L60, L61, L62, L65, L97, L101, L102, L103, L120, L126, L127, L144, L245, L1023, L1715, I_add, I_sub, I_mul, I_neg, I_lt, I_le, I_eq, Option.bind_some, if_pos, if_neg, if_true, if_false, ite_true, ite_false]
    exact Ok.pure (Or.inr ⟨_, rfl, K, rfl, fun k k0 k1 => hk k (by omega) k1⟩)
  · simp (disch := omega) only [L0, L1, L2, L3, L4, L5, L6, L7, L8, L9, L10, L11, L12, L13, L14, L15, L16, L17, L18, L19, L20, L21, L22, L23, L24, L25, L26, L27, L31, L32, L33, L36, L40, L41, L42, L47, L48, L57, L58, L59, L60, L61, L62, L65, L97, L101, L102, L103, L120, L126, L127, L144, L245, L1023, L1715, I_add, I_sub, I_mul, I_neg, I_lt, I_le, I_eq, o8_g12, o8_s11, upN_at, upN11, Option.bind_some, if_pos, if_neg, if_true, if_false, ite_true, ite_false]
    have ho : ∀ v : Int, ∀ c, d < c → c < tqn S x → (fun c => I (upZ K d v c)) c = (fun c => I (K c)) c := fun v c c0 c1 => by
      dsimp only
      rw [upZ_ne (by omega)]
    refine Ok.bind (P := fun m' => ∃ v, m' = ov m a (o8 a F (upN A 11 (upZ K d v))) ∧ ∀ b, 0 ≤ b → b < 32 → (hb (I v) b ↔ b < tqn S y ∧ ¬ hb but b ∧ cvF (tnd S x) (tnd S y) d b ∧ brF (tqn S x) (tqn S y) (tnd S x) (tnd S y) (fun c => I (K c)) d b)) ?_ ?_
    · refine Ok.whl (fun jj s => ∃ t v, s = (I t, ov m a (o8 a F (upN A 11 (upZ K d v)))) ∧ 0 ≤ t ∧ t ≤ tqn S y ∧ jj = (tqn S y - t).toNat ∧ ∀ k, 0 ≤ k → k < 32 → (hb (I v) k ↔ k < t ∧ ¬ hb but k ∧ cvF (tnd S x) (tnd S y) d k ∧ brF (tqn S x) (tqn S y) (tnd S x) (tnd S y) (fun c => I (K c)) d k)) _ (j := (tqn S y - 0).toNat) ?_ ⟨0, 0, rfl, by omega, by omega, rfl, fun k k0 k1 => ⟨fun q => absurd q hb_0, fun q => by omega⟩⟩ (FU_lt (by omega))
      rintro jj s ⟨t, v, rfl, t0, t1, rfl, hs⟩
      dsimp only
      have hAt : At (ov m a (o8 a F (upN A 11 (upZ K d v)))) a (o8 a F (upN A 11 (upZ K d v))) := o8_At hl
      have hM1 : MW (upN A 11 (upZ K d v)) S := hM
      unfold f_X8_findsFolds_L26
      by_cases c2 : tqn S y ≤ t
      · simp (disch := omega) only [o8_g7, o8_l7, e7, ey1, I_add, I_sub, I_mul, I_neg, I_lt, I_le, I_eq, Option.bind_some, if_pos, if_neg, if_true, if_false, ite_true, ite_false]
        refine Ok.pure (Or.inr ⟨_, rfl, v, rfl, fun k k0 k1 => ?_⟩)
        rw [hs k k0 k1, show t = tqn S y by omega]
      · have key : ∀ g : Int, (g = 0 ∨ g = 1) → (g = 1 ↔ ¬ hb but t ∧ cvF (tnd S x) (tnd S y) d t) → Ok ((whl (σ := Int32 × Int32) (ρ := (Int32)) FU (fun t13 => f_X8_findsFolds_L72 (ov m a (o8 a F (upN A 11 (upZ K d v)))) a (I x) (I y) but (I d) (I t) t13.1 t13.2) (I g, I (d + 1))).bind fun e14 => (gR (ov m a (o8 a F (upN A 11 (upZ K d v)))) a 8 12).bind fun v34 => (lI (ov m a (o8 a F (upN A 11 (upZ K d v)))) v34 (I d)).bind fun v36 => (if e14 = I 0 then (sI (ov m a (o8 a F (upN A 11 (upZ K d v)))) v34 (I d) (v36 ||| I 0)).bind fun m39 => some (Sum.inl (I (t + 1), m39)) else (sI (ov m a (o8 a F (upN A 11 (upZ K d v)))) v34 (I d) (v36 ||| (I 1 <<< (I t &&& I 31)))).bind fun m41 => some (Sum.inl (I (t + 1), m41)))) (fun z => (∃ s' j', z = Sum.inl s' ∧ (∃ t v, s' = (I t, ov m a (o8 a F (upN A 11 (upZ K d v)))) ∧ 0 ≤ t ∧ t ≤ tqn S y ∧ j' = (tqn S y - t).toNat ∧ ∀ k, 0 ≤ k → k < 32 → (hb (I v) k ↔ k < t ∧ ¬ hb but k ∧ cvF (tnd S x) (tnd S y) d k ∧ brF (tqn S x) (tqn S y) (tnd S x) (tnd S y) (fun c => I (K c)) d k)) ∧ j' < (tqn S y - t).toNat) ∨ (∃ r, z = Sum.inr r ∧ ∃ v, r = ov m a (o8 a F (upN A 11 (upZ K d v))) ∧ ∀ b, 0 ≤ b → b < 32 → (hb (I v) b ↔ b < tqn S y ∧ ¬ hb but b ∧ cvF (tnd S x) (tnd S y) d b ∧ brF (tqn S x) (tqn S y) (tnd S x) (tnd S y) (fun c => I (K c)) d b))) := by
          intro g hg hgi
          refine Ok.bind (N_inner hAt hM1 x0 x1 y0 y1 (by omega) d1 t0 (by omega) hg) ?_
          have hbr : brF (tqn S x) (tqn S y) (tnd S x) (tnd S y) (fun c => I (upN A 11 (upZ K d v) 11 c)) d t ↔ brF (tqn S x) (tqn S y) (tnd S x) (tnd S y) (fun c => I (K c)) d t := brF_congr (fun c c0 c1 => by rw [upN_at]; exact ho v c c0 c1)
          rintro r (⟨rfl, hg1, hbq⟩ | ⟨rfl, hbq⟩)
          · simp (disch := omega) only [I_add, I_sub, I_mul, I_neg, I_lt, I_le, I_eq, o8_g12, o8_l11, upN_at, upZ_at, Option.bind_some, if_pos, if_neg, if_true, if_false, ite_true, ite_false]
            have hz := I_ex (I v ||| (I 1 <<< (I t &&& I 31)))
            obtain ⟨v', hv', -, -⟩ := hz
            simp (disch := omega) only [hv', o8_s11, upN_at, upN11, Option.bind_some, if_pos, if_neg, if_true, if_false, ite_true, ite_false]
            have hup : upZ (upZ K d v) d v' = upZ K d v' := by funext j; unfold upZ; split <;> rfl
            rw [hup]
            refine Ok.pure (Or.inl ⟨_, (tqn S y - (t + 1)).toNat, rfl, ⟨t + 1, v', rfl, by omega, by omega, rfl, fun k k0 k1 => ?_⟩, by omega⟩)
            rw [← hv', hb_or, hs k k0 k1, hb_bit (by omega) (by omega) k0 k1]
            constructor
            · rintro (q | rfl)
              · exact ⟨by omega, q.2⟩
              · exact ⟨by omega, (hgi.mp hg1).1, (hgi.mp hg1).2, hbr.mp hbq⟩
            · rintro ⟨q1, q2⟩
              by_cases z : k = t
              · exact Or.inr z
              · exact Or.inl ⟨by omega, q2⟩
          · simp (disch := omega) only [I_add, I_sub, I_mul, I_neg, I_lt, I_le, I_eq, o8_g12, o8_l11, upN_at, upZ_at, or0, o8_s11, upN11, Option.bind_some, if_pos, if_neg, if_true, if_false, ite_true, ite_false]
            have hup : upZ (upZ K d v) d v = upZ K d v := by funext j; unfold upZ; split <;> rfl
            rw [hup]
            refine Ok.pure (Or.inl ⟨_, (tqn S y - (t + 1)).toNat, rfl, ⟨t + 1, v, rfl, by omega, by omega, rfl, fun k k0 k1 => ?_⟩, by omega⟩)
            rw [hs k k0 k1]
            constructor
            · exact fun q => ⟨by omega, q.2⟩
            · rintro ⟨q1, q2, q3, q4⟩
              by_cases z : k = t
              · subst z; exact absurd ⟨hgi.mpr ⟨q2, q3⟩, hbr.mpr q4⟩ hbq
              · exact ⟨by omega, q2, q3, q4⟩
        by_cases c3 : cvF (tnd S x) (tnd S y) d t
        · by_cases c4 : hb but t
          · simp (disch := omega) only [o8_g7, o8_l7, e7, ey1, L0, L1, L2, L3, L4, L5, L6, L7, L8, L9, L10, L11, L12, L13, L14, L15, L16, L17, L18, L19, L20, L21, L22, L23, L24, L25, L26, L27, L31, L32, L33, L36, L40, L41, L42, L47, L48, L57, L58, L59, L60, L61, L62, L65, L97, L101, L102, L103, L120, L126, L127, L144, L245, L1023, L1715, I_add, I_sub, I_mul, I_neg, I_lt, I_le, I_eq, o8_cO, N_takes hAt hM1, ind_t c3, tst_shr, ind_t c4, Option.bind_some, if_pos, if_neg, if_true, if_false, ite_true, ite_false]
            exact key 0 (by omega) ⟨fun z => by omega, fun z => absurd c4 z.1⟩
          · simp (disch := omega) only [o8_g7, o8_l7, e7, ey1, L0, L1, L2, L3, L4, L5, L6, L7, L8, L9, L10, L11, L12, L13, L14, L15, L16, L17, L18, L19, L20, L21, L22, L23, L24, L25, L26, L27, L31, L32, L33, L36, L40, L41, L42, L47, L48, L57, L58, L59, L60, L61, L62, L65, L97, L101, L102, L103, L120, L126, L127, L144, L245, L1023, L1715, I_add, I_sub, I_mul, I_neg, I_lt, I_le, I_eq, o8_cO, N_takes hAt hM1, ind_t c3, tst_shr, ind_f c4, Option.bind_some, if_pos, if_neg, if_true, if_false, ite_true, ite_false]
            exact key 1 (by omega) ⟨fun _ => ⟨c4, c3⟩, fun _ => rfl⟩
        · simp (disch := omega) only [o8_g7, o8_l7, e7, ey1, L0, L1, L2, L3, L4, L5, L6, L7, L8, L9, L10, L11, L12, L13, L14, L15, L16, L17, L18, L19, L20, L21, L22, L23, L24, L25, L26, L27, L31, L32, L33, L36, L40, L41, L42, L47, L48, L57, L58, L59, L60, L61, L62, L65, L97, L101, L102, L103, L120, L126, L127, L144, L245, L1023, L1715, I_add, I_sub, I_mul, I_neg, I_lt, I_le, I_eq, o8_cO, N_takes hAt hM1, ind_f c3, Option.bind_some, if_pos, if_neg, if_true, if_false, ite_true, ite_false]
          exact key 0 (by omega) ⟨fun z => by omega, fun z => absurd z.2 c3⟩
    · rintro m' ⟨v, rfl, hv⟩
      refine Ok.pure (Or.inl ⟨_, (d + -1 + 1).toNat, rfl, ⟨d + -1, _, rfl, by omega, by omega, rfl, fun k k0 k1 => ?_⟩, by omega⟩)
      intro b b0 b1
      rw [brF_congr (t' := fun c => I (K c)) (fun c c0 c1 => ho v c (by omega) c1)]
      by_cases q : k = d
      · subst q
        dsimp only
        rw [upZ_at]
        exact hv b b0 b1
      · rw [ho v k (by omega) k1]
        exact hk k (by omega) k1 b b0 b1
/-- only rows that hold nothing of the state change -/
theorem MB.free (h : MB F A X) {k : Nat} {K : Int → Int} (hk : 9 < k) (hk' : k ≠ 20) : MB F (upN A k K) X := h.congr (fun _ _ => rfl) (fun i hi => upN_ne (by omega))
theorem M_folds (hl : a + 25 < m.length) (h : MB F A X) {x y : Int} (hx1 : -2147483648 ≤ x) (hx2 : x < 2147483648) (hy1 : -2147483648 ≤ y) (hy2 : y < 2147483648) : Ok (f_X8_folds (ov m a (o8 a F A)) a (I x) (I y)) (fun t => ∃ X', MP m a t.2 X' ∧ SFolds X x y t.1 X') := by
  have hAt := o8_At (m := m) (a := a) (F := F) (A := A) hl
  have hM := h.2.1
  unfold f_X8_folds
  simp only [N_isTwig hx1 hx2, N_isTwig hy1 hy2, Option.bind_some]
  by_cases c1 : 0 ≤ x ∧ x < 4
  · rw [ind_t c1]
    by_cases c2 : 0 ≤ y ∧ y < 4
    · rw [ind_t c2]
      have hC : (0 ≤ x ∧ x < 4) ∧ 0 ≤ y ∧ y < 4 := ⟨c1, c2⟩
      obtain ⟨ex1, ex, -⟩ := hM x c1.1 c1.2
      have ex6 := ex.2.1
      have ex60 := ex.1
      obtain ⟨ey1, ey, -⟩ := hM y c2.1 c2.2
      have ey6 := ey.2.1
      have ey60 := ey.1
      by_cases c3 : tqn (fS X) x = 0
      · simp (disch := omega) only [L0, L1, L2, L3, L4, L5, L6, L7, L8, L9, L10, L11, L12, L13, L14, L15, L16, L17, L18, L19, L20, L21, L22, L23, L24, L25, L26, L27, L31, L32, L33, L36, L40, L41, L42, L47, L48, L57, L58, L59, L60, L61, L62, L65, L97, L101, L102, L103, L120, L126, L127, L144, L245, L1023, L1715, I_add, I_sub, I_mul, I_neg, I_lt, I_le, I_eq, o8_g7, o8_l7, ex1, o8_cO, Option.bind_some, if_pos, if_neg, if_true, if_false, ite_true, ite_false]
        exact (M_noR hl h).mono (fun q hq => ⟨_, hq.2, Or.inr ⟨hC, Or.inl ⟨Or.inl c3, hq.1, rfl⟩⟩⟩)
      · by_cases c4 : tqn (fS X) y = 0
        · simp (disch := omega) only [L0, L1, L2, L3, L4, L5, L6, L7, L8, L9, L10, L11, L12, L13, L14, L15, L16, L17, L18, L19, L20, L21, L22, L23, L24, L25, L26, L27, L31, L32, L33, L36, L40, L41, L42, L47, L48, L57, L58, L59, L60, L61, L62, L65, L97, L101, L102, L103, L120, L126, L127, L144, L245, L1023, L1715, I_add, I_sub, I_mul, I_neg, I_lt, I_le, I_eq, o8_g7, o8_l7, ex1, ey1, o8_cO, Option.bind_some, if_pos, if_neg, if_true, if_false, ite_true, ite_false]
          exact (M_noR hl h).mono (fun q hq => ⟨_, hq.2, Or.inr ⟨hC, Or.inl ⟨Or.inr (Or.inl c4), hq.1, rfl⟩⟩⟩)
        · obtain ⟨r, hr, hrq⟩ := N_hasOrder hAt hM c1.1 c1.2
          obtain ⟨r', hr', hrq'⟩ := N_hasOrder hAt hM c2.1 c2.2
          rcases hrq with ⟨rfl, hq⟩ | ⟨rfl, hq⟩
          · simp (disch := omega) only [L0, L1, L2, L3, L4, L5, L6, L7, L8, L9, L10, L11, L12, L13, L14, L15, L16, L17, L18, L19, L20, L21, L22, L23, L24, L25, L26, L27, L31, L32, L33, L36, L40, L41, L42, L47, L48, L57, L58, L59, L60, L61, L62, L65, L97, L101, L102, L103, L120, L126, L127, L144, L245, L1023, L1715, I_add, I_sub, I_mul, I_neg, I_lt, I_le, I_eq, o8_g7, o8_l7, ex1, ey1, o8_cO, hr, Option.bind_some, if_pos, if_neg, if_true, if_false, ite_true, ite_false]
            exact (M_noR hl h).mono (fun t ht => ⟨_, ht.2, Or.inr ⟨hC, Or.inl ⟨Or.inr (Or.inr (Or.inl hq)), ht.1, rfl⟩⟩⟩)
          · rcases hrq' with ⟨rfl, hq'⟩ | ⟨rfl, hq'⟩
            · simp (disch := omega) only [L0, L1, L2, L3, L4, L5, L6, L7, L8, L9, L10, L11, L12, L13, L14, L15, L16, L17, L18, L19, L20, L21, L22, L23, L24, L25, L26, L27, L31, L32, L33, L36, L40, L41, L42, L47, L48, L57, L58, L59, L60, L61, L62, L65, L97, L101, L102, L103, L120, L126, L127, L144, L245, L1023, L1715, I_add, I_sub, I_mul, I_neg, I_lt, I_le, I_eq, o8_g7, o8_l7, ex1, ey1, o8_cO, hr, hr', Option.bind_some, if_pos, if_neg, if_true, if_false, ite_true, ite_false]
              exact (M_noR hl h).mono (fun t ht => ⟨_, ht.2, Or.inr ⟨hC, Or.inl ⟨Or.inr (Or.inr (Or.inr hq')), ht.1, rfl⟩⟩⟩)
            · simp (disch := omega) only [L0, L1, L2, L3, L4, L5, L6, L7, L8, L9, L10, L11, L12, L13, L14, L15, L16, L17, L18, L19, L20, L21, L22, L23, L24, L25, L26, L27, L31, L32, L33, L36, L40, L41, L42, L47, L48, L57, L58, L59, L60, L61, L62, L65, L97, L101, L102, L103, L120, L126, L127, L144, L245, L1023, L1715, I_add, I_sub, I_mul, I_neg, I_lt, I_le, I_eq, o8_g7, o8_l7, ex1, ey1, o8_cO, hr, hr', Option.bind_some, if_pos, if_neg, if_true, if_false, ite_true, ite_false]
              refine Ok.bind (M_finds hl hM c1.1 c1.2 c2.1 c2.2) ?_
              rintro m1 ⟨K, rfl, ht⟩
              have hN : ¬ (tqn (fS X) x = 0 ∨ tqn (fS X) y = 0 ∨ hoF (tqn (fS X) x) (tnd (fS X) x) ∨ hoF (tqn (fS X) y) (tnd (fS X) y)) := by
                rintro (z | z | z | z)
                · exact c3 z
                · exact c4 z
                · exact hq z
                · exact hq' z
              simp (disch := omega) only [o8_g12, o8_l11, upN_at, Option.bind_some, if_pos, if_neg, if_true, if_false, ite_true, ite_false]
              by_cases c5 : I (K 0) = I 0
              · simp only [c5, if_true]
                exact Ok.pure ⟨X, ⟨_, _, rfl, h.free (by omega) (by omega)⟩, Or.inr ⟨hC, Or.inr ⟨hN, rfl, by omega, _, ht, Or.inl ⟨c5, rfl⟩⟩⟩⟩
              · simp only [c5, if_false]
                exact Ok.pure ⟨X, ⟨_, _, rfl, h.free (by omega) (by omega)⟩, Or.inr ⟨hC, Or.inr ⟨hN, rfl, by omega, _, ht, Or.inr ⟨c5, rfl⟩⟩⟩⟩
    · rw [ind_f c2]
      simp (disch := omega) only [L0, L1, L2, L3, L4, L5, L6, L7, L8, L9, L10, L11, L12, L13, L14, L15, L16, L17, L18, L19, L20, L21, L22, L23, L24, L25, L26, L27, L31, L32, L33, L36, L40, L41, L42, L47, L48, L57, L58, L59, L60, L61, L62, L65, L97, L101, L102, L103, L120, L126, L127, L144, L245, L1023, L1715, I_add, I_sub, I_mul, I_neg, I_lt, I_le, I_eq, o8_cO, Option.bind_some, if_pos, if_neg, if_true, if_false, ite_true, ite_false]
      exact (M_badR hl h).mono (fun q hq => ⟨_, hq.2, Or.inl ⟨fun z => c2 z.2, hq.1, rfl⟩⟩)
  · rw [ind_f c1]
    simp (disch := omega) only [L0, L1, L2, L3, L4, L5, L6, L7, L8, L9, L10, L11, L12, L13, L14, L15, L16, L17, L18, L19, L20, L21, L22, L23, L24, L25, L26, L27, L31, L32, L33, L36, L40, L41, L42, L47, L48, L57, L58, L59, L60, L61, L62, L65, L97, L101, L102, L103, L120, L126, L127, L144, L245, L1023, L1715, I_add, I_sub, I_mul, I_neg, I_lt, I_le, I_eq, o8_cO, Option.bind_some, if_pos, if_neg, if_true, if_false, ite_true, ite_false]
    exact (M_badR hl h).mono (fun q hq => ⟨_, hq.2, Or.inl ⟨fun z => c1 z.1, hq.1, rfl⟩⟩)
theorem M_spare (hl : a + 25 < m.length) (h : MB F A X) {i q : Int} (hi1 : -2147483648 ≤ i) (hi2 : i < 2147483648) (hq1 : -2147483648 ≤ q) (hq2 : q < 2147483648) : Ok (f_X8_spare (ov m a (o8 a F A)) a (I i) (I q)) (fun t => ∃ X', MP m a t.2 X' ∧ SSpare X i q t.1 X') := by
  have hAt := o8_At (m := m) (a := a) (F := F) (A := A) hl
  have hM := h.2.1
  unfold f_X8_spare
  simp only [N_isTwig hi1 hi2, Option.bind_some]
  by_cases c1 : 0 ≤ i ∧ i < 4
  · rw [ind_t c1]
    obtain ⟨ex1, ex, -⟩ := hM i c1.1 c1.2
    have ex6 := ex.2.1
    have ex60 := ex.1
    by_cases c2 : 0 < q
    · have c : (0 ≤ i ∧ i < 4) ∧ 0 < q := ⟨c1, c2⟩
      by_cases c3 : tqn (fS X) i ≤ q
      · simp (disch := omega) only [L0, L1, L2, L3, L4, L5, L6, L7, L8, L9, L10, L11, L12, L13, L14, L15, L16, L17, L18, L19, L20, L21, L22, L23, L24, L25, L26, L27, L31, L32, L33, L36, L40, L41, L42, L47, L48, L57, L58, L59, L60, L61, L62, L65, L97, L101, L102, L103, L120, L126, L127, L144, L245, L1023, L1715, I_add, I_sub, I_mul, I_neg, I_lt, I_le, I_eq, o8_g7, o8_l7, ex1, o8_cO, Option.bind_some, if_pos, if_neg, if_true, if_false, ite_true, ite_false]
        exact (M_noR hl h).mono (fun t ht => ⟨_, ht.2, Or.inr ⟨c, Or.inl ⟨Or.inl c3, ht.1, rfl⟩⟩⟩)
      · obtain ⟨r, hr, hrq⟩ := N_hasOrder hAt hM c1.1 c1.2
        rcases hrq with ⟨rfl, hq⟩ | ⟨rfl, hq⟩
        · simp (disch := omega) only [L0, L1, L2, L3, L4, L5, L6, L7, L8, L9, L10, L11, L12, L13, L14, L15, L16, L17, L18, L19, L20, L21, L22, L23, L24, L25, L26, L27, L31, L32, L33, L36, L40, L41, L42, L47, L48, L57, L58, L59, L60, L61, L62, L65, L97, L101, L102, L103, L120, L126, L127, L144, L245, L1023, L1715, I_add, I_sub, I_mul, I_neg, I_lt, I_le, I_eq, o8_g7, o8_l7, ex1, o8_cO, hr, Option.bind_some, if_pos, if_neg, if_true, if_false, ite_true, ite_false]
          exact (M_noR hl h).mono (fun t ht => ⟨_, ht.2, Or.inr ⟨c, Or.inl ⟨Or.inr hq, ht.1, rfl⟩⟩⟩)
        · simp (disch := omega) only [L0, L1, L2, L3, L4, L5, L6, L7, L8, L9, L10, L11, L12, L13, L14, L15, L16, L17, L18, L19, L20, L21, L22, L23, L24, L25, L26, L27, L31, L32, L33, L36, L40, L41, L42, L47, L48, L57, L58, L59, L60, L61, L62, L65, L97, L101, L102, L103, L120, L126, L127, L144, L245, L1023, L1715, I_add, I_sub, I_mul, I_neg, I_lt, I_le, I_eq, o8_g7, o8_l7, ex1, o8_cO, hr, Option.bind_some, if_pos, if_neg, if_true, if_false, ite_true, ite_false]
          refine Ok.bind (P := fun un => ∀ b, 0 ≤ b → b < 32 → (hb un b ↔ b < tqn (fS X) i ∧ q ≤ b ∧ b < eW (tqn (fS X) i) (tnd (fS X) i) q)) ?_ ?_
          · refine Ok.whl (fun jj s => ∃ t st, s = (st, I t) ∧ 0 ≤ t ∧ t ≤ tqn (fS X) i ∧ jj = (tqn (fS X) i - t).toNat ∧ ∀ b, 0 ≤ b → b < 32 → (hb st b ↔ b < t ∧ q ≤ b ∧ b < eW (tqn (fS X) i) (tnd (fS X) i) q)) _ (j := (tqn (fS X) i - 0).toNat) ?_ ⟨0, I 0, rfl, by omega, by omega, rfl, fun k k0 k1 => ⟨fun q => absurd q hb_0, fun q => by omega⟩⟩ (FU_lt (by omega))
            rintro jj s ⟨t, st, rfl, t0, t1, rfl, hs⟩
            dsimp only
            unfold f_X8_spare_L45
            by_cases d1 : tqn (fS X) i ≤ t
            · simp (disch := omega) only [L0, L1, L2, L3, L4, L5, L6, L7, L8, L9, L10, L11, L12, L13, L14, L15, L16, L17, L18, L19, L20, L21, L22, L23, L24, L25, L26, L27, L31, L32, L33, L36, L40, L41, L42, L47, L48, L57, L58, L59, L60, L61, L62, L65, L97, L101, L102, L103, L120, L126, L127, L144, L245, L1023, L1715, I_add, I_sub, I_mul, I_neg, I_lt, I_le, I_eq, o8_g7, o8_l7, ex1, Option.bind_some, if_pos, if_neg, if_true, if_false, ite_true, ite_false]
              refine Ok.pure (Or.inr ⟨_, rfl, fun k k0 k1 => ?_⟩)
              rw [hs k k0 k1, show t = tqn (fS X) i by omega]
            · by_cases d2 : q ≤ t ∧ t < eW (tqn (fS X) i) (tnd (fS X) i) q
              · simp (disch := omega) only [L0, L1, L2, L3, L4, L5, L6, L7, L8, L9, L10, L11, L12, L13, L14, L15, L16, L17, L18, L19, L20, L21, L22, L23, L24, L25, L26, L27, L31, L32, L33, L36, L40, L41, L42, L47, L48, L57, L58, L59, L60, L61, L62, L65, L97, L101, L102, L103, L120, L126, L127, L144, L245, L1023, L1715, I_add, I_sub, I_mul, I_neg, I_lt, I_le, I_eq, o8_g7, o8_l7, ex1, o8_cO, N_within hAt hM, ind_t d2, Option.bind_some, if_pos, if_neg, if_true, if_false, ite_true, ite_false]
                refine Ok.pure (Or.inl ⟨_, (tqn (fS X) i - (t + 1)).toNat, rfl, ⟨t + 1, _, rfl, by omega, by omega, rfl, fun k k0 k1 => ?_⟩, by omega⟩)
                rw [hb_or, hs k k0 k1, hb_bit (by omega) (by omega) k0 k1]
                omega
              · simp (disch := omega) only [L0, L1, L2, L3, L4, L5, L6, L7, L8, L9, L10, L11, L12, L13, L14, L15, L16, L17, L18, L19, L20, L21, L22, L23, L24, L25, L26, L27, L31, L32, L33, L36, L40, L41, L42, L47, L48, L57, L58, L59, L60, L61, L62, L65, L97, L101, L102, L103, L120, L126, L127, L144, L245, L1023, L1715, I_add, I_sub, I_mul, I_neg, I_lt, I_le, I_eq, o8_g7, o8_l7, ex1, o8_cO, N_within hAt hM, ind_f d2, or0, Option.bind_some, if_pos, if_neg, if_true, if_false, ite_true, ite_false]
                refine Ok.pure (Or.inl ⟨_, (tqn (fS X) i - (t + 1)).toNat, rfl, ⟨t + 1, _, rfl, by omega, by omega, rfl, fun k k0 k1 => ?_⟩, by omega⟩)
                rw [hs k k0 k1]
                omega
          · intro un hun
            refine Ok.bind (M_finds hl hM c1.1 c1.2 c1.1 c1.2) ?_
            rintro m1 ⟨K, rfl, ht⟩
            simp (disch := omega) only [o8_g12, o8_l11, upN_at, Option.bind_some, if_pos, if_neg, if_true, if_false, ite_true, ite_false]
            refine Ok.pure ⟨X, ⟨_, _, rfl, h.free (by omega) (by omega)⟩, Or.inr ⟨c, Or.inr ⟨?_, rfl, _, un, fun b b0 b1 b2 => ?_, ht, rfl⟩⟩⟩
            · rintro (z | z)
              · omega
              · exact hq z
            · rw [hun b b0 b2]; omega
    · simp (disch := omega) only [L0, L1, L2, L3, L4, L5, L6, L7, L8, L9, L10, L11, L12, L13, L14, L15, L16, L17, L18, L19, L20, L21, L22, L23, L24, L25, L26, L27, L31, L32, L33, L36, L40, L41, L42, L47, L48, L57, L58, L59, L60, L61, L62, L65, L97, L101, L102, L103, L120, L126, L127, L144, L245, L1023, L1715, I_add, I_sub, I_mul, I_neg, I_lt, I_le, I_eq, o8_cO, Option.bind_some, if_pos, if_neg, if_true, if_false, ite_true, ite_false]
      exact (M_badR hl h).mono (fun t ht => ⟨_, ht.2, Or.inl ⟨fun z => c2 z.2, ht.1, rfl⟩⟩)
  · rw [ind_f c1]
    simp (disch := omega) only [L0, L1, L2, L3, L4, L5, L6, L7, L8, L9, L10, L11, L12, L13, L14, L15, L16, L17, L18, L19, L20, L21, L22, L23, L24, L25, L26, L27, L31, L32, L33, L36, L40, L41, L42, L47, L48, L57, L58, L59, L60, L61, L62, L65, L97, L101, L102, L103, L120, L126, L127, L144, L245, L1023, L1715, I_add, I_sub, I_mul, I_neg, I_lt, I_le, I_eq, o8_cO, Option.bind_some, if_pos, if_neg, if_true, if_false, ite_true, ite_false]
    exact (M_badR hl h).mono (fun t ht => ⟨_, ht.2, Or.inl ⟨fun z => c1 z.1, ht.1, rfl⟩⟩)
end MF2
