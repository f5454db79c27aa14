/-! ===== Tree: slot, relocate ===== -/
/-- the place of the at-th child of t, or of one behind all -/
def Spot (n : Int) (lv : Int → Int) (t at_ p : Int) : Prop := t < p ∧ p ≤ enF n lv t ∧ Sm (fun g => ind (lv g = lv t + 1)) (t + 1) p = at_ ∧ (p < enF n lv t → lv p = lv t + 1)
theorem Spot_uniq {n : Int} {lv : Int → Int} {t at_ p q : Int} (h1 : Spot n lv t at_ p) (h2 : Spot n lv t at_ q) : p = q := by
  have key : ∀ p q : Int, Spot n lv t at_ p → Spot n lv t at_ q → ¬ p < q := by
    intro p q h1 h2 hlt
    obtain ⟨a1, a2, a3, a4⟩ := h1
    obtain ⟨b1, b2, b3, b4⟩ := h2
    have hp := a4 (by omega)
    rw [Sm_split (mid := p) (by omega) (by omega), a3, Sm_front hlt, ind_t hp] at b3
    have := Sm_nonneg (f := fun g => ind (lv g = lv t + 1)) (lo := p + 1) (hi := q) (fun _ _ _ => ind_nn)
    omega
  have a := key p q h1 h2
  have b := key q p h2 h1
  omega
/-- a row with the s values from e on moved to p, d more -/
def mvZ (f : Int → Int) (e s p d : Int) : Int → Int := fun k => if p ≤ k ∧ k < p + s then f (k - p + e) + d else delZ f e s (if k < p then k else k - s)
section SLOT
variable {m : Mm} {a : Nat} {F : Nat → Int} {A : Nat → Int → Int} {n : Int} {tg vl lv : Int → Int}
theorem T_slot (h : At m a (o4 a F A)) (hT : TR F A n tg vl lv) {t at_ u : Int} (h0 : 0 ≤ t) (h1 : t < n) (hu1 : -2147483648 ≤ u) (hu2 : u < 2147483648) (ha0 : 0 ≤ at_) (ha1 : at_ ≤ Sm (fun g => ind (lv g = lv t + 1 ∧ g ≠ u)) (t + 1) (enF n lv t)) :
    ∃ p, f_X4_slot m a (I t) (I at_) (I u) = some (I p) ∧ t < p ∧ p ≤ enF n lv t ∧ Sm (fun g => ind (lv g = lv t + 1 ∧ g ≠ u)) (t + 1) p = at_ ∧ (p = t + 1 ∨ ∃ c, t < c ∧ c < enF n lv t ∧ lv c = lv t + 1 ∧ p = enF n lv c) := by
  obtain ⟨hF, hw, hA⟩ := hT
  have hn2 := hw.2.1
  obtain ⟨r1, r2, -, -⟩ := enF_spec lv h1
  have hla : A 5 t = enF n lv t - 1 := (hA t h0 h1).2.2.2.2.1
  have hcb : ∀ x, t + 1 ≤ x → Sm (fun g => ind (lv g = lv t + 1 ∧ g ≠ u)) (t + 1) x ≤ x - (t + 1) := by
    intro x hx
    have := Sm_le (f := fun g => ind (lv g = lv t + 1 ∧ g ≠ u)) (g := fun _ => 1) (lo := t + 1) (hi := x) (fun _ _ _ => ind_le)
    rw [Sm_const hx] at this
    omega
  have hat : at_ ≤ 32 := by have := hcb (enF n lv t) (by omega); omega
  unfold f_X4_slot
  simp only [L0, L1, I_add]
  have key : Ok (whl FU (fun t1 : Int32 × Int32 × Int32 => f_X4_slot_L13 m a (I t) (I at_) (I u) t1.1 t1.2.1 t1.2.2) (I (t + 1), I 0, I (t + 1))) (fun r => ∃ p, r = I p ∧ t < p ∧ p ≤ enF n lv t ∧ Sm (fun g => ind (lv g = lv t + 1 ∧ g ≠ u)) (t + 1) p = at_ ∧ (p = t + 1 ∨ ∃ c, t < c ∧ c < enF n lv t ∧ lv c = lv t + 1 ∧ p = enF n lv c)) := by
    refine Ok.whl (fun j s => ∃ p q f, s = (I p, I q, I f) ∧ t < f ∧ f ≤ enF n lv t ∧ j = (enF n lv t - f).toNat ∧ 0 ≤ q ∧ q ≤ at_ ∧ t < p ∧ p ≤ enF n lv t ∧ Sm (fun g => ind (lv g = lv t + 1 ∧ g ≠ u)) (t + 1) p = q ∧ Sm (fun g => ind (lv g = lv t + 1 ∧ g ≠ u)) (t + 1) f = q ∧ (p = t + 1 ∨ ∃ c, t < c ∧ c < enF n lv t ∧ lv c = lv t + 1 ∧ p = enF n lv c)) _ (j := (enF n lv t - (t + 1)).toNat) ?_ ⟨t + 1, 0, t + 1, rfl, by omega, by omega, rfl, by omega, ha0, by omega, by omega, Sm_nil (by omega), Sm_nil (by omega), Or.inl rfl⟩ (FU_lt (by omega))
    rintro j s ⟨p, q, f, rfl, hf1, hf2, rfl, hq0, hq1, hp1, hp2, hcp, hcf, hbd⟩
    dsimp only
    by_cases c1 : A 5 t < f
    · have hfe : f = enF n lv t := by omega
      simp (disch := omega) only [f_X4_slot_L13, L0, L1, L2, L3, L4, L5, L6, L7, L8, L9, L10, L11, L12, L13, L14, L15, L16, L17, L18, L19, L20, L21, L22, L23, L24, L25, L26, L27, L31, L32, L33, L36, L40, L41, L42, L47, L48, L57, L58, L59, L60, L61, L62, L65, L97, L101, L102, L103, L120, L126, L127, L144, L245, L1023, L1715, I_add, I_sub, I_mul, I_neg, I_lt, I_le, I_eq, a4_cO h, a4_g0 h, a4_g1 h, a4_g2 h, a4_g3 h, a4_g4 h, a4_g5 h, a4_l1 h, a4_l2 h, a4_l3 h, a4_l4 h, a4_l5 h, Option.bind_some, if_pos, if_neg, if_true, if_false, ite_true, ite_false]
      refine Ok.pure (Or.inr ⟨_, rfl, p, rfl, hp1, hp2, ?_, hbd⟩)
      rw [hfe] at hcf
      omega
    · by_cases c2 : at_ ≤ q
      · simp (disch := omega) only [f_X4_slot_L13, L0, L1, L2, L3, L4, L5, L6, L7, L8, L9, L10, L11, L12, L13, L14, L15, L16, L17, L18, L19, L20, L21, L22, L23, L24, L25, L26, L27, L31, L32, L33, L36, L40, L41, L42, L47, L48, L57, L58, L59, L60, L61, L62, L65, L97, L101, L102, L103, L120, L126, L127, L144, L245, L1023, L1715, I_add, I_sub, I_mul, I_neg, I_lt, I_le, I_eq, a4_cO h, a4_g0 h, a4_g1 h, a4_g2 h, a4_g3 h, a4_g4 h, a4_g5 h, a4_l1 h, a4_l2 h, a4_l3 h, a4_l4 h, a4_l5 h, Option.bind_some, if_pos, if_neg, if_true, if_false, ite_true, ite_false]
        exact Ok.pure (Or.inr ⟨_, rfl, p, rfl, hp1, hp2, by omega, hbd⟩)
      · have hk := hA f (by omega) (by omega)
        have hpf : A 4 f = prF lv f := hk.2.2.2.1
        have hlf : A 5 f = enF n lv f - 1 := hk.2.2.2.2.1
        obtain ⟨g1, g2, -, -⟩ := prF_spec lv (e := f) (by omega)
        have hiff := pr_iff hw h0 h1 (f := f) (by omega) (by omega)
        have hs := Sm_succ (f := fun g => ind (lv g = lv t + 1 ∧ g ≠ u)) (lo := t + 1) (hi := f) (by omega)
        by_cases c3 : prF lv f = t
        · have hch := hiff.mp c3
          by_cases c4 : f = u
          · rw [ind_f (fun z => z.2 c4)] at hs
            simp (disch := omega) only [f_X4_slot_L13, L0, L1, L2, L3, L4, L5, L6, L7, L8, L9, L10, L11, L12, L13, L14, L15, L16, L17, L18, L19, L20, L21, L22, L23, L24, L25, L26, L27, L31, L32, L33, L36, L40, L41, L42, L47, L48, L57, L58, L59, L60, L61, L62, L65, L97, L101, L102, L103, L120, L126, L127, L144, L245, L1023, L1715, I_add, I_sub, I_mul, I_neg, I_lt, I_le, I_eq, a4_cO h, a4_g0 h, a4_g1 h, a4_g2 h, a4_g3 h, a4_g4 h, a4_g5 h, a4_l1 h, a4_l2 h, a4_l3 h, a4_l4 h, a4_l5 h, Option.bind_some, if_pos, if_neg, if_true, if_false, ite_true, ite_false]
            exact Ok.pure (Or.inl ⟨_, (enF n lv t - (f + 1)).toNat, rfl, ⟨p, q, f + 1, rfl, by omega, by omega, rfl, hq0, hq1, hp1, hp2, hcp, by omega, hbd⟩, by omega⟩)
          · rw [ind_t ⟨hch.2.2, c4⟩] at hs
            obtain ⟨s1, s2, s3, s4⟩ := enF_spec lv (show f < n by omega)
            have hel := en_le (lv := lv) h1 hch.1 hch.2.1
            simp (disch := omega) only [f_X4_slot_L13, L0, L1, L2, L3, L4, L5, L6, L7, L8, L9, L10, L11, L12, L13, L14, L15, L16, L17, L18, L19, L20, L21, L22, L23, L24, L25, L26, L27, L31, L32, L33, L36, L40, L41, L42, L47, L48, L57, L58, L59, L60, L61, L62, L65, L97, L101, L102, L103, L120, L126, L127, L144, L245, L1023, L1715, I_add, I_sub, I_mul, I_neg, I_lt, I_le, I_eq, a4_cO h, a4_g0 h, a4_g1 h, a4_g2 h, a4_g3 h, a4_g4 h, a4_g5 h, a4_l1 h, a4_l2 h, a4_l3 h, a4_l4 h, a4_l5 h, Option.bind_some, if_pos, if_neg, if_true, if_false, ite_true, ite_false]
            refine Ok.pure (Or.inl ⟨_, (enF n lv t - (f + 1)).toNat, rfl, ⟨enF n lv f, q + 1, f + 1, by rw [hlf, show enF n lv f - 1 + 1 = enF n lv f by omega], by omega, by omega, rfl, by omega, by omega, by omega, hel, ?_, by omega, Or.inr ⟨f, hch.1, hch.2.1, hch.2.2, rfl⟩⟩, by omega⟩)
            rw [Sm_split (mid := f + 1) (by omega) (by omega), hs, hcf, Sm_zero (lo := f + 1) (fun k k1 k2 => ind_f (fun z => by have := s4 k (by omega) k2; omega))]
            omega
        · rw [ind_f (fun z => c3 (hiff.mpr ⟨hf1, by omega, z.1⟩))] at hs
          simp (disch := omega) only [f_X4_slot_L13, L0, L1, L2, L3, L4, L5, L6, L7, L8, L9, L10, L11, L12, L13, L14, L15, L16, L17, L18, L19, L20, L21, L22, L23, L24, L25, L26, L27, L31, L32, L33, L36, L40, L41, L42, L47, L48, L57, L58, L59, L60, L61, L62, L65, L97, L101, L102, L103, L120, L126, L127, L144, L245, L1023, L1715, I_add, I_sub, I_mul, I_neg, I_lt, I_le, I_eq, a4_cO h, a4_g0 h, a4_g1 h, a4_g2 h, a4_g3 h, a4_g4 h, a4_g5 h, a4_l1 h, a4_l2 h, a4_l3 h, a4_l4 h, a4_l5 h, Option.bind_some, if_pos, if_neg, if_true, if_false, ite_true, ite_false]
          exact Ok.pure (Or.inl ⟨_, (enF n lv t - (f + 1)).toNat, rfl, ⟨p, q, f + 1, rfl, by omega, by omega, rfl, hq0, hq1, hp1, hp2, hcp, by omega, hbd⟩, by omega⟩)
  obtain ⟨r, hr, p, rfl, hp⟩ := key
  rw [hr]
  exact ⟨p, rfl, hp⟩
/-- without an element left out, that is the spot -/
theorem slot_spot (hw : WL n lv) {t at_ p : Int} (h0 : 0 ≤ t) (h1 : t < n) (hp1 : t < p) (hp2 : p ≤ enF n lv t) (hc : Sm (fun g => ind (lv g = lv t + 1 ∧ g ≠ -1)) (t + 1) p = at_) (hb : p = t + 1 ∨ ∃ c, t < c ∧ c < enF n lv t ∧ lv c = lv t + 1 ∧ p = enF n lv c) : Spot n lv t at_ p := by
  refine ⟨hp1, hp2, ?_, fun q => ?_⟩
  · rw [← hc]
    exact Sm_congr (fun k k1 k2 => ind_congr ⟨fun z => ⟨z, by omega⟩, fun z => z.1⟩)
  · rcases hb with rfl | ⟨c, c1, c2, c3, rfl⟩
    · exact first_child hw h0 h1 q
    · exact sib h1 c1 c2 c3 q
theorem T_relocate (hl : a + 5 < m.length) {b : Nat} {F' : Nat → Int} {A' : Nat → Int → Int} (hb : At m b (o4 b F' A')) (hd : a + 5 < b ∨ b + 5 < a) (hF : F 0 = n) (hn : n ≤ 32) {e s p d : Int} (he0 : 0 ≤ e) (he1 : e < 32) (hs : 0 < s) (hes : e + s ≤ n) (hla : A' 5 e = e + s - 1) (hp0 : 0 ≤ p) (hp1 : p + s ≤ n) (hlv : ∀ k, 0 ≤ k → k < n → -1000 ≤ A' 3 k ∧ A' 3 k ≤ 1000) (hd1 : -100 ≤ d) (hd2 : d ≤ 100) (hw : WL n (mvZ (A' 3) e s p d)) :
    Ok (f_X4_relocate (ov m a (o4 a F A)) a b (I e) (I p) (I d)) (fun m' => ∃ A'', m' = ov m a (o4 a F A'') ∧ ∀ k, 0 ≤ k → k < n → A'' 1 k = mvZ (A' 1) e s p 0 k ∧ A'' 2 k = mvZ (A' 2) e s p 0 k ∧ A'' 3 k = mvZ (A' 3) e s p d k ∧ A'' 4 k = prF (mvZ (A' 3) e s p d) k ∧ A'' 5 k = enF n (mvZ (A' 3) e s p d) k - 1) := by
  have hB : ∀ F0 A0, At (ov m a (o4 a F0 A0)) b (o4 b F' A') := fun F0 A0 => hb.keep (fun off h => o4_N off h) (fun off h => o4_N off h) hd
  unfold f_X4_relocate
  have hB0 := hB F A
  simp (disch := omega) only [a4_cO hB0, a4_g0 hB0, a4_g1 hB0, a4_g2 hB0, a4_g3 hB0, a4_g4 hB0, a4_g5 hB0, a4_l1 hB0, a4_l2 hB0, a4_l3 hB0, a4_l4 hB0, a4_l5 hB0, L0, L1, L2, L3, L4, L5, L6, L7, L8, L9, L10, L11, L12, L13, L14, L15, L16, L17, L18, L19, L20, L21, L22, L23, L24, L25, L26, L27, L31, L32, L33, L36, L40, L41, L42, L47, L48, L57, L58, L59, L60, L61, L62, L65, L97, L101, L102, L103, L120, L126, L127, L144, L245, L1023, L1715, I_add, I_sub, I_mul, I_neg, I_lt, I_le, I_eq, Option.bind_some, if_pos, if_neg, if_true, if_false, ite_true, ite_false]
  rw [show A' 5 e - e + 1 = s by omega]
  refine Ok.bind (P := fun m' => ∃ A'', m' = ov m a (o4 a F A'') ∧ ∀ k, 0 ≤ k → k < n → A'' 1 k = mvZ (A' 1) e s p 0 k ∧ A'' 2 k = mvZ (A' 2) e s p 0 k ∧ A'' 3 k = mvZ (A' 3) e s p d k) ?_ ?_
  · refine Ok.whl (fun j st => ∃ k A'', st = (I k, ov m a (o4 a F A'')) ∧ 0 ≤ k ∧ k ≤ n ∧ j = (n - k).toNat ∧ ∀ x, 0 ≤ x → x < k → A'' 1 x = mvZ (A' 1) e s p 0 x ∧ A'' 2 x = mvZ (A' 2) e s p 0 x ∧ A'' 3 x = mvZ (A' 3) e s p d x) _ (j := (n - 0).toNat) ?_ ⟨0, A, rfl, by omega, by omega, rfl, fun x h1 h2 => by omega⟩ (FU_lt (by omega))
    rintro j st ⟨k, A'', rfl, hk0, hk1, rfl, hA⟩
    have hB1 := hB F A''
    dsimp only
    by_cases hk : n ≤ k
    · simp (disch := omega) only [f_X4_relocate_L15, L0, L1, L2, L3, L4, L5, L6, L7, L8, L9, L10, L11, L12, L13, L14, L15, L16, L17, L18, L19, L20, L21, L22, L23, L24, L25, L26, L27, L31, L32, L33, L36, L40, L41, L42, L47, L48, L57, L58, L59, L60, L61, L62, L65, L97, L101, L102, L103, L120, L126, L127, L144, L245, L1023, L1715, I_add, I_sub, I_mul, I_neg, I_lt, I_le, I_eq, o4_cO, o4_g0, o4_p0, o4_g1, o4_g2, o4_g3, o4_g4, o4_g5, o4_l1, o4_s1, o4_l2, o4_s2, o4_l3, o4_s3, o4_l4, o4_s4, o4_l5, o4_s5, Option.bind_some, if_pos, if_neg, if_true, if_false, ite_true, ite_false]
      exact Ok.pure (Or.inr ⟨_, rfl, A'', rfl, fun x h1 h2 => hA x h1 (by omega)⟩)
    · -- where the k-th comes from
      have fin : ∀ (x y z : Int), (x = mvZ (A' 1) e s p 0 k ∧ y = mvZ (A' 2) e s p 0 k ∧ z = mvZ (A' 3) e s p d k) → Ok (some (Sum.inl (I (k + 1), ov m a (o4 a F (put3 A'' k x y z)))) : Option ((Int32 × Mm) ⊕ Mm)) (fun x => (∃ s' j', x = .inl s' ∧ (∃ k A'', s' = (I k, ov m a (o4 a F A'')) ∧ 0 ≤ k ∧ k ≤ n ∧ j' = (n - k).toNat ∧ ∀ x, 0 ≤ x → x < k → A'' 1 x = mvZ (A' 1) e s p 0 x ∧ A'' 2 x = mvZ (A' 2) e s p 0 x ∧ A'' 3 x = mvZ (A' 3) e s p d x) ∧ j' < (n - k).toNat) ∨ (∃ r, x = .inr r ∧ ∃ A'', r = ov m a (o4 a F A'') ∧ ∀ k, 0 ≤ k → k < n → A'' 1 k = mvZ (A' 1) e s p 0 k ∧ A'' 2 k = mvZ (A' 2) e s p 0 k ∧ A'' 3 k = mvZ (A' 3) e s p d k)) := by
        intro x y z hxyz
        refine Ok.pure (Or.inl ⟨_, (n - (k + 1)).toNat, rfl, ⟨k + 1, _, rfl, by omega, by omega, rfl, fun w h1 h2 => ?_⟩, by omega⟩)
        rw [put3_1, put3_2, put3_3]
        by_cases hw : w = k
        · subst hw; rw [upZ_at, upZ_at, upZ_at]; exact hxyz
        · rw [upZ_ne hw, upZ_ne hw, upZ_ne hw]; exact hA w h1 (by omega)
      unfold f_X4_relocate_L15
      by_cases c1 : p ≤ k ∧ k < p + s
      · have q1 := hlv (k - p + e) (by omega) (by omega)
        simp (disch := omega) only [L0, L1, L2, L3, L4, L5, L6, L7, L8, L9, L10, L11, L12, L13, L14, L15, L16, L17, L18, L19, L20, L21, L22, L23, L24, L25, L26, L27, L31, L32, L33, L36, L40, L41, L42, L47, L48, L57, L58, L59, L60, L61, L62, L65, L97, L101, L102, L103, L120, L126, L127, L144, L245, L1023, L1715, I_add, I_sub, I_mul, I_neg, I_lt, I_le, I_eq, o4_cO, o4_g0, o4_p0, o4_g1, o4_g2, o4_g3, o4_g4, o4_g5, o4_l1, o4_s1, o4_l2, o4_s2, o4_l3, o4_s3, o4_l4, o4_s4, o4_l5, o4_s5, a4_cO hB1, a4_g0 hB1, a4_g1 hB1, a4_g2 hB1, a4_g3 hB1, a4_g4 hB1, a4_g5 hB1, a4_l1 hB1, a4_l2 hB1, a4_l3 hB1, a4_l4 hB1, a4_l5 hB1, Option.bind_some, if_pos, if_neg, if_true, if_false, ite_true, ite_false, T_put]
        refine fin _ _ _ ?_
        unfold mvZ
        rw [if_pos c1, if_pos c1, if_pos c1]
        exact ⟨(Int.add_zero _).symm, (Int.add_zero _).symm, rfl⟩
      · by_cases c2 : k < p
        · by_cases c3 : k < e
          · simp (disch := omega) only [L0, L1, L2, L3, L4, L5, L6, L7, L8, L9, L10, L11, L12, L13, L14, L15, L16, L17, L18, L19, L20, L21, L22, L23, L24, L25, L26, L27, L31, L32, L33, L36, L40, L41, L42, L47, L48, L57, L58, L59, L60, L61, L62, L65, L97, L101, L102, L103, L120, L126, L127, L144, L245, L1023, L1715, I_add, I_sub, I_mul, I_neg, I_lt, I_le, I_eq, o4_cO, o4_g0, o4_p0, o4_g1, o4_g2, o4_g3, o4_g4, o4_g5, o4_l1, o4_s1, o4_l2, o4_s2, o4_l3, o4_s3, o4_l4, o4_s4, o4_l5, o4_s5, a4_cO hB1, a4_g0 hB1, a4_g1 hB1, a4_g2 hB1, a4_g3 hB1, a4_g4 hB1, a4_g5 hB1, a4_l1 hB1, a4_l2 hB1, a4_l3 hB1, a4_l4 hB1, a4_l5 hB1, Option.bind_some, if_pos, if_neg, if_true, if_false, ite_true, ite_false, T_put]
            refine fin _ _ _ ?_
            unfold mvZ delZ
            simp only [if_neg c1, if_pos c2, if_pos c3, and_self]
          · simp (disch := omega) only [L0, L1, L2, L3, L4, L5, L6, L7, L8, L9, L10, L11, L12, L13, L14, L15, L16, L17, L18, L19, L20, L21, L22, L23, L24, L25, L26, L27, L31, L32, L33, L36, L40, L41, L42, L47, L48, L57, L58, L59, L60, L61, L62, L65, L97, L101, L102, L103, L120, L126, L127, L144, L245, L1023, L1715, I_add, I_sub, I_mul, I_neg, I_lt, I_le, I_eq, o4_cO, o4_g0, o4_p0, o4_g1, o4_g2, o4_g3, o4_g4, o4_g5, o4_l1, o4_s1, o4_l2, o4_s2, o4_l3, o4_s3, o4_l4, o4_s4, o4_l5, o4_s5, a4_cO hB1, a4_g0 hB1, a4_g1 hB1, a4_g2 hB1, a4_g3 hB1, a4_g4 hB1, a4_g5 hB1, a4_l1 hB1, a4_l2 hB1, a4_l3 hB1, a4_l4 hB1, a4_l5 hB1, Option.bind_some, if_pos, if_neg, if_true, if_false, ite_true, ite_false, T_put]
            refine fin _ _ _ ?_
            unfold mvZ delZ
            simp only [if_neg c1, if_pos c2, if_neg c3, and_self]
        · by_cases c3 : k - s < e
          · by_cases c4 : k < p
            · omega
            · simp (disch := omega) only [L0, L1, L2, L3, L4, L5, L6, L7, L8, L9, L10, L11, L12, L13, L14, L15, L16, L17, L18, L19, L20, L21, L22, L23, L24, L25, L26, L27, L31, L32, L33, L36, L40, L41, L42, L47, L48, L57, L58, L59, L60, L61, L62, L65, L97, L101, L102, L103, L120, L126, L127, L144, L245, L1023, L1715, I_add, I_sub, I_mul, I_neg, I_lt, I_le, I_eq, o4_cO, o4_g0, o4_p0, o4_g1, o4_g2, o4_g3, o4_g4, o4_g5, o4_l1, o4_s1, o4_l2, o4_s2, o4_l3, o4_s3, o4_l4, o4_s4, o4_l5, o4_s5, a4_cO hB1, a4_g0 hB1, a4_g1 hB1, a4_g2 hB1, a4_g3 hB1, a4_g4 hB1, a4_g5 hB1, a4_l1 hB1, a4_l2 hB1, a4_l3 hB1, a4_l4 hB1, a4_l5 hB1, Option.bind_some, if_pos, if_neg, if_true, if_false, ite_true, ite_false, T_put]
              refine fin _ _ _ ?_
              unfold mvZ delZ
              simp only [if_neg c1, if_neg c2, if_pos c3, and_self]
          · simp (disch := omega) only [L0, L1, L2, L3, L4, L5, L6, L7, L8, L9, L10, L11, L12, L13, L14, L15, L16, L17, L18, L19, L20, L21, L22, L23, L24, L25, L26, L27, L31, L32, L33, L36, L40, L41, L42, L47, L48, L57, L58, L59, L60, L61, L62, L65, L97, L101, L102, L103, L120, L126, L127, L144, L245, L1023, L1715, I_add, I_sub, I_mul, I_neg, I_lt, I_le, I_eq, o4_cO, o4_g0, o4_p0, o4_g1, o4_g2, o4_g3, o4_g4, o4_g5, o4_l1, o4_s1, o4_l2, o4_s2, o4_l3, o4_s3, o4_l4, o4_s4, o4_l5, o4_s5, a4_cO hB1, a4_g0 hB1, a4_g1 hB1, a4_g2 hB1, a4_g3 hB1, a4_g4 hB1, a4_g5 hB1, a4_l1 hB1, a4_l2 hB1, a4_l3 hB1, a4_l4 hB1, a4_l5 hB1, Option.bind_some, if_pos, if_neg, if_true, if_false, ite_true, ite_false, T_put]
            refine fin _ _ _ ?_
            unfold mvZ delZ
            simp only [if_neg c1, if_neg c2, if_neg c3, and_self]
  · rintro m' ⟨A1, rfl, h3⟩
    simp (disch := omega) only [L0, L1, L2, L3, L4, L5, L6, L7, L8, L9, L10, L11, L12, L13, L14, L15, L16, L17, L18, L19, L20, L21, L22, L23, L24, L25, L26, L27, L31, L32, L33, L36, L40, L41, L42, L47, L48, L57, L58, L59, L60, L61, L62, L65, L97, L101, L102, L103, L120, L126, L127, L144, L245, L1023, L1715, I_add, I_sub, I_mul, I_neg, I_lt, I_le, I_eq, o4_cO, o4_g0, o4_p0, o4_g1, o4_g2, o4_g3, o4_g4, o4_g5, o4_l1, o4_s1, o4_l2, o4_s2, o4_l3, o4_s3, o4_l4, o4_s4, o4_l5, o4_s5, Option.bind_some, if_pos, if_neg, if_true, if_false, ite_true, ite_false]
    have hw' : WL n (A1 3) := WL_congr hw (fun k p1 p2 => (h3 k p1 p2).2.2)
    refine Ok.bind (T_link hl hF hw') ?_
    rintro m' ⟨A2, rfl, g1, g2⟩
    refine Ok.pure ⟨A2, rfl, fun k p1 p2 => ?_⟩
    rw [g1 1 (by decide) (by decide), g1 2 (by decide) (by decide), g1 3 (by decide) (by decide)]
    obtain ⟨a1, a2, a3⟩ := h3 k p1 p2
    refine ⟨a1, a2, a3, ?_, ?_⟩
    · rw [(g2 k p1 p2).1]
      exact prF_congr p1 (fun j q1 q2 => (h3 j q1 (by omega)).2.2)
    · rw [(g2 k p1 p2).2, enF_congr p1 p2 (fun j q1 q2 => (h3 j q1 q2).2.2)]
end SLOT
