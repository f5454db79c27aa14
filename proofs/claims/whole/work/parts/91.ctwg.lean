/-! ===== the class: twigs ===== -/
def app6 (A : Nat → Int → Int) (n t e o p : Int) : Nat → Int → Int := upN (upN (upN (upN (upN (upN A 1 (upZ (A 1) n t)) 2 (upZ (A 2) n 0)) 3 (upZ (A 3) n 0)) 4 (upZ (A 4) n e)) 5 (upZ (A 5) n o)) 6 (upZ (A 6) n p)
/-- the draft holds what has been read -/
def WD (F : Nat → Int) (A : Nat → Int → Int) (n : Int) (nd : Int → Int → Int) : Prop := F 0 = n ∧ ∀ q, 0 ≤ q → q < n → A 1 q = nd q 0 ∧ A 2 q = sgF (nd q 1) ∧ A 3 q = nd q 2 ∧ A 4 q = nd q 3 ∧ A 5 q = nd q 4 ∧ A 6 q = nd q 5
abbrev n0 : Int → Int → Int := fun _ _ => 0
abbrev tR0 (L : Int) (T : Int → Int) : (Int × Int) ⊕ (Int × (Int → Int → Int)) := tAt L T 0 0 (-1) 0 0 0 n0
/-- while a twig is read -/
abbrev tInv (m : Mm) (L : Int) (T : Int → Int) (j : Nat) (s : Int32 × Int32 × Int32 × Int32 × Int32 × Mm) : Prop := ∃ k st op ed od n nd F' A', s = (I st, I op, I ed, I od, I k, ov m 46 (o5 46 F' A')) ∧ 0 ≤ k ∧ k ≤ L ∧ j = (L - k).toNat ∧ tR0 L T = tAt L T k st op ed od n nd ∧ TI st op ed od n nd ∧ WD F' A' n nd
abbrev tOut (m : Mm) (L : Int) (T : Int → Int) (e : (Int32 × Int32 × Mm) ⊕ ((Int32 × Mm) ⊕ (Int32 × Mm))) : Prop := (∃ st op ed od n nd F' A', e = .inl (I st, I op, ov m 46 (o5 46 F' A')) ∧ tR0 L T = tAt L T L st op ed od n nd ∧ TI st op ed od n nd ∧ WD F' A' n nd) ∨ (∃ k F' A', e = .inr (.inl (I k, ov m 46 (o5 46 F' A'))) ∧ 0 ≤ k ∧ k ≤ L ∧ tR0 L T = .inl (k, 2)) ∨ (∃ k F' A', e = .inr (.inr (I k, ov m 46 (o5 46 F' A'))) ∧ 0 ≤ k ∧ k ≤ L ∧ tR0 L T = .inl (k, 1))
abbrev tStep (m : Mm) (L : Int) (T : Int → Int) (j : Nat) (x : (Int32 × Int32 × Int32 × Int32 × Int32 × Mm) ⊕ ((Int32 × Int32 × Mm) ⊕ ((Int32 × Mm) ⊕ (Int32 × Mm)))) : Prop := (∃ s' j', x = .inl s' ∧ tInv m L T j' s' ∧ j' < j) ∨ (∃ r, x = .inr r ∧ tOut m L T r)
section CTW
variable {m : Mm} {F3 F : Nat → Int} {A3 A : Nat → Int → Int} {L : Int} {T : Int → Int}
theorem W_append {a : Nat} (hl : a + 6 < m.length) {n t e o p : Int} (hF : F 0 = n) (h0 : 0 ≤ n) (h1 : n < 6) : f_X5_append (ov m a (o5 a F A)) a (I t) (I e) (I o) (I p) = some (ov m a (o5 a (upN F 0 (n + 1)) (app6 A n t e o p))) := by
  unfold f_X5_append
  have u2 : upN A 1 (upZ (A 1) n t) 2 = A 2 := upN_ne (by omega)
  have u3 : upN (upN A 1 (upZ (A 1) n t)) 2 (upZ (A 2) n 0) 3 = A 3 := by rw [upN_ne (by omega), upN_ne (by omega)]
  have u4 : upN (upN (upN A 1 (upZ (A 1) n t)) 2 (upZ (A 2) n 0)) 3 (upZ (A 3) n 0) 4 = A 4 := by rw [upN_ne (by omega), upN_ne (by omega), upN_ne (by omega)]
  have u5 : upN (upN (upN (upN A 1 (upZ (A 1) n t)) 2 (upZ (A 2) n 0)) 3 (upZ (A 3) n 0)) 4 (upZ (A 4) n e) 5 = A 5 := by rw [upN_ne (by omega), upN_ne (by omega), upN_ne (by omega), upN_ne (by omega)]
  have u6 : upN (upN (upN (upN (upN A 1 (upZ (A 1) n t)) 2 (upZ (A 2) n 0)) 3 (upZ (A 3) n 0)) 4 (upZ (A 4) n e)) 5 (upZ (A 5) n o) 6 = A 6 := by rw [upN_ne (by omega), upN_ne (by omega), upN_ne (by omega), upN_ne (by omega), upN_ne (by omega)]
  simp (disch := omega) only [o5_g0, hF, L0, L1, L2, L3, L4, L5, L6, L7, L8, L9, L10, L11, L12, L13, L14, L15, L16, L17, L18, L19, L20, L21, L22, L23, L24, L25, L26, L27, L31, L32, L33, L36, L40, L41, L42, L47, L48, L57, L58, L59, L60, L61, L62, L65, L97, L101, L102, L103, L120, L126, L127, L144, L245, L1023, L1715, I_add, I_sub, I_mul, I_neg, I_lt, I_le, I_eq, Option.bind_some, if_pos, if_neg, if_true, if_false, ite_true, ite_false, o5_g1, o5_g2, o5_g3, o5_g4, o5_g5, o5_g6, o5_s1, o5_s2, o5_s3, o5_s4, o5_s5, o5_s6, u2, u3, u4, u5, u6, o5_p0]
  rfl
theorem WD.ltr {n : Int} {nd : Int → Int → Int} (h : WD F A n nd) {t e o p : Int} (hn : 0 ≤ n) : WD (upN F 0 (n + 1)) (app6 A n t e o p) (n + 1) (upZ nd n (nrow t e o p)) := by
  refine ⟨upN_at, fun q q0 q1 => ?_⟩
  show upZ (A 1) n t q = _ ∧ upZ (A 2) n 0 q = _ ∧ upZ (A 3) n 0 q = _ ∧ upZ (A 4) n e q = _ ∧ upZ (A 5) n o q = _ ∧ upZ (A 6) n p q = _
  by_cases z : q = n
  · rw [z, upZ_at, upZ_at, upZ_at, upZ_at, upZ_at, upZ_at, upZ_at, nr0, nr1, nr2, nr3, nr4, nr5]
    exact ⟨rfl, rfl, rfl, rfl, rfl, rfl⟩
  · rw [upZ_ne z, upZ_ne z, upZ_ne z, upZ_ne z, upZ_ne z, upZ_ne z, upZ_ne z]
    exact h.2 q q0 (by omega)
theorem sg_tt {c : Int} (hc : sgC c) : sgF (ttC c) = c := by
  unfold sgF ttC
  rcases hc with rfl | rfl | rfl <;> rfl
theorem WD.sign {n : Int} {nd : Int → Int → Int} (h : WD F A n nd) {c : Int} (hc : sgC c) : WD F (upN A 2 (upZ (A 2) (n - 1) c)) n (upZ nd (n - 1) (upZ (nd (n - 1)) 1 (ttC c))) := by
  refine ⟨h.1, fun q q0 q1 => ?_⟩
  obtain ⟨h1, h2, h3, h4, h5, h6⟩ := h.2 q q0 q1
  show A 1 q = _ ∧ upZ (A 2) (n - 1) c q = _ ∧ A 3 q = _ ∧ A 4 q = _ ∧ A 5 q = _ ∧ A 6 q = _
  by_cases z : q = n - 1
  · rw [z] at h1 h2 h3 h4 h5 h6 ⊢
    rw [upZ_at, upZ_at, upZ_ne (by omega), upZ_at, upZ_ne (by omega), upZ_ne (by omega), upZ_ne (by omega), upZ_ne (by omega)]
    exact ⟨h1, (sg_tt hc).symm, h3, h4, h5, h6⟩
  · rw [upZ_ne z, upZ_ne z]; exact ⟨h1, h2, h3, h4, h5, h6⟩
theorem WD.dig {n : Int} {nd : Int → Int → Int} (h : WD F A n nd) {c : Int} : WD F (upN A 3 (upZ (A 3) (n - 1) c)) n (upZ nd (n - 1) (upZ (nd (n - 1)) 2 c)) := by
  refine ⟨h.1, fun q q0 q1 => ?_⟩
  obtain ⟨h1, h2, h3, h4, h5, h6⟩ := h.2 q q0 q1
  show A 1 q = _ ∧ A 2 q = _ ∧ upZ (A 3) (n - 1) c q = _ ∧ A 4 q = _ ∧ A 5 q = _ ∧ A 6 q = _
  by_cases z : q = n - 1
  · rw [z] at h1 h2 h3 h4 h5 h6 ⊢
    rw [upZ_at, upZ_at, upZ_ne (by omega), upZ_ne (by omega), upZ_at, upZ_ne (by omega), upZ_ne (by omega), upZ_ne (by omega)]
    exact ⟨h1, h2, rfl, h4, h5, h6⟩
  · rw [upZ_ne z, upZ_ne z]; exact ⟨h1, h2, h3, h4, h5, h6⟩
theorem X_twStep (ht : At m 38 (o3 38 F3 A3)) (hd : 46 + 6 < m.length) (hL : F3 1 = L) (hL1 : L ≤ 120) (hT : ∀ k, 0 ≤ k → k < L → A3 1 k = T k ∧ 0 ≤ T k ∧ T k ≤ 127) {k st op ed od n : Int} {nd : Int → Int → Int} {F' : Nat → Int} {A' : Nat → Int → Int} (k0 : 0 ≤ k) (k1 : k ≤ L) (hR : tR0 L T = tAt L T k st op ed od n nd) (hI : TI st op ed od n nd) (hD : WD F' A' n nd) : Ok (f_X3_readTwig_L18 (ov m 46 (o5 46 F' A')) 38 46 (I st) (I op) (I ed) (I od) (I k)) (tStep m L T (L - k).toNat) := by
  have hx : At (ov m 46 (o5 46 F' A')) 38 (o3 38 F3 A3) := ht.keep (fun off h => o5_N off h) (fun off h => o3_N off h) (by omega)
  obtain ⟨b1, b2, b3, b4, b5, b6, b7, b8, b9, b10, b11, b12⟩ := hI.bd
  have hF0 := hD.1
  unfold f_X3_readTwig_L18
  by_cases d1 : L ≤ k
  · simp (disch := omega) only [a3_g1 hx, hL, I_add, I_sub, I_mul, I_neg, I_lt, I_le, I_eq, if_pos d1, Option.bind_some]
    rw [show k = L by omega] at hR
    exact Ok.pure (Or.inr ⟨_, rfl, Or.inl ⟨st, op, ed, od, n, nd, F', A', rfl, hR, hI, hD⟩⟩)
  · obtain ⟨t1, t2, t3⟩ := hT k k0 (by omega)
    have hkL : k < L := by omega
    have goes : ∀ {st' op' ed' od' n' nd' F'' A''}, tAt L T k st op ed od n nd = tAt L T (k + 1) st' op' ed' od' n' nd' → TI st' op' ed' od' n' nd' → WD F'' A'' n' nd' → tStep m L T (L - k).toNat (.inl (I st', I op', I ed', I od', I (k + 1), ov m 46 (o5 46 F'' A''))) := fun h1 h2 h3 => Or.inl ⟨_, (L - (k + 1)).toNat, rfl, ⟨k + 1, _, _, _, _, _, _, _, _, rfl, by omega, by omega, rfl, hR.trans h1, h2, h3⟩, by omega⟩
    have fail1 : tAt L T k st op ed od n nd = .inl (k, 1) → tStep m L T (L - k).toNat (.inr (.inr (.inr (I k, ov m 46 (o5 46 F' A'))))) := fun h1 => Or.inr ⟨_, rfl, Or.inr (Or.inr ⟨k, F', A', rfl, k0, k1, hR.trans h1⟩)⟩
    simp (disch := omega) only [a3_g1 hx, hL, a3_g0 hx, a3_l1 hx, t1, X_letter, I_add, I_sub, I_mul, I_neg, I_lt, I_le, I_eq, if_neg d1, Option.bind_some]
    by_cases c1 : st = 0 ∧ nmC (T k)
    · have h55 : (if I st = (0 : Int32) then (if I (ind (97 ≤ T k ∧ T k < 103)) = (0 : Int32) then (if I (T k) = (42 : Int32) then f_X3_readTwig_J55 (ov m 46 (o5 46 F' A')) 38 46 (I op) (I ed) (I od) (I k) (I (T k)) else f_X3_readTwig_J106 (ov m 46 (o5 46 F' A')) 38 46 (I st) (I op) (I ed) (I od) (I k) (I (T k))) else f_X3_readTwig_J55 (ov m 46 (o5 46 F' A')) 38 46 (I op) (I ed) (I od) (I k) (I (T k))) else f_X3_readTwig_J106 (ov m 46 (o5 46 F' A')) 38 46 (I st) (I op) (I ed) (I od) (I k) (I (T k))) = f_X3_readTwig_J55 (ov m 46 (o5 46 F' A')) 38 46 (I op) (I ed) (I od) (I k) (I (T k)) := by
        by_cases z : 97 ≤ T k ∧ T k < 103
        · simp (disch := omega) only [ind_t z, L0, L1, L2, L3, L4, L5, L6, L7, L8, L9, L10, L11, L12, L13, L14, L15, L16, L17, L18, L19, L20, L21, L22, L23, L24, L25, L26, L27, L31, L32, L33, L36, L40, L41, L42, L47, L48, L57, L58, L59, L60, L61, L62, L65, L97, L101, L102, L103, L120, L126, L127, L144, L245, L1023, L1715, I_add, I_sub, I_mul, I_neg, I_lt, I_le, I_eq, Option.bind_some, if_pos, if_neg, if_true, if_false, ite_true, ite_false]
        · simp (disch := omega) only [ind_f z, L0, L1, L2, L3, L4, L5, L6, L7, L8, L9, L10, L11, L12, L13, L14, L15, L16, L17, L18, L19, L20, L21, L22, L23, L24, L25, L26, L27, L31, L32, L33, L36, L40, L41, L42, L47, L48, L57, L58, L59, L60, L61, L62, L65, L97, L101, L102, L103, L120, L126, L127, L144, L245, L1023, L1715, I_add, I_sub, I_mul, I_neg, I_lt, I_le, I_eq, Option.bind_some, if_pos, if_neg, if_true, if_false, ite_true, ite_false]
      rw [h55]
      unfold f_X3_readTwig_J55
      have htg : Option.bind (α := Int32) (if I (T k) = (42 : Int32) then some (6 : Int32) else some (I (T k) - (97 : Int32))) = Option.bind (some (I (tgC (T k)))) (β := (Int32 × Int32 × Int32 × Int32 × Int32 × Mm) ⊕ ((Int32 × Int32 × Mm) ⊕ ((Int32 × Mm) ⊕ (Int32 × Mm)))) := by
        congr 1
        unfold tgC
        by_cases z : T k = 42
        · rw [if_pos z]; simp (disch := omega) only [L0, L1, L2, L3, L4, L5, L6, L7, L8, L9, L10, L11, L12, L13, L14, L15, L16, L17, L18, L19, L20, L21, L22, L23, L24, L25, L26, L27, L31, L32, L33, L36, L40, L41, L42, L47, L48, L57, L58, L59, L60, L61, L62, L65, L97, L101, L102, L103, L120, L126, L127, L144, L245, L1023, L1715, I_add, I_sub, I_mul, I_neg, I_lt, I_le, I_eq, Option.bind_some, if_pos, if_neg, if_true, if_false, ite_true, ite_false]
        · rw [if_neg z]; simp (disch := omega) only [L0, L1, L2, L3, L4, L5, L6, L7, L8, L9, L10, L11, L12, L13, L14, L15, L16, L17, L18, L19, L20, L21, L22, L23, L24, L25, L26, L27, L31, L32, L33, L36, L40, L41, L42, L47, L48, L57, L58, L59, L60, L61, L62, L65, L97, L101, L102, L103, L120, L126, L127, L144, L245, L1023, L1715, I_add, I_sub, I_mul, I_neg, I_lt, I_le, I_eq, Option.bind_some, if_pos, if_neg, if_true, if_false, ite_true, ite_false]
      rw [htg]
      by_cases cn : n < 6
      · simp (disch := omega) only [o5_g0, hF0, L0, L1, L2, L3, L4, L5, L6, L7, L8, L9, L10, L11, L12, L13, L14, L15, L16, L17, L18, L19, L20, L21, L22, L23, L24, L25, L26, L27, L31, L32, L33, L36, L40, L41, L42, L47, L48, L57, L58, L59, L60, L61, L62, L65, L97, L101, L102, L103, L120, L126, L127, L144, L245, L1023, L1715, I_add, I_sub, I_mul, I_neg, I_lt, I_le, I_eq, Option.bind_some, if_pos, if_neg, if_true, if_false, ite_true, ite_false, o5_cO, W_append hd hF0]
        exact Ok.pure (goes (t_let hkL c1.2 c1.1 cn) (hI.ltr c1.2 c1.1 cn) (hD.ltr b1))
      · simp (disch := omega) only [o5_g0, hF0, L0, L1, L2, L3, L4, L5, L6, L7, L8, L9, L10, L11, L12, L13, L14, L15, L16, L17, L18, L19, L20, L21, L22, L23, L24, L25, L26, L27, L31, L32, L33, L36, L40, L41, L42, L47, L48, L57, L58, L59, L60, L61, L62, L65, L97, L101, L102, L103, L120, L126, L127, L144, L245, L1023, L1715, I_add, I_sub, I_mul, I_neg, I_lt, I_le, I_eq, Option.bind_some, if_pos, if_neg, if_true, if_false, ite_true, ite_false]
        exact Ok.pure (Or.inr ⟨_, rfl, Or.inr (Or.inl ⟨k, F', A', rfl, k0, k1, hR.trans (t_many hkL c1.2 c1.1 (by omega))⟩)⟩)
    · have h106 : (if I st = (0 : Int32) then (if I (ind (97 ≤ T k ∧ T k < 103)) = (0 : Int32) then (if I (T k) = (42 : Int32) then f_X3_readTwig_J55 (ov m 46 (o5 46 F' A')) 38 46 (I op) (I ed) (I od) (I k) (I (T k)) else f_X3_readTwig_J106 (ov m 46 (o5 46 F' A')) 38 46 (I st) (I op) (I ed) (I od) (I k) (I (T k))) else f_X3_readTwig_J55 (ov m 46 (o5 46 F' A')) 38 46 (I op) (I ed) (I od) (I k) (I (T k))) else f_X3_readTwig_J106 (ov m 46 (o5 46 F' A')) 38 46 (I st) (I op) (I ed) (I od) (I k) (I (T k))) = f_X3_readTwig_J106 (ov m 46 (o5 46 F' A')) 38 46 (I st) (I op) (I ed) (I od) (I k) (I (T k)) := by
        by_cases y : st = 0
        · simp (disch := omega) only [ind_f (show ¬ (97 ≤ T k ∧ T k < 103) by omega), L0, L1, L2, L3, L4, L5, L6, L7, L8, L9, L10, L11, L12, L13, L14, L15, L16, L17, L18, L19, L20, L21, L22, L23, L24, L25, L26, L27, L31, L32, L33, L36, L40, L41, L42, L47, L48, L57, L58, L59, L60, L61, L62, L65, L97, L101, L102, L103, L120, L126, L127, L144, L245, L1023, L1715, I_add, I_sub, I_mul, I_neg, I_lt, I_le, I_eq, Option.bind_some, if_pos, if_neg, if_true, if_false, ite_true, ite_false]
        · simp (disch := omega) only [L0, L1, L2, L3, L4, L5, L6, L7, L8, L9, L10, L11, L12, L13, L14, L15, L16, L17, L18, L19, L20, L21, L22, L23, L24, L25, L26, L27, L31, L32, L33, L36, L40, L41, L42, L47, L48, L57, L58, L59, L60, L61, L62, L65, L97, L101, L102, L103, L120, L126, L127, L144, L245, L1023, L1715, I_add, I_sub, I_mul, I_neg, I_lt, I_le, I_eq, Option.bind_some, if_pos, if_neg, if_true, if_false, ite_true, ite_false]
      rw [h106]
      unfold f_X3_readTwig_J106 f_X3_readTwig_J132
      by_cases c2 : st = 3 ∧ sgC (T k)
      · have hn := b11 (by omega)
        rcases c2.2 with z | z | z
        · simp (disch := omega) only [L0, L1, L2, L3, L4, L5, L6, L7, L8, L9, L10, L11, L12, L13, L14, L15, L16, L17, L18, L19, L20, L21, L22, L23, L24, L25, L26, L27, L31, L32, L33, L36, L40, L41, L42, L47, L48, L57, L58, L59, L60, L61, L62, L65, L97, L101, L102, L103, L120, L126, L127, L144, L245, L1023, L1715, I_add, I_sub, I_mul, I_neg, I_lt, I_le, I_eq, Option.bind_some, if_pos, if_neg, if_true, if_false, ite_true, ite_false, o5_g2, o5_g0, hF0, o5_s2]
          exact Ok.pure (goes (t_sign hkL c2.2 c2.1) (hI.sign c2.2 c2.1) (hD.sign c2.2))
        · simp (disch := omega) only [L0, L1, L2, L3, L4, L5, L6, L7, L8, L9, L10, L11, L12, L13, L14, L15, L16, L17, L18, L19, L20, L21, L22, L23, L24, L25, L26, L27, L31, L32, L33, L36, L40, L41, L42, L47, L48, L57, L58, L59, L60, L61, L62, L65, L97, L101, L102, L103, L120, L126, L127, L144, L245, L1023, L1715, I_add, I_sub, I_mul, I_neg, I_lt, I_le, I_eq, Option.bind_some, if_pos, if_neg, if_true, if_false, ite_true, ite_false, o5_g2, o5_g0, hF0, o5_s2]
          exact Ok.pure (goes (t_sign hkL c2.2 c2.1) (hI.sign c2.2 c2.1) (hD.sign c2.2))
        · simp (disch := omega) only [L0, L1, L2, L3, L4, L5, L6, L7, L8, L9, L10, L11, L12, L13, L14, L15, L16, L17, L18, L19, L20, L21, L22, L23, L24, L25, L26, L27, L31, L32, L33, L36, L40, L41, L42, L47, L48, L57, L58, L59, L60, L61, L62, L65, L97, L101, L102, L103, L120, L126, L127, L144, L245, L1023, L1715, I_add, I_sub, I_mul, I_neg, I_lt, I_le, I_eq, Option.bind_some, if_pos, if_neg, if_true, if_false, ite_true, ite_false, o5_g2, o5_g0, hF0, o5_s2]
          exact Ok.pure (goes (t_sign hkL c2.2 c2.1) (hI.sign c2.2 c2.1) (hD.sign c2.2))
      · have e2 : ∀ X : Option ((Int32 × Int32 × Int32 × Int32 × Int32 × Mm) ⊕ ((Int32 × Int32 × Mm) ⊕ ((Int32 × Mm) ⊕ (Int32 × Mm)))), ∀ Y : Option ((Int32 × Int32 × Int32 × Int32 × Int32 × Mm) ⊕ ((Int32 × Int32 × Mm) ⊕ ((Int32 × Mm) ⊕ (Int32 × Mm)))), (if I st = (3 : Int32) then (if I (T k) = (61 : Int32) then Y else (if I (T k) = (60 : Int32) then Y else (if I (T k) = (62 : Int32) then Y else X))) else X) = X := by
          intro X Y
          by_cases y : st = 3
          · simp (disch := omega) only [L0, L1, L2, L3, L4, L5, L6, L7, L8, L9, L10, L11, L12, L13, L14, L15, L16, L17, L18, L19, L20, L21, L22, L23, L24, L25, L26, L27, L31, L32, L33, L36, L40, L41, L42, L47, L48, L57, L58, L59, L60, L61, L62, L65, L97, L101, L102, L103, L120, L126, L127, L144, L245, L1023, L1715, I_add, I_sub, I_mul, I_neg, I_lt, I_le, I_eq, Option.bind_some, if_pos, if_neg, if_true, if_false, ite_true, ite_false]
          · simp (disch := omega) only [L0, L1, L2, L3, L4, L5, L6, L7, L8, L9, L10, L11, L12, L13, L14, L15, L16, L17, L18, L19, L20, L21, L22, L23, L24, L25, L26, L27, L31, L32, L33, L36, L40, L41, L42, L47, L48, L57, L58, L59, L60, L61, L62, L65, L97, L101, L102, L103, L120, L126, L127, L144, L245, L1023, L1715, I_add, I_sub, I_mul, I_neg, I_lt, I_le, I_eq, Option.bind_some, if_pos, if_neg, if_true, if_false, ite_true, ite_false]
        rw [e2]
        unfold f_X3_readTwig_J150
        by_cases c3 : st = 2 ∧ (48 ≤ T k ∧ T k < 58)
        · have hn := b11 (by omega)
          simp (disch := omega) only [L0, L1, L2, L3, L4, L5, L6, L7, L8, L9, L10, L11, L12, L13, L14, L15, L16, L17, L18, L19, L20, L21, L22, L23, L24, L25, L26, L27, L31, L32, L33, L36, L40, L41, L42, L47, L48, L57, L58, L59, L60, L61, L62, L65, L97, L101, L102, L103, L120, L126, L127, L144, L245, L1023, L1715, I_add, I_sub, I_mul, I_neg, I_lt, I_le, I_eq, Option.bind_some, if_pos, if_neg, if_true, if_false, ite_true, ite_false, X_digit, ind_t c3.2, o5_g3, o5_g0, hF0, o5_s3]
          exact Ok.pure (goes (t_dig hkL c3.2 c3.1) (hI.dig c3.2 c3.1) hD.dig)
        · have e3 : ∀ X Y : Option ((Int32 × Int32 × Int32 × Int32 × Int32 × Mm) ⊕ ((Int32 × Int32 × Mm) ⊕ ((Int32 × Mm) ⊕ (Int32 × Mm)))), (if I st = (2 : Int32) then (f_X3_isDigit (ov m 46 (o5 46 F' A')) (I (T k))).bind fun v31 => (if v31 = (0 : Int32) then X else Y) else X) = X := by
            intro X Y
            by_cases y : st = 2
            · simp (disch := omega) only [L0, L1, L2, L3, L4, L5, L6, L7, L8, L9, L10, L11, L12, L13, L14, L15, L16, L17, L18, L19, L20, L21, L22, L23, L24, L25, L26, L27, L31, L32, L33, L36, L40, L41, L42, L47, L48, L57, L58, L59, L60, L61, L62, L65, L97, L101, L102, L103, L120, L126, L127, L144, L245, L1023, L1715, I_add, I_sub, I_mul, I_neg, I_lt, I_le, I_eq, Option.bind_some, if_pos, if_neg, if_true, if_false, ite_true, ite_false, X_digit, ind_f (show ¬ (48 ≤ T k ∧ T k < 58) by omega)]
            · simp (disch := omega) only [L0, L1, L2, L3, L4, L5, L6, L7, L8, L9, L10, L11, L12, L13, L14, L15, L16, L17, L18, L19, L20, L21, L22, L23, L24, L25, L26, L27, L31, L32, L33, L36, L40, L41, L42, L47, L48, L57, L58, L59, L60, L61, L62, L65, L97, L101, L102, L103, L120, L126, L127, L144, L245, L1023, L1715, I_add, I_sub, I_mul, I_neg, I_lt, I_le, I_eq, Option.bind_some, if_pos, if_neg, if_true, if_false, ite_true, ite_false]
          rw [e3]
          unfold f_X3_readTwig_J184 f_X3_readTwig_J201
          by_cases c4 : T k = 40 ∧ (st = 3 ∨ st = 4)
          · have hn := b11 (by omega)
            rcases c4.2 with z | z
            · simp (disch := omega) only [L0, L1, L2, L3, L4, L5, L6, L7, L8, L9, L10, L11, L12, L13, L14, L15, L16, L17, L18, L19, L20, L21, L22, L23, L24, L25, L26, L27, L31, L32, L33, L36, L40, L41, L42, L47, L48, L57, L58, L59, L60, L61, L62, L65, L97, L101, L102, L103, L120, L126, L127, L144, L245, L1023, L1715, I_add, I_sub, I_mul, I_neg, I_lt, I_le, I_eq, Option.bind_some, if_pos, if_neg, if_true, if_false, ite_true, ite_false, o5_g0, hF0]
              exact Ok.pure (goes (t_par hkL c4.1 c4.2) (hI.par c4.2) hD)
            · simp (disch := omega) only [L0, L1, L2, L3, L4, L5, L6, L7, L8, L9, L10, L11, L12, L13, L14, L15, L16, L17, L18, L19, L20, L21, L22, L23, L24, L25, L26, L27, L31, L32, L33, L36, L40, L41, L42, L47, L48, L57, L58, L59, L60, L61, L62, L65, L97, L101, L102, L103, L120, L126, L127, L144, L245, L1023, L1715, I_add, I_sub, I_mul, I_neg, I_lt, I_le, I_eq, Option.bind_some, if_pos, if_neg, if_true, if_false, ite_true, ite_false, o5_g0, hF0]
              exact Ok.pure (goes (t_par hkL c4.1 c4.2) (hI.par c4.2) hD)
          · have e4 : ∀ X Y : Option ((Int32 × Int32 × Int32 × Int32 × Int32 × Mm) ⊕ ((Int32 × Int32 × Mm) ⊕ ((Int32 × Mm) ⊕ (Int32 × Mm)))), (if I (T k) = (40 : Int32) then (if I st = (3 : Int32) then Y else (if I st = (4 : Int32) then Y else X)) else X) = X := by
              intro X Y
              by_cases y : T k = 40
              · simp (disch := omega) only [L0, L1, L2, L3, L4, L5, L6, L7, L8, L9, L10, L11, L12, L13, L14, L15, L16, L17, L18, L19, L20, L21, L22, L23, L24, L25, L26, L27, L31, L32, L33, L36, L40, L41, L42, L47, L48, L57, L58, L59, L60, L61, L62, L65, L97, L101, L102, L103, L120, L126, L127, L144, L245, L1023, L1715, I_add, I_sub, I_mul, I_neg, I_lt, I_le, I_eq, Option.bind_some, if_pos, if_neg, if_true, if_false, ite_true, ite_false]
              · simp (disch := omega) only [L0, L1, L2, L3, L4, L5, L6, L7, L8, L9, L10, L11, L12, L13, L14, L15, L16, L17, L18, L19, L20, L21, L22, L23, L24, L25, L26, L27, L31, L32, L33, L36, L40, L41, L42, L47, L48, L57, L58, L59, L60, L61, L62, L65, L97, L101, L102, L103, L120, L126, L127, L144, L245, L1023, L1715, I_add, I_sub, I_mul, I_neg, I_lt, I_le, I_eq, Option.bind_some, if_pos, if_neg, if_true, if_false, ite_true, ite_false]
            rw [e4]
            unfold f_X3_readTwig_J213 f_X3_readTwig_J227 f_X3_readTwig_J244
            by_cases c5 : (T k = 47 ∨ T k = 126) ∧ op ≠ -1 ∧ (st = 1 ∨ wh st)
            · have hop := b12 c5.2.1
              have hs5 : st = 1 ∨ wh st := c5.2.2
              have ho5 : op ≠ -1 := c5.2.1
              have hc5 : T k = 47 ∨ T k = 126 := c5.1
              by_cases y : T k = 47
              · by_cases z : st = 1
                · simp (disch := omega) only [L0, L1, L2, L3, L4, L5, L6, L7, L8, L9, L10, L11, L12, L13, L14, L15, L16, L17, L18, L19, L20, L21, L22, L23, L24, L25, L26, L27, L31, L32, L33, L36, L40, L41, L42, L47, L48, L57, L58, L59, L60, L61, L62, L65, L97, L101, L102, L103, L120, L126, L127, L144, L245, L1023, L1715, I_add, I_sub, I_mul, I_neg, I_lt, I_le, I_eq, Option.bind_some, if_pos, if_neg, if_true, if_false, ite_true, ite_false]
                  exact Ok.pure (by have hg := goes (t_edge hkL hc5 ho5 hs5) (hI.edge (v := if T k = 47 then 1 else 2) (by rw [if_pos y]; omega) ho5 hs5) hD; rw [if_pos y] at hg; exact hg)
                · simp (disch := omega) only [L0, L1, L2, L3, L4, L5, L6, L7, L8, L9, L10, L11, L12, L13, L14, L15, L16, L17, L18, L19, L20, L21, L22, L23, L24, L25, L26, L27, L31, L32, L33, L36, L40, L41, L42, L47, L48, L57, L58, L59, L60, L61, L62, L65, L97, L101, L102, L103, L120, L126, L127, L144, L245, L1023, L1715, I_add, I_sub, I_mul, I_neg, I_lt, I_le, I_eq, Option.bind_some, if_pos, if_neg, if_true, if_false, ite_true, ite_false, X_whole, ind_t (show st = 3 ∨ st = 4 ∨ st = 5 by omega)]
                  exact Ok.pure (by have hg := goes (t_edge hkL hc5 ho5 hs5) (hI.edge (v := if T k = 47 then 1 else 2) (by rw [if_pos y]; omega) ho5 hs5) hD; rw [if_pos y] at hg; exact hg)
              · by_cases z : st = 1
                · simp (disch := omega) only [L0, L1, L2, L3, L4, L5, L6, L7, L8, L9, L10, L11, L12, L13, L14, L15, L16, L17, L18, L19, L20, L21, L22, L23, L24, L25, L26, L27, L31, L32, L33, L36, L40, L41, L42, L47, L48, L57, L58, L59, L60, L61, L62, L65, L97, L101, L102, L103, L120, L126, L127, L144, L245, L1023, L1715, I_add, I_sub, I_mul, I_neg, I_lt, I_le, I_eq, Option.bind_some, if_pos, if_neg, if_true, if_false, ite_true, ite_false]
                  exact Ok.pure (by have hg := goes (t_edge hkL hc5 ho5 hs5) (hI.edge (v := if T k = 47 then 1 else 2) (by rw [if_neg y]; omega) ho5 hs5) hD; rw [if_neg y] at hg; exact hg)
                · simp (disch := omega) only [L0, L1, L2, L3, L4, L5, L6, L7, L8, L9, L10, L11, L12, L13, L14, L15, L16, L17, L18, L19, L20, L21, L22, L23, L24, L25, L26, L27, L31, L32, L33, L36, L40, L41, L42, L47, L48, L57, L58, L59, L60, L61, L62, L65, L97, L101, L102, L103, L120, L126, L127, L144, L245, L1023, L1715, I_add, I_sub, I_mul, I_neg, I_lt, I_le, I_eq, Option.bind_some, if_pos, if_neg, if_true, if_false, ite_true, ite_false, X_whole, ind_t (show st = 3 ∨ st = 4 ∨ st = 5 by omega)]
                  exact Ok.pure (by have hg := goes (t_edge hkL hc5 ho5 hs5) (hI.edge (v := if T k = 47 then 1 else 2) (by rw [if_neg y]; omega) ho5 hs5) hD; rw [if_neg y] at hg; exact hg)
            · have e5 : ∀ X Y : Option ((Int32 × Int32 × Int32 × Int32 × Int32 × Mm) ⊕ ((Int32 × Int32 × Mm) ⊕ ((Int32 × Mm) ⊕ (Int32 × Mm)))), (if I (T k) = (47 : Int32) then (if I op = (-1 : Int32) then X else (if I st = (1 : Int32) then Y else (f_X3_isWhole (ov m 46 (o5 46 F' A')) (I st)).bind fun v6 => (if v6 = (0 : Int32) then X else Y))) else (if I (T k) = (126 : Int32) then (if I op = (-1 : Int32) then X else (if I st = (1 : Int32) then Y else (f_X3_isWhole (ov m 46 (o5 46 F' A')) (I st)).bind fun v6 => (if v6 = (0 : Int32) then X else Y))) else X)) = X := by
                intro X Y
                by_cases y : T k = 47 ∨ T k = 126
                · by_cases z : op = -1
                  · rcases y with y | y
                    · simp (disch := omega) only [L0, L1, L2, L3, L4, L5, L6, L7, L8, L9, L10, L11, L12, L13, L14, L15, L16, L17, L18, L19, L20, L21, L22, L23, L24, L25, L26, L27, L31, L32, L33, L36, L40, L41, L42, L47, L48, L57, L58, L59, L60, L61, L62, L65, L97, L101, L102, L103, L120, L126, L127, L144, L245, L1023, L1715, I_add, I_sub, I_mul, I_neg, I_lt, I_le, I_eq, Option.bind_some, if_pos, if_neg, if_true, if_false, ite_true, ite_false]
                    · simp (disch := omega) only [L0, L1, L2, L3, L4, L5, L6, L7, L8, L9, L10, L11, L12, L13, L14, L15, L16, L17, L18, L19, L20, L21, L22, L23, L24, L25, L26, L27, L31, L32, L33, L36, L40, L41, L42, L47, L48, L57, L58, L59, L60, L61, L62, L65, L97, L101, L102, L103, L120, L126, L127, L144, L245, L1023, L1715, I_add, I_sub, I_mul, I_neg, I_lt, I_le, I_eq, Option.bind_some, if_pos, if_neg, if_true, if_false, ite_true, ite_false]
                  · rcases y with y | y
                    · simp (disch := omega) only [L0, L1, L2, L3, L4, L5, L6, L7, L8, L9, L10, L11, L12, L13, L14, L15, L16, L17, L18, L19, L20, L21, L22, L23, L24, L25, L26, L27, L31, L32, L33, L36, L40, L41, L42, L47, L48, L57, L58, L59, L60, L61, L62, L65, L97, L101, L102, L103, L120, L126, L127, L144, L245, L1023, L1715, I_add, I_sub, I_mul, I_neg, I_lt, I_le, I_eq, Option.bind_some, if_pos, if_neg, if_true, if_false, ite_true, ite_false, X_whole, ind_f (show ¬ (st = 3 ∨ st = 4 ∨ st = 5) by omega)]
                    · simp (disch := omega) only [L0, L1, L2, L3, L4, L5, L6, L7, L8, L9, L10, L11, L12, L13, L14, L15, L16, L17, L18, L19, L20, L21, L22, L23, L24, L25, L26, L27, L31, L32, L33, L36, L40, L41, L42, L47, L48, L57, L58, L59, L60, L61, L62, L65, L97, L101, L102, L103, L120, L126, L127, L144, L245, L1023, L1715, I_add, I_sub, I_mul, I_neg, I_lt, I_le, I_eq, Option.bind_some, if_pos, if_neg, if_true, if_false, ite_true, ite_false, X_whole, ind_f (show ¬ (st = 3 ∨ st = 4 ∨ st = 5) by omega)]
                · simp (disch := omega) only [L0, L1, L2, L3, L4, L5, L6, L7, L8, L9, L10, L11, L12, L13, L14, L15, L16, L17, L18, L19, L20, L21, L22, L23, L24, L25, L26, L27, L31, L32, L33, L36, L40, L41, L42, L47, L48, L57, L58, L59, L60, L61, L62, L65, L97, L101, L102, L103, L120, L126, L127, L144, L245, L1023, L1715, I_add, I_sub, I_mul, I_neg, I_lt, I_le, I_eq, Option.bind_some, if_pos, if_neg, if_true, if_false, ite_true, ite_false]
              rw [e5]
              unfold f_X3_readTwig_J263
              by_cases c6 : T k = 59 ∧ op ≠ -1 ∧ wh st
              · have hop := b12 c6.2.1
                simp (disch := omega) only [L0, L1, L2, L3, L4, L5, L6, L7, L8, L9, L10, L11, L12, L13, L14, L15, L16, L17, L18, L19, L20, L21, L22, L23, L24, L25, L26, L27, L31, L32, L33, L36, L40, L41, L42, L47, L48, L57, L58, L59, L60, L61, L62, L65, L97, L101, L102, L103, L120, L126, L127, L144, L245, L1023, L1715, I_add, I_sub, I_mul, I_neg, I_lt, I_le, I_eq, Option.bind_some, if_pos, if_neg, if_true, if_false, ite_true, ite_false, X_whole, ind_t c6.2.2]
                exact Ok.pure (goes (t_semi hkL c6.1 c6.2.1 c6.2.2) (hI.semi c6.2.1 c6.2.2) hD)
              · have e6 : ∀ X Y : Option ((Int32 × Int32 × Int32 × Int32 × Int32 × Mm) ⊕ ((Int32 × Int32 × Mm) ⊕ ((Int32 × Mm) ⊕ (Int32 × Mm)))), (if I (T k) = (59 : Int32) then (if I op = (-1 : Int32) then X else (f_X3_isWhole (ov m 46 (o5 46 F' A')) (I st)).bind fun v13 => (if v13 = (0 : Int32) then X else Y)) else X) = X := by
                  intro X Y
                  by_cases y : T k = 59
                  · by_cases z : op = -1
                    · simp (disch := omega) only [L0, L1, L2, L3, L4, L5, L6, L7, L8, L9, L10, L11, L12, L13, L14, L15, L16, L17, L18, L19, L20, L21, L22, L23, L24, L25, L26, L27, L31, L32, L33, L36, L40, L41, L42, L47, L48, L57, L58, L59, L60, L61, L62, L65, L97, L101, L102, L103, L120, L126, L127, L144, L245, L1023, L1715, I_add, I_sub, I_mul, I_neg, I_lt, I_le, I_eq, Option.bind_some, if_pos, if_neg, if_true, if_false, ite_true, ite_false]
                    · simp (disch := omega) only [L0, L1, L2, L3, L4, L5, L6, L7, L8, L9, L10, L11, L12, L13, L14, L15, L16, L17, L18, L19, L20, L21, L22, L23, L24, L25, L26, L27, L31, L32, L33, L36, L40, L41, L42, L47, L48, L57, L58, L59, L60, L61, L62, L65, L97, L101, L102, L103, L120, L126, L127, L144, L245, L1023, L1715, I_add, I_sub, I_mul, I_neg, I_lt, I_le, I_eq, Option.bind_some, if_pos, if_neg, if_true, if_false, ite_true, ite_false, X_whole, ind_f (show ¬ (st = 3 ∨ st = 4 ∨ st = 5) by omega)]
                  · simp (disch := omega) only [L0, L1, L2, L3, L4, L5, L6, L7, L8, L9, L10, L11, L12, L13, L14, L15, L16, L17, L18, L19, L20, L21, L22, L23, L24, L25, L26, L27, L31, L32, L33, L36, L40, L41, L42, L47, L48, L57, L58, L59, L60, L61, L62, L65, L97, L101, L102, L103, L120, L126, L127, L144, L245, L1023, L1715, I_add, I_sub, I_mul, I_neg, I_lt, I_le, I_eq, Option.bind_some, if_pos, if_neg, if_true, if_false, ite_true, ite_false]
                rw [e6]
                unfold f_X3_readTwig_J290
                by_cases c7 : T k = 41 ∧ op ≠ -1 ∧ wh st
                · have hop := b12 c7.2.1
                  have hp := (hD.2 op (by omega) hop).2.2.2.2.2
                  simp (disch := omega) only [L0, L1, L2, L3, L4, L5, L6, L7, L8, L9, L10, L11, L12, L13, L14, L15, L16, L17, L18, L19, L20, L21, L22, L23, L24, L25, L26, L27, L31, L32, L33, L36, L40, L41, L42, L47, L48, L57, L58, L59, L60, L61, L62, L65, L97, L101, L102, L103, L120, L126, L127, L144, L245, L1023, L1715, I_add, I_sub, I_mul, I_neg, I_lt, I_le, I_eq, Option.bind_some, if_pos, if_neg, if_true, if_false, ite_true, ite_false, X_whole, ind_t c7.2.2, o5_g6, o5_l6, hp]
                  exact Ok.pure (goes (t_close hkL c7.1 c7.2.1 c7.2.2) (hI.cls c7.2.1 c7.2.2) hD)
                · have hbad := t_bad hkL c1 c2 c3 c4 c5 c6 c7 (ed := ed) (od := od) (n := n) (nd := nd)
                  by_cases y : T k = 41
                  · by_cases z : op = -1
                    · simp (disch := omega) only [L0, L1, L2, L3, L4, L5, L6, L7, L8, L9, L10, L11, L12, L13, L14, L15, L16, L17, L18, L19, L20, L21, L22, L23, L24, L25, L26, L27, L31, L32, L33, L36, L40, L41, L42, L47, L48, L57, L58, L59, L60, L61, L62, L65, L97, L101, L102, L103, L120, L126, L127, L144, L245, L1023, L1715, I_add, I_sub, I_mul, I_neg, I_lt, I_le, I_eq, Option.bind_some, if_pos, if_neg, if_true, if_false, ite_true, ite_false]
                      exact Ok.pure (fail1 hbad)
                    · simp (disch := omega) only [L0, L1, L2, L3, L4, L5, L6, L7, L8, L9, L10, L11, L12, L13, L14, L15, L16, L17, L18, L19, L20, L21, L22, L23, L24, L25, L26, L27, L31, L32, L33, L36, L40, L41, L42, L47, L48, L57, L58, L59, L60, L61, L62, L65, L97, L101, L102, L103, L120, L126, L127, L144, L245, L1023, L1715, I_add, I_sub, I_mul, I_neg, I_lt, I_le, I_eq, Option.bind_some, if_pos, if_neg, if_true, if_false, ite_true, ite_false, X_whole, ind_f (show ¬ (st = 3 ∨ st = 4 ∨ st = 5) by omega)]
                      exact Ok.pure (fail1 hbad)
                  · simp (disch := omega) only [L0, L1, L2, L3, L4, L5, L6, L7, L8, L9, L10, L11, L12, L13, L14, L15, L16, L17, L18, L19, L20, L21, L22, L23, L24, L25, L26, L27, L31, L32, L33, L36, L40, L41, L42, L47, L48, L57, L58, L59, L60, L61, L62, L65, L97, L101, L102, L103, L120, L126, L127, L144, L245, L1023, L1715, I_add, I_sub, I_mul, I_neg, I_lt, I_le, I_eq, Option.bind_some, if_pos, if_neg, if_true, if_false, ite_true, ite_false]
                    exact Ok.pure (fail1 hbad)
theorem X_twig (ht : At m 38 (o3 38 F3 A3)) (hL : F3 1 = L) (hL0 : 0 ≤ L) (hL1 : L ≤ 120) (hT : ∀ k, 0 ≤ k → k < L → A3 1 k = T k ∧ 0 ≤ T k ∧ T k ≤ 127) (hd : At m 46 (o5 46 F A)) : Ok (f_X3_readTwig m 38 46) (fun t => (∃ n nd F' A', tR0 L T = .inr (n, nd) ∧ t = (I (-1), ov m 46 (o5 46 F' A')) ∧ WD F' A' n nd ∧ WW n nd ∧ 1 ≤ n) ∨ (∃ p r F' A', tR0 L T = .inl (p, r) ∧ 0 ≤ p ∧ p ≤ L ∧ t = (I p, ov (ov m 46 (o5 46 F' A')) 38 (o3 38 (upN F3 2 r) A3)))) := by
  have hl := a5_len hd
  have hov := hd.ov
  have htx : ∀ F' A', At (ov m 46 (o5 46 F' A')) 38 (o3 38 F3 A3) := fun F' A' => ht.keep (fun off h => o5_N off h) (fun off h => o3_N off h) (by omega)
  rw [show f_X3_readTwig m 38 46 = f_X3_readTwig (ov m 46 (o5 46 F A)) 38 46 by rw [hov]]
  unfold f_X3_readTwig
  simp (disch := omega) only [L0, L1, L2, L3, L4, L5, L6, L7, L8, L9, L10, L11, L12, L13, L14, L15, L16, L17, L18, L19, L20, L21, L22, L23, L24, L25, L26, L27, L31, L32, L33, L36, L40, L41, L42, L47, L48, L57, L58, L59, L60, L61, L62, L65, L97, L101, L102, L103, L120, L126, L127, L144, L245, L1023, L1715, o5_p0, Option.bind_some]
  refine Ok.bind (P := tOut m L T) ?_ ?_
  · refine Ok.whl (tInv m L T) _ (j := (L - 0).toNat) ?_ ⟨0, 0, -1, 0, 0, 0, n0, _, _, rfl, by omega, by omega, rfl, rfl, Or.inl ⟨rfl, rfl, rfl, rfl, rfl⟩, upN_at, fun j j0 j1 => by omega⟩ (FU_lt (by omega))
    rintro j s ⟨k, st, op, ed, od, n, nd, F', A', rfl, k0, k1, rfl, hR, hI, hD⟩
    exact X_twStep ht hl hL hL1 hT k0 k1 hR hI hD
  · rintro e (⟨st, op, ed, od, n, nd, F', A', rfl, hR, hI, hD⟩ | ⟨k, F', A', rfl, k0, k1, hR⟩ | ⟨k, F', A', rfl, k0, k1, hR⟩)
    · dsimp only
      have hx := htx F' A'
      obtain ⟨b1, b2, b3, b4, b5, b6, b7, b8, b9, b10, b11, b12⟩ := hI.bd
      rw [tAt_e (Int.le_refl _)] at hR
      by_cases cw : st = 3 ∨ st = 4 ∨ st = 5
      · by_cases c1 : op = -1
        · rw [if_pos (show wh st ∧ op = -1 from ⟨cw, c1⟩)] at hR
          simp (disch := omega) only [X_whole, ind_t cw, L0, L1, L2, L3, L4, L5, L6, L7, L8, L9, L10, L11, L12, L13, L14, L15, L16, L17, L18, L19, L20, L21, L22, L23, L24, L25, L26, L27, L31, L32, L33, L36, L40, L41, L42, L47, L48, L57, L58, L59, L60, L61, L62, L65, L97, L101, L102, L103, L120, L126, L127, L144, L245, L1023, L1715, I_add, I_sub, I_mul, I_neg, I_lt, I_le, I_eq, Option.bind_some, if_pos, if_neg, if_true, if_false, ite_true, ite_false]
          rcases hI with ⟨g1, g2, -⟩ | ⟨g1, g2, -⟩
          · omega
          · exact Ok.pure (Or.inl ⟨n, nd, F', A', hR, rfl, hD, g2, g1⟩)
        · rw [if_neg (fun z => c1 z.2)] at hR
          simp (disch := omega) only [X_whole, ind_t cw, L0, L1, L2, L3, L4, L5, L6, L7, L8, L9, L10, L11, L12, L13, L14, L15, L16, L17, L18, L19, L20, L21, L22, L23, L24, L25, L26, L27, L31, L32, L33, L36, L40, L41, L42, L47, L48, L57, L58, L59, L60, L61, L62, L65, L97, L101, L102, L103, L120, L126, L127, L144, L245, L1023, L1715, I_add, I_sub, I_mul, I_neg, I_lt, I_le, I_eq, Option.bind_some, if_pos, if_neg, if_true, if_false, ite_true, ite_false, a3_g1 hx, hL, a3_cO hx, X_fault hx]
          exact Ok.pure (Or.inr ⟨L, 1, F', A', hR, hL0, Int.le_refl _, rfl⟩)
      · rw [if_neg (fun z => cw z.1)] at hR
        simp (disch := omega) only [X_whole, ind_f cw, L0, L1, L2, L3, L4, L5, L6, L7, L8, L9, L10, L11, L12, L13, L14, L15, L16, L17, L18, L19, L20, L21, L22, L23, L24, L25, L26, L27, L31, L32, L33, L36, L40, L41, L42, L47, L48, L57, L58, L59, L60, L61, L62, L65, L97, L101, L102, L103, L120, L126, L127, L144, L245, L1023, L1715, I_add, I_sub, I_mul, I_neg, I_lt, I_le, I_eq, Option.bind_some, if_pos, if_neg, if_true, if_false, ite_true, ite_false, a3_g1 hx, hL, a3_cO hx, X_fault hx]
        exact Ok.pure (Or.inr ⟨L, 1, F', A', hR, hL0, Int.le_refl _, rfl⟩)
    · dsimp only
      have hx := htx F' A'
      simp (disch := omega) only [L0, L1, L2, L3, L4, L5, L6, L7, L8, L9, L10, L11, L12, L13, L14, L15, L16, L17, L18, L19, L20, L21, L22, L23, L24, L25, L26, L27, L31, L32, L33, L36, L40, L41, L42, L47, L48, L57, L58, L59, L60, L61, L62, L65, L97, L101, L102, L103, L120, L126, L127, L144, L245, L1023, L1715, a3_cO hx, X_fault hx, Option.bind_some]
      exact Ok.pure (Or.inr ⟨k, 2, F', A', hR, k0, k1, rfl⟩)
    · dsimp only
      have hx := htx F' A'
      simp (disch := omega) only [L0, L1, L2, L3, L4, L5, L6, L7, L8, L9, L10, L11, L12, L13, L14, L15, L16, L17, L18, L19, L20, L21, L22, L23, L24, L25, L26, L27, L31, L32, L33, L36, L40, L41, L42, L47, L48, L57, L58, L59, L60, L61, L62, L65, L97, L101, L102, L103, L120, L126, L127, L144, L245, L1023, L1715, a3_cO hx, X_fault hx, Option.bind_some]
      exact Ok.pure (Or.inr ⟨k, 1, F', A', hR, k0, k1, rfl⟩)
end CTW
def rTwigs (X : FS) (i : Int) : Int × FS := if 0 ≤ i ∧ i < 4 then (match tR0 (fln X) (ftx X) with
  | .inl (p, r) => (-10 - p, (X.1, X.2.1, X.2.2.1, X.2.2.2.1, X.2.2.2.2.1, r, X.2.2.2.2.2.2))
  | .inr (n, nd) => (n, ((tn (fS X), ttg (fS X), tvl (fS X), tlv (fS X), upZ (tqn (fS X)) i n, upZ (tnd (fS X)) i nd), (pushK X).2))) else (-2, incB X (-2))
section CTG
variable {m : Mm} {X : FS}
theorem C_twigs (h : CI m X) {i : Int} (h1 : -2147483648 ≤ i) (h2 : i < 2147483648) : Ok (f_X7_twigs m 0 (I i)) (fun t => t.1 = I (rTwigs X i).1 ∧ CI t.2 (rTwigs X i).2 ∧ Fr m t.2 0 376) := by
  obtain ⟨F3, A3, t1, t2, t3, t4, t5, t6⟩ := h.2.2.2.1
  obtain ⟨F, A, hd⟩ := h.2.2.2.2.2.1
  unfold f_X7_twigs
  simp (disch := omega) only [C_isTwig h1 h2, Option.bind_some]
  by_cases c : 0 ≤ i ∧ i < 4
  · rw [ind_t c]
    simp (disch := omega) only [L0, L1, L2, L3, L4, L5, L6, L7, L8, L9, L10, L11, L12, L13, L14, L15, L16, L17, L18, L19, L20, L21, L22, L23, L24, L25, L26, L27, L31, L32, L33, L36, L40, L41, L42, L47, L48, L57, L58, L59, L60, L61, L62, L65, L97, L101, L102, L103, L120, L126, L127, L144, L245, L1023, L1715, I_add, I_sub, I_mul, I_neg, I_lt, I_le, I_eq, Option.bind_some, if_pos, if_neg, if_true, if_false, ite_true, ite_false, h.txt, h.drW, a3_cO t1]
    refine Ok.bind (X_twig t1 t2 t3 t4 t6 hd) ?_
    rintro t (⟨n, nd, F', A', hR, rfl, hD, hW, hn⟩ | ⟨p, r, F', A', hR, p0, p1, rfl⟩)
    · have hrb : rTwigs X i = (n, ((tn (fS X), ttg (fS X), tvl (fS X), tlv (fS X), upZ (tqn (fS X)) i n, upZ (tnd (fS X)) i nd), (pushK X).2)) := by unfold rTwigs; rw [if_pos c, hR]
      rw [hrb]
      have hq := h.dfw (F := F') (A := A')
      have hlm := h.1
      have h6 := hW.2.1
      have hd1 : At (ov m 46 (o5 46 F' A')) 46 (o5 46 F' A') := o5_At (by omega)
      dsimp only
      simp (disch := omega) only [L0, L1, L2, L3, L4, L5, L6, L7, L8, L9, L10, L11, L12, L13, L14, L15, L16, L17, L18, L19, L20, L21, L22, L23, L24, L25, L26, L27, L31, L32, L33, L36, L40, L41, L42, L47, L48, L57, L58, L59, L60, L61, L62, L65, L97, L101, L102, L103, L120, L126, L127, L144, L245, L1023, L1715, I_add, I_sub, I_mul, I_neg, I_lt, I_le, I_eq, if_true, hq.1.self]
      refine Ok.bind (C_keepD hq.1) ?_
      rintro m2 ⟨⟨hk, hf2⟩, hs2⟩
      have hd2 : At m2 46 (o5 46 F' A') := hd1.sam2 (fun off h => o5_N off h) (fun k k0 k1 => hs2 k (by omega) (by omega))
      obtain ⟨Fw, Aw, hw, hWR⟩ := hk.W c.1 c.2
      have hlw := a5_len hw
      obtain ⟨A4, hcp, hA4⟩ := W_copyFrom (F := Fw) (A := Aw) hlw hd2 (by omega)
      rw [hw.ov] at hcp
      simp (disch := omega) only [hk.now, hk.tws, hk.tw, hk.drW, a5_cO hw, hcp, Option.bind_some]
      have hf4 : Fr m2 (ov m2 (9 + 7 * i.toNat) (o5 (9 + 7 * i.toNat) (upN Fw 0 (F' 0)) A4)) (9 + 7 * i.toNat) (16 + 7 * i.toNat) := (Fr.ov (N := 6) (fun off h => o5_N off h)).mono (by omega) (by omega)
      have hWn : WR (upN Fw 0 (F' 0)) A4 n nd := by
        refine ⟨by rw [upN_at]; exact hD.1, hW, fun q q0 q1 => ?_⟩
        rw [hA4 1 (by omega) (by omega) q q0 (by omega), hA4 2 (by omega) (by omega) q q0 (by omega), hA4 3 (by omega) (by omega) q q0 (by omega), hA4 4 (by omega) (by omega) q q0 (by omega), hA4 5 (by omega) (by omega) q q0 (by omega), hA4 6 (by omega) (by omega) q q0 (by omega)]
        exact hD.2 q q0 q1
      have h5 := hk.newW c.1 c.2 hf4 (o5_At hlw) hWn
      rw [pushK_S] at h5
      have hd5 : At (ov m2 (9 + 7 * i.toNat) (o5 (9 + 7 * i.toNat) (upN Fw 0 (F' 0)) A4)) 46 (o5 46 F' A') := hd2.keep (fun off h => o5_N off h) (fun off h => o5_N off h) (by omega)
      simp (disch := omega) only [h5.drW, a5_g0 hd5, Option.bind_some]
      exact Ok.pure ⟨by rw [hD.1], h5, (hq.2.tr hf2).tr (hf4.mono (by omega) (by omega))⟩
    · have hrb : rTwigs X i = (-10 - p, (X.1, X.2.1, X.2.2.1, X.2.2.2.1, X.2.2.2.2.1, r, X.2.2.2.2.2.2)) := by unfold rTwigs; rw [if_pos c, hR]
      rw [hrb]
      have hq := h.dfw (F := F') (A := A')
      have hx : At (ov m 46 (o5 46 F' A')) 38 (o3 38 F3 A3) := t1.keep (fun off h => o5_N off h) (fun off h => o3_N off h) (by omega)
      have h2 := hq.1.rsn (r := r) hx t2 t6
      dsimp only
      simp (disch := omega) only [L0, L1, L2, L3, L4, L5, L6, L7, L8, L9, L10, L11, L12, L13, L14, L15, L16, L17, L18, L19, L20, L21, L22, L23, L24, L25, L26, L27, L31, L32, L33, L36, L40, L41, L42, L47, L48, L57, L58, L59, L60, L61, L62, L65, L97, L101, L102, L103, L120, L126, L127, L144, L245, L1023, L1715, I_add, I_sub, I_mul, I_neg, I_lt, I_le, I_eq, if_neg (show ¬ p = -1 by omega)]
      exact Ok.pure ⟨rfl, h2.1, hq.2.tr h2.2⟩
  · have hrb : rTwigs X i = (-2, incB X (-2)) := by unfold rTwigs; rw [if_neg c]
    rw [hrb, ind_f c]
    simp (disch := omega) only [L0, L1, L2, L3, L4, L5, L6, L7, L8, L9, L10, L11, L12, L13, L14, L15, L16, L17, L18, L19, L20, L21, L22, L23, L24, L25, L26, L27, L31, L32, L33, L36, L40, L41, L42, L47, L48, L57, L58, L59, L60, L61, L62, L65, L97, L101, L102, L103, L120, L126, L127, L144, L245, L1023, L1715, I_add, I_sub, I_mul, I_neg, I_lt, I_le, I_eq, Option.bind_some, if_pos, if_neg, if_true, if_false, ite_true, ite_false, h.self]
    exact C_fail h (by omega)
end CTG
