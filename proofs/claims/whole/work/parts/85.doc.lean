/-! ===== documents: how a text is read ===== -/
section DOC
variable (L : Int) (T : Int → Int)
def dRun : Nat → Int → Int → Int → Int → (Int → Int) → (Int → Int) → (Int → Int) → (Int × Int) ⊕ (Int × (Int → Int) × (Int → Int) × (Int → Int))
  | 0, _, st, lev, n, tg, vl, lv => if (st = 3 ∨ st = 4 ∨ st = 5) ∧ lev = 1 then .inr (n, tg, vl, lv) else .inl (L, 1)
  | f + 1, k, st, lev, n, tg, vl, lv => if (97 ≤ T k ∧ T k < 103) ∧ (st = 0 ∨ 1 < lev) then (if 32 ≤ n then .inl (k, 2) else if 10 < lev then .inl (k, 3) else dRun f (k + 1) 3 lev (n + 1) (upZ tg n (T k - 97)) (upZ vl n 0) (upZ lv n lev)) else if (48 ≤ T k ∧ T k < 58) ∧ st = 3 then dRun f (k + 1) 4 lev n tg (upZ vl (n - 1) (T k - 48)) lv else if T k = 40 ∧ (st = 3 ∨ st = 4) then dRun f (k + 1) 0 (lev + 1) n tg vl lv else if T k = 41 ∧ (st = 3 ∨ st = 4 ∨ st = 5) ∧ 1 < lev then dRun f (k + 1) 5 (lev - 1) n tg vl lv else .inl (k, 1)
def dAt (k st lev n : Int) (tg vl lv : Int → Int) : (Int × Int) ⊕ (Int × (Int → Int) × (Int → Int) × (Int → Int)) := dRun L T (L - k).toNat k st lev n tg vl lv
end DOC
section DOC2
variable {L : Int} {T : Int → Int} {k st lev n : Int} {tg vl lv : Int → Int}
theorem dAt_s (h : k < L) : dAt L T k st lev n tg vl lv = if (97 ≤ T k ∧ T k < 103) ∧ (st = 0 ∨ 1 < lev) then (if 32 ≤ n then .inl (k, 2) else if 10 < lev then .inl (k, 3) else dAt L T (k + 1) 3 lev (n + 1) (upZ tg n (T k - 97)) (upZ vl n 0) (upZ lv n lev)) else if (48 ≤ T k ∧ T k < 58) ∧ st = 3 then dAt L T (k + 1) 4 lev n tg (upZ vl (n - 1) (T k - 48)) lv else if T k = 40 ∧ (st = 3 ∨ st = 4) then dAt L T (k + 1) 0 (lev + 1) n tg vl lv else if T k = 41 ∧ (st = 3 ∨ st = 4 ∨ st = 5) ∧ 1 < lev then dAt L T (k + 1) 5 (lev - 1) n tg vl lv else .inl (k, 1) := by
  unfold dAt
  obtain ⟨f, hf⟩ : ∃ f : Nat, (L - k).toNat = f + 1 := ⟨(L - k).toNat - 1, by omega⟩
  rw [hf, show (L - (k + 1)).toNat = f by omega]
  rfl
theorem dAt_e (h : L ≤ k) : dAt L T k st lev n tg vl lv = if (st = 3 ∨ st = 4 ∨ st = 5) ∧ lev = 1 then .inr (n, tg, vl, lv) else .inl (L, 1) := by
  unfold dAt
  rw [show (L - k).toNat = 0 by omega]
  rfl
theorem d_many (h : k < L) (c : 97 ≤ T k ∧ T k < 103) (s : st = 0 ∨ 1 < lev) (hn : 32 ≤ n) : dAt L T k st lev n tg vl lv = .inl (k, 2) := by rw [dAt_s h, if_pos ⟨c, s⟩, if_pos hn]
theorem d_deep (h : k < L) (c : 97 ≤ T k ∧ T k < 103) (s : st = 0 ∨ 1 < lev) (hn : n < 32) (hd : 10 < lev) : dAt L T k st lev n tg vl lv = .inl (k, 3) := by rw [dAt_s h, if_pos ⟨c, s⟩, if_neg (by omega), if_pos hd]
theorem d_let (h : k < L) (c : 97 ≤ T k ∧ T k < 103) (s : st = 0 ∨ 1 < lev) (hn : n < 32) (hd : lev ≤ 10) : dAt L T k st lev n tg vl lv = dAt L T (k + 1) 3 lev (n + 1) (upZ tg n (T k - 97)) (upZ vl n 0) (upZ lv n lev) := by rw [dAt_s h, if_pos ⟨c, s⟩, if_neg (by omega), if_neg (by omega)]
theorem d_dig (h : k < L) (c : 48 ≤ T k ∧ T k < 58) (s : st = 3) : dAt L T k st lev n tg vl lv = dAt L T (k + 1) 4 lev n tg (upZ vl (n - 1) (T k - 48)) lv := by rw [dAt_s h, if_neg (by omega), if_pos ⟨c, s⟩]
theorem d_opn (h : k < L) (c : T k = 40) (s : st = 3 ∨ st = 4) : dAt L T k st lev n tg vl lv = dAt L T (k + 1) 0 (lev + 1) n tg vl lv := by rw [dAt_s h, if_neg (by omega), if_neg (by omega), if_pos ⟨c, s⟩]
theorem d_close (h : k < L) (c : T k = 41) (s : st = 3 ∨ st = 4 ∨ st = 5) (hd : 1 < lev) : dAt L T k st lev n tg vl lv = dAt L T (k + 1) 5 (lev - 1) n tg vl lv := by rw [dAt_s h, if_neg (by omega), if_neg (by omega), if_neg (by omega), if_pos ⟨c, s, hd⟩]
theorem d_bad (h : k < L) (c1 : ¬ ((97 ≤ T k ∧ T k < 103) ∧ (st = 0 ∨ 1 < lev))) (c2 : ¬ ((48 ≤ T k ∧ T k < 58) ∧ st = 3)) (c3 : ¬ (T k = 40 ∧ (st = 3 ∨ st = 4))) (c4 : ¬ (T k = 41 ∧ (st = 3 ∨ st = 4 ∨ st = 5) ∧ 1 < lev)) : dAt L T k st lev n tg vl lv = .inl (k, 1) := by rw [dAt_s h, if_neg c1, if_neg c2, if_neg c3, if_neg c4]
/-- what has been read is the front of a tree -/
def DI (st lev n : Int) (tg vl lv : Int → Int) : Prop := (n = 0 ∧ st = 0 ∧ lev = 1) ∨ (WL n lv ∧ (∀ k, 0 ≤ k → k < n → 0 ≤ tg k ∧ tg k ≤ 5 ∧ 0 ≤ vl k ∧ vl k ≤ 9) ∧ 1 ≤ lev ∧ lev ≤ lv (n - 1) + 1 ∧ (st = 0 → 2 ≤ lev) ∧ (st ≠ 0 → lev ≤ lv (n - 1)) ∧ (st = 0 ∨ st = 3 ∨ st = 4 ∨ st = 5))
theorem DI.bd (h : DI st lev n tg vl lv) : 0 ≤ n ∧ n ≤ 32 ∧ 1 ≤ lev ∧ lev ≤ 11 ∧ (st = 0 ∨ st = 3 ∨ st = 4 ∨ st = 5) ∧ (st ≠ 0 → 1 ≤ n) := by
  rcases h with ⟨h1, h2, h3⟩ | ⟨h1, h2, h3, h4, h5, h6, h7⟩
  · omega
  · have := h1.1
    have := h1.2.1
    have := h1.2.2.2.2 (n - 1) (by omega) (by omega)
    omega
theorem DI.ltr (h : DI st lev n tg vl lv) {c : Int} (hc : 97 ≤ c ∧ c < 103) (s : st = 0 ∨ 1 < lev) (hn : n < 32) (hd : lev ≤ 10) : DI 3 lev (n + 1) (upZ tg n (c - 97)) (upZ vl n 0) (upZ lv n lev) := by
  refine Or.inr ?_
  rcases h with ⟨h1, h2, h3⟩ | ⟨h1, h2, h3, h4, h5, h6, h7⟩
  · subst h1
    refine ⟨⟨by omega, by omega, by rw [upZ_at]; exact h3, fun k k0 k1 => by omega, fun k k0 k1 => by rw [show k = 0 by omega, upZ_at]; omega⟩, fun k k0 k1 => ?_, by omega, ?_, fun z => by omega, fun _ => ?_, Or.inr (Or.inl rfl)⟩
    · rw [show k = 0 by omega, upZ_at, upZ_at]; omega
    · rw [show (0 : Int) + 1 - 1 = 0 by omega, upZ_at]; omega
    · rw [show (0 : Int) + 1 - 1 = 0 by omega, upZ_at]; omega
  · obtain ⟨w1, w2, w3, w4, w5⟩ := h1
    refine ⟨⟨by omega, by omega, by rw [upZ_ne (by omega)]; exact w3, fun k k0 k1 => ?_, fun k k0 k1 => ?_⟩, fun k k0 k1 => ?_, by omega, ?_, fun z => by omega, fun _ => ?_, Or.inr (Or.inl rfl)⟩
    · by_cases z : k = n
      · rw [z, upZ_at, upZ_ne (by omega)]; omega
      · rw [upZ_ne z, upZ_ne (by omega)]; exact w4 k k0 (by omega)
    · by_cases z : k = n
      · rw [z, upZ_at]; omega
      · rw [upZ_ne z]; exact w5 k k0 (by omega)
    · by_cases z : k = n
      · rw [z, upZ_at, upZ_at]; omega
      · rw [upZ_ne z, upZ_ne z]; exact h2 k k0 (by omega)
    · rw [show n + 1 - 1 = n by omega, upZ_at]; omega
    · rw [show n + 1 - 1 = n by omega, upZ_at]; omega
theorem DI.dig (h : DI st lev n tg vl lv) {c : Int} (hc : 48 ≤ c ∧ c < 58) (s : st = 3) : DI 4 lev n tg (upZ vl (n - 1) (c - 48)) lv := by
  refine Or.inr ?_
  rcases h with ⟨h1, h2, h3⟩ | ⟨h1, h2, h3, h4, h5, h6, h7⟩
  · omega
  · refine ⟨h1, fun k k0 k1 => ?_, h3, h4, fun z => by omega, fun _ => h6 (by omega), by omega⟩
    obtain ⟨g1, g2, g3, g4⟩ := h2 k k0 k1
    by_cases z : k = n - 1
    · rw [z, upZ_at]; rw [z] at g1 g2; omega
    · rw [upZ_ne z]; exact ⟨g1, g2, g3, g4⟩
theorem DI.opn (h : DI st lev n tg vl lv) (s : st = 3 ∨ st = 4) : DI 0 (lev + 1) n tg vl lv := by
  refine Or.inr ?_
  rcases h with ⟨h1, h2, h3⟩ | ⟨h1, h2, h3, h4, h5, h6, h7⟩
  · omega
  · have := h6 (by omega)
    exact ⟨h1, h2, by omega, by omega, fun _ => by omega, fun z => absurd rfl z, Or.inl rfl⟩
theorem DI.cls (h : DI st lev n tg vl lv) (s : st = 3 ∨ st = 4 ∨ st = 5) (hd : 1 < lev) : DI 5 (lev - 1) n tg vl lv := by
  refine Or.inr ?_
  rcases h with ⟨h1, h2, h3⟩ | ⟨h1, h2, h3, h4, h5, h6, h7⟩
  · omega
  · have := h6 (by omega)
    exact ⟨h1, h2, by omega, by omega, fun z => by omega, fun _ => by omega, by omega⟩
end DOC2
section DOC3
variable {m : Mm}
theorem X_letter {c : Int} (h1 : -2147483648 ≤ c) (h2 : c < 2147483648) : f_X3_isLetter m (I c) = some (I (ind (97 ≤ c ∧ c < 103))) := by
  unfold f_X3_isLetter
  by_cases c1 : c < 97
  · rw [ind_f (by omega)]; simp (disch := omega) only [L0, L1, L2, L3, L4, L5, L6, L7, L8, L9, L10, L11, L12, L13, L14, L15, L16, L17, L18, L19, L20, L21, L22, L23, L24, L25, L26, L27, L31, L32, L33, L36, L40, L41, L42, L47, L48, L57, L58, L59, L60, L61, L62, L65, L97, L101, L102, L103, L120, L126, L127, L144, L245, L1023, L1715, I_add, I_sub, I_mul, I_neg, I_lt, I_le, I_eq, Option.bind_some, if_pos, if_neg, if_true, if_false, ite_true, ite_false]
  · by_cases c2 : 103 ≤ c
    · rw [ind_f (by omega)]; simp (disch := omega) only [L0, L1, L2, L3, L4, L5, L6, L7, L8, L9, L10, L11, L12, L13, L14, L15, L16, L17, L18, L19, L20, L21, L22, L23, L24, L25, L26, L27, L31, L32, L33, L36, L40, L41, L42, L47, L48, L57, L58, L59, L60, L61, L62, L65, L97, L101, L102, L103, L120, L126, L127, L144, L245, L1023, L1715, I_add, I_sub, I_mul, I_neg, I_lt, I_le, I_eq, Option.bind_some, if_pos, if_neg, if_true, if_false, ite_true, ite_false]
    · rw [ind_t (by omega)]; simp (disch := omega) only [L0, L1, L2, L3, L4, L5, L6, L7, L8, L9, L10, L11, L12, L13, L14, L15, L16, L17, L18, L19, L20, L21, L22, L23, L24, L25, L26, L27, L31, L32, L33, L36, L40, L41, L42, L47, L48, L57, L58, L59, L60, L61, L62, L65, L97, L101, L102, L103, L120, L126, L127, L144, L245, L1023, L1715, I_add, I_sub, I_mul, I_neg, I_lt, I_le, I_eq, Option.bind_some, if_pos, if_neg, if_true, if_false, ite_true, ite_false]
theorem X_digit {c : Int} (h1 : -2147483648 ≤ c) (h2 : c < 2147483648) : f_X3_isDigit m (I c) = some (I (ind (48 ≤ c ∧ c < 58))) := by
  unfold f_X3_isDigit
  by_cases c1 : c < 48
  · rw [ind_f (by omega)]; simp (disch := omega) only [L0, L1, L2, L3, L4, L5, L6, L7, L8, L9, L10, L11, L12, L13, L14, L15, L16, L17, L18, L19, L20, L21, L22, L23, L24, L25, L26, L27, L31, L32, L33, L36, L40, L41, L42, L47, L48, L57, L58, L59, L60, L61, L62, L65, L97, L101, L102, L103, L120, L126, L127, L144, L245, L1023, L1715, I_add, I_sub, I_mul, I_neg, I_lt, I_le, I_eq, Option.bind_some, if_pos, if_neg, if_true, if_false, ite_true, ite_false]
  · by_cases c2 : 58 ≤ c
    · rw [ind_f (by omega)]; simp (disch := omega) only [L0, L1, L2, L3, L4, L5, L6, L7, L8, L9, L10, L11, L12, L13, L14, L15, L16, L17, L18, L19, L20, L21, L22, L23, L24, L25, L26, L27, L31, L32, L33, L36, L40, L41, L42, L47, L48, L57, L58, L59, L60, L61, L62, L65, L97, L101, L102, L103, L120, L126, L127, L144, L245, L1023, L1715, I_add, I_sub, I_mul, I_neg, I_lt, I_le, I_eq, Option.bind_some, if_pos, if_neg, if_true, if_false, ite_true, ite_false]
    · rw [ind_t (by omega)]; simp (disch := omega) only [L0, L1, L2, L3, L4, L5, L6, L7, L8, L9, L10, L11, L12, L13, L14, L15, L16, L17, L18, L19, L20, L21, L22, L23, L24, L25, L26, L27, L31, L32, L33, L36, L40, L41, L42, L47, L48, L57, L58, L59, L60, L61, L62, L65, L97, L101, L102, L103, L120, L126, L127, L144, L245, L1023, L1715, I_add, I_sub, I_mul, I_neg, I_lt, I_le, I_eq, Option.bind_some, if_pos, if_neg, if_true, if_false, ite_true, ite_false]
theorem X_whole {c : Int} (h1 : -2147483648 ≤ c) (h2 : c < 2147483648) : f_X3_isWhole m (I c) = some (I (ind (c = 3 ∨ c = 4 ∨ c = 5))) := by
  unfold f_X3_isWhole
  by_cases c1 : c = 3
  · rw [ind_t (by omega)]; simp (disch := omega) only [L0, L1, L2, L3, L4, L5, L6, L7, L8, L9, L10, L11, L12, L13, L14, L15, L16, L17, L18, L19, L20, L21, L22, L23, L24, L25, L26, L27, L31, L32, L33, L36, L40, L41, L42, L47, L48, L57, L58, L59, L60, L61, L62, L65, L97, L101, L102, L103, L120, L126, L127, L144, L245, L1023, L1715, I_add, I_sub, I_mul, I_neg, I_lt, I_le, I_eq, Option.bind_some, if_pos, if_neg, if_true, if_false, ite_true, ite_false]
  · by_cases c2 : c = 4
    · rw [ind_t (by omega)]; simp (disch := omega) only [L0, L1, L2, L3, L4, L5, L6, L7, L8, L9, L10, L11, L12, L13, L14, L15, L16, L17, L18, L19, L20, L21, L22, L23, L24, L25, L26, L27, L31, L32, L33, L36, L40, L41, L42, L47, L48, L57, L58, L59, L60, L61, L62, L65, L97, L101, L102, L103, L120, L126, L127, L144, L245, L1023, L1715, I_add, I_sub, I_mul, I_neg, I_lt, I_le, I_eq, Option.bind_some, if_pos, if_neg, if_true, if_false, ite_true, ite_false]
    · by_cases c3 : c = 5
      · rw [ind_t (by omega)]; simp (disch := omega) only [L0, L1, L2, L3, L4, L5, L6, L7, L8, L9, L10, L11, L12, L13, L14, L15, L16, L17, L18, L19, L20, L21, L22, L23, L24, L25, L26, L27, L31, L32, L33, L36, L40, L41, L42, L47, L48, L57, L58, L59, L60, L61, L62, L65, L97, L101, L102, L103, L120, L126, L127, L144, L245, L1023, L1715, I_add, I_sub, I_mul, I_neg, I_lt, I_le, I_eq, Option.bind_some, if_pos, if_neg, if_true, if_false, ite_true, ite_false]
      · rw [ind_f (by omega)]; simp (disch := omega) only [L0, L1, L2, L3, L4, L5, L6, L7, L8, L9, L10, L11, L12, L13, L14, L15, L16, L17, L18, L19, L20, L21, L22, L23, L24, L25, L26, L27, L31, L32, L33, L36, L40, L41, L42, L47, L48, L57, L58, L59, L60, L61, L62, L65, L97, L101, L102, L103, L120, L126, L127, L144, L245, L1023, L1715, I_add, I_sub, I_mul, I_neg, I_lt, I_le, I_eq, Option.bind_some, if_pos, if_neg, if_true, if_false, ite_true, ite_false]
end DOC3
