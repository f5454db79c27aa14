/-! ===== the class: builds ===== -/
section CDOC
variable {m : Mm} {F3 F : Nat → Int} {A3 A : Nat → Int → Int} {L : Int} {T : Int → Int}
abbrev z0 : Int → Int := fun _ => 0
theorem X_fault {M : Mm} (h : At M 38 (o3 38 F3 A3)) {p r : Int} : f_X3_fault M 38 (I p) (I r) = some (I p, ov M 38 (o3 38 (upN F3 2 r) A3)) := by
  have hl := a3_len h
  have hov := h.ov
  unfold f_X3_fault
  conv => lhs; rw [← hov]
  simp (disch := omega) only [o3_p2, Option.bind_some]
/-- the draft holds what has been read -/
def DR (F : Nat → Int) (A : Nat → Int → Int) (n : Int) (tg vl lv : Int → Int) : Prop := F 0 = n ∧ ∀ j, 0 ≤ j → j < n → A 1 j = tg j ∧ A 2 j = vl j ∧ A 3 j = lv j
theorem X_doc (ht : At m 38 (o3 38 F3 A3)) (hL : F3 1 = L) (hL0 : 0 ≤ L) (hL1 : L ≤ 120) (hT : ∀ k, 0 ≤ k → k < L → A3 1 k = T k ∧ 0 ≤ T k ∧ T k ≤ 127) (hd : At m 40 (o4 40 F A)) : Ok (f_X3_readDocument m 38 40) (fun t => (∃ n tg vl lv F' A', dAt L T 0 0 1 0 z0 z0 z0 = .inr (n, tg, vl, lv) ∧ t = (I (-1), ov m 40 (o4 40 F' A')) ∧ DR F' A' n tg vl lv ∧ WL n lv ∧ ∀ k, 0 ≤ k → k < n → 0 ≤ tg k ∧ tg k ≤ 5 ∧ 0 ≤ vl k ∧ vl k ≤ 9) ∨ (∃ p r F' A', dAt L T 0 0 1 0 z0 z0 z0 = .inl (p, r) ∧ 0 ≤ p ∧ p ≤ L ∧ t = (I p, ov (ov m 40 (o4 40 F' A')) 38 (o3 38 (upN F3 2 r) A3)))) := by
  have hl := a4_len hd
  have hov := hd.ov
  have htx : ∀ F' A', At (ov m 40 (o4 40 F' A')) 38 (o3 38 F3 A3) := fun F' A' => ht.keep (fun off h => o4_N off h) (fun off h => o3_N off h) (by omega)
  rw [show f_X3_readDocument m 38 40 = f_X3_readDocument (ov m 40 (o4 40 F A)) 38 40 by rw [hov]]
  unfold f_X3_readDocument
  simp (disch := omega) only [L0, L1, L2, L3, L4, L5, L6, L7, L8, L9, L10, L11, L12, L13, L14, L15, L16, L17, L18, L19, L20, L21, L22, L23, L24, L25, L26, L27, L31, L32, L33, L36, L40, L41, L42, L47, L48, L57, L58, L59, L60, L61, L62, L65, L97, L101, L102, L103, L120, L126, L127, L144, L245, L1023, L1715, o4_p0, Option.bind_some]
  refine Ok.bind (P := fun e => (∃ st lev n tg vl lv F' A', e = .inl (I st, I lev, ov m 40 (o4 40 F' A')) ∧ dAt L T 0 0 1 0 z0 z0 z0 = dAt L T L st lev n tg vl lv ∧ DI st lev n tg vl lv ∧ DR F' A' n tg vl lv) ∨ (∃ k F' A', e = .inr (.inl (I k, ov m 40 (o4 40 F' A'))) ∧ 0 ≤ k ∧ k ≤ L ∧ dAt L T 0 0 1 0 z0 z0 z0 = .inl (k, 2)) ∨ (∃ k F' A', e = .inr (.inr (.inl (I k, ov m 40 (o4 40 F' A')))) ∧ 0 ≤ k ∧ k ≤ L ∧ dAt L T 0 0 1 0 z0 z0 z0 = .inl (k, 3)) ∨ (∃ k F' A', e = .inr (.inr (.inr (I k, ov m 40 (o4 40 F' A')))) ∧ 0 ≤ k ∧ k ≤ L ∧ dAt L T 0 0 1 0 z0 z0 z0 = .inl (k, 1))) ?_ ?_
  · refine Ok.whl (fun j s => ∃ k st lev n tg vl lv F' A', s = (I st, I lev, I k, ov m 40 (o4 40 F' A')) ∧ 0 ≤ k ∧ k ≤ L ∧ j = (L - k).toNat ∧ dAt L T 0 0 1 0 z0 z0 z0 = dAt L T k st lev n tg vl lv ∧ DI st lev n tg vl lv ∧ DR F' A' n tg vl lv) _ (j := (L - 0).toNat) ?_ ⟨0, 0, 1, 0, z0, z0, z0, _, _, rfl, by omega, by omega, rfl, rfl, Or.inl ⟨rfl, rfl, rfl⟩, upN_at, fun j j0 j1 => by omega⟩ (FU_lt (by omega))
    rintro j s ⟨k, st, lev, n, tg, vl, lv, F', A', rfl, k0, k1, rfl, hR, hI, hD⟩
    dsimp only
    have hx := htx F' A'
    obtain ⟨b1, b2, b3, b4, b5, b6⟩ := hI.bd
    have hF0 := hD.1
    unfold f_X3_readDocument_L12
    by_cases d1 : L ≤ k
    · simp (disch := omega) only [a3_g1 hx, hL, I_add, I_sub, I_mul, I_neg, I_lt, I_le, I_eq, if_pos d1, Option.bind_some]
      rw [show k = L by omega] at hR
      exact Ok.pure (Or.inr ⟨_, rfl, Or.inl ⟨st, lev, n, tg, vl, lv, F', A', rfl, hR, hI, hD⟩⟩)
    · obtain ⟨t1, t2, t3⟩ := hT k k0 (by omega)
      have hkL : k < L := by omega
      have bad : dAt L T k st lev n tg vl lv = .inl (k, 1) → Ok (α := (Int32 × Int32 × Int32 × Mm) ⊕ ((Int32 × Int32 × Mm) ⊕ ((Int32 × Mm) ⊕ ((Int32 × Mm) ⊕ (Int32 × Mm))))) (some (.inr (.inr (.inr (.inr (I k, ov m 40 (o4 40 F' A'))))))) (fun x => (∃ s' j', x = .inl s' ∧ (∃ k st lev n tg vl lv F' A', s' = (I st, I lev, I k, ov m 40 (o4 40 F' A')) ∧ 0 ≤ k ∧ k ≤ L ∧ j' = (L - k).toNat ∧ dAt L T 0 0 1 0 z0 z0 z0 = dAt L T k st lev n tg vl lv ∧ DI st lev n tg vl lv ∧ DR F' A' n tg vl lv) ∧ j' < (L - k).toNat) ∨ (∃ r, x = .inr r ∧ ((∃ st lev n tg vl lv F' A', r = .inl (I st, I lev, ov m 40 (o4 40 F' A')) ∧ dAt L T 0 0 1 0 z0 z0 z0 = dAt L T L st lev n tg vl lv ∧ DI st lev n tg vl lv ∧ DR F' A' n tg vl lv) ∨ (∃ k F' A', r = .inr (.inl (I k, ov m 40 (o4 40 F' A'))) ∧ 0 ≤ k ∧ k ≤ L ∧ dAt L T 0 0 1 0 z0 z0 z0 = .inl (k, 2)) ∨ (∃ k F' A', r = .inr (.inr (.inl (I k, ov m 40 (o4 40 F' A')))) ∧ 0 ≤ k ∧ k ≤ L ∧ dAt L T 0 0 1 0 z0 z0 z0 = .inl (k, 3)) ∨ (∃ k F' A', r = .inr (.inr (.inr (I k, ov m 40 (o4 40 F' A')))) ∧ 0 ≤ k ∧ k ≤ L ∧ dAt L T 0 0 1 0 z0 z0 z0 = .inl (k, 1))))) := fun hb => Ok.pure (Or.inr ⟨_, rfl, Or.inr (Or.inr (Or.inr ⟨k, F', A', rfl, k0, k1, hR.trans hb⟩))⟩)
      simp (disch := omega) only [a3_g1 hx, hL, a3_g0 hx, a3_l1 hx, t1, X_letter, I_add, I_sub, I_mul, I_neg, I_lt, I_le, I_eq, if_neg d1, Option.bind_some]
      by_cases cL : (97 ≤ T k ∧ T k < 103) ∧ (st = 0 ∨ 1 < lev)
      · have h47 : (if I (ind (97 ≤ T k ∧ T k < 103)) = (0 : Int32) then f_X3_readDocument_J93 (ov m 40 (o4 40 F' A')) 38 40 (I st) (I lev) (I k) (I (T k)) else (if I st = (0 : Int32) then f_X3_readDocument_J47 (ov m 40 (o4 40 F' A')) 38 40 (I lev) (I k) (I (T k)) else (if I lev ≤ (1 : Int32) then f_X3_readDocument_J93 (ov m 40 (o4 40 F' A')) 38 40 (I st) (I lev) (I k) (I (T k)) else f_X3_readDocument_J47 (ov m 40 (o4 40 F' A')) 38 40 (I lev) (I k) (I (T k))))) = f_X3_readDocument_J47 (ov m 40 (o4 40 F' A')) 38 40 (I lev) (I k) (I (T k)) := by
          by_cases z : st = 0
          · simp (disch := omega) only [ind_t cL.1, L0, L1, L2, L3, L4, L5, L6, L7, L8, L9, L10, L11, L12, L13, L14, L15, L16, L17, L18, L19, L20, L21, L22, L23, L24, L25, L26, L27, L31, L32, L33, L36, L40, L41, L42, L47, L48, L57, L58, L59, L60, L61, L62, L65, L97, L101, L102, L103, L120, L126, L127, L144, L245, L1023, L1715, I_add, I_sub, I_mul, I_neg, I_lt, I_le, I_eq, Option.bind_some, if_pos, if_neg, if_true, if_false, ite_true, ite_false, if_pos z]
          · simp (disch := omega) only [ind_t cL.1, L0, L1, L2, L3, L4, L5, L6, L7, L8, L9, L10, L11, L12, L13, L14, L15, L16, L17, L18, L19, L20, L21, L22, L23, L24, L25, L26, L27, L31, L32, L33, L36, L40, L41, L42, L47, L48, L57, L58, L59, L60, L61, L62, L65, L97, L101, L102, L103, L120, L126, L127, L144, L245, L1023, L1715, I_add, I_sub, I_mul, I_neg, I_lt, I_le, I_eq, Option.bind_some, if_pos, if_neg, if_true, if_false, ite_true, ite_false, if_neg z, if_neg (show ¬ lev ≤ 1 by omega)]
        rw [h47]
        unfold f_X3_readDocument_J47
        by_cases cn : n < 32
        · by_cases cd : lev ≤ 10
          · simp (disch := omega) only [o4_g0, hF0, L0, L1, L2, L3, L4, L5, L6, L7, L8, L9, L10, L11, L12, L13, L14, L15, L16, L17, L18, L19, L20, L21, L22, L23, L24, L25, L26, L27, L31, L32, L33, L36, L40, L41, L42, L47, L48, L57, L58, L59, L60, L61, L62, L65, L97, L101, L102, L103, L120, L126, L127, L144, L245, L1023, L1715, I_add, I_sub, I_mul, I_neg, I_lt, I_le, I_eq, if_pos cn, if_pos cd, o4_cO, T_append, Option.bind_some]
            refine Ok.pure (Or.inl ⟨_, (L - (k + 1)).toNat, rfl, ⟨k + 1, 3, lev, n + 1, _, _, _, _, _, rfl, by omega, by omega, rfl, hR.trans (d_let hkL cL.1 cL.2 cn cd), hI.ltr cL.1 cL.2 cn cd, ?_, fun j j0 j1 => ?_⟩, by omega⟩)
            · rw [upN_at]
            · rw [put3_1, put3_2, put3_3]
              by_cases z : j = n
              · rw [z, upZ_at, upZ_at, upZ_at, upZ_at, upZ_at, upZ_at]; exact ⟨rfl, rfl, rfl⟩
              · rw [upZ_ne z, upZ_ne z, upZ_ne z, upZ_ne z, upZ_ne z, upZ_ne z]; exact hD.2 j j0 (by omega)
          · simp (disch := omega) only [o4_g0, hF0, L0, L1, L2, L3, L4, L5, L6, L7, L8, L9, L10, L11, L12, L13, L14, L15, L16, L17, L18, L19, L20, L21, L22, L23, L24, L25, L26, L27, L31, L32, L33, L36, L40, L41, L42, L47, L48, L57, L58, L59, L60, L61, L62, L65, L97, L101, L102, L103, L120, L126, L127, L144, L245, L1023, L1715, I_add, I_sub, I_mul, I_neg, I_lt, I_le, I_eq, if_pos cn, if_neg cd, Option.bind_some]
            exact Ok.pure (Or.inr ⟨_, rfl, Or.inr (Or.inr (Or.inl ⟨k, F', A', rfl, k0, k1, hR.trans (d_deep hkL cL.1 cL.2 cn (by omega))⟩))⟩)
        · simp (disch := omega) only [o4_g0, hF0, L0, L1, L2, L3, L4, L5, L6, L7, L8, L9, L10, L11, L12, L13, L14, L15, L16, L17, L18, L19, L20, L21, L22, L23, L24, L25, L26, L27, L31, L32, L33, L36, L40, L41, L42, L47, L48, L57, L58, L59, L60, L61, L62, L65, L97, L101, L102, L103, L120, L126, L127, L144, L245, L1023, L1715, I_add, I_sub, I_mul, I_neg, I_lt, I_le, I_eq, if_neg cn, Option.bind_some]
          exact Ok.pure (Or.inr ⟨_, rfl, Or.inr (Or.inl ⟨k, F', A', rfl, k0, k1, hR.trans (d_many hkL cL.1 cL.2 (by omega))⟩)⟩)
      · have h93 : (if I (ind (97 ≤ T k ∧ T k < 103)) = (0 : Int32) then f_X3_readDocument_J93 (ov m 40 (o4 40 F' A')) 38 40 (I st) (I lev) (I k) (I (T k)) else (if I st = (0 : Int32) then f_X3_readDocument_J47 (ov m 40 (o4 40 F' A')) 38 40 (I lev) (I k) (I (T k)) else (if I lev ≤ (1 : Int32) then f_X3_readDocument_J93 (ov m 40 (o4 40 F' A')) 38 40 (I st) (I lev) (I k) (I (T k)) else f_X3_readDocument_J47 (ov m 40 (o4 40 F' A')) 38 40 (I lev) (I k) (I (T k))))) = f_X3_readDocument_J93 (ov m 40 (o4 40 F' A')) 38 40 (I st) (I lev) (I k) (I (T k)) := by
          by_cases y : 97 ≤ T k ∧ T k < 103
          · simp (disch := omega) only [ind_t y, L0, L1, L2, L3, L4, L5, L6, L7, L8, L9, L10, L11, L12, L13, L14, L15, L16, L17, L18, L19, L20, L21, L22, L23, L24, L25, L26, L27, L31, L32, L33, L36, L40, L41, L42, L47, L48, L57, L58, L59, L60, L61, L62, L65, L97, L101, L102, L103, L120, L126, L127, L144, L245, L1023, L1715, I_add, I_sub, I_mul, I_neg, I_lt, I_le, I_eq, Option.bind_some, if_pos, if_neg, if_true, if_false, ite_true, ite_false, if_neg (show ¬ st = 0 by omega), if_pos (show lev ≤ 1 by omega)]
          · simp (disch := omega) only [ind_f y, L0, L1, L2, L3, L4, L5, L6, L7, L8, L9, L10, L11, L12, L13, L14, L15, L16, L17, L18, L19, L20, L21, L22, L23, L24, L25, L26, L27, L31, L32, L33, L36, L40, L41, L42, L47, L48, L57, L58, L59, L60, L61, L62, L65, L97, L101, L102, L103, L120, L126, L127, L144, L245, L1023, L1715, I_add, I_sub, I_mul, I_neg, I_lt, I_le, I_eq, Option.bind_some, if_pos, if_neg, if_true, if_false, ite_true, ite_false]
        rw [h93]
        unfold f_X3_readDocument_J93 f_X3_readDocument_J127 f_X3_readDocument_J152
        by_cases cD : 48 ≤ T k ∧ T k < 58
        · by_cases c3 : st = 3
          · have hn := b6 (by omega)
            simp (disch := omega) only [X_digit, ind_t cD, L0, L1, L2, L3, L4, L5, L6, L7, L8, L9, L10, L11, L12, L13, L14, L15, L16, L17, L18, L19, L20, L21, L22, L23, L24, L25, L26, L27, L31, L32, L33, L36, L40, L41, L42, L47, L48, L57, L58, L59, L60, L61, L62, L65, L97, L101, L102, L103, L120, L126, L127, L144, L245, L1023, L1715, I_add, I_sub, I_mul, I_neg, I_lt, I_le, I_eq, Option.bind_some, if_pos, if_neg, if_true, if_false, ite_true, ite_false, if_pos c3, o4_g2, o4_g0, hF0, o4_s2, Option.bind_some]
            refine Ok.pure (Or.inl ⟨_, (L - (k + 1)).toNat, rfl, ⟨k + 1, 4, lev, n, _, _, _, _, _, rfl, by omega, by omega, rfl, hR.trans (d_dig hkL cD c3), hI.dig cD c3, hF0, fun j j0 j1 => ?_⟩, by omega⟩)
            obtain ⟨g1, g2, g3⟩ := hD.2 j j0 j1
            rw [upN_ne (by omega), upN_at, upN_ne (by omega)]
            refine ⟨g1, ?_, g3⟩
            by_cases z : j = n - 1
            · rw [z, upZ_at, upZ_at]
            · rw [upZ_ne z, upZ_ne z]; exact g2
          · simp (disch := omega) only [X_digit, ind_t cD, L0, L1, L2, L3, L4, L5, L6, L7, L8, L9, L10, L11, L12, L13, L14, L15, L16, L17, L18, L19, L20, L21, L22, L23, L24, L25, L26, L27, L31, L32, L33, L36, L40, L41, L42, L47, L48, L57, L58, L59, L60, L61, L62, L65, L97, L101, L102, L103, L120, L126, L127, L144, L245, L1023, L1715, I_add, I_sub, I_mul, I_neg, I_lt, I_le, I_eq, Option.bind_some, if_pos, if_neg, if_true, if_false, ite_true, ite_false, if_neg c3, if_neg (show ¬ T k = 40 by omega), if_neg (show ¬ T k = 41 by omega)]
            exact bad (d_bad hkL cL (by omega) (by omega) (by omega))
        · by_cases cO' : T k = 40
          · by_cases c34 : st = 3 ∨ st = 4
            · have fin : Ok (α := (Int32 × Int32 × Int32 × Mm) ⊕ ((Int32 × Int32 × Mm) ⊕ ((Int32 × Mm) ⊕ ((Int32 × Mm) ⊕ (Int32 × Mm))))) (some (.inl (I 0, I (lev + 1), I (k + 1), ov m 40 (o4 40 F' A')))) (fun x => (∃ s' j', x = .inl s' ∧ (∃ k st lev n tg vl lv F' A', s' = (I st, I lev, I k, ov m 40 (o4 40 F' A')) ∧ 0 ≤ k ∧ k ≤ L ∧ j' = (L - k).toNat ∧ dAt L T 0 0 1 0 z0 z0 z0 = dAt L T k st lev n tg vl lv ∧ DI st lev n tg vl lv ∧ DR F' A' n tg vl lv) ∧ j' < (L - k).toNat) ∨ (∃ r, x = .inr r ∧ ((∃ st lev n tg vl lv F' A', r = .inl (I st, I lev, ov m 40 (o4 40 F' A')) ∧ dAt L T 0 0 1 0 z0 z0 z0 = dAt L T L st lev n tg vl lv ∧ DI st lev n tg vl lv ∧ DR F' A' n tg vl lv) ∨ (∃ k F' A', r = .inr (.inl (I k, ov m 40 (o4 40 F' A'))) ∧ 0 ≤ k ∧ k ≤ L ∧ dAt L T 0 0 1 0 z0 z0 z0 = .inl (k, 2)) ∨ (∃ k F' A', r = .inr (.inr (.inl (I k, ov m 40 (o4 40 F' A')))) ∧ 0 ≤ k ∧ k ≤ L ∧ dAt L T 0 0 1 0 z0 z0 z0 = .inl (k, 3)) ∨ (∃ k F' A', r = .inr (.inr (.inr (I k, ov m 40 (o4 40 F' A')))) ∧ 0 ≤ k ∧ k ≤ L ∧ dAt L T 0 0 1 0 z0 z0 z0 = .inl (k, 1))))) := Ok.pure (Or.inl ⟨_, (L - (k + 1)).toNat, rfl, ⟨k + 1, 0, lev + 1, n, _, _, _, _, _, rfl, by omega, by omega, rfl, hR.trans (d_opn hkL cO' c34), hI.opn c34, hD⟩, by omega⟩)
              rcases c34 with y | y
              · simp (disch := omega) only [X_digit, ind_f cD, L0, L1, L2, L3, L4, L5, L6, L7, L8, L9, L10, L11, L12, L13, L14, L15, L16, L17, L18, L19, L20, L21, L22, L23, L24, L25, L26, L27, L31, L32, L33, L36, L40, L41, L42, L47, L48, L57, L58, L59, L60, L61, L62, L65, L97, L101, L102, L103, L120, L126, L127, L144, L245, L1023, L1715, I_add, I_sub, I_mul, I_neg, I_lt, I_le, I_eq, Option.bind_some, if_pos, if_neg, if_true, if_false, ite_true, ite_false, if_pos cO', if_pos y]
                exact fin
              · simp (disch := omega) only [X_digit, ind_f cD, L0, L1, L2, L3, L4, L5, L6, L7, L8, L9, L10, L11, L12, L13, L14, L15, L16, L17, L18, L19, L20, L21, L22, L23, L24, L25, L26, L27, L31, L32, L33, L36, L40, L41, L42, L47, L48, L57, L58, L59, L60, L61, L62, L65, L97, L101, L102, L103, L120, L126, L127, L144, L245, L1023, L1715, I_add, I_sub, I_mul, I_neg, I_lt, I_le, I_eq, Option.bind_some, if_pos, if_neg, if_true, if_false, ite_true, ite_false, if_pos cO', if_neg (show ¬ st = 3 by omega), if_pos y]
                exact fin
            · simp (disch := omega) only [X_digit, ind_f cD, L0, L1, L2, L3, L4, L5, L6, L7, L8, L9, L10, L11, L12, L13, L14, L15, L16, L17, L18, L19, L20, L21, L22, L23, L24, L25, L26, L27, L31, L32, L33, L36, L40, L41, L42, L47, L48, L57, L58, L59, L60, L61, L62, L65, L97, L101, L102, L103, L120, L126, L127, L144, L245, L1023, L1715, I_add, I_sub, I_mul, I_neg, I_lt, I_le, I_eq, Option.bind_some, if_pos, if_neg, if_true, if_false, ite_true, ite_false, if_pos cO', if_neg (show ¬ st = 3 by omega), if_neg (show ¬ st = 4 by omega), if_neg (show ¬ T k = 41 by omega)]
              exact bad (d_bad hkL cL (by omega) (by omega) (by omega))
          · by_cases cC : T k = 41
            · by_cases cw : st = 3 ∨ st = 4 ∨ st = 5
              · by_cases cv : 1 < lev
                · simp (disch := omega) only [X_digit, ind_f cD, L0, L1, L2, L3, L4, L5, L6, L7, L8, L9, L10, L11, L12, L13, L14, L15, L16, L17, L18, L19, L20, L21, L22, L23, L24, L25, L26, L27, L31, L32, L33, L36, L40, L41, L42, L47, L48, L57, L58, L59, L60, L61, L62, L65, L97, L101, L102, L103, L120, L126, L127, L144, L245, L1023, L1715, I_add, I_sub, I_mul, I_neg, I_lt, I_le, I_eq, Option.bind_some, if_pos, if_neg, if_true, if_false, ite_true, ite_false, if_neg cO', if_pos cC, X_whole, ind_t cw, if_neg (show ¬ lev ≤ 1 by omega)]
                  refine Ok.pure (Or.inl ⟨_, (L - (k + 1)).toNat, rfl, ⟨k + 1, 5, lev - 1, n, _, _, _, _, _, by rw [show lev + -1 = lev - 1 by omega], by omega, by omega, rfl, hR.trans (d_close hkL cC cw cv), hI.cls cw cv, hD⟩, by omega⟩)
                · simp (disch := omega) only [X_digit, ind_f cD, L0, L1, L2, L3, L4, L5, L6, L7, L8, L9, L10, L11, L12, L13, L14, L15, L16, L17, L18, L19, L20, L21, L22, L23, L24, L25, L26, L27, L31, L32, L33, L36, L40, L41, L42, L47, L48, L57, L58, L59, L60, L61, L62, L65, L97, L101, L102, L103, L120, L126, L127, L144, L245, L1023, L1715, I_add, I_sub, I_mul, I_neg, I_lt, I_le, I_eq, Option.bind_some, if_pos, if_neg, if_true, if_false, ite_true, ite_false, if_neg cO', if_pos cC, X_whole, ind_t cw, if_pos (show lev ≤ 1 by omega)]
                  exact bad (d_bad hkL cL (by omega) (by omega) (by omega))
              · simp (disch := omega) only [X_digit, ind_f cD, L0, L1, L2, L3, L4, L5, L6, L7, L8, L9, L10, L11, L12, L13, L14, L15, L16, L17, L18, L19, L20, L21, L22, L23, L24, L25, L26, L27, L31, L32, L33, L36, L40, L41, L42, L47, L48, L57, L58, L59, L60, L61, L62, L65, L97, L101, L102, L103, L120, L126, L127, L144, L245, L1023, L1715, I_add, I_sub, I_mul, I_neg, I_lt, I_le, I_eq, Option.bind_some, if_pos, if_neg, if_true, if_false, ite_true, ite_false, if_neg cO', if_pos cC, X_whole, ind_f cw]
                exact bad (d_bad hkL cL (by omega) (by omega) (by omega))
            · simp (disch := omega) only [X_digit, ind_f cD, L0, L1, L2, L3, L4, L5, L6, L7, L8, L9, L10, L11, L12, L13, L14, L15, L16, L17, L18, L19, L20, L21, L22, L23, L24, L25, L26, L27, L31, L32, L33, L36, L40, L41, L42, L47, L48, L57, L58, L59, L60, L61, L62, L65, L97, L101, L102, L103, L120, L126, L127, L144, L245, L1023, L1715, I_add, I_sub, I_mul, I_neg, I_lt, I_le, I_eq, Option.bind_some, if_pos, if_neg, if_true, if_false, ite_true, ite_false, if_neg cO', if_neg cC]
              exact bad (d_bad hkL cL (by omega) (by omega) (by omega))
  · rintro e (⟨st, lev, n, tg, vl, lv, F', A', rfl, hR, hI, hD⟩ | ⟨k, F', A', rfl, k0, k1, hR⟩ | ⟨k, F', A', rfl, k0, k1, hR⟩ | ⟨k, F', A', rfl, k0, k1, hR⟩)
    · dsimp only
      have hx := htx F' A'
      obtain ⟨b1, b2, b3, b4, b5, b6⟩ := hI.bd
      rw [dAt_e (Int.le_refl _)] at hR
      by_cases cw : st = 3 ∨ st = 4 ∨ st = 5
      · by_cases c1 : lev = 1
        · rw [if_pos ⟨cw, c1⟩] at hR
          simp (disch := omega) only [X_whole, ind_t cw, L0, L1, L2, L3, L4, L5, L6, L7, L8, L9, L10, L11, L12, L13, L14, L15, L16, L17, L18, L19, L20, L21, L22, L23, L24, L25, L26, L27, L31, L32, L33, L36, L40, L41, L42, L47, L48, L57, L58, L59, L60, L61, L62, L65, L97, L101, L102, L103, L120, L126, L127, L144, L245, L1023, L1715, I_add, I_sub, I_mul, I_neg, I_lt, I_le, I_eq, Option.bind_some, if_pos, if_neg, if_true, if_false, ite_true, ite_false, if_pos c1]
          rcases hI with ⟨g1, g2, -⟩ | ⟨g1, g2, -⟩
          · omega
          · exact Ok.pure (Or.inl ⟨n, tg, vl, lv, F', A', hR, rfl, hD, g1, g2⟩)
        · rw [if_neg (fun z => c1 z.2)] at hR
          simp (disch := omega) only [X_whole, ind_t cw, L0, L1, L2, L3, L4, L5, L6, L7, L8, L9, L10, L11, L12, L13, L14, L15, L16, L17, L18, L19, L20, L21, L22, L23, L24, L25, L26, L27, L31, L32, L33, L36, L40, L41, L42, L47, L48, L57, L58, L59, L60, L61, L62, L65, L97, L101, L102, L103, L120, L126, L127, L144, L245, L1023, L1715, I_add, I_sub, I_mul, I_neg, I_lt, I_le, I_eq, Option.bind_some, if_pos, if_neg, if_true, if_false, ite_true, ite_false, if_neg c1, a3_g1 hx, hL, a3_cO hx, X_fault hx]
          exact Ok.pure (Or.inr ⟨L, 1, F', A', hR, hL0, Int.le_refl _, rfl⟩)
      · rw [if_neg (fun z => cw z.1)] at hR
        simp (disch := omega) only [X_whole, ind_f cw, L0, L1, L2, L3, L4, L5, L6, L7, L8, L9, L10, L11, L12, L13, L14, L15, L16, L17, L18, L19, L20, L21, L22, L23, L24, L25, L26, L27, L31, L32, L33, L36, L40, L41, L42, L47, L48, L57, L58, L59, L60, L61, L62, L65, L97, L101, L102, L103, L120, L126, L127, L144, L245, L1023, L1715, I_add, I_sub, I_mul, I_neg, I_lt, I_le, I_eq, Option.bind_some, if_pos, if_neg, if_true, if_false, ite_true, ite_false, a3_g1 hx, hL, a3_cO hx, X_fault hx]
        exact Ok.pure (Or.inr ⟨L, 1, F', A', hR, hL0, Int.le_refl _, rfl⟩)
    · dsimp only
      have hx := htx F' A'
      simp (disch := omega) only [L0, L1, L2, L3, L4, L5, L6, L7, L8, L9, L10, L11, L12, L13, L14, L15, L16, L17, L18, L19, L20, L21, L22, L23, L24, L25, L26, L27, L31, L32, L33, L36, L40, L41, L42, L47, L48, L57, L58, L59, L60, L61, L62, L65, L97, L101, L102, L103, L120, L126, L127, L144, L245, L1023, L1715, a3_cO hx, X_fault hx, Option.bind_some]
      exact Ok.pure (Or.inr ⟨k, 2, F', A', hR, k0, k1, rfl⟩)
    · dsimp only
      have hx := htx F' A'
      simp (disch := omega) only [L0, L1, L2, L3, L4, L5, L6, L7, L8, L9, L10, L11, L12, L13, L14, L15, L16, L17, L18, L19, L20, L21, L22, L23, L24, L25, L26, L27, L31, L32, L33, L36, L40, L41, L42, L47, L48, L57, L58, L59, L60, L61, L62, L65, L97, L101, L102, L103, L120, L126, L127, L144, L245, L1023, L1715, a3_cO hx, X_fault hx, Option.bind_some]
      exact Ok.pure (Or.inr ⟨k, 3, F', A', hR, k0, k1, rfl⟩)
    · dsimp only
      have hx := htx F' A'
      simp (disch := omega) only [L0, L1, L2, L3, L4, L5, L6, L7, L8, L9, L10, L11, L12, L13, L14, L15, L16, L17, L18, L19, L20, L21, L22, L23, L24, L25, L26, L27, L31, L32, L33, L36, L40, L41, L42, L47, L48, L57, L58, L59, L60, L61, L62, L65, L97, L101, L102, L103, L120, L126, L127, L144, L245, L1023, L1715, a3_cO hx, X_fault hx, Option.bind_some]
      exact Ok.pure (Or.inr ⟨k, 1, F', A', hR, k0, k1, rfl⟩)
end CDOC
