/-! ===== the reference: documents ===== -/
/-- the byte at k, -1 behind the end -/
def hrF (L : Int) (T : Int → Int) (k : Int) : Int := if k < L then T k else -1
theorem cB0 {α : Type} {x : Option α} : cB (I 0) x = x := if_pos (Or.inl rfl)
/-- the text -/
def TX (F : Nat → Int) (A : Nat → Int → Int) (L : Int) (T : Int → Int) : Prop := F 22 = L ∧ 0 ≤ L ∧ L ≤ 120 ∧ ∀ j, 0 ≤ j → j < L → A 20 j = T j ∧ 0 ≤ T j ∧ T j ≤ 127
/-- what reading leaves as it is -/
def RQ (F0 : Nat → Int) (A0 : Nat → Int → Int) (F : Nat → Int) (A : Nat → Int → Int) : Prop := (∀ i, i ≠ 23 → i ≠ 24 → i ≠ 25 → i ≠ 29 → i ≠ 31 → F i = F0 i) ∧ ∀ i, i ≠ 21 → i ≠ 22 → i ≠ 23 → i ≠ 24 → A i = A0 i
theorem TX.rq {F0 F : Nat → Int} {A0 A : Nat → Int → Int} {L : Int} {T : Int → Int} (h : TX F0 A0 L T) (hq : RQ F0 A0 F A) : TX F A L T := by
  obtain ⟨h1, h2, h3, h4⟩ := h
  refine ⟨by rw [hq.1 22 (by omega) (by omega) (by omega) (by omega) (by omega)]; exact h1, h2, h3, ?_⟩
  rw [hq.2 20 (by omega) (by omega) (by omega) (by omega)]
  exact h4
section MDOC
variable {m : Mm} {a : Nat} {F F0 : Nat → Int} {A A0 : Nat → Int → Int} {L : Int} {T : Int → Int}
theorem RQ.F25 (h : RQ F0 A0 F A) {v : Int} : RQ F0 A0 (upN F 25 v) A := ⟨fun i g1 g2 g3 g4 g5 => by rw [upN_ne g3]; exact h.1 i g1 g2 g3 g4 g5, h.2⟩
theorem RQ.F24 (h : RQ F0 A0 F A) {v : Int} : RQ F0 A0 (upN F 24 v) A := ⟨fun i g1 g2 g3 g4 g5 => by rw [upN_ne g2]; exact h.1 i g1 g2 g3 g4 g5, h.2⟩
theorem RQ.F23 (h : RQ F0 A0 F A) {v : Int} : RQ F0 A0 (upN F 23 v) A := ⟨fun i g1 g2 g3 g4 g5 => by rw [upN_ne g1]; exact h.1 i g1 g2 g3 g4 g5, h.2⟩
theorem RQ.F29 (h : RQ F0 A0 F A) {v : Int} : RQ F0 A0 (upN F 29 v) A := ⟨fun i g1 g2 g3 g4 g5 => by rw [upN_ne g4]; exact h.1 i g1 g2 g3 g4 g5, h.2⟩
theorem RQ.F31 (h : RQ F0 A0 F A) {v : Int} : RQ F0 A0 (upN F 31 v) A := ⟨fun i g1 g2 g3 g4 g5 => by rw [upN_ne g5]; exact h.1 i g1 g2 g3 g4 g5, h.2⟩
theorem RQ.row (h : RQ F0 A0 F A) {k : Nat} {v : Int → Int} (hk : k = 21 ∨ k = 22 ∨ k = 23 ∨ k = 24) : RQ F0 A0 F (upN A k v) := ⟨h.1, fun i g1 g2 g3 g4 => by rw [upN_ne (by omega)]; exact h.2 i g1 g2 g3 g4⟩
theorem hr_bd (h : ∀ j, 0 ≤ j → j < L → A 20 j = T j ∧ 0 ≤ T j ∧ T j ≤ 127) {k : Int} (k0 : 0 ≤ k) : -1 ≤ hrF L T k ∧ hrF L T k ≤ 127 := by
  unfold hrF
  by_cases z : k < L
  · rw [if_pos z]; have := h k k0 z; omega
  · rw [if_neg z]; omega
theorem N_here (hl : a + 25 < m.length) (hX : TX F A L T) {k : Int} (h25 : F 25 = k) (k0 : 0 ≤ k) (k1 : k ≤ L) : f_X8_here (ov m a (o8 a F A)) a = some (I (hrF L T k)) := by
  obtain ⟨x1, x2, x3, x4⟩ := hX
  unfold f_X8_here hrF
  by_cases z : k < L
  · have := (x4 k k0 z).1
    rw [if_pos z]
    simp (disch := omega) only [o8_g25, o8_g22, h25, x1, I_add, I_sub, I_mul, I_neg, I_lt, I_le, I_eq, if_neg (show ¬ L ≤ k by omega), o8_g21, o8_l20, this, Option.bind_some]
  · rw [if_neg z]
    simp (disch := omega) only [o8_g25, o8_g22, h25, x1, L0, L1, L2, L3, L4, L5, L6, L7, L8, L9, L10, L11, L12, L13, L14, L15, L16, L17, L18, L19, L20, L21, L22, L23, L24, L25, L26, L27, L31, L32, L33, L36, L40, L41, L42, L47, L48, L57, L58, L59, L60, L61, L62, L65, L97, L101, L102, L103, L120, L126, L127, L144, L245, L1023, L1715, I_add, I_sub, I_mul, I_neg, I_lt, I_le, I_eq, if_pos (show L ≤ k by omega), Option.bind_some]
theorem M_wrong (hl : a + 25 < m.length) {r : Int} : f_X8_wrong (ov m a (o8 a F A)) a (I r) = some (I 0, ov m a (o8 a (upN (upN F 24 (F 25)) 23 r) A)) := by
  unfold f_X8_wrong
  simp (disch := omega) only [o8_g25, o8_p24, o8_p23, L0, L1, L2, L3, L4, L5, L6, L7, L8, L9, L10, L11, L12, L13, L14, L15, L16, L17, L18, L19, L20, L21, L22, L23, L24, L25, L26, L27, L31, L32, L33, L36, L40, L41, L42, L47, L48, L57, L58, L59, L60, L61, L62, L65, L97, L101, L102, L103, L120, L126, L127, L144, L245, L1023, L1715, Option.bind_some]
/-- the rows of what has been read -/
def DRm (F : Nat → Int) (A : Nat → Int → Int) (n : Int) (tg vl lv : Int → Int) : Prop := F 29 = n ∧ ∀ j, 0 ≤ j → j < n → A 21 j = tg j ∧ A 22 j = vl j ∧ A 23 j = lv j
theorem M_rdElem (hl : a + 25 < m.length) (hX : TX F0 A0 L T) (hQ : RQ F0 A0 F A) {k st lev n : Int} {tg vl lv : Int → Int} (h25 : F 25 = k) (k0 : 0 ≤ k) (k1 : k ≤ L) (hD : DRm F A n tg vl lv) (hI : DI st lev n tg vl lv) (hs : st = 0 ∨ 1 < lev) (hbad : ¬ (97 ≤ hrF L T k ∧ hrF L T k < 103) → dAt L T k st lev n tg vl lv = .inl (k, 1)) : Ok (f_X8_readsElement (ov m a (o8 a F A)) a (I lev)) (fun t => (∃ p r F' A', t = (I 0, ov m a (o8 a F' A')) ∧ RQ F0 A0 F' A' ∧ F' 24 = p ∧ F' 23 = r ∧ 0 ≤ p ∧ p ≤ L ∧ dAt L T k st lev n tg vl lv = .inl (p, r)) ∨ (∃ k' st' n' tg' vl' lv' F' A', t = (I 1, ov m a (o8 a F' A')) ∧ RQ F0 A0 F' A' ∧ F' 25 = k' ∧ k < k' ∧ k' ≤ L ∧ dAt L T k st lev n tg vl lv = dAt L T k' st' lev n' tg' vl' lv' ∧ DI st' lev n' tg' vl' lv' ∧ DRm F' A' n' tg' vl' lv' ∧ (st' = 3 ∨ st' = 4) ∧ (st' = 3 → ¬ (48 ≤ hrF L T k' ∧ hrF L T k' < 58)) ∧ T (k' - 1) ≠ 41 ∧ F' 23 = F 23)) := by
  have hXc := hX.rq hQ
  obtain ⟨x1, x2, x3, x4⟩ := id hXc
  have hh0 := N_here hl hXc h25 k0 k1
  have hb0 := hr_bd x4 k0
  obtain ⟨b1, b2, b3, b4, b5, b6⟩ := hI.bd
  have h29 := hD.1
  have hin : f_X8_in (ov m a (o8 a F A)) (I (hrF L T k)) (I 97) (I 102) = some (I (ind (97 ≤ hrF L T k ∧ hrF L T k < 103))) := by
    rw [D_in (by omega) (by omega) (by omega) (by omega) (by omega) (by omega), ind_congr (show (97 ≤ hrF L T k ∧ hrF L T k ≤ 102) ↔ (97 ≤ hrF L T k ∧ hrF L T k < 103) by omega)]
  unfold f_X8_readsElement
  by_cases cL : 97 ≤ hrF L T k ∧ hrF L T k < 103
  · have hkL : k < L := by
      by_cases z : k < L
      · exact z
      · have : hrF L T k = -1 := if_neg z
        omega
    have hTk : hrF L T k = T k := if_pos hkL
    have cT : 97 ≤ T k ∧ T k < 103 := by omega
    rw [hTk] at hh0 hin
    by_cases cn : n = 32
    · simp (disch := omega) only [o8_cO, hh0, L0, L1, L2, L3, L4, L5, L6, L7, L8, L9, L10, L11, L12, L13, L14, L15, L16, L17, L18, L19, L20, L21, L22, L23, L24, L25, L26, L27, L31, L32, L33, L36, L40, L41, L42, L47, L48, L57, L58, L59, L60, L61, L62, L65, L97, L101, L102, L103, L120, L126, L127, L144, L245, L1023, L1715, hin, ind_t cT, I_add, I_sub, I_mul, I_neg, I_lt, I_le, I_eq, Option.bind_some, if_pos, if_neg, if_true, if_false, ite_true, ite_false, o8_g29, h29, if_pos cn, M_wrong, cB0]
      refine Ok.pure (Or.inl ⟨k, 2, _, A, rfl, hQ.F24.F23, ?_, upN_at, k0, k1, d_many hkL cT hs (by omega)⟩)
      rw [upN_ne (by omega), upN_at]; exact h25
    · by_cases cd : lev ≤ 10
      · -- the letter
        have hQ1 : RQ F0 A0 (upN F 25 (k + 1)) (upN (upN (upN A 21 (upZ (A 21) n (T k - 97))) 22 (upZ (A 22) n 0)) 23 (upZ (A 23) n lev)) := (((hQ.row (k := 21) (by omega)).row (k := 22) (by omega)).row (k := 23) (by omega)).F25
        have hX1 := hX.rq hQ1
        have hh1 := N_here hl hX1 (k := k + 1) upN_at (by omega) (by omega)
        have hb1 := hr_bd hX1.2.2.2 (show 0 ≤ k + 1 by omega)
        have hin1 : f_X8_in (ov m a (o8 a (upN F 25 (k + 1)) (upN (upN (upN A 21 (upZ (A 21) n (T k - 97))) 22 (upZ (A 22) n 0)) 23 (upZ (A 23) n lev)))) (I (hrF L T (k + 1))) (I 48) (I 57) = some (I (ind (48 ≤ hrF L T (k + 1) ∧ hrF L T (k + 1) < 58))) := by
          rw [D_in (by omega) (by omega) (by omega) (by omega) (by omega) (by omega), ind_congr (show (48 ≤ hrF L T (k + 1) ∧ hrF L T (k + 1) ≤ 57) ↔ (48 ≤ hrF L T (k + 1) ∧ hrF L T (k + 1) < 58) by omega)]
        have u22 : upN A 21 (upZ (A 21) n (T k - 97)) 22 = A 22 := upN_ne (by omega)
        have u23 : upN (upN A 21 (upZ (A 21) n (T k - 97))) 22 (upZ (A 22) n 0) 23 = A 23 := by rw [upN_ne (by omega), upN_ne (by omega)]
        have f29 : upN F 25 (k + 1) 29 = n := by rw [upN_ne (by omega)]; exact h29
        have hd1 := d_let (st := st) (lev := lev) (n := n) (tg := tg) (vl := vl) (lv := lv) hkL cT hs (by omega) cd
        have hI1 := hI.ltr cT hs (show n < 32 by omega) cd
        have rows1 : ∀ j, 0 ≤ j → j < n + 1 → upZ (A 21) n (T k - 97) j = upZ tg n (T k - 97) j ∧ upZ (A 22) n 0 j = upZ vl n 0 j ∧ upZ (A 23) n lev j = upZ lv n lev j := by
          intro j j0 j1
          by_cases z : j = n
          · rw [z, upZ_at, upZ_at, upZ_at, upZ_at, upZ_at, upZ_at]; exact ⟨rfl, rfl, rfl⟩
          · rw [upZ_ne z, upZ_ne z, upZ_ne z, upZ_ne z, upZ_ne z, upZ_ne z]; exact hD.2 j j0 (by omega)
        by_cases cg : 48 ≤ hrF L T (k + 1) ∧ hrF L T (k + 1) < 58
        · have hkL1 : k + 1 < L := by
            by_cases z : k + 1 < L
            · exact z
            · have : hrF L T (k + 1) = -1 := if_neg z
              omega
          have hTk1 : hrF L T (k + 1) = T (k + 1) := if_pos hkL1
          have v22 : upN (upN (upN A 21 (upZ (A 21) n (T k - 97))) 22 (upZ (A 22) n 0)) 23 (upZ (A 23) n lev) 22 = upZ (A 22) n 0 := by rw [upN_ne (by omega), upN_at]
          rw [hTk1] at hh1 hin1 cg
          simp (disch := omega) only [o8_cO, hh0, L0, L1, L2, L3, L4, L5, L6, L7, L8, L9, L10, L11, L12, L13, L14, L15, L16, L17, L18, L19, L20, L21, L22, L23, L24, L25, L26, L27, L31, L32, L33, L36, L40, L41, L42, L47, L48, L57, L58, L59, L60, L61, L62, L65, L97, L101, L102, L103, L120, L126, L127, L144, L245, L1023, L1715, hin, ind_t cT, I_add, I_sub, I_mul, I_neg, I_lt, I_le, I_eq, Option.bind_some, if_pos, if_neg, if_true, if_false, ite_true, ite_false, o8_g29, h29, if_neg cn, if_pos cd, o8_g26, o8_g27, o8_g28, o8_s21, o8_s22, u22, o8_s23, u23, o8_g25, h25, o8_p25, hh1, hin1, ind_t cg, f29, v22, upN_at, o8_p29]
          refine Ok.pure (Or.inr ⟨k + 1 + 1, 4, n + 1, _, _, _, _, _, rfl, (hQ1.row (k := 22) (by omega)).F25.F29, by rw [upN_ne (by omega), upN_at], by omega, by omega, hd1.trans (d_dig hkL1 cg rfl), hI1.dig cg rfl, ⟨?_, fun j j0 j1 => ?_⟩, Or.inr rfl, fun z => absurd z (by omega), ?_, by rw [upN_ne (by omega), upN_ne (by omega), upN_ne (by omega)]⟩)
          · rw [upN_at, upN_ne (by omega), f29]
          · obtain ⟨r1, r2, r3⟩ := rows1 j j0 j1
            rw [upN_ne (by omega), upN_ne (by omega), upN_ne (by omega), upN_at, upN_at, upN_ne (by omega), upN_at]
            refine ⟨r1, ?_, r3⟩
            by_cases z : j = n
            · rw [z, upZ_at, show n + 1 - 1 = n by omega, upZ_at]
            · rw [upZ_ne z]; exact r2.trans (upZ_ne (by omega)).symm
          · rw [show k + 1 + 1 - 1 = k + 1 by omega]; omega
        · simp (disch := omega) only [o8_cO, hh0, L0, L1, L2, L3, L4, L5, L6, L7, L8, L9, L10, L11, L12, L13, L14, L15, L16, L17, L18, L19, L20, L21, L22, L23, L24, L25, L26, L27, L31, L32, L33, L36, L40, L41, L42, L47, L48, L57, L58, L59, L60, L61, L62, L65, L97, L101, L102, L103, L120, L126, L127, L144, L245, L1023, L1715, hin, ind_t cT, I_add, I_sub, I_mul, I_neg, I_lt, I_le, I_eq, Option.bind_some, if_pos, if_neg, if_true, if_false, ite_true, ite_false, o8_g29, h29, if_neg cn, if_pos cd, o8_g26, o8_g27, o8_g28, o8_s21, o8_s22, u22, o8_s23, u23, o8_g25, h25, o8_p25, hh1, hin1, ind_f cg, f29, upN_at, o8_p29]
          refine Ok.pure (Or.inr ⟨k + 1, 3, n + 1, _, _, _, _, _, rfl, hQ1.F29, by rw [upN_ne (by omega), upN_at], by omega, by omega, hd1, hI1, ⟨upN_at, fun j j0 j1 => ?_⟩, Or.inl rfl, fun _ => cg, ?_, by rw [upN_ne (by omega), upN_ne (by omega)]⟩)
          · obtain ⟨r1, r2, r3⟩ := rows1 j j0 j1
            rw [upN_ne (by omega), upN_ne (by omega), upN_at, upN_ne (by omega), upN_at, upN_at]
            exact ⟨r1, r2, r3⟩
          · rw [show k + 1 - 1 = k by omega]; omega
      · simp (disch := omega) only [o8_cO, hh0, L0, L1, L2, L3, L4, L5, L6, L7, L8, L9, L10, L11, L12, L13, L14, L15, L16, L17, L18, L19, L20, L21, L22, L23, L24, L25, L26, L27, L31, L32, L33, L36, L40, L41, L42, L47, L48, L57, L58, L59, L60, L61, L62, L65, L97, L101, L102, L103, L120, L126, L127, L144, L245, L1023, L1715, hin, ind_t cT, I_add, I_sub, I_mul, I_neg, I_lt, I_le, I_eq, Option.bind_some, if_pos, if_neg, if_true, if_false, ite_true, ite_false, o8_g29, h29, if_neg cn, if_neg cd, M_wrong, cB0]
        refine Ok.pure (Or.inl ⟨k, 3, _, A, rfl, hQ.F24.F23, ?_, upN_at, k0, k1, d_deep hkL cT hs (by omega) (by omega)⟩)
        rw [upN_ne (by omega), upN_at]; exact h25
  · simp (disch := omega) only [o8_cO, hh0, L0, L1, L2, L3, L4, L5, L6, L7, L8, L9, L10, L11, L12, L13, L14, L15, L16, L17, L18, L19, L20, L21, L22, L23, L24, L25, L26, L27, L31, L32, L33, L36, L40, L41, L42, L47, L48, L57, L58, L59, L60, L61, L62, L65, L97, L101, L102, L103, L120, L126, L127, L144, L245, L1023, L1715, hin, ind_f cL, I_add, I_sub, I_mul, I_neg, I_lt, I_le, I_eq, Option.bind_some, if_pos, if_neg, if_true, if_false, ite_true, ite_false, M_wrong, cB0]
    refine Ok.pure (Or.inl ⟨k, 1, _, A, rfl, hQ.F24.F23, ?_, upN_at, k0, k1, hbad cL⟩)
    rw [upN_ne (by omega), upN_at]; exact h25
theorem d_bad0 {k lev n : Int} {tg vl lv : Int → Int} (k1 : k ≤ L) (hc : ¬ (97 ≤ hrF L T k ∧ hrF L T k < 103)) : dAt L T k 0 lev n tg vl lv = .inl (k, 1) := by
  by_cases z : k < L
  · have hT : hrF L T k = T k := if_pos z
    rw [hT] at hc
    exact d_bad z (fun t => hc t.1) (by omega) (by omega) (by omega)
  · rw [dAt_e (by omega), if_neg (by omega), show k = L by omega]
/-- a document is read so far, or wrong -/
abbrev DBad (m : Mm) (a : Nat) (F : Nat → Int) (A : Nat → Int → Int) (L : Int) (T : Int → Int) (M : Mm) : Prop := ∃ p r F' A', M = ov m a (o8 a F' A') ∧ RQ F A F' A' ∧ F' 24 = p ∧ F' 23 = r ∧ 0 ≤ p ∧ p ≤ L ∧ dAt L T 0 0 1 0 z0 z0 z0 = .inl (p, r)
abbrev DGood (m : Mm) (a : Nat) (F : Nat → Int) (A : Nat → Int → Int) (L : Int) (T : Int → Int) (k st lev : Int) (M : Mm) : Prop := ∃ n tg vl lv F' A', M = ov m a (o8 a F' A') ∧ RQ F A F' A' ∧ F' 25 = k ∧ 1 ≤ k ∧ k ≤ L ∧ dAt L T 0 0 1 0 z0 z0 z0 = dAt L T k st lev n tg vl lv ∧ DI st lev n tg vl lv ∧ DRm F' A' n tg vl lv ∧ (st = 3 ∨ st = 4 ∨ st = 5) ∧ (st = 3 → ¬ (48 ≤ hrF L T k ∧ hrF L T k < 58)) ∧ (T (k - 1) = 41 ↔ st = 5) ∧ F' 23 = F 23
theorem M_docRest (hl : a + 25 < m.length) (hX : TX F A L T) {k st lev : Int} {M : Mm} (h : DGood m a F A L T k st lev M) : cO M a 8 ((f_X8_here M a).bind fun v28 => (if v28 = (40 : Int32) then (gR M a 8 21).bind fun v30 => (gI M a 8 25).bind fun v32 => (lI M v30 (v32 - (1 : Int32))).bind fun v34 => (if v34 = (41 : Int32) then (some (.inl (I lev, I 1, (0 : Int32), M)) : Option ((Int32 × Int32 × Int32 × Mm) ⊕ (Int32 × Mm))) else some (.inl (I lev, I 1, (1 : Int32), M))) else some (.inl (I lev, I 1, (0 : Int32), M)))) = some (.inl (I lev, I 1, I (ind (hrF L T k = 40 ∧ st ≠ 5)), M)) := by
  obtain ⟨n, tg, vl, lv, F', A', rfl, hQ, h25, k0, k1, -, -, -, -, -, h41, -⟩ := h
  have hX' := hX.rq hQ
  have hb := hr_bd hX'.2.2.2 (show 0 ≤ k by omega)
  have ht := hX'.2.2.2 (k - 1) (by omega) (by omega)
  have hx3 := hX'.2.2.1
  simp (disch := omega) only [o8_cO, N_here hl hX' h25, Option.bind_some]
  by_cases z : hrF L T k = 40
  · by_cases y : st = 5
    · rw [ind_f (fun t => t.2 y)]
      have := h41.mpr y
      simp (disch := omega) only [L0, L1, L2, L3, L4, L5, L6, L7, L8, L9, L10, L11, L12, L13, L14, L15, L16, L17, L18, L19, L20, L21, L22, L23, L24, L25, L26, L27, L31, L32, L33, L36, L40, L41, L42, L47, L48, L57, L58, L59, L60, L61, L62, L65, L97, L101, L102, L103, L120, L126, L127, L144, L245, L1023, L1715, I_add, I_sub, I_mul, I_neg, I_lt, I_le, I_eq, if_pos z, o8_g21, o8_g25, h25, o8_l20, ht.1, if_pos this, Option.bind_some]
    · rw [ind_t ⟨z, y⟩]
      have : ¬ T (k - 1) = 41 := fun t => y (h41.mp t)
      simp (disch := omega) only [L0, L1, L2, L3, L4, L5, L6, L7, L8, L9, L10, L11, L12, L13, L14, L15, L16, L17, L18, L19, L20, L21, L22, L23, L24, L25, L26, L27, L31, L32, L33, L36, L40, L41, L42, L47, L48, L57, L58, L59, L60, L61, L62, L65, L97, L101, L102, L103, L120, L126, L127, L144, L245, L1023, L1715, I_add, I_sub, I_mul, I_neg, I_lt, I_le, I_eq, if_pos z, o8_g21, o8_g25, h25, o8_l20, ht.1, if_neg this, Option.bind_some]
  · rw [ind_f (fun t => z t.1)]
    simp (disch := omega) only [L0, L1, L2, L3, L4, L5, L6, L7, L8, L9, L10, L11, L12, L13, L14, L15, L16, L17, L18, L19, L20, L21, L22, L23, L24, L25, L26, L27, L31, L32, L33, L36, L40, L41, L42, L47, L48, L57, L58, L59, L60, L61, L62, L65, L97, L101, L102, L103, L120, L126, L127, L144, L245, L1023, L1715, I_add, I_sub, I_mul, I_neg, I_lt, I_le, I_eq, if_neg z]
theorem M_readsDoc (hl : a + 25 < m.length) (hX : TX F A L T) : Ok (f_X8_readsDocument (ov m a (o8 a F A)) a) (fun t => (t.1 = I 0 ∧ DBad m a F A L T t.2) ∨ (∃ n tg vl lv F' A', t = (I 1, ov m a (o8 a F' A')) ∧ RQ F A F' A' ∧ F' 23 = F 23 ∧ dAt L T 0 0 1 0 z0 z0 z0 = .inr (n, tg, vl, lv) ∧ WL n lv ∧ (∀ k, 0 ≤ k → k < n → 0 ≤ tg k ∧ tg k ≤ 5 ∧ 0 ≤ vl k ∧ vl k ≤ 9) ∧ DRm F' A' n tg vl lv)) := by
  have hL0 := hX.2.1
  have hL1 := hX.2.2.1
  have rq0 : RQ F A F A := ⟨fun _ _ _ _ _ _ => rfl, fun _ _ _ _ _ => rfl⟩
  unfold f_X8_readsDocument
  simp (disch := omega) only [L0, L1, L2, L3, L4, L5, L6, L7, L8, L9, L10, L11, L12, L13, L14, L15, L16, L17, L18, L19, L20, L21, L22, L23, L24, L25, L26, L27, L31, L32, L33, L36, L40, L41, L42, L47, L48, L57, L58, L59, L60, L61, L62, L65, L97, L101, L102, L103, L120, L126, L127, L144, L245, L1023, L1715, o8_p25, o8_p29, o8_cO, Option.bind_some]
  refine Ok.bind (M_rdElem (st := 0) (lev := 1) (k := 0) (n := 0) (tg := z0) (vl := z0) (lv := z0) hl hX rq0.F25.F29 (by rw [upN_ne (by omega), upN_at]) (Int.le_refl _) hL0 ⟨upN_at, fun j j0 j1 => by omega⟩ (Or.inl ⟨rfl, rfl, rfl⟩) (Or.inl rfl) (d_bad0 hL0)) ?_
  intro t8 ht8
  -- the loop
  have loop : ∀ M : Mm, ∀ lev op : Int, (DBad m a F A L T M ∧ op = 0 → Ok (whl (σ := Int32 × Int32 × Int32 × Mm) (ρ := (Int32 × Mm)) FU (fun t16 => f_X8_readsDocument_L37 t16.2.2.2 a t16.1 t16.2.1 t16.2.2.1) (I lev, I 0, I op, M)) (fun t => (t.1 = I 0 ∧ DBad m a F A L T t.2))) ∧ (∀ k st, DGood m a F A L T k st lev M → op = ind (hrF L T k = 40 ∧ st ≠ 5) → Ok (whl (σ := Int32 × Int32 × Int32 × Mm) (ρ := (Int32 × Mm)) FU (fun t16 => f_X8_readsDocument_L37 t16.2.2.2 a t16.1 t16.2.1 t16.2.2.1) (I lev, I 1, I op, M)) (fun t => (t.1 = I 0 ∧ DBad m a F A L T t.2) ∨ (t.1 = I 1 ∧ ∃ k st, DGood m a F A L T k st 1 t.2 ∧ ¬ (hrF L T k = 40 ∧ st ≠ 5)))) := by
    intro M lev op
    constructor
    · rintro ⟨hb, rfl⟩
      refine Ok.whl (fun j s => s = (I lev, I 0, I 0, M) ∧ j = 0) _ (j := 0) ?_ ⟨rfl, rfl⟩ (FU_lt (by omega))
      rintro j s ⟨rfl, rfl⟩
      dsimp only
      unfold f_X8_readsDocument_L37
      simp (disch := omega) only [L0, L1, L2, L3, L4, L5, L6, L7, L8, L9, L10, L11, L12, L13, L14, L15, L16, L17, L18, L19, L20, L21, L22, L23, L24, L25, L26, L27, L31, L32, L33, L36, L40, L41, L42, L47, L48, L57, L58, L59, L60, L61, L62, L65, L97, L101, L102, L103, L120, L126, L127, L144, L245, L1023, L1715, if_true]
      exact Ok.pure (Or.inr ⟨_, rfl, rfl, hb⟩)
    · intro k st hg hop
      refine Ok.whl (fun j s => (∃ lev M, s = (I lev, I 0, I 0, M) ∧ DBad m a F A L T M ∧ j = 0) ∨ (∃ lev k st M, s = (I lev, I 1, I (ind (hrF L T k = 40 ∧ st ≠ 5)), M) ∧ DGood m a F A L T k st lev M ∧ j = (L - k + 1).toNat)) _ (j := (L - k + 1).toNat) ?_ (Or.inr ⟨lev, k, st, M, by rw [hop], hg, rfl⟩) (FU_lt (by obtain ⟨n, tg, vl, lv, F', A', -, -, -, q1, -⟩ := hg; omega))
      rintro j s (⟨lev, M, rfl, hb, rfl⟩ | ⟨lev, k, st, M, rfl, hg, rfl⟩)
      · dsimp only
        unfold f_X8_readsDocument_L37
        simp (disch := omega) only [L0, L1, L2, L3, L4, L5, L6, L7, L8, L9, L10, L11, L12, L13, L14, L15, L16, L17, L18, L19, L20, L21, L22, L23, L24, L25, L26, L27, L31, L32, L33, L36, L40, L41, L42, L47, L48, L57, L58, L59, L60, L61, L62, L65, L97, L101, L102, L103, L120, L126, L127, L144, L245, L1023, L1715, if_true]
        exact Ok.pure (Or.inr ⟨_, rfl, Or.inl ⟨rfl, hb⟩⟩)
      · dsimp only
        have hg0 := hg
        obtain ⟨n, tg, vl, lv, F', A', rfl, hQ, h25, k0, k1, hR, hI, hD, hst, hdg, h41, h23⟩ := hg
        obtain ⟨b1, b2, b3, b4, b5, b6⟩ := hI.bd
        have hX' := hX.rq hQ
        have hh := N_here hl hX' h25 (by omega) k1
        have hrb := hr_bd hX'.2.2.2 (show 0 ≤ k by omega)
        unfold f_X8_readsDocument_L37
        -- what a turn leaves
        have turn : Ok (f_X8_readsDocument_J50 (ov m a (o8 a F' A')) a (I lev) (I 1) (I (ind (hrF L T k = 40 ∧ st ≠ 5)))) (fun x => (∃ s' j', x = .inl s' ∧ ((∃ lev M, s' = (I lev, I 0, I 0, M) ∧ DBad m a F A L T M ∧ j' = 0) ∨ (∃ lev k st M, s' = (I lev, I 1, I (ind (hrF L T k = 40 ∧ st ≠ 5)), M) ∧ DGood m a F A L T k st lev M ∧ j' = (L - k + 1).toNat)) ∧ j' < (L - k + 1).toNat) ∨ (∃ r, x = .inr r ∧ ((r.1 = I 0 ∧ DBad m a F A L T r.2) ∨ (r.1 = I 1 ∧ ∃ k st, DGood m a F A L T k st 1 r.2 ∧ ¬ (hrF L T k = 40 ∧ st ≠ 5))))) ∨ (¬ (hrF L T k = 40 ∧ st ≠ 5) ∧ lev ≤ 1) := by
          by_cases hlev : ¬ (hrF L T k = 40 ∧ st ≠ 5) ∧ lev ≤ 1
          · exact Or.inr hlev
          · refine Or.inl ?_
            unfold f_X8_readsDocument_J50
            refine Ok.bind (P := fun t1 => (∃ lev' M, t1 = (I lev', I 0, M) ∧ DBad m a F A L T M) ∨ (∃ k' st' lev' M, t1 = (I lev', I 1, M) ∧ k < k' ∧ DGood m a F A L T k' st' lev' M)) ?_ ?_
            · by_cases op : hrF L T k = 40 ∧ st ≠ 5
              · have hkL : k < L := by
                  by_cases z : k < L
                  · exact z
                  · have : hrF L T k = -1 := if_neg z
                    omega
                have hTk : hrF L T k = T k := if_pos hkL
                rw [ind_t op]
                simp (disch := omega) only [L0, L1, L2, L3, L4, L5, L6, L7, L8, L9, L10, L11, L12, L13, L14, L15, L16, L17, L18, L19, L20, L21, L22, L23, L24, L25, L26, L27, L31, L32, L33, L36, L40, L41, L42, L47, L48, L57, L58, L59, L60, L61, L62, L65, L97, L101, L102, L103, L120, L126, L127, L144, L245, L1023, L1715, I_add, I_sub, I_mul, I_neg, I_lt, I_le, I_eq, Option.bind_some, if_pos, if_neg, if_true, if_false, ite_true, ite_false, o8_g25, h25, o8_p25, o8_cO, Option.bind_some]
                refine Ok.bind (M_rdElem (st := 0) (lev := lev + 1) (k := k + 1) (n := n) (tg := tg) (vl := vl) (lv := lv) hl hX hQ.F25 upN_at (by omega) (by omega) ⟨by rw [upN_ne (by omega)]; exact hD.1, hD.2⟩ (hI.opn (by omega)) (Or.inl rfl) (d_bad0 (by omega))) ?_
                have hRR := hR.trans (d_opn hkL (by omega) (show st = 3 ∨ st = 4 by omega))
                rintro ⟨g, M⟩ (⟨p, r, F2, A2, he, q1, q2, q3, q4, q5, q6⟩ | ⟨k', st', n', tg', vl', lv', F2, A2, he, q1, q2, q3, q4, q5, q6, q7, q8, q9, q10, q11⟩)
                · obtain ⟨rfl, rfl⟩ := Prod.mk.inj he
                  exact Ok.pure (Or.inl ⟨lev + 1, _, rfl, p, r, F2, A2, rfl, q1, q2, q3, q4, q5, hRR.trans q6⟩)
                · obtain ⟨rfl, rfl⟩ := Prod.mk.inj he
                  exact Ok.pure (Or.inr ⟨k', st', lev + 1, _, rfl, by omega, n', tg', vl', lv', F2, A2, rfl, q1, q2, by omega, q4, hRR.trans q5, q6, q7, by omega, q9, ⟨fun z => absurd z q10, fun z => by omega⟩, by rw [q11, upN_ne (by omega)]; exact h23⟩)
              · rw [ind_f op]
                simp (disch := omega) only [L0, L1, L2, L3, L4, L5, L6, L7, L8, L9, L10, L11, L12, L13, L14, L15, L16, L17, L18, L19, L20, L21, L22, L23, L24, L25, L26, L27, L31, L32, L33, L36, L40, L41, L42, L47, L48, L57, L58, L59, L60, L61, L62, L65, L97, L101, L102, L103, L120, L126, L127, L144, L245, L1023, L1715, I_add, I_sub, I_mul, I_neg, I_lt, I_le, I_eq, Option.bind_some, if_pos, if_neg, if_true, if_false, ite_true, ite_false, o8_cO, hh, Option.bind_some, if_true]
                by_cases hc : hrF L T k = 41
                · have hkL : k < L := by
                    by_cases z : k < L
                    · exact z
                    · have : hrF L T k = -1 := if_neg z
                      omega
                  have hTk : hrF L T k = T k := if_pos hkL
                  simp (disch := omega) only [if_pos hc, o8_g25, h25, o8_p25, Option.bind_some, I_add, I_sub, I_mul, I_neg, I_lt, I_le, I_eq]
                  refine Ok.pure (Or.inr ⟨k + 1, 5, lev - 1, _, by rw [show lev + -1 = lev - 1 by omega], by omega, n, tg, vl, lv, _, A', rfl, hQ.F25, upN_at, by omega, by omega, hR.trans (d_close hkL (by omega) hst (by omega)), hI.cls hst (by omega), ⟨by rw [upN_ne (by omega)]; exact hD.1, hD.2⟩, by omega, fun z => absurd z (by omega), ⟨fun _ => rfl, fun _ => ?_⟩, by rw [upN_ne (by omega)]; exact h23⟩)
                  rw [show k + 1 - 1 = k by omega]; omega
                · simp (disch := omega) only [if_neg hc]
                  refine Ok.bind (M_rdElem (st := st) (lev := lev) (k := k) (n := n) (tg := tg) (vl := vl) (lv := lv) hl hX hQ h25 (by omega) (by omega) hD hI (Or.inr (by omega)) (fun hn => ?_)) ?_
                  · by_cases z : k < L
                    · have hTk : hrF L T k = T k := if_pos z
                      rw [hTk] at hn hc op hdg
                      exact d_bad z (fun t => hn t.1) (fun t => hdg t.2 t.1) (fun t => op ⟨t.1, by omega⟩) (fun t => hc t.1)
                    · rw [dAt_e (by omega), if_neg (by omega), show k = L by omega]
                  · rintro ⟨g, M⟩ (⟨p, r, F2, A2, he, q1, q2, q3, q4, q5, q6⟩ | ⟨k', st', n', tg', vl', lv', F2, A2, he, q1, q2, q3, q4, q5, q6, q7, q8, q9, q10, q11⟩)
                    · obtain ⟨rfl, rfl⟩ := Prod.mk.inj he
                      exact Ok.pure (Or.inl ⟨lev, _, rfl, p, r, F2, A2, rfl, q1, q2, q3, q4, q5, hR.trans q6⟩)
                    · obtain ⟨rfl, rfl⟩ := Prod.mk.inj he
                      exact Ok.pure (Or.inr ⟨k', st', lev, _, rfl, by omega, n', tg', vl', lv', F2, A2, rfl, q1, q2, by omega, q4, hR.trans q5, q6, q7, by omega, q9, ⟨fun z => absurd z q10, fun z => by omega⟩, by rw [q11]; exact h23⟩)
            · rintro t1 (⟨lev', M, rfl, hb⟩ | ⟨k', st', lev', M, rfl, hk', hg'⟩)
              · simp (disch := omega) only [L0, L1, L2, L3, L4, L5, L6, L7, L8, L9, L10, L11, L12, L13, L14, L15, L16, L17, L18, L19, L20, L21, L22, L23, L24, L25, L26, L27, L31, L32, L33, L36, L40, L41, L42, L47, L48, L57, L58, L59, L60, L61, L62, L65, L97, L101, L102, L103, L120, L126, L127, L144, L245, L1023, L1715, if_true]
                exact Ok.pure (Or.inl ⟨_, 0, rfl, Or.inl ⟨lev', M, rfl, hb, rfl⟩, by omega⟩)
              · have hrest := M_docRest hl hX hg'
                have hk2 : k' ≤ L := by obtain ⟨n, tg, vl, lv, F', A', -, -, -, -, q1, -⟩ := hg'; exact q1
                dsimp only
                rw [if_neg (show ¬ (I 1 = (0 : Int32)) by decide), hrest]
                exact Ok.pure (Or.inl ⟨_, (L - k' + 1).toNat, rfl, Or.inr ⟨lev', k', st', M, rfl, hg', rfl⟩, by omega⟩)
        rcases turn with turn | turn
        · by_cases op : hrF L T k = 40 ∧ st ≠ 5
          · rw [ind_t op] at turn ⊢
            simp (disch := omega) only [L0, L1, L2, L3, L4, L5, L6, L7, L8, L9, L10, L11, L12, L13, L14, L15, L16, L17, L18, L19, L20, L21, L22, L23, L24, L25, L26, L27, L31, L32, L33, L36, L40, L41, L42, L47, L48, L57, L58, L59, L60, L61, L62, L65, L97, L101, L102, L103, L120, L126, L127, L144, L245, L1023, L1715, I_add, I_sub, I_mul, I_neg, I_lt, I_le, I_eq, Option.bind_some, if_pos, if_neg, if_true, if_false, ite_true, ite_false]
            exact turn
          · by_cases hlev : lev ≤ 1
            · rw [ind_f op]
              simp (disch := omega) only [L0, L1, L2, L3, L4, L5, L6, L7, L8, L9, L10, L11, L12, L13, L14, L15, L16, L17, L18, L19, L20, L21, L22, L23, L24, L25, L26, L27, L31, L32, L33, L36, L40, L41, L42, L47, L48, L57, L58, L59, L60, L61, L62, L65, L97, L101, L102, L103, L120, L126, L127, L144, L245, L1023, L1715, I_add, I_sub, I_mul, I_neg, I_lt, I_le, I_eq, Option.bind_some, if_pos, if_neg, if_true, if_false, ite_true, ite_false, if_true, if_pos hlev]
              have : lev = 1 := by omega
              subst this
              exact Ok.pure (Or.inr ⟨_, rfl, Or.inr ⟨rfl, k, st, hg0, op⟩⟩)
            · rw [ind_f op] at turn ⊢
              simp (disch := omega) only [L0, L1, L2, L3, L4, L5, L6, L7, L8, L9, L10, L11, L12, L13, L14, L15, L16, L17, L18, L19, L20, L21, L22, L23, L24, L25, L26, L27, L31, L32, L33, L36, L40, L41, L42, L47, L48, L57, L58, L59, L60, L61, L62, L65, L97, L101, L102, L103, L120, L126, L127, L144, L245, L1023, L1715, I_add, I_sub, I_mul, I_neg, I_lt, I_le, I_eq, Option.bind_some, if_pos, if_neg, if_true, if_false, ite_true, ite_false, if_true, if_neg hlev]
              exact turn
        · have hlev : lev = 1 := by omega
          rw [ind_f turn.1]
          simp (disch := omega) only [L0, L1, L2, L3, L4, L5, L6, L7, L8, L9, L10, L11, L12, L13, L14, L15, L16, L17, L18, L19, L20, L21, L22, L23, L24, L25, L26, L27, L31, L32, L33, L36, L40, L41, L42, L47, L48, L57, L58, L59, L60, L61, L62, L65, L97, L101, L102, L103, L120, L126, L127, L144, L245, L1023, L1715, I_add, I_sub, I_mul, I_neg, I_lt, I_le, I_eq, Option.bind_some, if_pos, if_neg, if_true, if_false, ite_true, ite_false, if_true, if_pos turn.2]
          subst hlev
          exact Ok.pure (Or.inr ⟨_, rfl, Or.inr ⟨rfl, k, st, hg0, turn.1⟩⟩)
  -- the end
  rcases ht8 with ⟨p, r, F', A', rfl, q1, q2, q3, q4, q5, q6⟩ | ⟨k', st', n', tg', vl', lv', F', A', rfl, q1, q2, q3, q4, q5, q6, q7, q8, q9, q10, q11⟩
  · dsimp only
    simp (disch := omega) only [L0, L1, L2, L3, L4, L5, L6, L7, L8, L9, L10, L11, L12, L13, L14, L15, L16, L17, L18, L19, L20, L21, L22, L23, L24, L25, L26, L27, L31, L32, L33, L36, L40, L41, L42, L47, L48, L57, L58, L59, L60, L61, L62, L65, L97, L101, L102, L103, L120, L126, L127, L144, L245, L1023, L1715, I_add, I_sub, I_mul, I_neg, I_lt, I_le, I_eq, Option.bind_some, if_pos, if_neg, if_true, if_false, ite_true, ite_false, if_true]
    refine Ok.bind ((loop (ov m a (o8 a F' A')) 1 0).1 ⟨⟨p, r, F', A', rfl, q1, q2, q3, q4, q5, q6⟩, rfl⟩) ?_
    rintro ⟨g, M⟩ ⟨e1, e2⟩
    dsimp only at e1 ⊢
    rw [e1]
    simp (disch := omega) only [if_true]
    exact Ok.pure (Or.inl ⟨rfl, e2⟩)
  · dsimp only
    have hg : DGood m a F A L T k' st' 1 (ov m a (o8 a F' A')) := ⟨n', tg', vl', lv', F', A', rfl, q1, q2, by omega, q4, q5, q6, q7, by omega, q9, ⟨fun z => absurd z q10, fun z => by omega⟩, by rw [q11, upN_ne (by omega), upN_ne (by omega)]⟩
    have hX' := hX.rq q1
    have hh := N_here hl hX' q2 (by omega) q4
    have hrb := hr_bd hX'.2.2.2 (show 0 ≤ k' by omega)
    refine Ok.bind (P := fun v => v = I (ind (hrF L T k' = 40 ∧ st' ≠ 5))) ?_ ?_
    · by_cases z : hrF L T k' = 40
      · rw [ind_t (show hrF L T k' = 40 ∧ st' ≠ 5 from ⟨z, by omega⟩)]
        simp (disch := omega) only [L0, L1, L2, L3, L4, L5, L6, L7, L8, L9, L10, L11, L12, L13, L14, L15, L16, L17, L18, L19, L20, L21, L22, L23, L24, L25, L26, L27, L31, L32, L33, L36, L40, L41, L42, L47, L48, L57, L58, L59, L60, L61, L62, L65, L97, L101, L102, L103, L120, L126, L127, L144, L245, L1023, L1715, I_add, I_sub, I_mul, I_neg, I_lt, I_le, I_eq, Option.bind_some, if_pos, if_neg, if_true, if_false, ite_true, ite_false, o8_cO, hh, if_pos z]
        exact Ok.pure rfl
      · rw [ind_f (show ¬ (hrF L T k' = 40 ∧ st' ≠ 5) from fun t => z t.1)]
        simp (disch := omega) only [L0, L1, L2, L3, L4, L5, L6, L7, L8, L9, L10, L11, L12, L13, L14, L15, L16, L17, L18, L19, L20, L21, L22, L23, L24, L25, L26, L27, L31, L32, L33, L36, L40, L41, L42, L47, L48, L57, L58, L59, L60, L61, L62, L65, L97, L101, L102, L103, L120, L126, L127, L144, L245, L1023, L1715, I_add, I_sub, I_mul, I_neg, I_lt, I_le, I_eq, Option.bind_some, if_pos, if_neg, if_true, if_false, ite_true, ite_false, o8_cO, hh, if_neg z]
        exact Ok.pure rfl
    rintro _ rfl
    refine Ok.bind ((loop (ov m a (o8 a F' A')) 1 _).2 k' st' hg rfl) ?_
    rintro ⟨g, M⟩ (⟨e1, e2⟩ | ⟨e1, k, st, e2, e3⟩)
    · dsimp only at e1 ⊢
      rw [e1]
      simp (disch := omega) only [if_true]
      exact Ok.pure (Or.inl ⟨rfl, e2⟩)
    · dsimp only at e1 e2 ⊢
      obtain ⟨n, tg, vl, lv, F2, A2, rfl, hQ, h25, k0, k1, hR, hI, hD, hst, hdg, h41, h23⟩ := e2
      rw [e1]
      have hX2 := hX.rq hQ
      have h22 := hX2.1
      simp (disch := omega) only [I_add, I_sub, I_mul, I_neg, I_lt, I_le, I_eq, Option.bind_some, if_pos, if_neg, if_true, if_false, ite_true, ite_false, o8_g25, o8_g22, h25, h22, Option.bind_some]
      by_cases z : k = L
      · simp only [if_pos z]
        subst z
        rw [dAt_e (Int.le_refl _), if_pos ⟨hst, rfl⟩] at hR
        rcases hI with ⟨g1, g2, -⟩ | ⟨g1, g2, -⟩
        · omega
        · exact Ok.pure (Or.inr ⟨n, tg, vl, lv, F2, A2, rfl, hQ, h23, hR, g1, g2, hD⟩)
      · have hkL : k < L := by omega
        have hTk : hrF L T k = T k := if_pos hkL
        rw [hTk] at e3 hdg
        simp (disch := omega) only [if_neg z, o8_cO, M_wrong, Option.bind_some, if_true]
        refine Ok.pure (Or.inl ⟨rfl, k, 1, _, A2, rfl, hQ.F24.F23, by rw [upN_ne (by omega), upN_at]; exact h25, upN_at, by omega, k1, hR.trans (d_bad hkL (by omega) (fun t => hdg t.2 t.1) (fun t => e3 ⟨t.1, by omega⟩) (by omega))⟩)
end MDOC
