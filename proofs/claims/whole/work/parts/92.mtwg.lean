/-! ===== the reference: twigs ===== -/
/-- the row of what has been read -/
def DW (F : Nat → Int) (A : Nat → Int → Int) (n : Int) (nd : Int → Int → Int) : Prop := F 31 = n ∧ ∀ q w, 0 ≤ q → q < n → 0 ≤ w → w < 6 → A 24 (6 * q + w) = nd q w
section MTW
variable {m : Mm} {a : Nat} {F F0 : Nat → Int} {A A0 : Nat → Int → Int} {L : Int} {T : Int → Int}
theorem t_bad0 {k op ed od n : Int} {nd : Int → Int → Int} (k1 : k ≤ L) (hc : ¬ nmC (hrF L T k)) : tAt L T k 0 op ed od n nd = .inl (k, 1) := by
  by_cases z : k < L
  · have hT : hrF L T k = T k := if_pos z
    rw [hT] at hc
    exact t_bad z (fun t => hc t.2) (by omega) (by omega) (by omega) (by omega) (by omega) (by omega)
  · rw [tAt_e (by omega), if_neg (by omega), show k = L by omega]
theorem t_bad2 {k op ed od n : Int} {nd : Int → Int → Int} (k1 : k ≤ L) (hc : ¬ (48 ≤ hrF L T k ∧ hrF L T k < 58)) : tAt L T k 2 op ed od n nd = .inl (k, 1) := by
  by_cases z : k < L
  · have hT : hrF L T k = T k := if_pos z
    rw [hT] at hc
    exact t_bad z (by omega) (by omega) (fun t => hc t.2) (by omega) (by omega) (by omega) (by omega)
  · rw [tAt_e (by omega), if_neg (by omega), show k = L by omega]
theorem t_bad1 {k op ed od n : Int} {nd : Int → Int → Int} (k1 : k ≤ L) (hc : ¬ (hrF L T k = 47 ∨ hrF L T k = 126)) : tAt L T k 1 op ed od n nd = .inl (k, 1) := by
  by_cases z : k < L
  · have hT : hrF L T k = T k := if_pos z
    rw [hT] at hc
    exact t_bad z (by omega) (by omega) (by omega) (by omega) (fun t => hc t.1) (by omega) (by omega)
  · rw [tAt_e (by omega), if_neg (by omega), show k = L by omega]
/-- six cells of a node -/
def row6 (R : Int → Int) (n t e o p : Int) : Int → Int := upZ (upZ (upZ (upZ (upZ (upZ R (6 * n) t) (6 * n + 1) 0) (6 * n + 2) 0) (6 * n + 3) e) (6 * n + 4) o) (6 * n + 5) p
theorem row6_eq {R : Int → Int} {n t e o p : Int} {nd : Int → Int → Int} (h : ∀ q w, 0 ≤ q → q < n → 0 ≤ w → w < 6 → R (6 * q + w) = nd q w) : ∀ q w, 0 ≤ q → q < n + 1 → 0 ≤ w → w < 6 → row6 R n t e o p (6 * q + w) = upZ nd n (nrow t e o p) q w := by
  intro q w q0 q1 w0 w1
  unfold row6
  by_cases z : q = n
  · subst z
    rw [upZ_at]
    have hw : w = 0 ∨ w = 1 ∨ w = 2 ∨ w = 3 ∨ w = 4 ∨ w = 5 := by omega
    rcases hw with rfl | rfl | rfl | rfl | rfl | rfl
    · rw [upZ_ne (by omega), upZ_ne (by omega), upZ_ne (by omega), upZ_ne (by omega), upZ_ne (by omega), Int.add_zero, upZ_at]; rfl
    · rw [upZ_ne (by omega), upZ_ne (by omega), upZ_ne (by omega), upZ_ne (by omega), upZ_at]; rfl
    · rw [upZ_ne (by omega), upZ_ne (by omega), upZ_ne (by omega), upZ_at]; rfl
    · rw [upZ_ne (by omega), upZ_ne (by omega), upZ_at]; rfl
    · rw [upZ_ne (by omega), upZ_at]; rfl
    · rw [upZ_at]; rfl
  · rw [upZ_ne z, upZ_ne (by omega), upZ_ne (by omega), upZ_ne (by omega), upZ_ne (by omega), upZ_ne (by omega), upZ_ne (by omega)]
    exact h q w q0 (by omega) w0 w1
theorem row6_tst {R : Int → Int} {n x v : Int} {nd : Int → Int → Int} (hx : x = 1 ∨ x = 2) (h : ∀ q w, 0 ≤ q → q < n + 1 → 0 ≤ w → w < 6 → R (6 * q + w) = nd q w) : ∀ q w, 0 ≤ q → q < n + 1 → 0 ≤ w → w < 6 → upZ R (6 * n + x) v (6 * q + w) = upZ nd (n + 1 - 1) (upZ (nd (n + 1 - 1)) x v) q w := by
  intro q w q0 q1 w0 w1
  rw [show n + 1 - 1 = n by omega]
  by_cases z : q = n
  · subst z
    rw [upZ_at]
    by_cases y : w = x
    · rw [y, upZ_at, upZ_at]
    · rw [upZ_ne (by omega), upZ_ne y]; exact h q w q0 q1 w0 w1
  · rw [upZ_ne (by omega), upZ_ne z]; exact h q w q0 q1 w0 w1
theorem M_rdNode (hl : a + 25 < m.length) (hX : TX F0 A0 L T) (hQ : RQ F0 A0 F A) {k op ed od n : Int} {nd : Int → Int → Int} (h25 : F 25 = k) (k0 : 0 ≤ k) (k1 : k ≤ L) (hD : DW F A n nd) (hI : TI 0 op ed od n nd) : Ok (f_X8_readsNode (ov m a (o8 a F A)) a (I ed) (I od) (I op)) (fun t => (∃ p r F' A', t = (I 0, ov m a (o8 a F' A')) ∧ RQ F0 A0 F' A' ∧ F' 24 = p ∧ F' 23 = r ∧ 0 ≤ p ∧ p ≤ L ∧ tAt L T k 0 op ed od n nd = .inl (p, r)) ∨ (∃ k' st' nd' F' A', t = (I 1, ov m a (o8 a F' A')) ∧ RQ F0 A0 F' A' ∧ F' 25 = k' ∧ k < k' ∧ k' ≤ L ∧ tAt L T k 0 op ed od n nd = tAt L T k' st' op ed 0 (n + 1) nd' ∧ TI st' op ed 0 (n + 1) nd' ∧ DW F' A' (n + 1) nd' ∧ (st' = 3 ∨ st' = 4) ∧ (st' = 3 → ¬ sgC (hrF L T k')) ∧ F' 23 = F 23)) := by
  have hXc := hX.rq hQ
  obtain ⟨x1, x2, x3, x4⟩ := id hXc
  have hh0 := N_here hl hXc h25 k0 k1
  have hb0 := hr_bd x4 k0
  obtain ⟨b1, b2, b3, b4, b5, b6, b7, b8, b9, b10, b11, b12⟩ := hI.bd
  have h31 := hD.1
  have hin : f_X8_in (ov m a (o8 a F A)) (I (hrF L T k)) (I 97) (I 102) = some (I (ind (97 ≤ hrF L T k ∧ hrF L T k < 103))) := by
    rw [D_in (by omega) (by omega) (by omega) (by omega) (by omega) (by omega), ind_congr (show (97 ≤ hrF L T k ∧ hrF L T k ≤ 102) ↔ (97 ≤ hrF L T k ∧ hrF L T k < 103) by omega)]
  unfold f_X8_readsNode
  by_cases cN : nmC (hrF L T k)
  · have hkL : k < L := by
      by_cases z : k < L
      · exact z
      · have : hrF L T k = -1 := if_neg z
        omega
    have hTk : hrF L T k = T k := if_pos hkL
    rw [hTk] at hh0 hin cN hb0
    suffices hs : Ok (f_X8_readsNode_J29 (ov m a (o8 a F A)) a (I ed) (I od) (I op)) _ by
      by_cases z : 97 ≤ T k ∧ T k < 103
      · simp (disch := omega) only [o8_cO, hh0, L0, L1, L2, L3, L4, L5, L6, L7, L8, L9, L10, L11, L12, L13, L14, L15, L16, L17, L18, L19, L20, L21, L22, L23, L24, L25, L26, L27, L31, L32, L33, L36, L40, L41, L42, L47, L48, L57, L58, L59, L60, L61, L62, L65, L97, L101, L102, L103, L120, L126, L127, L144, L245, L1023, L1715, hin, ind_t z, I_add, I_sub, I_mul, I_neg, I_lt, I_le, I_eq, Option.bind_some, if_pos, if_neg, if_true, if_false, ite_true, ite_false]
        exact hs
      · simp (disch := omega) only [o8_cO, hh0, L0, L1, L2, L3, L4, L5, L6, L7, L8, L9, L10, L11, L12, L13, L14, L15, L16, L17, L18, L19, L20, L21, L22, L23, L24, L25, L26, L27, L31, L32, L33, L36, L40, L41, L42, L47, L48, L57, L58, L59, L60, L61, L62, L65, L97, L101, L102, L103, L120, L126, L127, L144, L245, L1023, L1715, hin, ind_f z, I_add, I_sub, I_mul, I_neg, I_lt, I_le, I_eq, Option.bind_some, if_pos, if_neg, if_true, if_false, ite_true, ite_false]
        exact hs
    unfold f_X8_readsNode_J29 f_X8_readsNode_J255
    by_cases cn : n = 6
    · simp (disch := omega) only [o8_g31, h31, L0, L1, L2, L3, L4, L5, L6, L7, L8, L9, L10, L11, L12, L13, L14, L15, L16, L17, L18, L19, L20, L21, L22, L23, L24, L25, L26, L27, L31, L32, L33, L36, L40, L41, L42, L47, L48, L57, L58, L59, L60, L61, L62, L65, L97, L101, L102, L103, L120, L126, L127, L144, L245, L1023, L1715, I_add, I_sub, I_mul, I_neg, I_lt, I_le, I_eq, Option.bind_some, if_pos, if_neg, if_true, if_false, ite_true, ite_false, o8_cO, M_wrong, cB0]
      refine Ok.pure (Or.inl ⟨k, 2, _, A, rfl, hQ.F24.F23, ?_, upN_at, k0, k1, t_many hkL cN rfl (by omega)⟩)
      rw [upN_ne (by omega), upN_at]; exact h25
    · have hQ1 : RQ F0 A0 (upN F 25 (k + 1)) (upN A 24 (row6 (A 24) n (tgC (T k)) ed od op)) := (hQ.row (by omega)).F25
      have hX1 := hX.rq hQ1
      have hh1 := N_here hl hX1 (k := k + 1) upN_at (by omega) (by omega)
      have hb1 := hr_bd hX1.2.2.2 (show 0 ≤ k + 1 by omega)
      have htl := t_let (st := 0) (op := op) (ed := ed) (od := od) (n := n) (nd := nd) hkL cN rfl (by omega)
      have hI1 := hI.ltr cN rfl (show n < 6 by omega)
      have hrow := row6_eq (t := tgC (T k)) (e := ed) (o := od) (p := op) hD.2
      have htag : Option.bind (α := Int32) (if I (T k) = (42 : Int32) then some (6 : Int32) else some (I (T k) - (97 : Int32))) = Option.bind (some (I (tgC (T k)))) (β := Int32 × Mm) := by
        congr 1
        unfold tgC
        by_cases z : T k = 42
        · rw [if_pos z]; simp (disch := omega) only [L0, L1, L2, L3, L4, L5, L6, L7, L8, L9, L10, L11, L12, L13, L14, L15, L16, L17, L18, L19, L20, L21, L22, L23, L24, L25, L26, L27, L31, L32, L33, L36, L40, L41, L42, L47, L48, L57, L58, L59, L60, L61, L62, L65, L97, L101, L102, L103, L120, L126, L127, L144, L245, L1023, L1715, I_add, I_sub, I_mul, I_neg, I_lt, I_le, I_eq, Option.bind_some, if_pos, if_neg, if_true, if_false, ite_true, ite_false]
        · rw [if_neg z]; simp (disch := omega) only [L0, L1, L2, L3, L4, L5, L6, L7, L8, L9, L10, L11, L12, L13, L14, L15, L16, L17, L18, L19, L20, L21, L22, L23, L24, L25, L26, L27, L31, L32, L33, L36, L40, L41, L42, L47, L48, L57, L58, L59, L60, L61, L62, L65, L97, L101, L102, L103, L120, L126, L127, L144, L245, L1023, L1715, I_add, I_sub, I_mul, I_neg, I_lt, I_le, I_eq, Option.bind_some, if_pos, if_neg, if_true, if_false, ite_true, ite_false, o8_cO, hh0]
      simp (disch := omega) only [o8_g31, h31, o8_g30, o8_cO, hh0, Option.bind_some]
      rw [if_neg (show ¬ (I n = (6 : Int32)) by rw [L6, I_eq (by omega) (by omega) (by omega) (by omega)]; exact cn), htag]
      simp (disch := omega) only [L0, L1, L2, L3, L4, L5, L6, L7, L8, L9, L10, L11, L12, L13, L14, L15, L16, L17, L18, L19, L20, L21, L22, L23, L24, L25, L26, L27, L31, L32, L33, L36, L40, L41, L42, L47, L48, L57, L58, L59, L60, L61, L62, L65, L97, L101, L102, L103, L120, L126, L127, L144, L245, L1023, L1715, I_add, I_sub, I_mul, I_neg, I_lt, I_le, I_eq, Option.bind_some, o8_g30, o8_s24, upN_at, upN_upN]
      rw [show upZ (upZ (upZ (upZ (upZ (upZ (A 24) (6 * n) (tgC (T k))) (6 * n + 1) 0) (6 * n + 2) 0) (6 * n + 3) ed) (6 * n + 4) od) (6 * n + 5) op = row6 (A 24) n (tgC (T k)) ed od op from rfl]
      simp (disch := omega) only [o8_g25, h25, I_add, I_sub, I_mul, I_neg, I_lt, I_le, I_eq, o8_p25, o8_cO, hh1, Option.bind_some]
      have f31 : upN F 25 (k + 1) 31 = n := by rw [upN_ne (by omega)]; exact h31
      by_cases cS : sgC (hrF L T (k + 1))
      · have hkL1 : k + 1 < L := by
          by_cases z : k + 1 < L
          · exact z
          · have : hrF L T (k + 1) = -1 := if_neg z
            omega
        have hTk1 : hrF L T (k + 1) = T (k + 1) := if_pos hkL1
        rw [hTk1] at cS hb1 ⊢
        have hQ2 : RQ F0 A0 (upN F 25 (k + 1 + 1)) (upN A 24 (row6 (A 24) n (tgC (T k)) ed od op)) := (hQ.row (by omega)).F25
        have hX2 := hX.rq hQ2
        have hh2 := N_here hl hX2 (k := k + 1 + 1) upN_at (by omega) (by omega)
        have hb2 := hr_bd hX2.2.2.2 (show 0 ≤ k + 1 + 1 by omega)
        have hin2 : f_X8_in (ov m a (o8 a (upN F 25 (k + 1 + 1)) (upN A 24 (row6 (A 24) n (tgC (T k)) ed od op)))) (I (hrF L T (k + 1 + 1))) (I 48) (I 57) = some (I (ind (48 ≤ hrF L T (k + 1 + 1) ∧ hrF L T (k + 1 + 1) < 58))) := by
          rw [D_in (by omega) (by omega) (by omega) (by omega) (by omega) (by omega), ind_congr (show (48 ≤ hrF L T (k + 1 + 1) ∧ hrF L T (k + 1 + 1) ≤ 57) ↔ (48 ≤ hrF L T (k + 1 + 1) ∧ hrF L T (k + 1 + 1) < 58) by omega)]
        have hts := htl.trans (t_sign hkL1 cS rfl)
        have hI2 := hI1.sign cS rfl
        refine Ok.bind (P := fun v => v = I (ttC (T (k + 1)))) ?_ ?_
        · unfold ttC
          rcases cS with z | z | z
          · rw [if_pos z]
            simp (disch := omega) only [I_add, I_sub, I_mul, I_neg, I_lt, I_le, I_eq, Option.bind_some, if_pos, if_neg, if_true, if_false, ite_true, ite_false]
            exact Ok.pure rfl
          · rw [if_neg (by omega), if_pos z]
            simp (disch := omega) only [I_add, I_sub, I_mul, I_neg, I_lt, I_le, I_eq, Option.bind_some, if_pos, if_neg, if_true, if_false, ite_true, ite_false, o8_cO, hh1, hTk1]
            exact Ok.pure rfl
          · rw [if_neg (by omega), if_neg (by omega)]
            simp (disch := omega) only [I_add, I_sub, I_mul, I_neg, I_lt, I_le, I_eq, Option.bind_some, if_pos, if_neg, if_true, if_false, ite_true, ite_false, o8_cO, hh1, hTk1]
            exact Ok.pure rfl
        rintro _ rfl
        have htt : 1 ≤ ttC (T (k + 1)) ∧ ttC (T (k + 1)) ≤ 3 := by
          unfold ttC
          split
          · omega
          · split <;> omega
        by_cases cg : 48 ≤ hrF L T (k + 1 + 1) ∧ hrF L T (k + 1 + 1) < 58
        · have hkL2 : k + 1 + 1 < L := by
            by_cases z : k + 1 + 1 < L
            · exact z
            · have : hrF L T (k + 1 + 1) = -1 := if_neg z
              omega
          have hTk2 : hrF L T (k + 1 + 1) = T (k + 1 + 1) := if_pos hkL2
          rw [hTk2] at cg hh2 hin2 hb2
          have hQ3 : RQ F0 A0 (upN F 25 (k + 1 + 1)) (upN A 24 (upZ (row6 (A 24) n (tgC (T k)) ed od op) (6 * n + 1) (ttC (T (k + 1))))) := (hQ.row (by omega)).F25
          have hX3 := hX.rq hQ3
          have hh3 := N_here hl hX3 (k := k + 1 + 1) upN_at (by omega) (by omega)
          rw [hTk2] at hh3
          simp (disch := omega) only [I_add, I_sub, I_mul, I_neg, I_lt, I_le, I_eq, Option.bind_some, if_pos, if_neg, if_true, if_false, ite_true, ite_false, o8_g25, upN_at, o8_p25, o8_cO, hh2, hin2, ind_t cg, o8_g30, o8_s24, upN_upN, hh3, o8_g31, o8_p31]
          refine Ok.pure (Or.inr ⟨k + 1 + 1 + 1, 4, _, _, _, rfl, (hQ.row (k := 24) (by omega)).F25.F31, by rw [upN_ne (by omega), upN_at], by omega, by omega, hts.trans (t_dig hkL2 cg rfl), hI2.dig cg rfl, ⟨?_, fun q w q0 q1 w0 w1 => ?_⟩, Or.inr rfl, fun z => absurd z (by omega), ?_⟩)
          · rw [upN_at, upN_ne (by omega), h31]
          · rw [upN_at]
            exact row6_tst (Or.inr rfl) (row6_tst (Or.inl rfl) hrow) q w q0 q1 w0 w1
          · rw [upN_ne (by omega), upN_ne (by omega)]
        · simp (disch := omega) only [I_add, I_sub, I_mul, I_neg, I_lt, I_le, I_eq, Option.bind_some, if_pos, if_neg, if_true, if_false, ite_true, ite_false, o8_g25, upN_at, o8_p25, o8_cO, hh2, hin2, ind_f cg, upN_upN, M_wrong, cB0]
          refine Ok.pure (Or.inl ⟨k + 1 + 1, 1, _, _, rfl, hQ2.F24.F23, ?_, upN_at, by omega, by omega, hts.trans (t_bad2 (by omega) cg)⟩)
          rw [upN_ne (by omega), upN_at]
      · refine Ok.bind (P := fun v => v = I 0) ?_ ?_
        · simp (disch := omega) only [I_add, I_sub, I_mul, I_neg, I_lt, I_le, I_eq, Option.bind_some, if_pos, if_neg, if_true, if_false, ite_true, ite_false, o8_cO, hh1]
          exact Ok.pure rfl
        rintro _ rfl
        simp (disch := omega) only [I_add, I_sub, I_mul, I_neg, I_lt, I_le, I_eq, Option.bind_some, if_pos, if_neg, if_true, if_false, ite_true, ite_false, o8_g31, f31, o8_p31]
        refine Ok.pure (Or.inr ⟨k + 1, 3, _, _, _, rfl, hQ1.F31, by rw [upN_ne (by omega), upN_at], by omega, by omega, htl, hI1, ⟨upN_at, fun q w q0 q1 w0 w1 => ?_⟩, Or.inl rfl, fun _ => cS, ?_⟩)
        · rw [upN_at]; exact hrow q w q0 q1 w0 w1
        · rw [upN_ne (by omega), upN_ne (by omega)]
  · simp (disch := omega) only [o8_cO, hh0, L0, L1, L2, L3, L4, L5, L6, L7, L8, L9, L10, L11, L12, L13, L14, L15, L16, L17, L18, L19, L20, L21, L22, L23, L24, L25, L26, L27, L31, L32, L33, L36, L40, L41, L42, L47, L48, L57, L58, L59, L60, L61, L62, L65, L97, L101, L102, L103, L120, L126, L127, L144, L245, L1023, L1715, hin, ind_f (show ¬ (97 ≤ hrF L T k ∧ hrF L T k < 103) by omega), I_add, I_sub, I_mul, I_neg, I_lt, I_le, I_eq, Option.bind_some, if_pos, if_neg, if_true, if_false, ite_true, ite_false, M_wrong, cB0]
    refine Ok.pure (Or.inl ⟨k, 1, _, A, rfl, hQ.F24.F23, ?_, upN_at, k0, k1, t_bad0 k1 cN⟩)
    rw [upN_ne (by omega), upN_at]; exact h25
end MTW
