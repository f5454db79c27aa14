/-! ===== the reference: twigs, to the end ===== -/
section MTX
variable {m : Mm} {a : Nat} {F F0 : Nat → Int} {A A0 : Nat → Int → Int} {L : Int} {T : Int → Int}
theorem M_rdBranch (hl : a + 25 < m.length) (hX : TX F0 A0 L T) (hQ : RQ F0 A0 F A) {k st op ed n fi : Int} {nd : Int → Int → Int} (h25 : F 25 = k) (k0 : 0 ≤ k) (k1 : k ≤ L) (hD : DW F A n nd) (hI : TI st op ed 0 n nd) (ho : op ≠ -1) (hfi : (fi = 1 ∧ st = 1) ∨ (fi = 0 ∧ wh st)) (hbad : fi = 0 → ¬ (hrF L T k = 59 ∨ hrF L T k = 47 ∨ hrF L T k = 126) → tAt L T k st op ed 0 n nd = .inl (k, 1)) : Ok (f_X8_readsBranch (ov m a (o8 a F A)) a (I op) (I fi)) (fun t => (∃ p r F' A', t = (I 0, ov m a (o8 a F' A')) ∧ RQ F0 A0 F' A' ∧ F' 24 = p ∧ F' 23 = r ∧ 0 ≤ p ∧ p ≤ L ∧ tAt L T k st op ed 0 n nd = .inl (p, r)) ∨ (∃ k' st' ed' nd' F' A', t = (I 1, ov m a (o8 a F' A')) ∧ RQ F0 A0 F' A' ∧ F' 25 = k' ∧ k < k' ∧ k' ≤ L ∧ tAt L T k st op ed 0 n nd = tAt L T k' st' op ed' 0 (n + 1) nd' ∧ TI st' op ed' 0 (n + 1) nd' ∧ DW F' A' (n + 1) nd' ∧ (st' = 3 ∨ st' = 4) ∧ (st' = 3 → ¬ sgC (hrF L T k')) ∧ F' 23 = F 23)) := by
  have hXc := hX.rq hQ
  have hh0 := N_here hl hXc h25 k0 k1
  have hb0 := hr_bd hXc.2.2.2 k0
  unfold f_X8_readsBranch
  refine Ok.bind (P := fun t1 => ∃ od' k2 st2 F', t1 = (I od', ov m a (o8 a F' A)) ∧ RQ F0 A0 F' A ∧ F' 25 = k2 ∧ k ≤ k2 ∧ k2 ≤ L ∧ tAt L T k st op ed 0 n nd = tAt L T k2 st2 op ed od' n nd ∧ TI st2 op ed od' n nd ∧ (st2 = 1 ∨ wh st2) ∧ DW F' A n nd ∧ F' 23 = F 23 ∧ (¬ (hrF L T k2 = 47 ∨ hrF L T k2 = 126) → tAt L T k2 st2 op ed od' n nd = .inl (k2, 1))) ?_ ?_
  · rcases hfi with ⟨rfl, hst⟩ | ⟨rfl, hst⟩
    · simp (disch := omega) only [L0, L1, L2, L3, L4, L5, L6, L7, L8, L9, L10, L11, L12, L13, L14, L15, L16, L17, L18, L19, L20, L21, L22, L23, L24, L25, L26, L27, L31, L32, L33, L36, L40, L41, L42, L47, L48, L57, L58, L59, L60, L61, L62, L65, L97, L101, L102, L103, L120, L126, L127, L144, L245, L1023, L1715, I_add, I_sub, I_mul, I_neg, I_lt, I_le, I_eq, Option.bind_some, if_pos, if_neg, if_true, if_false, ite_true, ite_false]
      exact Ok.pure ⟨0, k, st, F, rfl, hQ, h25, Int.le_refl _, k1, rfl, hI, Or.inl hst, hD, rfl, by rw [hst]; exact t_bad1 k1⟩
    · by_cases z : hrF L T k = 59
      · have hkL : k < L := by
          by_cases y : k < L
          · exact y
          · have : hrF L T k = -1 := if_neg y
            omega
        have hTk : hrF L T k = T k := if_pos hkL
        simp (disch := omega) only [L0, L1, L2, L3, L4, L5, L6, L7, L8, L9, L10, L11, L12, L13, L14, L15, L16, L17, L18, L19, L20, L21, L22, L23, L24, L25, L26, L27, L31, L32, L33, L36, L40, L41, L42, L47, L48, L57, L58, L59, L60, L61, L62, L65, L97, L101, L102, L103, L120, L126, L127, L144, L245, L1023, L1715, I_add, I_sub, I_mul, I_neg, I_lt, I_le, I_eq, Option.bind_some, if_pos, if_neg, if_true, if_false, ite_true, ite_false, o8_cO, hh0, o8_g25, h25, o8_p25]
        exact Ok.pure ⟨1, k + 1, 1, _, rfl, hQ.F25, upN_at, by omega, by omega, t_semi hkL (by omega) ho hst, hI.semi ho hst, Or.inl rfl, ⟨by rw [upN_ne (by omega)]; exact hD.1, hD.2⟩, by rw [upN_ne (by omega)], t_bad1 (by omega)⟩
      · simp (disch := omega) only [L0, L1, L2, L3, L4, L5, L6, L7, L8, L9, L10, L11, L12, L13, L14, L15, L16, L17, L18, L19, L20, L21, L22, L23, L24, L25, L26, L27, L31, L32, L33, L36, L40, L41, L42, L47, L48, L57, L58, L59, L60, L61, L62, L65, L97, L101, L102, L103, L120, L126, L127, L144, L245, L1023, L1715, I_add, I_sub, I_mul, I_neg, I_lt, I_le, I_eq, Option.bind_some, if_pos, if_neg, if_true, if_false, ite_true, ite_false, o8_cO, hh0]
        exact Ok.pure ⟨0, k, st, F, rfl, hQ, h25, Int.le_refl _, k1, rfl, hI, Or.inr hst, hD, rfl, fun y => hbad rfl (fun t => t.elim z y)⟩
  · rintro t1 ⟨od', k2, st2, F', rfl, hQ2, h252, k3, k4, hR2, hI2, hs2, hD2, h232, hb2⟩
    dsimp only
    have hX2 := hX.rq hQ2
    have hh2 := N_here hl hX2 h252 (by omega) k4
    have hbb := hr_bd hX2.2.2.2 (show 0 ≤ k2 by omega)
    obtain ⟨b1, b2, b3, b4, b5, b6, b7, b8, b9, b10, b11, b12⟩ := hI2.bd
    by_cases cE : hrF L T k2 = 47 ∨ hrF L T k2 = 126
    · have hkL : k2 < L := by
        by_cases y : k2 < L
        · exact y
        · have : hrF L T k2 = -1 := if_neg y
          omega
      have hTk : hrF L T k2 = T k2 := if_pos hkL
      suffices hs : Ok (f_X8_readsBranch_J51 (ov m a (o8 a F' A)) a (I op) (I od')) (fun t => (∃ p r F' A', t = (I 0, ov m a (o8 a F' A')) ∧ RQ F0 A0 F' A' ∧ F' 24 = p ∧ F' 23 = r ∧ 0 ≤ p ∧ p ≤ L ∧ tAt L T k st op ed 0 n nd = .inl (p, r)) ∨ (∃ k' st' ed' nd' F' A', t = (I 1, ov m a (o8 a F' A')) ∧ RQ F0 A0 F' A' ∧ F' 25 = k' ∧ k < k' ∧ k' ≤ L ∧ tAt L T k st op ed 0 n nd = tAt L T k' st' op ed' 0 (n + 1) nd' ∧ TI st' op ed' 0 (n + 1) nd' ∧ DW F' A' (n + 1) nd' ∧ (st' = 3 ∨ st' = 4) ∧ (st' = 3 → ¬ sgC (hrF L T k')) ∧ F' 23 = F 23)) by
        rcases cE with z | z
        · simp (disch := omega) only [L0, L1, L2, L3, L4, L5, L6, L7, L8, L9, L10, L11, L12, L13, L14, L15, L16, L17, L18, L19, L20, L21, L22, L23, L24, L25, L26, L27, L31, L32, L33, L36, L40, L41, L42, L47, L48, L57, L58, L59, L60, L61, L62, L65, L97, L101, L102, L103, L120, L126, L127, L144, L245, L1023, L1715, I_add, I_sub, I_mul, I_neg, I_lt, I_le, I_eq, o8_cO, hh2, if_pos z, Option.bind_some]
          exact hs
        · simp (disch := omega) only [L0, L1, L2, L3, L4, L5, L6, L7, L8, L9, L10, L11, L12, L13, L14, L15, L16, L17, L18, L19, L20, L21, L22, L23, L24, L25, L26, L27, L31, L32, L33, L36, L40, L41, L42, L47, L48, L57, L58, L59, L60, L61, L62, L65, L97, L101, L102, L103, L120, L126, L127, L144, L245, L1023, L1715, I_add, I_sub, I_mul, I_neg, I_lt, I_le, I_eq, o8_cO, hh2, if_neg (show ¬ hrF L T k2 = 47 by omega), if_pos z, Option.bind_some]
          exact hs
      unfold f_X8_readsBranch_J51
      rw [hTk] at hh2 cE hbb
      simp (disch := omega) only [o8_cO, hh2, L0, L1, L2, L3, L4, L5, L6, L7, L8, L9, L10, L11, L12, L13, L14, L15, L16, L17, L18, L19, L20, L21, L22, L23, L24, L25, L26, L27, L31, L32, L33, L36, L40, L41, L42, L47, L48, L57, L58, L59, L60, L61, L62, L65, L97, L101, L102, L103, L120, L126, L127, L144, L245, L1023, L1715, I_add, I_sub, I_mul, I_neg, I_lt, I_le, I_eq, Option.bind_some]
      refine Ok.bind (P := fun v => v = I (if T k2 = 47 then 1 else 2)) ?_ ?_
      · by_cases z : T k2 = 47
        · rw [if_pos z, if_pos z]; exact Ok.pure rfl
        · rw [if_neg z, if_neg z]; exact Ok.pure rfl
      rintro _ rfl
      simp (disch := omega) only [o8_g25, h252, I_add, I_sub, I_mul, I_neg, I_lt, I_le, I_eq, o8_p25, o8_cO, Option.bind_some]
      have hed : (if T k2 = 47 then (1 : Int) else 2) = 1 ∨ (if T k2 = 47 then (1 : Int) else 2) = 2 := by split <;> omega
      have hRE := hR2.trans (t_edge hkL cE ho hs2)
      refine Ok.bind (M_rdNode (k := k2 + 1) hl hX hQ2.F25 upN_at (by omega) (by omega) ⟨by rw [upN_ne (by omega)]; exact hD2.1, hD2.2⟩ (hI2.edge hed ho hs2)) ?_
      rintro t14 (⟨p, r, F3, A3, rfl, q1, q2, q3, q4, q5, q6⟩ | ⟨k', st', nd', F3, A3, rfl, q1, q2, q3, q4, q5, q6, q7, q8, q9, q10⟩)
      · dsimp only
        rw [cB0]
        exact Ok.pure (Or.inl ⟨p, r, F3, A3, rfl, q1, q2, q3, q4, q5, hRE.trans q6⟩)
      · dsimp only
        rw [show ∀ x : Option (Int32 × Mm), cB (I 1) x = x from fun x => if_pos (Or.inr rfl)]
        exact Ok.pure (Or.inr ⟨k', st', _, nd', F3, A3, rfl, q1, q2, by omega, q4, hRE.trans q5, q6, q7, q8, q9, by rw [q10, upN_ne (by omega)]; exact h232⟩)
    · simp (disch := omega) only [L0, L1, L2, L3, L4, L5, L6, L7, L8, L9, L10, L11, L12, L13, L14, L15, L16, L17, L18, L19, L20, L21, L22, L23, L24, L25, L26, L27, L31, L32, L33, L36, L40, L41, L42, L47, L48, L57, L58, L59, L60, L61, L62, L65, L97, L101, L102, L103, L120, L126, L127, L144, L245, L1023, L1715, I_add, I_sub, I_mul, I_neg, I_lt, I_le, I_eq, o8_cO, hh2, if_neg (show ¬ hrF L T k2 = 47 by omega), if_neg (show ¬ hrF L T k2 = 126 by omega), M_wrong, cB0, Option.bind_some]
      refine Ok.pure (Or.inl ⟨k2, 1, _, A, rfl, hQ2.F24.F23, ?_, upN_at, by omega, k4, hR2.trans (hb2 cE)⟩)
      rw [upN_ne (by omega), upN_at]; exact h252
abbrev TBad (m : Mm) (a : Nat) (F : Nat → Int) (A : Nat → Int → Int) (L : Int) (T : Int → Int) (M : Mm) : Prop := ∃ p r F' A', M = ov m a (o8 a F' A') ∧ RQ F A F' A' ∧ F' 24 = p ∧ F' 23 = r ∧ 0 ≤ p ∧ p ≤ L ∧ tR0 L T = .inl (p, r)
abbrev TGood (m : Mm) (a : Nat) (F : Nat → Int) (A : Nat → Int → Int) (L : Int) (T : Int → Int) (k st op fi : Int) (M : Mm) : Prop := ∃ ed n nd F' A', M = ov m a (o8 a F' A') ∧ RQ F A F' A' ∧ F' 25 = k ∧ 1 ≤ k ∧ k ≤ L ∧ tR0 L T = tAt L T k st op ed 0 n nd ∧ TI st op ed 0 n nd ∧ DW F' A' n nd ∧ F' 23 = F 23 ∧ ((fi = 1 ∧ st = 1 ∧ op ≠ -1) ∨ (fi = 0 ∧ wh st ∧ (st = 3 → ¬ sgC (hrF L T k)) ∧ (st = 3 ∨ st = 4 → hrF L T k ≠ 40)))
/-- after a node: its branches, or not -/
theorem t_next (hX : TX F A L T) {k st op ed n : Int} {nd : Int → Int → Int} {F' : Nat → Int} {A' : Nat → Int → Int} (hQ : RQ F A F' A') (h25 : F' 25 = k) (k0 : 1 ≤ k) (k1 : k ≤ L) (hR : tR0 L T = tAt L T k st op ed 0 n nd) (hI : TI st op ed 0 n nd) (hD : DW F' A' n nd) (h23 : F' 23 = F 23) (hst : st = 3 ∨ st = 4) (hsg : st = 3 → ¬ sgC (hrF L T k)) : (hrF L T k = 40 → TGood m a F A L T (k + 1) 1 (n - 1) 1 (ov m a (o8 a (upN F' 25 (k + 1)) A')) ∧ k + 1 ≤ L) ∧ (hrF L T k ≠ 40 → TGood m a F A L T k st op 0 (ov m a (o8 a F' A')) ∧ TGood m a F A L T k st op 0 (ov m a (o8 a (upN F' 25 (k + 0)) A'))) := by
  constructor
  · intro z
    have hkL : k < L := by
      by_cases y : k < L
      · exact y
      · have : hrF L T k = -1 := if_neg y
        omega
    have hTk : hrF L T k = T k := if_pos hkL
    have hn := hI.bd.2.2.2.2.2.2.2.2.2.2.1 (by omega)
    exact ⟨⟨ed, n, nd, _, A', rfl, hQ.F25, upN_at, by omega, by omega, hR.trans (t_par hkL (by omega) hst), hI.par hst, ⟨by rw [upN_ne (by omega)]; exact hD.1, hD.2⟩, by rw [upN_ne (by omega)]; exact h23, Or.inl ⟨rfl, rfl, by omega⟩⟩, by omega⟩
  · intro z
    refine ⟨⟨ed, n, nd, F', A', rfl, hQ, h25, k0, k1, hR, hI, hD, h23, Or.inr ⟨rfl, by omega, hsg, fun _ => z⟩⟩, ⟨ed, n, nd, _, A', rfl, hQ.F25, by rw [upN_at]; omega, k0, k1, hR, hI, ⟨by rw [upN_ne (by omega)]; exact hD.1, hD.2⟩, by rw [upN_ne (by omega)]; exact h23, Or.inr ⟨rfl, by omega, hsg, fun _ => z⟩⟩⟩
theorem M_twLoop (hl : a + 25 < m.length) (hX : TX F A L T) {g op fi : Int} {M : Mm} (h : (g = 0 ∧ TBad m a F A L T M) ∨ (g = 1 ∧ ∃ k st, TGood m a F A L T k st op fi M)) : Ok (whl (σ := Int32 × Int32 × Int32 × Mm) (ρ := (Int32 × Mm)) FU (fun t24 => f_X8_readsTwig_L65 t24.2.2.2 a t24.1 t24.2.1 t24.2.2.1) (I g, I op, I fi, M)) (fun t => (t.1 = I 0 ∧ TBad m a F A L T t.2) ∨ (t.1 = I 1 ∧ ∃ k st, TGood m a F A L T k st (-1) 0 t.2)) := by
  have hL0 := hX.2.1
  have hL1 := hX.2.2.1
  suffices hs : ∀ j : Nat, j < FU → ∀ s, ((∃ op fi M, s = (I 0, I op, I fi, M) ∧ TBad m a F A L T M ∧ j = 0) ∨ (∃ k st op fi M, s = (I 1, I op, I fi, M) ∧ TGood m a F A L T k st op fi M ∧ j = (L - k + 1).toNat)) → Ok (whl (σ := Int32 × Int32 × Int32 × Mm) (ρ := (Int32 × Mm)) FU (fun t24 => f_X8_readsTwig_L65 t24.2.2.2 a t24.1 t24.2.1 t24.2.2.1) s) (fun t => (t.1 = I 0 ∧ TBad m a F A L T t.2) ∨ (t.1 = I 1 ∧ ∃ k st, TGood m a F A L T k st (-1) 0 t.2)) by
    rcases h with ⟨rfl, hb⟩ | ⟨rfl, k, st, hg⟩
    · exact hs 0 (FU_lt (by omega)) _ (Or.inl ⟨op, fi, M, rfl, hb, rfl⟩)
    · exact hs (L - k + 1).toNat (FU_lt (by obtain ⟨ed, n, nd, F', A', -, -, -, q1, -⟩ := hg; omega)) _ (Or.inr ⟨k, st, op, fi, M, rfl, hg, rfl⟩)
  clear h
  intro j hj s0 hs0
  refine Ok.whl (fun j s => (∃ op fi M, s = (I 0, I op, I fi, M) ∧ TBad m a F A L T M ∧ j = 0) ∨ (∃ k st op fi M, s = (I 1, I op, I fi, M) ∧ TGood m a F A L T k st op fi M ∧ j = (L - k + 1).toNat)) _ (j := j) ?_ hs0 hj
  rintro j s (⟨op, fi, M, rfl, hb, rfl⟩ | ⟨k, st, op, fi, M, rfl, hg, rfl⟩)
  · dsimp only
    unfold f_X8_readsTwig_L65
    simp (disch := omega) only [L0, L1, L2, L3, L4, L5, L6, L7, L8, L9, L10, L11, L12, L13, L14, L15, L16, L17, L18, L19, L20, L21, L22, L23, L24, L25, L26, L27, L31, L32, L33, L36, L40, L41, L42, L47, L48, L57, L58, L59, L60, L61, L62, L65, L97, L101, L102, L103, L120, L126, L127, L144, L245, L1023, L1715, if_true]
    exact Ok.pure (Or.inr ⟨_, rfl, Or.inl ⟨rfl, hb⟩⟩)
  · dsimp only
    have hg0 := hg
    obtain ⟨ed, n, nd, F', A', rfl, hQ, h25, k0, k1, hR, hI, hD, h23, hfi⟩ := hg
    obtain ⟨b1, b2, b3, b4, b5, b6, b7, b8, b9, b10, b11, b12⟩ := hI.bd
    have hX' := hX.rq hQ
    have hh := N_here hl hX' h25 (by omega) k1
    have hrb := hr_bd hX'.2.2.2 (show 0 ≤ k by omega)
    unfold f_X8_readsTwig_L65
    by_cases hop : op = -1
    · simp (disch := omega) only [L0, L1, L2, L3, L4, L5, L6, L7, L8, L9, L10, L11, L12, L13, L14, L15, L16, L17, L18, L19, L20, L21, L22, L23, L24, L25, L26, L27, L31, L32, L33, L36, L40, L41, L42, L47, L48, L57, L58, L59, L60, L61, L62, L65, L97, L101, L102, L103, L120, L126, L127, L144, L245, L1023, L1715, I_add, I_sub, I_mul, I_neg, I_lt, I_le, I_eq, Option.bind_some, if_pos, if_neg, if_true, if_false, ite_true, ite_false]
      rcases hfi with ⟨-, -, z⟩ | ⟨z1, z2⟩
      · exact absurd hop z
      · subst z1; subst hop
        exact Ok.pure (Or.inr ⟨_, rfl, Or.inr ⟨rfl, k, st, hg0⟩⟩)
    · have hopn := b12 hop
      -- a branch more
      have branch : (fi = 0 → hrF L T k ≠ 41) → Ok (f_X8_readsTwig_J112 (ov m a (o8 a F' A')) a (I op) (I fi)) (fun x => (∃ s' j', x = .inl s' ∧ ((∃ op fi M, s' = (I 0, I op, I fi, M) ∧ TBad m a F A L T M ∧ j' = 0) ∨ (∃ k st op fi M, s' = (I 1, I op, I fi, M) ∧ TGood m a F A L T k st op fi M ∧ j' = (L - k + 1).toNat)) ∧ j' < (L - k + 1).toNat) ∨ (∃ r, x = .inr r ∧ ((r.1 = I 0 ∧ TBad m a F A L T r.2) ∨ (r.1 = I 1 ∧ ∃ k st, TGood m a F A L T k st (-1) 0 r.2)))) := by
        intro h41
        unfold f_X8_readsTwig_J112
        simp (disch := omega) only [o8_cO]
        have hfi' : (fi = 1 ∧ st = 1) ∨ (fi = 0 ∧ wh st) := hfi.elim (fun z => Or.inl ⟨z.1, z.2.1⟩) (fun z => Or.inr ⟨z.1, z.2.1⟩)
        refine Ok.bind (M_rdBranch hl hX hQ h25 (by omega) k1 hD hI hop hfi' (fun z0 zb => ?_)) ?_
        · rcases hfi with ⟨z1, -⟩ | ⟨z1, z2, z3, z4⟩
          · omega
          · have h41' := h41 z1
            by_cases z : k < L
            · have hTk : hrF L T k = T k := if_pos z
              rw [hTk] at zb z3 z4 h41'
              exact t_bad z (by omega) (fun t => z3 t.1 t.2) (by omega) (fun t => z4 t.2 t.1) (by omega) (by omega) (by omega)
            · rw [tAt_e (by omega), if_neg (fun t => hop t.2), show k = L by omega]
        · rintro t4 (⟨p, r, F3, A3, rfl, q1, q2, q3, q4, q5, q6⟩ | ⟨k', st', ed', nd', F3, A3, rfl, q1, q2, q3, q4, q5, q6, q7, q8, q9, q10⟩)
          · dsimp only
            simp (disch := omega) only [L0, L1, L2, L3, L4, L5, L6, L7, L8, L9, L10, L11, L12, L13, L14, L15, L16, L17, L18, L19, L20, L21, L22, L23, L24, L25, L26, L27, L31, L32, L33, L36, L40, L41, L42, L47, L48, L57, L58, L59, L60, L61, L62, L65, L97, L101, L102, L103, L120, L126, L127, L144, L245, L1023, L1715, I_add, I_sub, I_mul, I_neg, I_lt, I_le, I_eq, Option.bind_some, if_pos, if_neg, if_true, if_false, ite_true, ite_false, o8_g25, o8_p25, if_true]
            refine Ok.pure (Or.inl ⟨_, 0, rfl, Or.inl ⟨op, 0, _, rfl, ⟨p, r, _, A3, rfl, q1.F25, by rw [upN_ne (by omega)]; exact q2, by rw [upN_ne (by omega)]; exact q3, q4, q5, hR.trans q6⟩, rfl⟩, by omega⟩)
          · dsimp only
            have hX3 := hX.rq q1
            have hh3 := N_here hl hX3 q2 (by omega) q4
            have hrb3 := hr_bd hX3.2.2.2 (show 0 ≤ k' by omega)
            have hnx := t_next (m := m) (a := a) hX q1 q2 (by omega) q4 (hR.trans q5) q6 q7 (by rw [q10]; exact h23) q8 q9
            have h31 := q7.1
            by_cases z : hrF L T k' = 40
            · simp (disch := omega) only [L0, L1, L2, L3, L4, L5, L6, L7, L8, L9, L10, L11, L12, L13, L14, L15, L16, L17, L18, L19, L20, L21, L22, L23, L24, L25, L26, L27, L31, L32, L33, L36, L40, L41, L42, L47, L48, L57, L58, L59, L60, L61, L62, L65, L97, L101, L102, L103, L120, L126, L127, L144, L245, L1023, L1715, I_add, I_sub, I_mul, I_neg, I_lt, I_le, I_eq, Option.bind_some, if_pos, if_neg, if_true, if_false, ite_true, ite_false, o8_cO, hh3, o8_g31, h31, o8_g25, q2, o8_p25]
              exact Ok.pure (Or.inl ⟨_, (L - (k' + 1) + 1).toNat, rfl, Or.inr ⟨k' + 1, 1, _, 1, _, rfl, (hnx.1 z).1, rfl⟩, by omega⟩)
            · simp (disch := omega) only [L0, L1, L2, L3, L4, L5, L6, L7, L8, L9, L10, L11, L12, L13, L14, L15, L16, L17, L18, L19, L20, L21, L22, L23, L24, L25, L26, L27, L31, L32, L33, L36, L40, L41, L42, L47, L48, L57, L58, L59, L60, L61, L62, L65, L97, L101, L102, L103, L120, L126, L127, L144, L245, L1023, L1715, I_add, I_sub, I_mul, I_neg, I_lt, I_le, I_eq, Option.bind_some, if_pos, if_neg, if_true, if_false, ite_true, ite_false, o8_cO, hh3, o8_g31, h31, o8_g25, q2, o8_p25]
              exact Ok.pure (Or.inl ⟨_, (L - k' + 1).toNat, rfl, Or.inr ⟨k', st', _, 0, _, rfl, (hnx.2 z).2, rfl⟩, by omega⟩)
      rcases hfi with ⟨z1, z2, z3⟩ | ⟨z1, z2, z3, z4⟩
      · have := branch (fun t => by omega)
        clear branch
        simp (disch := omega) only [L0, L1, L2, L3, L4, L5, L6, L7, L8, L9, L10, L11, L12, L13, L14, L15, L16, L17, L18, L19, L20, L21, L22, L23, L24, L25, L26, L27, L31, L32, L33, L36, L40, L41, L42, L47, L48, L57, L58, L59, L60, L61, L62, L65, L97, L101, L102, L103, L120, L126, L127, L144, L245, L1023, L1715, I_add, I_sub, I_mul, I_neg, I_lt, I_le, I_eq, Option.bind_some, if_pos, if_neg, if_true, if_false, ite_true, ite_false]
        exact this
      · by_cases zc : hrF L T k = 41
        · have hkL : k < L := by
            by_cases y : k < L
            · exact y
            · have : hrF L T k = -1 := if_neg y
              omega
          have hTk : hrF L T k = T k := if_pos hkL
          have hp := hD.2 op 5 (by omega) hopn (by omega) (by omega)
          clear branch
          simp (disch := omega) only [L0, L1, L2, L3, L4, L5, L6, L7, L8, L9, L10, L11, L12, L13, L14, L15, L16, L17, L18, L19, L20, L21, L22, L23, L24, L25, L26, L27, L31, L32, L33, L36, L40, L41, L42, L47, L48, L57, L58, L59, L60, L61, L62, L65, L97, L101, L102, L103, L120, L126, L127, L144, L245, L1023, L1715, I_add, I_sub, I_mul, I_neg, I_lt, I_le, I_eq, Option.bind_some, if_pos, if_neg, if_true, if_false, ite_true, ite_false, o8_cO, hh, o8_g25, h25, o8_p25, o8_g30, o8_l24, hp]
          refine Ok.pure (Or.inl ⟨_, (L - (k + 1) + 1).toNat, rfl, Or.inr ⟨k + 1, 5, nd op 5, fi, _, rfl, ⟨ed, n, nd, _, A', rfl, hQ.F25, upN_at, by omega, by omega, hR.trans (t_close hkL (by omega) hop z2), hI.cls hop z2, ⟨by rw [upN_ne (by omega)]; exact hD.1, hD.2⟩, by rw [upN_ne (by omega)]; exact h23, Or.inr ⟨z1, by omega, fun t => by omega, fun t => by omega⟩⟩, rfl⟩, by omega⟩)
        · have := branch (fun _ => zc)
          clear branch
          simp (disch := omega) only [L0, L1, L2, L3, L4, L5, L6, L7, L8, L9, L10, L11, L12, L13, L14, L15, L16, L17, L18, L19, L20, L21, L22, L23, L24, L25, L26, L27, L31, L32, L33, L36, L40, L41, L42, L47, L48, L57, L58, L59, L60, L61, L62, L65, L97, L101, L102, L103, L120, L126, L127, L144, L245, L1023, L1715, I_add, I_sub, I_mul, I_neg, I_lt, I_le, I_eq, o8_cO, hh, if_neg (show ¬ (1 : Int) = 0 by omega), if_neg hop, if_pos z1, if_neg zc, Option.bind_some]
          exact this
/-- the end of a twig, after its branches -/
theorem M_twLast (hl : a + 25 < m.length) (hX : TX F A L T) {op fi g : Int} {M : Mm} (h : ((g = 0 ∧ TBad m a F A L T M) ∨ (g = 1 ∧ ∃ k st, TGood m a F A L T k st op fi M))) : Ok ((whl (σ := Int32 × Int32 × Int32 × Mm) (ρ := (Int32 × Mm)) FU (fun t24 => f_X8_readsTwig_L65 t24.2.2.2 a t24.1 t24.2.1 t24.2.2.1) (I g, I op, I fi, M)).bind fun e25 => (if e25.1 = (0 : Int32) then some ((0 : Int32), e25.2) else (gI e25.2 a 8 25).bind fun v70 => (gI e25.2 a 8 22).bind fun v72 => (if v70 = v72 then some ((1 : Int32), e25.2) else cO e25.2 a 8 <| (f_X8_wrong e25.2 a (1 : Int32)).bind fun t78 => (if t78.1 = (0 : Int32) then some ((0 : Int32), t78.2) else some ((1 : Int32), t78.2))))) (fun t => (t.1 = I 0 ∧ TBad m a F A L T t.2) ∨ (∃ n nd F' A', t = (I 1, ov m a (o8 a F' A')) ∧ RQ F A F' A' ∧ F' 23 = F 23 ∧ tR0 L T = .inr (n, nd) ∧ WW n nd ∧ 1 ≤ n ∧ DW F' A' n nd)) := by
  have hL0 := hX.2.1
  have hL1 := hX.2.2.1
  have hlp := M_twLoop hl hX h
  clear h
  refine Ok.bind hlp ?_
  clear hlp
  rintro ⟨g', M'⟩ (⟨e1, e2⟩ | ⟨e1, k, st, e2⟩)
  · dsimp only at e1 ⊢
    rw [e1]
    simp (disch := omega) only [L0, L1, L2, L3, L4, L5, L6, L7, L8, L9, L10, L11, L12, L13, L14, L15, L16, L17, L18, L19, L20, L21, L22, L23, L24, L25, L26, L27, L31, L32, L33, L36, L40, L41, L42, L47, L48, L57, L58, L59, L60, L61, L62, L65, L97, L101, L102, L103, L120, L126, L127, L144, L245, L1023, L1715, if_true]
    exact Ok.pure (Or.inl ⟨rfl, e2⟩)
  · dsimp only at e1 e2 ⊢
    obtain ⟨ed, n, nd, F2, A2, rfl, hQ, h25, k0, k1, hR, hI, hD, h23, hfi⟩ := e2
    rcases hfi with ⟨z, -⟩ | ⟨-, z2, z3, z4⟩
    · omega
    rw [e1]
    have hX2 := hX.rq hQ
    have h22 := hX2.1
    simp (disch := omega) only [L0, L1, L2, L3, L4, L5, L6, L7, L8, L9, L10, L11, L12, L13, L14, L15, L16, L17, L18, L19, L20, L21, L22, L23, L24, L25, L26, L27, L31, L32, L33, L36, L40, L41, L42, L47, L48, L57, L58, L59, L60, L61, L62, L65, L97, L101, L102, L103, L120, L126, L127, L144, L245, L1023, L1715, I_add, I_sub, I_mul, I_neg, I_lt, I_le, I_eq, Option.bind_some, if_pos, if_neg, if_true, if_false, ite_true, ite_false, o8_g25, o8_g22, h25, h22, Option.bind_some]
    by_cases z : k = L
    · simp only [if_pos z]
      subst z
      rw [tAt_e (Int.le_refl _), if_pos (show wh st ∧ (-1 : Int) = -1 from ⟨z2, rfl⟩)] at hR
      rcases hI with ⟨g1, g2, -⟩ | ⟨g1, g2, -⟩
      · omega
      · exact Ok.pure (Or.inr ⟨n, nd, F2, A2, rfl, hQ, h23, hR, g2, g1, hD⟩)
    · have hkL : k < L := by omega
      have hTk : hrF L T k = T k := if_pos hkL
      rw [hTk] at z3 z4
      simp (disch := omega) only [if_neg z, o8_cO, M_wrong, Option.bind_some, if_true]
      exact Ok.pure (Or.inl ⟨rfl, k, 1, _, A2, rfl, hQ.F24.F23, by rw [upN_ne (by omega), upN_at]; exact h25, upN_at, by omega, k1, hR.trans (t_bad hkL (by omega) (fun t => z3 t.1 t.2) (by omega) (fun t => z4 t.2 t.1) (by omega) (by omega) (by omega))⟩)
theorem M_readsTwig (hl : a + 25 < m.length) (hX : TX F A L T) : Ok (f_X8_readsTwig (ov m a (o8 a F A)) a) (fun t => (t.1 = I 0 ∧ TBad m a F A L T t.2) ∨ (∃ n nd F' A', t = (I 1, ov m a (o8 a F' A')) ∧ RQ F A F' A' ∧ F' 23 = F 23 ∧ tR0 L T = .inr (n, nd) ∧ WW n nd ∧ 1 ≤ n ∧ DW F' A' n nd)) := by
  have hL0 := hX.2.1
  have hL1 := hX.2.2.1
  have rq0 : RQ F A F A := ⟨fun _ _ _ _ _ _ => rfl, fun _ _ _ _ _ => rfl⟩
  have e1 : pI (ov m a (o8 a F A)) a 8 25 (0 : Int32) = some (ov m a (o8 a (upN F 25 0) A)) := by rw [L0]; exact o8_p25 hl
  have e2 : pI (ov m a (o8 a (upN F 25 0) A)) a 8 31 (0 : Int32) = some (ov m a (o8 a (upN (upN F 25 0) 31 0) A)) := by rw [L0]; exact o8_p31 hl
  unfold f_X8_readsTwig
  simp (disch := omega) only [e1, e2, o8_cO, Option.bind_some]
  have hN := M_rdNode (m := m) (k := 0) (n := 0) (nd := n0) (ed := 0) (od := 0) (op := -1) hl hX rq0.F25.F31 (by rw [upN_ne (by omega), upN_at]) (Int.le_refl _) hL0 ⟨upN_at, fun q w q0 q1 => by omega⟩ (Or.inl ⟨rfl, rfl, rfl, rfl, rfl⟩)
  rw [show I (-1) = (-1 : Int32) from rfl, show I 0 = (0 : Int32) from rfl] at hN
  refine Ok.bind hN ?_
  clear hN
  rintro t8 (⟨p, r, F3, A3, rfl, q1, q2, q3, q4, q5, q6⟩ | ⟨k', st', nd', F3, A3, rfl, q1, q2, q3, q4, q5, q6, q7, q8, q9, q10⟩)
  · dsimp only
    refine Ok.bind (P := fun v => v = I (-1)) ?_ ?_
    · simp (disch := omega) only [L0, L1, L2, L3, L4, L5, L6, L7, L8, L9, L10, L11, L12, L13, L14, L15, L16, L17, L18, L19, L20, L21, L22, L23, L24, L25, L26, L27, L31, L32, L33, L36, L40, L41, L42, L47, L48, L57, L58, L59, L60, L61, L62, L65, L97, L101, L102, L103, L120, L126, L127, L144, L245, L1023, L1715, if_true]
      exact Ok.pure rfl
    rintro _ rfl
    refine Ok.bind (P := fun v => v = I 0) ?_ ?_
    · simp (disch := omega) only [L0, L1, L2, L3, L4, L5, L6, L7, L8, L9, L10, L11, L12, L13, L14, L15, L16, L17, L18, L19, L20, L21, L22, L23, L24, L25, L26, L27, L31, L32, L33, L36, L40, L41, L42, L47, L48, L57, L58, L59, L60, L61, L62, L65, L97, L101, L102, L103, L120, L126, L127, L144, L245, L1023, L1715, I_add, I_sub, I_mul, I_neg, I_lt, I_le, I_eq, Option.bind_some, if_pos, if_neg, if_true, if_false, ite_true, ite_false]
      exact Ok.pure rfl
    rintro _ rfl
    simp (disch := omega) only [o8_g25, Option.bind_some]
    refine Ok.bind (P := fun v => v = I 0) ?_ ?_
    · simp (disch := omega) only [L0, L1, L2, L3, L4, L5, L6, L7, L8, L9, L10, L11, L12, L13, L14, L15, L16, L17, L18, L19, L20, L21, L22, L23, L24, L25, L26, L27, L31, L32, L33, L36, L40, L41, L42, L47, L48, L57, L58, L59, L60, L61, L62, L65, L97, L101, L102, L103, L120, L126, L127, L144, L245, L1023, L1715, if_true]
      exact Ok.pure rfl
    rintro _ rfl
    simp (disch := omega) only [I_add, I_sub, I_mul, I_neg, I_lt, I_le, I_eq, o8_p25, Option.bind_some]
    exact M_twLast hl hX (g := 0) (Or.inl ⟨rfl, p, r, _, A3, rfl, q1.F25, by rw [upN_ne (by omega)]; exact q2, by rw [upN_ne (by omega)]; exact q3, q4, q5, q6⟩)
  · dsimp only
    have hX3 := hX.rq q1
    have hh3 := N_here hl hX3 q2 (by omega) q4
    have hrb3 := hr_bd hX3.2.2.2 (show 0 ≤ k' by omega)
    by_cases z : hrF L T k' = 40
    · refine Ok.bind (P := fun v => v = I 0) ?_ ?_
      · simp (disch := omega) only [L0, L1, L2, L3, L4, L5, L6, L7, L8, L9, L10, L11, L12, L13, L14, L15, L16, L17, L18, L19, L20, L21, L22, L23, L24, L25, L26, L27, L31, L32, L33, L36, L40, L41, L42, L47, L48, L57, L58, L59, L60, L61, L62, L65, L97, L101, L102, L103, L120, L126, L127, L144, L245, L1023, L1715, I_add, I_sub, I_mul, I_neg, I_lt, I_le, I_eq, Option.bind_some, if_pos, if_neg, if_true, if_false, ite_true, ite_false, o8_cO, hh3]
        exact Ok.pure rfl
      rintro _ rfl
      refine Ok.bind (P := fun v => v = I 1) ?_ ?_
      · simp (disch := omega) only [L0, L1, L2, L3, L4, L5, L6, L7, L8, L9, L10, L11, L12, L13, L14, L15, L16, L17, L18, L19, L20, L21, L22, L23, L24, L25, L26, L27, L31, L32, L33, L36, L40, L41, L42, L47, L48, L57, L58, L59, L60, L61, L62, L65, L97, L101, L102, L103, L120, L126, L127, L144, L245, L1023, L1715, I_add, I_sub, I_mul, I_neg, I_lt, I_le, I_eq, Option.bind_some, if_pos, if_neg, if_true, if_false, ite_true, ite_false]
        exact Ok.pure rfl
      rintro _ rfl
      simp (disch := omega) only [o8_g25, q2, Option.bind_some]
      refine Ok.bind (P := fun v => v = I 1) ?_ ?_
      · simp (disch := omega) only [L0, L1, L2, L3, L4, L5, L6, L7, L8, L9, L10, L11, L12, L13, L14, L15, L16, L17, L18, L19, L20, L21, L22, L23, L24, L25, L26, L27, L31, L32, L33, L36, L40, L41, L42, L47, L48, L57, L58, L59, L60, L61, L62, L65, L97, L101, L102, L103, L120, L126, L127, L144, L245, L1023, L1715, I_add, I_sub, I_mul, I_neg, I_lt, I_le, I_eq, Option.bind_some, if_pos, if_neg, if_true, if_false, ite_true, ite_false]
        exact Ok.pure rfl
      rintro _ rfl
      simp (disch := omega) only [I_add, I_sub, I_mul, I_neg, I_lt, I_le, I_eq, o8_p25, Option.bind_some]
      have hnx := t_next (m := m) (a := a) hX q1 q2 (by omega) q4 q5 q6 q7 (by rw [q10, upN_ne (by omega), upN_ne (by omega)]) q8 q9
      have hg := (hnx.1 z).1
      exact M_twLast hl hX (g := 1) (Or.inr ⟨rfl, k' + 1, 1, hg⟩)
    · refine Ok.bind (P := fun v => v = I (-1)) ?_ ?_
      · simp (disch := omega) only [L0, L1, L2, L3, L4, L5, L6, L7, L8, L9, L10, L11, L12, L13, L14, L15, L16, L17, L18, L19, L20, L21, L22, L23, L24, L25, L26, L27, L31, L32, L33, L36, L40, L41, L42, L47, L48, L57, L58, L59, L60, L61, L62, L65, L97, L101, L102, L103, L120, L126, L127, L144, L245, L1023, L1715, I_add, I_sub, I_mul, I_neg, I_lt, I_le, I_eq, Option.bind_some, if_pos, if_neg, if_true, if_false, ite_true, ite_false, o8_cO, hh3]
        exact Ok.pure rfl
      rintro _ rfl
      refine Ok.bind (P := fun v => v = I 0) ?_ ?_
      · simp (disch := omega) only [L0, L1, L2, L3, L4, L5, L6, L7, L8, L9, L10, L11, L12, L13, L14, L15, L16, L17, L18, L19, L20, L21, L22, L23, L24, L25, L26, L27, L31, L32, L33, L36, L40, L41, L42, L47, L48, L57, L58, L59, L60, L61, L62, L65, L97, L101, L102, L103, L120, L126, L127, L144, L245, L1023, L1715, I_add, I_sub, I_mul, I_neg, I_lt, I_le, I_eq, Option.bind_some, if_pos, if_neg, if_true, if_false, ite_true, ite_false]
        exact Ok.pure rfl
      rintro _ rfl
      simp (disch := omega) only [o8_g25, q2, Option.bind_some]
      refine Ok.bind (P := fun v => v = I 0) ?_ ?_
      · simp (disch := omega) only [L0, L1, L2, L3, L4, L5, L6, L7, L8, L9, L10, L11, L12, L13, L14, L15, L16, L17, L18, L19, L20, L21, L22, L23, L24, L25, L26, L27, L31, L32, L33, L36, L40, L41, L42, L47, L48, L57, L58, L59, L60, L61, L62, L65, L97, L101, L102, L103, L120, L126, L127, L144, L245, L1023, L1715, if_true]
        exact Ok.pure rfl
      rintro _ rfl
      simp (disch := omega) only [I_add, I_sub, I_mul, I_neg, I_lt, I_le, I_eq, o8_p25, Option.bind_some]
      have hnx := t_next (m := m) (a := a) hX q1 q2 (by omega) q4 q5 q6 q7 (by rw [q10, upN_ne (by omega), upN_ne (by omega)]) q8 q9
      exact M_twLast hl hX (g := 1) (Or.inr ⟨rfl, k', st', (hnx.2 z).2⟩)
end MTX
