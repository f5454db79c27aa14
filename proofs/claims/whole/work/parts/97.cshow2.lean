/-! ===== the class: shown, of twigs; the call ===== -/
section CS3
variable {m : Mm} {F : Nat → Int} {A : Nat → Int → Int} {k : Int} {Q : Int} {nd : Int → Int → Int} {Fw : Nat → Int} {Aw : Nat → Int → Int} {w : Nat}
theorem sg_0 {t : Int} (h : 0 ≤ t ∧ t ≤ 3) : sgF t = 0 ↔ t = 0 := by
  have hc : t = 0 ∨ t = 1 ∨ t = 2 ∨ t = 3 := by omega
  rcases hc with rfl | rfl | rfl | rfl <;> simp [sgF]
theorem sg_bd {t : Int} (h : 0 ≤ t ∧ t ≤ 3) : 0 ≤ sgF t ∧ sgF t ≤ 127 := by
  have hc : t = 0 ∨ t = 1 ∨ t = 2 ∨ t = 3 := by omega
  rcases hc with rfl | rfl | rfl | rfl <;> simp [sgF]
theorem Y_twig (hl : 87 < m.length) (hwm : w + 6 < 87) (ht : At m w (o5 w Fw Aw)) (hW : WR Fw Aw Q nd) (hQ : 1 ≤ Q) (h : WS k [] F) (k0 : 0 ≤ k) (k1 : k < 2147483648) : Ok (f_X6_writeTwig (ov m 87 (o6 87 F A)) 87 w) (fun m' => ∃ F', m' = ov m 87 (o6 87 F' A) ∧ WS k (shW Q nd) F') := by
  have hF := hW.1
  have hww := hW.2.1
  have hwl := lw_wl hww hQ
  have h6 := hww.2.1
  have htx : ∀ F', At (ov m 87 (o6 87 F' A)) w (o5 w Fw Aw) := fun F' => ht.keep (fun off h => o6_N off h) (fun off h => o5_N off h) (by omega)
  unfold f_X6_writeTwig
  refine Ok.bind (P := fun m' => ∃ F', m' = ov m 87 (o6 87 F' A) ∧ WS k (shW Q nd) F') ?_ (fun _ h => Ok.pure h)
  refine Ok.whl (fun j s => ∃ q F', s = (I q, ov m 87 (o6 87 F' A)) ∧ 0 ≤ q ∧ q ≤ Q ∧ j = (Q - q).toNat ∧ WS k (sW nd q.toNat ++ gpW Q nd q) F') _ (j := (Q - 0).toNat) ?_ ⟨0, F, rfl, by omega, by omega, rfl, h⟩ (FU_lt (by omega))
  rintro j s ⟨q, F1, rfl, q0, q1, rfl, h1⟩
  dsimp only
  unfold f_X6_writeTwig_L2
  have hx1 := htx F1
  by_cases d1 : Q ≤ q
  · simp (disch := omega) only [a5_g0 hx1, hF, I_add, I_sub, I_mul, I_neg, I_lt, I_le, I_eq, if_pos d1, Option.bind_some]
    refine Ok.pure (Or.inr ⟨_, rfl, F1, rfl, ?_⟩)
    have he : q = Q := by omega
    subst he
    unfold gpW at h1
    rw [if_neg (show ¬ q = 0 by omega), if_neg (show ¬ q < q by omega)] at h1
    exact h1
  · obtain ⟨r1, r2, r3, r4, r5, r6⟩ := hW.2.2 q q0 (by omega)
    obtain ⟨t0, t1, t2, t3, t4, -⟩ := hww.2.2 q q0 (by omega)
    have hlen := gpW_len hwl q0 (show q ≤ Q by omega)
    obtain ⟨ls, hls⟩ : ∃ ls, ls = sW nd q.toNat ++ gpW Q nd q := ⟨_, rfl⟩
    rw [← hls] at h1 hlen
    have hsg := sg_0 t1
    have hsb := sg_bd t1
    simp (disch := omega) only [a5_g0 hx1, hF, I_add, I_sub, I_mul, I_neg, I_lt, I_le, I_eq, if_neg d1, a5_g5 hx1, a5_l5 hx1, r5, L0, L1, L2, L3, L4, L5, L6, L7, L8, L9, L10, L11, L12, L13, L14, L15, L16, L17, L18, L19, L20, L21, L22, L23, L24, L25, L26, L27, L31, L32, L33, L36, L40, L41, L42, L47, L48, L57, L58, L59, L60, L61, L62, L65, L97, L101, L102, L103, L120, L126, L127, L144, L245, L1023, L1715, o6_cO, Option.bind_some]
    -- the ;
    refine Ok.bind (P := fun m' => ∃ F2, m' = ov m 87 (o6 87 F2 A) ∧ WS k (ls ++ (if nd q 4 = 0 then [] else [59])) F2) ?_ ?_
    · by_cases z : nd q 4 = 0
      · simp (disch := omega) only [if_pos z, List.append_nil]
        exact Ok.pure ⟨F1, rfl, h1⟩
      · rw [if_neg z]
        simp (disch := omega) only [if_neg z]
        exact Ok.bind (Y_put hl h1 k0 k1 (by omega)) (fun m' h' => Ok.pure h')
    rintro m' ⟨F2, rfl, h2⟩
    have hx2 := htx F2
    have l2 : (ls ++ (if nd q 4 = 0 then ([] : List Int) else [59])).length ≤ ls.length + 1 := by
      rw [List.length_append]; split <;> simp
    obtain ⟨ls2, hls2⟩ : ∃ ls2, ls2 = ls ++ (if nd q 4 = 0 then ([] : List Int) else [59]) := ⟨_, rfl⟩
    rw [← hls2] at h2 l2
    simp (disch := omega) only [a5_g4 hx2, a5_l4 hx2, r4, I_add, I_sub, I_mul, I_neg, I_lt, I_le, I_eq, o6_cO, Option.bind_some]
    -- the edge
    refine Ok.bind (P := fun m' => ∃ F3, m' = ov m 87 (o6 87 F3 A) ∧ WS k (ls2 ++ (if nd q 3 = 0 then [] else [if nd q 3 = 1 then 47 else 126])) F3) ?_ ?_
    · by_cases z : nd q 3 = 0
      · simp (disch := omega) only [if_pos z, List.append_nil]
        exact Ok.pure ⟨F2, rfl, h2⟩
      · rw [if_neg z]
        by_cases y : nd q 3 = 1
        · rw [if_pos y]
          simp (disch := omega) only [if_neg z, if_pos y]
          exact Ok.bind (Y_put hl h2 k0 k1 (by omega)) (fun m' h' => Ok.pure h')
        · rw [if_neg y]
          simp (disch := omega) only [if_neg z, if_neg y]
          exact Ok.bind (Y_put hl h2 k0 k1 (by omega)) (fun m' h' => Ok.pure h')
    rintro m' ⟨F3, rfl, h3⟩
    have hx3 := htx F3
    have l3 : (ls2 ++ (if nd q 3 = 0 then ([] : List Int) else [if nd q 3 = 1 then 47 else 126])).length ≤ ls.length + 2 := by
      rw [List.length_append]; split <;> simp <;> omega
    obtain ⟨ls3, hls3⟩ : ∃ ls3, ls3 = ls2 ++ (if nd q 3 = 0 then ([] : List Int) else [if nd q 3 = 1 then 47 else 126]) := ⟨_, rfl⟩
    rw [← hls3] at h3 l3
    simp (disch := omega) only [a5_g1 hx3, a5_l1 hx3, r1, I_add, I_sub, I_mul, I_neg, I_lt, I_le, I_eq, o6_cO, Option.bind_some]
    -- the name
    refine Ok.bind (P := fun v => v = I (if nd q 0 = 6 then 42 else 97 + nd q 0)) ?_ ?_
    · by_cases z : nd q 0 = 6
      · rw [if_pos z]
        simp (disch := omega) only [if_pos z]
        exact Ok.pure rfl
      · rw [if_neg z]
        simp (disch := omega) only [if_neg z]
        exact Ok.pure rfl
    rintro _ rfl
    refine Ok.bind (Y_put hl h3 k0 k1 (by omega)) ?_
    rintro m' ⟨F4, rfl, h4⟩
    have hx4 := htx F4
    have l4 : (ls3 ++ [if nd q 0 = 6 then 42 else 97 + nd q 0]).length ≤ ls.length + 3 := by
      rw [List.length_append]; show _ + 1 ≤ _; omega
    obtain ⟨ls4, hls4⟩ : ∃ ls4, ls4 = ls3 ++ [if nd q 0 = 6 then 42 else 97 + nd q 0] := ⟨_, rfl⟩
    rw [← hls4] at h4 l4
    simp (disch := omega) only [a5_g2 hx4, a5_l2 hx4, r2, I_add, I_sub, I_mul, I_neg, I_lt, I_le, I_eq, o6_cO, Option.bind_some]
    -- the test
    refine Ok.bind (P := fun m' => ∃ F5, m' = ov m 87 (o6 87 F5 A) ∧ WS k (sW nd (q + 1).toNat) F5) ?_ ?_
    · have hst : sW nd (q + 1).toNat = ls4 ++ (if nd q 1 = 0 then [] else [sgF (nd q 1), 48 + nd q 2]) := by
        rw [sW_step q q0 (show q < Q by omega), hls4, hls3, hls2, hls]
        unfold nmW
        simp only [List.append_assoc]
      rw [hst]
      by_cases z : nd q 1 = 0
      · have z' := hsg.mpr z
        rw [if_pos z, List.append_nil]
        simp (disch := omega) only [if_pos z']
        exact Ok.pure ⟨F4, rfl, h4⟩
      · have z' : ¬ sgF (nd q 1) = 0 := fun t => z (hsg.mp t)
        rw [if_neg z]
        simp (disch := omega) only [if_neg z']
        refine Ok.bind (Y_put hl h4 k0 k1 (by omega)) ?_
        rintro m' ⟨F5, rfl, h5⟩
        have hx5 := htx F5
        simp (disch := omega) only [a5_g3 hx5, a5_l3 hx5, r3, I_add, I_sub, I_mul, I_neg, I_lt, I_le, I_eq, o6_cO, Option.bind_some]
        refine Ok.bind (Y_put hl h5 k0 k1 (by rw [List.length_append]; show _ + 1 < _; omega)) ?_
        rintro m' ⟨F6, rfl, h6'⟩
        refine Ok.pure ⟨F6, rfl, ?_⟩
        rw [List.append_assoc] at h6'
        exact h6'
    rintro m' ⟨F5, rfl, h5⟩
    have hx5 := htx F5
    have hl5 := sW_len hwl (q + 1).toNat (by omega) (by omega)
    rw [show (((q + 1).toNat : Nat) : Int) = q + 1 by omega, show q + 1 - 1 = q by omega] at hl5
    have hge := hwl.ge q0 (show q < Q by omega)
    simp (disch := omega) only [a5_cO hx5, W_depth hx5 hW, a5_g0 hx5, hF, I_add, I_sub, I_mul, I_neg, I_lt, I_le, I_eq, o6_cO, Option.bind_some]
    by_cases z : Q ≤ q + 1
    · simp (disch := omega) only [if_pos z]
      refine Ok.bind (Y_par (a := lw nd q - 1) (b := 0) hl h5 k0 k1 (by omega) (by omega) (by omega)) ?_
      rintro m' ⟨F6, rfl, h6'⟩
      refine Ok.pure (Or.inl ⟨_, (Q - (q + 1)).toNat, rfl, ⟨q + 1, F6, rfl, by omega, by omega, rfl, ?_⟩, by omega⟩)
      unfold gpW
      rw [if_neg (by omega), if_neg (by omega), show q + 1 - 1 = q by omega, ← prn_sh]
      exact h6'
    · have hge2 := hwl.ge (show 0 ≤ q + 1 by omega) (by omega)
      simp (disch := omega) only [if_neg z, W_depth hx5 hW, Option.bind_some]
      refine Ok.bind (Y_par (a := lw nd q - 1) (b := lw nd (q + 1) - 1) hl h5 k0 k1 (by omega) (by omega) (by omega)) ?_
      rintro m' ⟨F6, rfl, h6'⟩
      refine Ok.pure (Or.inl ⟨_, (Q - (q + 1)).toNat, rfl, ⟨q + 1, F6, rfl, by omega, by omega, rfl, ?_⟩, by omega⟩)
      unfold gpW
      rw [if_neg (by omega), if_pos (by omega), show q + 1 - 1 = q by omega, ← prn_sh]
      exact h6'
end CS3
section CS4
variable {m : Mm} {X : FS}
theorem CI.wrt (h : CI m X) : gR m 0 7 9 = some 87 := by
  obtain ⟨F, A, a1⟩ := h.main
  exact a7_g9 a1
/-- only the writer changes -/
theorem CI.wr (h : CI m X) {F : Nat → Int} {A : Nat → Int → Int} : CI (ov m 87 (o6 87 F A)) X ∧ Fr m (ov m 87 (o6 87 F A)) 0 376 := by
  have hl := h.1
  have hf : Fr m (ov m 87 (o6 87 F A)) 87 88 := Fr.ov (N := 0) (fun off h => o6_N off h)
  refine ⟨h.scr (hf.mono (by omega) (by omega)) ?_, hf.mono (by omega) (by omega)⟩
  obtain ⟨⟨F1, A1, h1⟩, ⟨F2, A2, h2⟩, ⟨F3, A3, h3, h3'⟩, ⟨F4, A4, h4⟩, -⟩ := h.2.2.2.2
  exact ⟨⟨F1, A1, h1.fr (fun off h => o4_N off h) hf (by omega)⟩, ⟨F2, A2, h2.fr (fun off h => o5_N off h) hf (by omega)⟩, ⟨F3, A3, h3.fr (fun off h => o1_N off h) hf (by omega), h3'⟩, ⟨F4, A4, h4.fr (fun off h => o0_N off h) hf (by omega)⟩, F, A, o6_At (by omega)⟩
theorem C_shown (h : CI m X) {i k : Int} (h1 : -2147483648 ≤ i) (h2 : i < 2147483648) (h3 : -2147483648 ≤ k) (h4 : k < 2147483648) : Ok (f_X7_shown m 0 (I i) (I k)) (fun t => t.1 = I (rShown X i k).1 ∧ CI t.2 (rShown X i k).2 ∧ Fr m t.2 0 376) := by
  obtain ⟨Fr0, Ar, hwr⟩ := h.2.2.2.2.2.2.2.2
  have hov := hwr.ov
  have hlm := h.1
  have hst : 0 ≤ k → Ok (f_X6_start m 87 (I k)) (fun m' => ∃ F', m' = ov m 87 (o6 87 F' Ar) ∧ WS k [] F') := by
    intro _
    rw [show f_X6_start m 87 (I k) = f_X6_start (ov m 87 (o6 87 Fr0 Ar)) 87 (I k) by rw [hov]]
    unfold f_X6_start
    simp (disch := omega) only [L0, L1, L2, L3, L4, L5, L6, L7, L8, L9, L10, L11, L12, L13, L14, L15, L16, L17, L18, L19, L20, L21, L22, L23, L24, L25, L26, L27, L31, L32, L33, L36, L40, L41, L42, L47, L48, L57, L58, L59, L60, L61, L62, L65, L97, L101, L102, L103, L120, L126, L127, L144, L245, L1023, L1715, I_add, I_sub, I_mul, I_neg, I_lt, I_le, I_eq, o6_p0, o6_p1, o6_p2, Option.bind_some]
    refine Ok.pure ⟨_, rfl, by rw [upN_ne (by omega), upN_ne (by omega), upN_at], by rw [upN_ne (by omega), upN_at]; rfl, by rw [upN_at]; rfl⟩
  unfold f_X7_shown
  by_cases c1 : i = -1
  · by_cases c2 : 0 ≤ k
    · have hr : rShown X i k = (lk (shT (tn (fS X)) (ttg (fS X)) (tvl (fS X)) (tlv (fS X))) k, X) := by unfold rShown; rw [if_pos c1, if_pos c2]
      rw [hr]
      simp (disch := omega) only [L0, L1, L2, L3, L4, L5, L6, L7, L8, L9, L10, L11, L12, L13, L14, L15, L16, L17, L18, L19, L20, L21, L22, L23, L24, L25, L26, L27, L31, L32, L33, L36, L40, L41, L42, L47, L48, L57, L58, L59, L60, L61, L62, L65, L97, L101, L102, L103, L120, L126, L127, L144, L245, L1023, L1715, I_add, I_sub, I_mul, I_neg, I_lt, I_le, I_eq, Option.bind_some, if_pos, if_neg, if_true, if_false, ite_true, ite_false, h.wrt, a6_cO hwr]
      refine Ok.bind (hst c2) ?_
      rintro m' ⟨F', rfl, hs⟩
      have hw1 := h.wr (F := F') (A := Ar)
      obtain ⟨Ft, At', ht, hT⟩ := h.T
      simp (disch := omega) only [hw1.1.wrt, hw1.1.now, hw1.1.tree, o6_cO, Option.bind_some]
      refine Ok.bind (Y_tree (by omega) ht hT hs c2 h4) ?_
      rintro m' ⟨F2, rfl, hs2⟩
      have hw2 := h.wr (F := F2) (A := Ar)
      simp (disch := omega) only [hw2.1.wrt, o6_g2, Option.bind_some]
      exact Ok.pure ⟨by rw [hs2.2.2], hw2.1, hw2.2⟩
    · have hr : rShown X i k = (-2, incB X (-2)) := by unfold rShown; rw [if_pos c1, if_neg c2]
      rw [hr]
      simp (disch := omega) only [L0, L1, L2, L3, L4, L5, L6, L7, L8, L9, L10, L11, L12, L13, L14, L15, L16, L17, L18, L19, L20, L21, L22, L23, L24, L25, L26, L27, L31, L32, L33, L36, L40, L41, L42, L47, L48, L57, L58, L59, L60, L61, L62, L65, L97, L101, L102, L103, L120, L126, L127, L144, L245, L1023, L1715, I_add, I_sub, I_mul, I_neg, I_lt, I_le, I_eq, Option.bind_some, if_pos, if_neg, if_true, if_false, ite_true, ite_false, h.self]
      exact C_fail h (by omega)
  · have hg : ∀ g : Int, g = 0 ∨ g = 1 → f_X7_twigFault m 0 (I i) (I g) = some (I (if (0 ≤ i ∧ i < 4) ∧ g = 1 then (if tqn (fS X) i = 0 then -3 else 0) else -2)) := fun g hg => C_twigFault h h1 h2 hg
    by_cases c2 : 0 ≤ k
    · by_cases c3 : 0 ≤ i ∧ i < 4
      · obtain ⟨Fw, Aw, hw, hW⟩ := h.W c3.1 c3.2
        have h60 := hW.2.1.1
        have hg1 := hg 1 (Or.inr rfl)
        rw [if_pos (show (0 ≤ i ∧ i < 4) ∧ (1 : Int) = 1 from ⟨c3, rfl⟩)] at hg1
        by_cases c4 : tqn (fS X) i = 0
        · have hr : rShown X i k = (-3, incB X (-3)) := by unfold rShown; rw [if_neg c1, if_pos ⟨c3, c2⟩, if_pos c4]
          rw [hr]
          rw [if_pos c4] at hg1
          simp (disch := omega) only [L0, L1, L2, L3, L4, L5, L6, L7, L8, L9, L10, L11, L12, L13, L14, L15, L16, L17, L18, L19, L20, L21, L22, L23, L24, L25, L26, L27, L31, L32, L33, L36, L40, L41, L42, L47, L48, L57, L58, L59, L60, L61, L62, L65, L97, L101, L102, L103, L120, L126, L127, L144, L245, L1023, L1715, I_add, I_sub, I_mul, I_neg, I_lt, I_le, I_eq, Option.bind_some, if_pos, if_neg, if_true, if_false, ite_true, ite_false, h.self, hg1]
          exact C_fail h (by omega)
        · have hr : rShown X i k = (lk (shW (tqn (fS X) i) (tnd (fS X) i)) k, X) := by unfold rShown; rw [if_neg c1, if_pos ⟨c3, c2⟩, if_neg c4]
          rw [hr]
          rw [if_neg c4] at hg1
          simp (disch := omega) only [L0, L1, L2, L3, L4, L5, L6, L7, L8, L9, L10, L11, L12, L13, L14, L15, L16, L17, L18, L19, L20, L21, L22, L23, L24, L25, L26, L27, L31, L32, L33, L36, L40, L41, L42, L47, L48, L57, L58, L59, L60, L61, L62, L65, L97, L101, L102, L103, L120, L126, L127, L144, L245, L1023, L1715, I_add, I_sub, I_mul, I_neg, I_lt, I_le, I_eq, Option.bind_some, if_pos, if_neg, if_true, if_false, ite_true, ite_false, h.self, hg1, h.wrt, a6_cO hwr]
          refine Ok.bind (hst c2) ?_
          rintro m' ⟨F', rfl, hs⟩
          have hw1 := h.wr (F := F') (A := Ar)
          simp (disch := omega) only [hw1.1.wrt, hw1.1.now, hw1.1.tws, hw1.1.tw, o6_cO, Option.bind_some]
          refine Ok.bind (Y_twig (by omega) (by omega) hw hW (by omega) hs c2 h4) ?_
          rintro m' ⟨F2, rfl, hs2⟩
          have hw2 := h.wr (F := F2) (A := Ar)
          simp (disch := omega) only [hw2.1.wrt, o6_g2, Option.bind_some]
          exact Ok.pure ⟨by rw [hs2.2.2], hw2.1, hw2.2⟩
      · have hr : rShown X i k = (-2, incB X (-2)) := by unfold rShown; rw [if_neg c1, if_neg (fun t => c3 t.1)]
        rw [hr]
        have hg1 := hg 1 (Or.inr rfl)
        rw [if_neg (show ¬ ((0 ≤ i ∧ i < 4) ∧ (1 : Int) = 1) from fun t => c3 t.1)] at hg1
        simp (disch := omega) only [L0, L1, L2, L3, L4, L5, L6, L7, L8, L9, L10, L11, L12, L13, L14, L15, L16, L17, L18, L19, L20, L21, L22, L23, L24, L25, L26, L27, L31, L32, L33, L36, L40, L41, L42, L47, L48, L57, L58, L59, L60, L61, L62, L65, L97, L101, L102, L103, L120, L126, L127, L144, L245, L1023, L1715, I_add, I_sub, I_mul, I_neg, I_lt, I_le, I_eq, Option.bind_some, if_pos, if_neg, if_true, if_false, ite_true, ite_false, h.self, hg1]
        exact C_fail h (by omega)
    · have hr : rShown X i k = (-2, incB X (-2)) := by unfold rShown; rw [if_neg c1, if_neg (fun t => c2 t.2)]
      rw [hr]
      have hg1 := hg 0 (Or.inl rfl)
      rw [if_neg (show ¬ ((0 ≤ i ∧ i < 4) ∧ (0 : Int) = 1) by omega)] at hg1
      simp (disch := omega) only [L0, L1, L2, L3, L4, L5, L6, L7, L8, L9, L10, L11, L12, L13, L14, L15, L16, L17, L18, L19, L20, L21, L22, L23, L24, L25, L26, L27, L31, L32, L33, L36, L40, L41, L42, L47, L48, L57, L58, L59, L60, L61, L62, L65, L97, L101, L102, L103, L120, L126, L127, L144, L245, L1023, L1715, I_add, I_sub, I_mul, I_neg, I_lt, I_le, I_eq, Option.bind_some, if_pos, if_neg, if_true, if_false, ite_true, ite_false, h.self, hg1]
      exact C_fail h (by omega)
end CS4
