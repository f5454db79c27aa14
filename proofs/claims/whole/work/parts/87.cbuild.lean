/-! ===== the class: builds ===== -/
def rBuilds (X : FS) : Int × FS := match dAt (fln X) (ftx X) 0 0 1 0 z0 z0 z0 with
  | .inl (p, r) => (-10 - p, (X.1, X.2.1, X.2.2.1, X.2.2.2.1, X.2.2.2.2.1, r, X.2.2.2.2.2.2))
  | .inr (n, tg, vl, lv) => (n, ((n, tg, vl, lv, tqn (fS X), tnd (fS X)), (pushK X).2))
theorem Ok.and {α : Type} {x : Option α} {P Q : α → Prop} (h1 : Ok x P) (h2 : Ok x Q) : Ok x (fun a => P a ∧ Q a) := by
  obtain ⟨a, e1, p1⟩ := h1
  obtain ⟨b, e2, p2⟩ := h2
  rw [e1] at e2
  obtain rfl := Option.some.inj e2
  exact ⟨a, e1, p1, p2⟩
theorem At.sam2 {m m' : Mm} {b K : Nat} {d : Nat → Option mE} (h : At m b d) (hK : ∀ off, d off ≠ none → off ≤ K) (hs : ∀ k, b ≤ k → k ≤ b + K → m'[k]? = m[k]?) : At m' b d := by
  intro off e he
  have := hK off (by rw [he]; simp)
  rw [hs (b + off) (by omega) (by omega)]
  exact h off e he
section CBD
variable {m : Mm} {X : FS}
theorem C_keepD (h : CI m X) : Ok (f_X7_keep m 0) (fun m' => (CI m' (pushK X) ∧ Fr m m' 0 376) ∧ ∀ k, 1 ≤ k → k < 88 → m'[k]? = m[k]?) := by
  refine (C_keep h).and ?_
  obtain ⟨h1, ⟨F, A, a1, a2, a3, a4, a5, a6, a7, a8, a9, ⟨f, b1, b2⟩, b3, b4⟩, h3, h4, h5⟩ := h
  have hl := a7_len a1
  have hr : lR m 37 2 (I ((F 2 + F 3) % 8)) = some (88 + 36 * ((F 2 + F 3) % 8).toNat) := lR_c b1 (by omega) (by omega) (by omega) (b2 _ (by omega))
  have hsx := b3 ((F 2 + F 3) % 8).toNat (by omega)
  unfold f_X7_keep
  simp (disch := omega) only [L0, L1, L2, L3, L4, L5, L6, L7, L8, L9, L10, L11, L12, L13, L14, L15, L16, L17, L18, L19, L20, L21, L22, L23, L24, L25, L26, L27, L31, L32, L33, L36, L40, L41, L42, L47, L48, L57, L58, L59, L60, L61, L62, L65, L97, L101, L102, L103, L120, L126, L127, L144, L245, L1023, L1715, I_add, I_sub, I_mul, I_neg, I_lt, I_le, I_eq, I_rem8, a7_g0 a1, a7_g1 a1, a7_g2 a1, a7_g3 a1, hr, hsx.1.cO, Option.bind_some, if_pos, if_neg, if_true, if_false, ite_true, ite_false]
  refine Ok.bind (S_copyFrom hsx h3 (by omega)) ?_
  rintro m1 ⟨hs1, hf1⟩
  have a1' := a1.fr (K := 0) (fun off h => o7_N off h) hf1 (by omega)
  have hl' := a7_len a1'
  have hov := a1'.ov
  have fin : ∀ F' : Nat → Int, ∀ k, 1 ≤ k → k < 88 → (ov m1 0 (o7 0 F' A))[k]? = m[k]? := fun F' k k0 k1 => by
    rw [(Fr.ov (m := m1) (N := 0) (fun off h => o7_N off h)).2 k (by omega), hf1.2 k (by omega)]
  rw [← hov]
  by_cases hk : 8 ≤ F 3
  · simp (disch := omega) only [L0, L1, L2, L3, L4, L5, L6, L7, L8, L9, L10, L11, L12, L13, L14, L15, L16, L17, L18, L19, L20, L21, L22, L23, L24, L25, L26, L27, L31, L32, L33, L36, L40, L41, L42, L47, L48, L57, L58, L59, L60, L61, L62, L65, L97, L101, L102, L103, L120, L126, L127, L144, L245, L1023, L1715, I_add, I_sub, I_mul, I_neg, I_lt, I_le, I_eq, o7_g2, o7_g3, o7_p2, I_rem8, Option.bind_some, if_pos, if_neg, if_true, if_false, ite_true, ite_false]
    exact Ok.pure (fin _)
  · simp (disch := omega) only [L0, L1, L2, L3, L4, L5, L6, L7, L8, L9, L10, L11, L12, L13, L14, L15, L16, L17, L18, L19, L20, L21, L22, L23, L24, L25, L26, L27, L31, L32, L33, L36, L40, L41, L42, L47, L48, L57, L58, L59, L60, L61, L62, L65, L97, L101, L102, L103, L120, L126, L127, L144, L245, L1023, L1715, I_add, I_sub, I_mul, I_neg, I_lt, I_le, I_eq, o7_g2, o7_g3, o7_p3, I_rem8, Option.bind_some, if_pos, if_neg, if_true, if_false, ite_true, ite_false]
    exact Ok.pure (fin _)
theorem CI.txt (h : CI m X) : gR m 0 7 4 = some 38 := by
  obtain ⟨F, A, a1⟩ := h.main
  exact a7_g4 a1
theorem CI.drW (h : CI m X) : gR m 0 7 6 = some 46 := by
  obtain ⟨F, A, a1⟩ := h.main
  exact a7_g6 a1
/-- only the draft of a tree changes -/
theorem CI.dft (h : CI m X) {F : Nat → Int} {A : Nat → Int → Int} : CI (ov m 40 (o4 40 F A)) X ∧ Fr m (ov m 40 (o4 40 F A)) 0 376 := by
  have hl := h.1
  have hf : Fr m (ov m 40 (o4 40 F A)) 40 46 := Fr.ov (N := 5) (fun off h => o4_N off h)
  refine ⟨h.scr (hf.mono (by omega) (by omega)) ?_, hf.mono (by omega) (by omega)⟩
  obtain ⟨-, ⟨F2, A2, h2⟩, ⟨F3, A3, h3, h3'⟩, ⟨F4, A4, h4⟩, F5, A5, h5⟩ := h.2.2.2.2
  exact ⟨⟨F, A, o4_At (by omega)⟩, ⟨F2, A2, h2.fr (fun off h => o5_N off h) hf (by omega)⟩, ⟨F3, A3, h3.fr (fun off h => o1_N off h) hf (by omega), h3'⟩, ⟨F4, A4, h4.fr (fun off h => o0_N off h) hf (by omega)⟩, F5, A5, h5.fr (fun off h => o6_N off h) hf (by omega)⟩
theorem CI.dfw (h : CI m X) {F : Nat → Int} {A : Nat → Int → Int} : CI (ov m 46 (o5 46 F A)) X ∧ Fr m (ov m 46 (o5 46 F A)) 0 376 := by
  have hl := h.1
  have hf : Fr m (ov m 46 (o5 46 F A)) 46 53 := Fr.ov (N := 6) (fun off h => o5_N off h)
  refine ⟨h.scr (hf.mono (by omega) (by omega)) ?_, hf.mono (by omega) (by omega)⟩
  obtain ⟨⟨F2, A2, h2⟩, -, ⟨F3, A3, h3, h3'⟩, ⟨F4, A4, h4⟩, F5, A5, h5⟩ := h.2.2.2.2
  exact ⟨⟨F2, A2, h2.fr (fun off h => o4_N off h) hf (by omega)⟩, ⟨F, A, o5_At (by omega)⟩, ⟨F3, A3, h3.fr (fun off h => o1_N off h) hf (by omega), h3'⟩, ⟨F4, A4, h4.fr (fun off h => o0_N off h) hf (by omega)⟩, F5, A5, h5.fr (fun off h => o6_N off h) hf (by omega)⟩
/-- only the last reason changes -/
theorem CI.rsn (h : CI m X) {r : Int} {F : Nat → Int} {A : Nat → Int → Int} (ht : At m 38 (o3 38 F A)) (hF : F 1 = fln X) (hT : ∀ k, 0 ≤ k → k < fln X → A 1 k = ftx X k ∧ 0 ≤ ftx X k ∧ ftx X k ≤ 127) : CI (ov m 38 (o3 38 (upN F 2 r) A)) (X.1, X.2.1, X.2.2.1, X.2.2.2.1, X.2.2.2.2.1, r, X.2.2.2.2.2.2) ∧ Fr m (ov m 38 (o3 38 (upN F 2 r) A)) 0 376 := by
  have hl := h.1
  have hf : Fr m (ov m 38 (o3 38 (upN F 2 r) A)) 38 40 := Fr.ov (N := 1) (fun off h => o3_N off h)
  refine ⟨h.newX hf rfl rfl rfl rfl rfl rfl ?_, hf.mono (by omega) (by omega)⟩
  obtain ⟨F2, A2, t1, t2, t3, t4, t5, t6⟩ := h.2.2.2.1
  exact ⟨_, A, o3_At (by omega), by rw [upN_ne (by omega)]; exact hF, t3, t4, upN_at, hT⟩
theorem C_builds (h : CI m X) : Ok (f_X7_builds m 0) (fun t => t.1 = I (rBuilds X).1 ∧ CI t.2 (rBuilds X).2 ∧ Fr m t.2 0 376) := by
  obtain ⟨F3, A3, t1, t2, t3, t4, t5, t6⟩ := h.2.2.2.1
  obtain ⟨F, A, hd⟩ := h.2.2.2.2.1
  unfold f_X7_builds
  simp (disch := omega) only [h.txt, h.drT, a3_cO t1, Option.bind_some]
  refine Ok.bind (X_doc t1 t2 t3 t4 t6 hd) ?_
  rintro t (⟨n, tg, vl, lv, F', A', hR, rfl, hD, hW, hr⟩ | ⟨p, r, F', A', hR, p0, p1, rfl⟩)
  · have hrb : rBuilds X = (n, ((n, tg, vl, lv, tqn (fS X), tnd (fS X)), (pushK X).2)) := by unfold rBuilds; rw [hR]
    rw [hrb]
    have h1 := h.dft (F := F') (A := A')
    have hlm := h.1
    have hd1 : At (ov m 40 (o4 40 F' A')) 40 (o4 40 F' A') := o4_At (by omega)
    dsimp only
    simp (disch := omega) only [L0, L1, L2, L3, L4, L5, L6, L7, L8, L9, L10, L11, L12, L13, L14, L15, L16, L17, L18, L19, L20, L21, L22, L23, L24, L25, L26, L27, L31, L32, L33, L36, L40, L41, L42, L47, L48, L57, L58, L59, L60, L61, L62, L65, L97, L101, L102, L103, L120, L126, L127, L144, L245, L1023, L1715, I_add, I_sub, I_mul, I_neg, I_lt, I_le, I_eq, if_true, h1.1.self]
    refine Ok.bind (C_keepD h1.1) ?_
    rintro m2 ⟨⟨h2, hf2⟩, hs2⟩
    have hd2 : At m2 40 (o4 40 F' A') := hd1.sam2 (fun off h => o4_N off h) (fun k k0 k1 => hs2 k (by omega) (by omega))
    simp (disch := omega) only [h2.drT, a4_cO hd2, Option.bind_some]
    have hl2 := a4_len hd2
    have hlk := T_link (m := m2) (a := 40) (F := F') (A := A') hl2 hD.1 (by
      obtain ⟨w1, w2, w3, w4, w5⟩ := hW
      refine ⟨w1, w2, by rw [(hD.2 0 (by omega) (by omega)).2.2]; exact w3, fun k k0 k1 => ?_, fun k k0 k1 => ?_⟩
      · rw [(hD.2 k (by omega) k1).2.2, (hD.2 (k - 1) (by omega) (by omega)).2.2]; exact w4 k k0 k1
      · rw [(hD.2 k k0 k1).2.2]; exact w5 k k0 k1)
    rw [hd2.ov] at hlk
    refine Ok.bind hlk ?_
    rintro m3 ⟨A'', rfl, hA1, hA2⟩
    have h3 := h2.dft (F := F') (A := A'')
    have hd3 : At (ov m2 40 (o4 40 F' A'')) 40 (o4 40 F' A'') := o4_At hl2
    obtain ⟨Ft, At', ht, hT⟩ := h3.1.T
    have hlt := a4_len ht
    obtain ⟨A4, hcp, hA4⟩ := T_copyFrom (F := Ft) (A := At') hlt hd3 (by omega)
    rw [ht.ov] at hcp
    simp (disch := omega) only [h3.1.now, h3.1.tree, h3.1.drT, a4_cO ht, hcp, Option.bind_some]
    have hn1 := hW.1
    have hn2 := hW.2.1
    have hf4 : Fr (ov m2 40 (o4 40 F' A'')) (ov (ov m2 40 (o4 40 F' A'')) 2 (o4 2 (upN Ft 0 (F' 0)) A4)) 2 8 := Fr.ov (N := 5) (fun off h => o4_N off h)
    have hlv : ∀ j, 0 ≤ j → j < n → A' 3 j = lv j := fun j j0 j1 => (hD.2 j j0 j1).2.2
    have hTR : TR (upN Ft 0 (F' 0)) A4 n tg vl lv := by
      refine ⟨by rw [upN_at]; exact hD.1, hW, fun k k0 k1 => ?_⟩
      obtain ⟨d1, d2, d3⟩ := hD.2 k k0 k1
      obtain ⟨e4, e5⟩ := hA2 k k0 k1
      rw [hA4 1 (by omega) (by omega) k k0 (by omega), hA4 2 (by omega) (by omega) k k0 (by omega), hA4 3 (by omega) (by omega) k k0 (by omega), hA4 4 (by omega) (by omega) k k0 (by omega), hA4 5 (by omega) (by omega) k k0 (by omega), hA1 1 (by omega) (by omega), hA1 2 (by omega) (by omega), hA1 3 (by omega) (by omega), e4, e5]
      refine ⟨d1, d2, d3, prF_congr k0 (fun j j0 j1 => hlv j j0 (by omega)), ?_, hr k k0 k1⟩
      rw [enF_congr k0 k1 hlv]
    have h5 := h3.1.newT hf4 (o4_At (by rw [h3.2.1, hf2.1, h1.2.1]; omega)) hTR
    rw [pushK_S] at h5
    have ht5 : At (ov (ov m2 40 (o4 40 F' A'')) 2 (o4 2 (upN Ft 0 (F' 0)) A4)) 2 (o4 2 (upN Ft 0 (F' 0)) A4) := o4_At (by rw [h3.2.1, hf2.1, h1.2.1]; omega)
    simp (disch := omega) only [h5.now, h5.tree, a4_g0 ht5, upN_at, Option.bind_some]
    exact Ok.pure ⟨by rw [hD.1], h5, ((h1.2.tr hf2).tr h3.2).tr (hf4.mono (by omega) (by omega))⟩
  · have hrb : rBuilds X = (-10 - p, (X.1, X.2.1, X.2.2.1, X.2.2.2.1, X.2.2.2.2.1, r, X.2.2.2.2.2.2)) := by unfold rBuilds; rw [hR]
    rw [hrb]
    have h1 := h.dft (F := F') (A := A')
    have hx : At (ov m 40 (o4 40 F' A')) 38 (o3 38 F3 A3) := t1.keep (fun off h => o4_N off h) (fun off h => o3_N off h) (by omega)
    have h2 := h1.1.rsn (r := r) hx t2 t6
    dsimp only
    simp (disch := omega) only [L0, L1, L2, L3, L4, L5, L6, L7, L8, L9, L10, L11, L12, L13, L14, L15, L16, L17, L18, L19, L20, L21, L22, L23, L24, L25, L26, L27, L31, L32, L33, L36, L40, L41, L42, L47, L48, L57, L58, L59, L60, L61, L62, L65, L97, L101, L102, L103, L120, L126, L127, L144, L245, L1023, L1715, I_add, I_sub, I_mul, I_neg, I_lt, I_le, I_eq, if_neg (show ¬ p = -1 by omega)]
    exact Ok.pure ⟨rfl, h2.1, h1.2.tr h2.2⟩
end CBD
