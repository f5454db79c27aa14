/-! ===== the class: shown ===== -/
section CSH
variable {m : Mm} {F : Nat → Int} {A : Nat → Int → Int} {k : Int} {l : List Int} {n : Int} {tg vl lv : Int → Int} {Q : Int} {nd : Int → Int → Int} {Ft Fw : Nat → Int} {At' Aw : Nat → Int → Int}
theorem WL.ge (h : WL n lv) {e : Int} (e0 : 0 ≤ e) (e1 : e < n) : 1 ≤ lv e ∧ lv e ≤ 10 := by
  have h1 := h.2.2.2.2 e e0 e1
  by_cases z : e = 0
  · rw [z] at h1 ⊢; have := h.2.2.1; omega
  · have := h.2.2.2.1 e (by omega) e1; omega
/-- what stands after e elements, before the next one -/
def gpT (n : Int) (lv : Int → Int) (e : Int) : List Int := if e = 0 then [] else prn (lv (e - 1)) (if e < n then lv e else 1)
theorem sT_step (e : Int) (e0 : 0 ≤ e) (e1 : e < n) : sT tg vl lv (e + 1).toNat = sT tg vl lv e.toNat ++ gpT n lv e ++ nmT tg vl e := by
  rw [show (e + 1).toNat = e.toNat + 1 by omega]
  conv => lhs; unfold sT
  unfold gpT
  rw [show ((e.toNat : Nat) : Int) = e by omega, if_pos e1]
  by_cases z : e = 0
  · rw [if_pos (show e.toNat = 0 by omega), if_pos z]
  · rw [if_neg (show ¬ e.toNat = 0 by omega), if_neg z]
theorem gpT_len (hw : WL n lv) {e : Int} (e0 : 0 ≤ e) (e1 : e ≤ n) : ((sT tg vl lv e.toNat ++ gpT n lv e).length : Int) ≤ 4 * e + 2 := by
  rw [List.length_append]
  unfold gpT
  by_cases z : e = 0
  · rw [if_pos z, show e.toNat = 0 by omega]
    simp only [sT, List.length_nil]
    omega
  · rw [if_neg z]
    have h1 := sT_len (tg := tg) (vl := vl) hw e.toNat (by omega) (by omega)
    rw [show ((e.toNat : Nat) : Int) = e by omega] at h1
    have hg := hw.ge (show 0 ≤ e - 1 by omega) (by omega)
    by_cases y : e < n
    · rw [if_pos y]
      have h2 := prn_len (a := lv (e - 1)) (b := lv e)
      have hg2 := hw.ge e0 y
      by_cases x : lv (e - 1) < lv e
      · rw [if_pos x] at h2; omega
      · rw [if_neg x] at h2; omega
    · rw [if_neg y]
      have h2 := prn_len (a := lv (e - 1)) (b := 1)
      rw [if_neg (by omega)] at h2
      omega
theorem Y_tree (hl : 87 < m.length) (ht : At m 2 (o4 2 Ft At')) (hT : TR Ft At' n tg vl lv) (h : WS k [] F) (k0 : 0 ≤ k) (k1 : k < 2147483648) : Ok (f_X6_writeTree (ov m 87 (o6 87 F A)) 87 2) (fun m' => ∃ F', m' = ov m 87 (o6 87 F' A) ∧ WS k (shT n tg vl lv) F') := by
  have hF := hT.1
  have hw := hT.2.1
  have hn1 := hw.1
  have hn2 := hw.2.1
  have htx : ∀ F', At (ov m 87 (o6 87 F' A)) 2 (o4 2 Ft At') := fun F' => ht.keep (fun off h => o6_N off h) (fun off h => o4_N off h) (by omega)
  unfold f_X6_writeTree
  refine Ok.bind (P := fun m' => ∃ F', m' = ov m 87 (o6 87 F' A) ∧ WS k (shT n tg vl lv) F') ?_ (fun _ h => Ok.pure h)
  refine Ok.whl (fun j s => ∃ e F', s = (I e, ov m 87 (o6 87 F' A)) ∧ 0 ≤ e ∧ e ≤ n ∧ j = (n - e).toNat ∧ WS k (sT tg vl lv e.toNat ++ gpT n lv e) F') _ (j := (n - 0).toNat) ?_ ⟨0, F, rfl, by omega, by omega, rfl, h⟩ (FU_lt (by omega))
  rintro j s ⟨e, F1, rfl, e0, e1, rfl, h1⟩
  dsimp only
  unfold f_X6_writeTree_L2
  have hx1 := htx F1
  by_cases d1 : n ≤ e
  · simp (disch := omega) only [a4_g0 hx1, hF, I_add, I_sub, I_mul, I_neg, I_lt, I_le, I_eq, if_pos d1, Option.bind_some]
    refine Ok.pure (Or.inr ⟨_, rfl, F1, rfl, ?_⟩)
    have he : e = n := by omega
    subst he
    unfold gpT at h1
    rw [if_neg (show ¬ e = 0 by omega), if_neg (show ¬ e < e by omega)] at h1
    exact h1
  · obtain ⟨r1, r2, r3, -, -, r6, r7, r8, r9⟩ := hT.2.2 e e0 (by omega)
    have hlen := gpT_len (tg := tg) (vl := vl) hw e0 (by omega)
    have hge := hw.ge e0 (by omega)
    simp (disch := omega) only [a4_g0 hx1, hF, I_add, I_sub, I_mul, I_neg, I_lt, I_le, I_eq, if_neg d1, a4_g1 hx1, a4_l1 hx1, r1, L0, L1, L2, L3, L4, L5, L6, L7, L8, L9, L10, L11, L12, L13, L14, L15, L16, L17, L18, L19, L20, L21, L22, L23, L24, L25, L26, L27, L31, L32, L33, L36, L40, L41, L42, L47, L48, L57, L58, L59, L60, L61, L62, L65, L97, L101, L102, L103, L120, L126, L127, L144, L245, L1023, L1715, o6_cO, Option.bind_some]
    refine Ok.bind (Y_put (c := 97 + tg e) hl h1 k0 k1 (by omega)) ?_
    rintro m' ⟨F2, rfl, h2⟩
    have hx2 := htx F2
    simp (disch := omega) only [a4_g2 hx2, a4_l2 hx2, r2, I_add, I_sub, I_mul, I_neg, I_lt, I_le, I_eq, o6_cO, Option.bind_some]
    refine Ok.bind (P := fun m' => ∃ F3, m' = ov m 87 (o6 87 F3 A) ∧ WS k (sT tg vl lv (e + 1).toNat) F3) ?_ ?_
    · rw [sT_step e e0 (show e < n by omega)]
      unfold nmT
      by_cases z : vl e = 0
      · simp (disch := omega) only [if_pos z]
        exact Ok.pure ⟨F2, rfl, h2⟩
      · simp (disch := omega) only [if_neg z]
        refine Ok.bind (Y_put (c := 48 + vl e) hl h2 k0 k1 (by rw [List.length_append]; show _ + 1 < _; omega)) ?_
        rintro m' ⟨F3, rfl, h3⟩
        refine Ok.pure ⟨F3, rfl, ?_⟩
        rw [List.append_assoc] at h3
        exact h3
    · rintro m' ⟨F3, rfl, h3⟩
      have hx3 := htx F3
      have hl3 := sT_len (tg := tg) (vl := vl) hw (e + 1).toNat (by omega) (by omega)
      rw [show (((e + 1).toNat : Nat) : Int) = e + 1 by omega, show e + 1 - 1 = e by omega] at hl3
      simp (disch := omega) only [a4_g3 hx3, a4_l3 hx3, r3, a4_g0 hx3, hF, I_add, I_sub, I_mul, I_neg, I_lt, I_le, I_eq, o6_cO, Option.bind_some]
      by_cases z : n ≤ e + 1
      · simp (disch := omega) only [if_pos z]
        refine Ok.bind (Y_par (a := lv e) (b := 1) hl h3 k0 k1 (by omega) (by omega) (by omega)) ?_
        rintro m' ⟨F4, rfl, h4⟩
        refine Ok.pure (Or.inl ⟨_, (n - (e + 1)).toNat, rfl, ⟨e + 1, F4, rfl, by omega, by omega, rfl, ?_⟩, by omega⟩)
        unfold gpT
        rw [if_neg (by omega), if_neg (by omega), show e + 1 - 1 = e by omega]
        exact h4
      · have hge2 := hw.ge (show 0 ≤ e + 1 by omega) (by omega)
        have r3' := (hT.2.2 (e + 1) (by omega) (by omega)).2.2.1
        simp (disch := omega) only [if_neg z, a4_l3 hx3, r3', Option.bind_some]
        refine Ok.bind (Y_par (a := lv e) (b := lv (e + 1)) hl h3 k0 k1 (by omega) (by omega) (by omega)) ?_
        rintro m' ⟨F4, rfl, h4⟩
        refine Ok.pure (Or.inl ⟨_, (n - (e + 1)).toNat, rfl, ⟨e + 1, F4, rfl, by omega, by omega, rfl, ?_⟩, by omega⟩)
        unfold gpT
        rw [if_neg (by omega), if_pos (by omega), show e + 1 - 1 = e by omega]
        exact h4
/-- how many nodes lie above q -/
theorem lw_cnt (hw : WW Q nd) : ∀ q, 0 ≤ q → q < Q → Sm (fun c => ind (q < eW Q nd c)) 0 q = lw nd q - 1 := by
  have key : ∀ j : Nat, ∀ q, q.toNat ≤ j → 0 ≤ q → q < Q → Sm (fun c => ind (q < eW Q nd c)) 0 q = lw nd q - 1 := by
    intro j
    induction j with
    | zero =>
      intro q hj q0 q1
      have hq : q = 0 := by omega
      subst hq
      have h5 : nd 0 5 = -1 := by have := hw.ab (q := 0) (by omega) (by omega); omega
      rw [Sm_nil (Int.le_refl _), lw_eq hw q0 q1, h5, lw_m nd (by omega)]
      rfl
    | succ j ih =>
      intro q hj q0 q1
      by_cases z : q = 0
      · exact ih q (by omega) q0 q1
      · have hab := hw.ab q0 q1
        have h5 := ((hw.2.2 q q0 q1).2.2.2.2.2.2.2 (by omega)).2.1
        have hn := eW_nest hw (show 0 < q by omega) q1
        rw [Sm_split (show (0 : Int) ≤ nd q 5 by omega) (show nd q 5 ≤ q by omega), Sm_front (show nd q 5 < q by omega)]
        rw [ind_t hn.1, Sm_zero (lo := nd q 5 + 1) (fun c c0 c1 => ind_f (fun t => by
          have := (eW_ab hw (show 0 ≤ c by omega) (by omega)).1 q c1 t
          omega))]
        rw [Sm_congr (f := fun c => ind (q < eW Q nd c)) (g := fun c => ind (nd q 5 < eW Q nd c)) (lo := 0) (hi := nd q 5) (fun c c0 c1 => ind_congr ⟨fun t => by omega, fun t => by
          have := eW_mono (nd := nd) (show c < Q by omega) (show c ≤ nd q 5 by omega) t
          omega⟩)]
        rw [ih (nd q 5) (by omega) h5 (by omega), lw_eq hw q0 q1]
        omega
  exact fun q => key _ q (Nat.le_refl _)
theorem W_depth {b : Nat} (h : At m b (o5 b Fw Aw)) (hW : WR Fw Aw Q nd) {q : Int} (q0 : 0 ≤ q) (q1 : q < Q) : f_X5_depth m b (I q) = some (I (lw nd q - 1)) := by
  have h6 := hW.2.1.2.1
  rw [← lw_cnt hW.2.1 q q0 q1]
  unfold f_X5_depth
  refine Ok.eq (Ok.bind (P := fun r => r = I (Sm (fun c => ind (q < eW Q nd c)) 0 q)) ?_ (fun r hr => Ok.pure hr))
  refine Ok.whl (fun j s => ∃ c, s = (I (Sm (fun c => ind (q < eW Q nd c)) 0 c), I c) ∧ 0 ≤ c ∧ c ≤ q ∧ j = (q - c).toNat) _ (j := (q - 0).toNat) ?_ ⟨0, by rw [Sm_nil (Int.le_refl _)]; rfl, by omega, by omega, rfl⟩ (FU_lt (by omega))
  rintro j s ⟨c, rfl, c0, c1, rfl⟩
  dsimp only
  unfold f_X5_depth_L4
  by_cases d1 : q ≤ c
  · simp (disch := omega) only [I_add, I_sub, I_mul, I_neg, I_lt, I_le, I_eq, if_pos d1]
    exact Ok.pure (Or.inr ⟨_, rfl, by rw [show c = q by omega]⟩)
  · obtain ⟨w1, w2⟩ := eW_in (nd := nd) (show c < Q by omega)
    simp (disch := omega) only [L0, L1, L2, L3, L4, L5, L6, L7, L8, L9, L10, L11, L12, L13, L14, L15, L16, L17, L18, L19, L20, L21, L22, L23, L24, L25, L26, L27, L31, L32, L33, L36, L40, L41, L42, L47, L48, L57, L58, L59, L60, L61, L62, L65, L97, L101, L102, L103, L120, L126, L127, L144, L245, L1023, L1715, I_add, I_sub, I_mul, I_neg, I_lt, I_le, I_eq, if_neg d1, a5_cO h, W_last h hW, Option.bind_some]
    by_cases z : q < eW Q nd c
    · simp (disch := omega) only [if_neg (show ¬ eW Q nd c - 1 < q by omega)]
      exact Ok.pure (Or.inl ⟨_, (q - (c + 1)).toNat, rfl, ⟨c + 1, by rw [Sm_succ c0, ind_t z], by omega, by omega, rfl⟩, by omega⟩)
    · simp (disch := omega) only [if_pos (show eW Q nd c - 1 < q by omega)]
      exact Ok.pure (Or.inl ⟨_, (q - (c + 1)).toNat, rfl, ⟨c + 1, by rw [Sm_succ c0, ind_f z, Int.add_zero], by omega, by omega, rfl⟩, by omega⟩)
def gpW (Q : Int) (nd : Int → Int → Int) (q : Int) : List Int := if q = 0 then [] else prn (lw nd (q - 1)) (if q < Q then lw nd q else 1)
theorem sW_step (q : Int) (q0 : 0 ≤ q) (q1 : q < Q) : sW nd (q + 1).toNat = sW nd q.toNat ++ gpW Q nd q ++ nmW nd q := by
  rw [show (q + 1).toNat = q.toNat + 1 by omega]
  conv => lhs; unfold sW
  unfold gpW
  rw [show ((q.toNat : Nat) : Int) = q by omega, if_pos q1]
  by_cases z : q = 0
  · rw [if_pos (show q.toNat = 0 by omega), if_pos z]
  · rw [if_neg (show ¬ q.toNat = 0 by omega), if_neg z]
theorem gpW_len (hw : WL Q (lw nd)) {q : Int} (q0 : 0 ≤ q) (q1 : q ≤ Q) : ((sW nd q.toNat ++ gpW Q nd q).length : Int) ≤ 7 * q + 2 := by
  rw [List.length_append]
  unfold gpW
  by_cases z : q = 0
  · rw [if_pos z, show q.toNat = 0 by omega]
    simp only [sW, List.length_nil]
    omega
  · rw [if_neg z]
    have h1 := sW_len hw q.toNat (by omega) (by omega)
    rw [show ((q.toNat : Nat) : Int) = q by omega] at h1
    have hg := hw.ge (show 0 ≤ q - 1 by omega) (by omega)
    by_cases y : q < Q
    · rw [if_pos y]
      have h2 := prn_len (a := lw nd (q - 1)) (b := lw nd q)
      have hg2 := hw.ge q0 y
      by_cases x : lw nd (q - 1) < lw nd q
      · rw [if_pos x] at h2; omega
      · rw [if_neg x] at h2; omega
    · rw [if_neg y]
      have h2 := prn_len (a := lw nd (q - 1)) (b := 1)
      rw [if_neg (by omega)] at h2
      omega
end CSH
