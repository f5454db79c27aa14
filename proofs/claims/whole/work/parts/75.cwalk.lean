/-! ===== the class: found, ways ===== -/
def SFound (X : FS) (i q : Int) (r : Int32) (X' : FS) : Prop := if (0 ≤ i ∧ i < 4) ∧ 0 ≤ q then (if q < tqn (fS X) i then X' = X ∧ ∃ W P, IsW (tqn (fS X) i) (tnd (fS X) i) (tn (fS X)) (tlv (fS X)) (ftX X i) W ∧ IsPf (tqn (fS X) i) (tnd (fS X) i) (tn (fS X)) (tlv (fS X)) (ftX X i) W 1 P q (q + 1) ∧ r = bs (fun x => P q x ≠ 0) (tn (fS X)).toNat else r = I 0 ∧ X' = incB X (-3)) else r = I 0 ∧ X' = incB X (-2)
def SWays (X : FS) (i q u : Int) (r : Int64) (X' : FS) : Prop := if (0 ≤ i ∧ i < 4) ∧ 0 ≤ q ∧ (u = 0 ∨ u = 1) then (if q < tqn (fS X) i then X' = X ∧ ∃ W P, IsW (tqn (fS X) i) (tnd (fS X) i) (tn (fS X)) (tlv (fS X)) (ftX X i) W ∧ IsPf (tqn (fS X) i) (tnd (fS X) i) (tn (fS X)) (tlv (fS X)) (ftX X i) W u P q (q + 1) ∧ r = J (Sm (fun x => P q x) 0 (tn (fS X))) else r = J (-3) ∧ X' = incB X (-3)) else r = J (-2) ∧ X' = incB X (-2)
section CWK
variable {m : Mm} {F : Nat → Int} {A : Nat → Int → Int} {w : Nat} {n : Int} {tg vl lv : Int → Int} {Q : Int} {nd : Int → Int → Int} {W : Int → Int → Int} {al : Int → Int32} {u : Int}
abbrev pR' (A : Nat → Int → Int) : Int → Int → Int := fun c x => A (24 + c.toNat) x
theorem IsPf.congr {P P' : Int → Int → Int} {q k : Int} (hw : WW Q nd) (hk : k ≤ Q) (h : IsPf Q nd n lv al W u P q k) (he : ∀ c x, 0 ≤ c → (c = 0 ∨ c < k) → P' c x = P c x) : IsPf Q nd n lv al W u P' q k := by
  refine ⟨fun x x0 x1 => ?_, fun c c0 c1 c2 x x0 x1 => ?_⟩
  · rw [he 0 x (Int.le_refl _) (Or.inl rfl)]; exact h.1 x x0 x1
  · rw [he c x (by omega) (by omega), h.2 c c0 c1 c2 x x0 x1]
    obtain ⟨g1, g2, g3⟩ := on_path hw c0 (by omega) c2
    exact Sm_congr (fun e e0 e1 => by rw [he (nd c 5) e g1 (by omega)])
theorem K_walk (K : KX m F w n tg vl lv Q nd) (hI : IsW Q nd n lv al W) {q : Int} (q0 : 0 ≤ q) (q1 : q < Q) (hu : u = 0 ∨ u = 1) (hWA : ∀ c x, 0 ≤ c → c < Q → 0 ≤ x → x < n → A (3 + c.toNat) x = W c x) (hal : ∀ c x, 0 ≤ c → c < Q → 0 ≤ x → x < n → (hb (aR A c) x ↔ hb (al c) x)) : Ok (f_X1_walkPaths (ov m 53 (o1 53 F A)) 53 (I q) (I u)) (fun m' => ∃ A', m' = ov m 53 (o1 53 F A') ∧ IsPf Q nd n lv al W u (pR' A') q (q + 1)) := by
  obtain ⟨Ft, At', hat, hT⟩ := K.T
  obtain ⟨Fw, Aw, haw, hW⟩ := K.W
  have hw := hW.2.1
  have h6 := hW.2.1.2.1
  have hFt := hT.1
  have hn1 := hT.2.1.1
  have hn2 := hT.2.1.2.1
  have hl := K.1
  obtain ⟨t0, ht0⟩ : ∃ t0 : Int → Int, ∀ x, t0 x = ind ((u = 0 ∧ hb (al 0) x) ∨ (u ≠ 0 ∧ W 0 x ≠ 0)) := ⟨_, fun _ => rfl⟩
  unfold f_X1_walkPaths
  refine Ok.bind (P := fun m' => ∃ A', m' = ov m 53 (o1 53 F A') ∧ (∀ x, 0 ≤ x → x < n → A' 24 x = t0 x) ∧ ∀ i, i < 10 → A' i = A i) ?_ ?_
  · refine Ok.whl (fun j s => ∃ e R, s = (I e, ov m 53 (o1 53 F (upN A 24 R))) ∧ 0 ≤ e ∧ e ≤ n ∧ j = (n - e).toNat ∧ ∀ x, 0 ≤ x → x < e → R x = t0 x) _ (j := (n - 0).toNat) ?_ ⟨0, A 24, by rw [upN_self]; rfl, by omega, by omega, rfl, fun x x0 x1 => by omega⟩ (FU_lt (by omega))
    rintro j s ⟨e, R, rfl, e0, e1, rfl, hk⟩
    dsimp only
    have ht := hat (upN A 24 R)
    unfold f_X1_walkPaths_L2
    by_cases d1 : n ≤ e
    · simp (disch := omega) only [K.g0, a4_g0 ht, hFt, I_add, I_sub, I_mul, I_neg, I_lt, I_le, I_eq, if_pos d1, Option.bind_some]
      exact Ok.pure (Or.inr ⟨_, rfl, _, rfl, fun x x0 x1 => by rw [upN_at]; exact hk x x0 (by omega), fun i hi => upN_ne (by omega)⟩)
    · have nxt : ∀ v, v = t0 e → ∃ e' R', ((I (e + 1), ov m 53 (o1 53 F (upN A 24 (upZ R e v)))) : Int32 × Mm) = (I e', ov m 53 (o1 53 F (upN A 24 R'))) ∧ 0 ≤ e' ∧ e' ≤ n ∧ (n - (e + 1)).toNat = (n - e').toNat ∧ ∀ x, 0 ≤ x → x < e' → R' x = t0 x := by
        intro v hv
        refine ⟨e + 1, _, rfl, by omega, by omega, rfl, fun x x0 x1 => ?_⟩
        by_cases z : x = e
        · rw [z, upZ_at]; exact hv
        · rw [upZ_ne z]; exact hk x x0 (by omega)
      have hrow1 : upN A 24 R 1 = A 1 := upN_ne (by omega)
      have hrow3 : upN A 24 R (3 + (0 : Int).toNat) e = W 0 e := by rw [upN_ne (by omega)]; exact hWA 0 e (by omega) (by omega) e0 (by omega)
      have hbd := hI.lt hw hn2 (Int.le_refl _) (show (0 : Int) ≤ 0 by omega) (by omega) e0 (show e < n by omega)
      have hha := hal 0 e (by omega) (by omega) e0 (by omega)
      have hz24 : (24 + (0 : Int).toNat) = 24 := rfl
      rcases hu with rfl | rfl
      · simp (disch := omega) only [K.g0, a4_g0 ht, hFt, L0, L1, L2, L3, L4, L5, L6, L7, L8, L9, L10, L11, L12, L13, L14, L15, L16, L17, L18, L19, L20, L21, L22, L23, L24, L25, L26, L27, L31, L32, L33, L36, L40, L41, L42, L47, L48, L57, L58, L59, L60, L61, L62, L65, L97, L101, L102, L103, L120, L126, L127, L144, L245, L1023, L1715, I_add, I_sub, I_mul, I_neg, I_lt, I_le, I_eq, if_neg d1, if_true, o1_g2, o1_l1, hrow1, C_holds, o1_g6, o1_r23, Option.bind_some]
        by_cases z : hb (aR A 0) e
        · simp (disch := omega) only [ind_t z, I_add, I_sub, I_mul, I_neg, I_lt, I_le, I_eq, Option.bind_some, if_pos, if_neg, if_true, if_false, ite_true, ite_false, J0, J1, J31, J32, J1716, r_sP, hz24, upN_at, upN_upN]
          exact Ok.pure (Or.inl ⟨_, (n - (e + 1)).toNat, rfl, nxt 1 (by rw [ht0, ind_t (Or.inl ⟨rfl, hha.mp z⟩)]), by omega⟩)
        · simp (disch := omega) only [ind_f z, I_add, I_sub, I_mul, I_neg, I_lt, I_le, I_eq, Option.bind_some, if_pos, if_neg, if_true, if_false, ite_true, ite_false, J0, J1, J31, J32, J1716, r_sP, hz24, upN_at, upN_upN]
          exact Ok.pure (Or.inl ⟨_, (n - (e + 1)).toNat, rfl, nxt 0 (by rw [ht0, ind_f (fun y => y.elim (fun y => z (hha.mpr y.2)) (fun y => y.1 rfl))]), by omega⟩)
      · simp (disch := omega) only [K.g0, a4_g0 ht, hFt, L0, L1, L2, L3, L4, L5, L6, L7, L8, L9, L10, L11, L12, L13, L14, L15, L16, L17, L18, L19, L20, L21, L22, L23, L24, L25, L26, L27, L31, L32, L33, L36, L40, L41, L42, L47, L48, L57, L58, L59, L60, L61, L62, L65, L97, L101, L102, L103, L120, L126, L127, L144, L245, L1023, L1715, I_add, I_sub, I_mul, I_neg, I_lt, I_le, I_eq, if_neg d1, o1_g3, o1_r2, r_lW, hrow3, o1_g6, o1_r23, Option.bind_some, Option.bind_some, if_pos, if_neg, if_true, if_false, ite_true, ite_false]
        by_cases z : W 0 e = 0
        · simp (disch := omega) only [z, I_add, I_sub, I_mul, I_neg, I_lt, I_le, I_eq, Option.bind_some, if_pos, if_neg, if_true, if_false, ite_true, ite_false, J0, J1, J31, J32, J1716, if_true, r_sP, hz24, upN_at, upN_upN]
          exact Ok.pure (Or.inl ⟨_, (n - (e + 1)).toNat, rfl, nxt 0 (by rw [ht0, ind_f (fun y => y.elim (fun y => absurd y.1 (by omega)) (fun y => y.2 z))]), by omega⟩)
        · simp only [if_neg (J_ne0 hbd.1 (show W 0 e < 4611686018427387904 by omega) z)]
          simp (disch := omega) only [I_add, I_sub, I_mul, I_neg, I_lt, I_le, I_eq, Option.bind_some, if_pos, if_neg, if_true, if_false, ite_true, ite_false, J0, J1, J31, J32, J1716, r_sP, hz24, upN_at, upN_upN]
          exact Ok.pure (Or.inl ⟨_, (n - (e + 1)).toNat, rfl, nxt 1 (by rw [ht0, ind_t (Or.inr ⟨by omega, z⟩)]), by omega⟩)
  rintro m' ⟨A1, rfl, h24, hi⟩
  refine Ok.bind (P := fun m' => ∃ A', m' = ov m 53 (o1 53 F A') ∧ IsPf Q nd n lv al W u (pR' A') q (q + 1)) ?_ (fun _ h => Ok.pure h)
  refine Ok.whl (fun j s => ∃ c A', s = (I c, ov m 53 (o1 53 F A')) ∧ 1 ≤ c ∧ c ≤ q + 1 ∧ j = (q + 1 - c).toNat ∧ IsPf Q nd n lv al W u (pR' A') q c ∧ ∀ i, i < 10 → A' i = A i) _ (j := (q + 1 - 1).toNat) ?_ ⟨1, A1, rfl, by omega, by omega, rfl, ⟨fun x x0 x1 => (h24 x x0 x1).trans (ht0 x), fun c c0 c1 => by omega⟩, hi⟩ (FU_lt (by omega))
  rintro j s ⟨c, A2, rfl, c0, c1, rfl, hP, hi2⟩
  dsimp only
  unfold f_X1_walkPaths_L76
  by_cases d1 : q < c
  · simp (disch := omega) only [I_add, I_sub, I_mul, I_neg, I_lt, I_le, I_eq, if_pos d1]
    have : c = q + 1 := by omega
    subst this
    exact Ok.pure (Or.inr ⟨_, rfl, A2, rfl, hP⟩)
  · simp (disch := omega) only [L0, L1, L2, L3, L4, L5, L6, L7, L8, L9, L10, L11, L12, L13, L14, L15, L16, L17, L18, L19, L20, L21, L22, L23, L24, L25, L26, L27, L31, L32, L33, L36, L40, L41, L42, L47, L48, L57, L58, L59, L60, L61, L62, L65, L97, L101, L102, L103, L120, L126, L127, L144, L245, L1023, L1715, I_add, I_sub, I_mul, I_neg, I_lt, I_le, I_eq, if_neg d1, K.g1, a5_cO (haw A2), W_last (haw A2) hW, o1_cO, Option.bind_some]
    obtain ⟨w1, w2⟩ := eW_in (nd := nd) (show c < Q by omega)
    by_cases d2 : eW Q nd c - 1 < q
    · simp (disch := omega) only [I_add, I_sub, I_mul, I_neg, I_lt, I_le, I_eq, if_pos d2]
      refine Ok.pure (Or.inl ⟨_, (q + 1 - (c + 1)).toNat, rfl, ⟨c + 1, A2, rfl, by omega, by omega, rfl, ⟨hP.1, fun k k0 k1 k2 => ?_⟩, hi2⟩, by omega⟩)
      by_cases z : k = c
      · subst z; omega
      · exact hP.2 k k0 (by omega) k2
    · simp (disch := omega) only [I_add, I_sub, I_mul, I_neg, I_lt, I_le, I_eq, if_neg d2]
      obtain ⟨g1, g2, g3⟩ := on_path hw (show 0 < c by omega) (by omega) (show q < eW Q nd c by omega)
      refine Ok.bind (K_stepDown (W := W) (al := al) K hI (show 0 < c by omega) (by omega) hu (fun k x k0 k1 x0 x1 => by rw [hi2 _ (by omega)]; exact hWA k x k0 k1 x0 x1) (fun k x k0 k1 x0 x1 => ?_) (fun e e0 e1 => ?_)) ?_
      · rw [← hal k x k0 k1 x0 x1]
        show hb (I (A2 1 k)) x ↔ hb (I (A 1 k)) x
        rw [hi2 1 (by omega)]
      · have := hP.bd hw (by omega) hn2 (nd c 5) e g1 (by omega) (by omega) g3 e0 e1
        have := pow6 (show (nd c 5).toNat ≤ 6 by omega)
        show 0 ≤ pR' A2 (nd c 5) e ∧ pR' A2 (nd c 5) e < _
        omega
      · rintro m' ⟨A3, rfl, hr, hi3⟩
        have hsame : ∀ k x, 0 ≤ k → (k = 0 ∨ k < c) → pR' A3 k x = pR' A2 k x := fun k x k0 k1 => by
          show A3 (24 + k.toNat) x = A2 (24 + k.toNat) x
          rw [hi3 _ (by omega)]
        have hP3 := hP.congr hw (by omega) hsame
        refine Ok.pure (Or.inl ⟨_, (q + 1 - (c + 1)).toNat, rfl, ⟨c + 1, A3, rfl, by omega, by omega, rfl, ⟨hP3.1, fun k k0 k1 k2 x x0 x1 => ?_⟩, fun i hi' => by rw [hi3 i (by omega)]; exact hi2 i hi'⟩, by omega⟩)
        by_cases z : k = c
        · subst z
          show A3 (24 + k.toNat) x = _
          rw [hr x x0 x1]
          exact Sm_congr (fun e e0 e1 => by rw [hsame (nd k 5) e g1 (by omega)])
        · exact hP3.2 k k0 (by omega) k2 x x0 x1
theorem K_reached (K : KX m F w n tg vl lv Q nd) {q : Int} (q0 : 0 ≤ q) (q1 : q < Q) (hP : ∀ x, 0 ≤ x → x < n → 0 ≤ pR' A q x ∧ pR' A q x < 4611686018427387904) : f_X1_reached (ov m 53 (o1 53 F A)) 53 (I q) = some (bs (fun x => pR' A q x ≠ 0) n.toNat) := by
  obtain ⟨Ft, At', hat, hT⟩ := K.T
  obtain ⟨Fw, Aw, haw, hW⟩ := K.W
  have h6 := hW.2.1.2.1
  have hFt := hT.1
  have hn1 := hT.2.1.1
  have hn2 := hT.2.1.2.1
  have hl := K.1
  have ht := hat A
  unfold f_X1_reached
  refine Ok.eq (Ok.bind (P := fun r => r = bs (fun x => pR' A q x ≠ 0) n.toNat) ?_ (fun r hr => Ok.pure hr))
  refine Ok.whl (fun j s => ∃ e, s = (bs (fun x => pR' A q x ≠ 0) e.toNat, I e) ∧ 0 ≤ e ∧ e ≤ n ∧ j = (n - e).toNat) _ (j := (n - 0).toNat) ?_ ⟨0, rfl, by omega, by omega, rfl⟩ (FU_lt (by omega))
  rintro j s ⟨e, rfl, e0, e1, rfl⟩
  dsimp only
  unfold f_X1_reached_L4
  by_cases d1 : n ≤ e
  · simp (disch := omega) only [K.g0, a4_g0 ht, hFt, I_add, I_sub, I_mul, I_neg, I_lt, I_le, I_eq, if_pos d1, Option.bind_some]
    exact Ok.pure (Or.inr ⟨_, rfl, by rw [show e = n by omega]⟩)
  · have hPe := hP e e0 (by omega)
    simp (disch := omega) only [K.g0, a4_g0 ht, hFt, L0, L1, L2, L3, L4, L5, L6, L7, L8, L9, L10, L11, L12, L13, L14, L15, L16, L17, L18, L19, L20, L21, L22, L23, L24, L25, L26, L27, L31, L32, L33, L36, L40, L41, L42, L47, L48, L57, L58, L59, L60, L61, L62, L65, L97, L101, L102, L103, L120, L126, L127, L144, L245, L1023, L1715, I_add, I_sub, I_mul, I_neg, I_lt, I_le, I_eq, if_neg d1, o1_g6, o1_r23, r_lP, Option.bind_some]
    by_cases z : pR' A q e = 0
    · simp (disch := omega) only [show A (24 + q.toNat) e = 0 from z, J0, J1, J31, J32, J1716, if_true]
      exact Ok.pure (Or.inl ⟨_, (n - (e + 1)).toNat, rfl, ⟨e + 1, by rw [bs_f e0 (fun y => y z)], by omega, by omega, rfl⟩, by omega⟩)
    · simp (disch := omega) only [if_neg (J_ne0 (x := A (24 + q.toNat) e) hPe.1 hPe.2 z)]
      exact Ok.pure (Or.inl ⟨_, (n - (e + 1)).toNat, rfl, ⟨e + 1, by rw [bs_t e0 z], by omega, by omega, rfl⟩, by omega⟩)
theorem K_pathsTo (K : KX m F w n tg vl lv Q nd) {q : Int} (q0 : 0 ≤ q) (q1 : q < Q) : f_X1_pathsTo (ov m 53 (o1 53 F A)) 53 (I q) = some (J (Sm (fun x => pR' A q x) 0 n)) := by
  obtain ⟨Ft, At', hat, hT⟩ := K.T
  obtain ⟨Fw, Aw, haw, hW⟩ := K.W
  have h6 := hW.2.1.2.1
  have hFt := hT.1
  have hn1 := hT.2.1.1
  have hn2 := hT.2.1.2.1
  have hl := K.1
  have ht := hat A
  unfold f_X1_pathsTo
  refine Ok.eq (Ok.bind (P := fun r => r = J (Sm (fun x => pR' A q x) 0 n)) ?_ (fun r hr => Ok.pure hr))
  refine Ok.whl (fun j s => ∃ e, s = (J (Sm (fun x => pR' A q x) 0 e), I e) ∧ 0 ≤ e ∧ e ≤ n ∧ j = (n - e).toNat) _ (j := (n - 0).toNat) ?_ ⟨0, by rw [Sm_nil (Int.le_refl _)]; rfl, by omega, by omega, rfl⟩ (FU_lt (by omega))
  rintro j s ⟨e, rfl, e0, e1, rfl⟩
  dsimp only
  unfold f_X1_pathsTo_L5
  by_cases d1 : n ≤ e
  · simp (disch := omega) only [K.g0, a4_g0 ht, hFt, I_add, I_sub, I_mul, I_neg, I_lt, I_le, I_eq, if_pos d1, Option.bind_some]
    exact Ok.pure (Or.inr ⟨_, rfl, by rw [show e = n by omega]⟩)
  · simp (disch := omega) only [K.g0, a4_g0 ht, hFt, L0, L1, L2, L3, L4, L5, L6, L7, L8, L9, L10, L11, L12, L13, L14, L15, L16, L17, L18, L19, L20, L21, L22, L23, L24, L25, L26, L27, L31, L32, L33, L36, L40, L41, L42, L47, L48, L57, L58, L59, L60, L61, L62, L65, L97, L101, L102, L103, L120, L126, L127, L144, L245, L1023, L1715, I_add, I_sub, I_mul, I_neg, I_lt, I_le, I_eq, if_neg d1, o1_g6, o1_r23, r_lP, J_add, Option.bind_some]
    exact Ok.pure (Or.inl ⟨_, (n - (e + 1)).toNat, rfl, ⟨e + 1, by rw [Sm_succ e0], by omega, by omega, rfl⟩, by omega⟩)
end CWK
section CWF
variable {m : Mm} {X : FS}
theorem C_found (h : CI m X) {i q : Int} (h1 : -2147483648 ≤ i) (h2 : i < 2147483648) (h3 : -2147483648 ≤ q) (h4 : q < 2147483648) : Ok (f_X7_found m 0 (I i) (I q)) (fun t => ∃ X', CI t.2 X' ∧ Fr m t.2 0 376 ∧ SFound X i q t.1 X') := by
  unfold f_X7_found
  have hnf := C_nodeFault h h1 h2 h3 h4 (g := 1) (by omega)
  simp only [L1, L0, h.self]
  unfold SFound
  by_cases c : (0 ≤ i ∧ i < 4) ∧ 0 ≤ q
  · simp only [if_pos c]
    rw [if_pos (show (0 ≤ i ∧ i < 4) ∧ 0 ≤ q ∧ (1 : Int) = 1 by omega)] at hnf
    obtain ⟨Fw, Aw, hw, hW⟩ := h.W c.1.1 c.1.2
    obtain ⟨Ft, At', ht, hT⟩ := h.T
    have h6 := hW.2.1.2.1
    have hn1 := hT.2.1.1
    have hn2 := hT.2.1.2.1
    by_cases c3 : q < tqn (fS X) i
    · rw [if_pos c3] at hnf
      simp only [if_pos c3]
      simp (disch := omega) only [hnf, Option.bind_some, if_pos, if_neg, if_true, if_false, ite_true, ite_false, L0, L1, L2, L3, L4, L5, L6, L7, L8, L9, L10, L11, L12, L13, L14, L15, L16, L17, L18, L19, L20, L21, L22, L23, L24, L25, L26, L27, L31, L32, L33, L36, L40, L41, L42, L47, L48, L57, L58, L59, L60, L61, L62, L65, L97, L101, L102, L103, L120, L126, L127, L144, L245, L1023, L1715, I_add, I_sub, I_mul, I_neg, I_lt, I_le, I_eq]
      refine Ok.bind (C_countMatches h c.1.1 c.1.2 (by omega)) ?_
      rintro ⟨v, m'⟩ ⟨e1, F, A, rfl, e3⟩
      dsimp only at e1 ⊢
      obtain ⟨K, hI, ha, h10⟩ := id e3
      have hh := e3.keep h
      simp (disch := omega) only [hh.1.mt, hh.1.mcO, Option.bind_some]
      refine Ok.bind (K_walk (W := wR A) (al := ftX X i) K hI c.2 c3 (Or.inr rfl) (fun _ _ _ _ _ _ => rfl) (fun k x k0 k1 x0 x1 => ha k x k0 k1 x0 x1)) ?_
      rintro m' ⟨A', rfl, hP⟩
      have hk := h.mat (A := A') K.2.1
      have hbd : ∀ x, 0 ≤ x → x < tn (fS X) → 0 ≤ pR' A' q x ∧ pR' A' q x < 4611686018427387904 := fun x x0 x1 => by
        have := hP.bd hW.2.1 (by omega) hn2 q x c.2 (Or.inr (by omega)) c3 (eW_in (nd := tnd (fS X) i) c3).1 x0 x1
        have := pow6 (show q.toNat ≤ 6 by omega)
        omega
      simp (disch := omega) only [hk.1.mt, hk.1.mcO, K_reached K c.2 c3 hbd, Option.bind_some]
      exact Ok.pure ⟨X, hk.1, hk.2, rfl, wR A, pR' A', hI, hP, rfl⟩
    · rw [if_neg c3] at hnf
      simp only [if_neg c3]
      simp (disch := omega) only [hnf, Option.bind_some, if_pos, if_neg, if_true, if_false, ite_true, ite_false, L0, L1, L2, L3, L4, L5, L6, L7, L8, L9, L10, L11, L12, L13, L14, L15, L16, L17, L18, L19, L20, L21, L22, L23, L24, L25, L26, L27, L31, L32, L33, L36, L40, L41, L42, L47, L48, L57, L58, L59, L60, L61, L62, L65, L97, L101, L102, L103, L120, L126, L127, L144, L245, L1023, L1715, I_add, I_sub, I_mul, I_neg, I_lt, I_le, I_eq]
      exact (C_fail0 h (by omega)).mono (fun t ht => ⟨_, ht.2.1, ht.2.2, ht.1, rfl⟩)
  · simp only [if_neg c]
    rw [if_neg (fun z => c ⟨z.1, z.2.1⟩)] at hnf
    simp (disch := omega) only [hnf, Option.bind_some, if_pos, if_neg, if_true, if_false, ite_true, ite_false, L0, L1, L2, L3, L4, L5, L6, L7, L8, L9, L10, L11, L12, L13, L14, L15, L16, L17, L18, L19, L20, L21, L22, L23, L24, L25, L26, L27, L31, L32, L33, L36, L40, L41, L42, L47, L48, L57, L58, L59, L60, L61, L62, L65, L97, L101, L102, L103, L120, L126, L127, L144, L245, L1023, L1715, I_add, I_sub, I_mul, I_neg, I_lt, I_le, I_eq]
    exact (C_fail0 h (by omega)).mono (fun t ht => ⟨_, ht.2.1, ht.2.2, ht.1, rfl⟩)
theorem C_ways (h : CI m X) {i q u : Int} (h1 : -2147483648 ≤ i) (h2 : i < 2147483648) (h3 : -2147483648 ≤ q) (h4 : q < 2147483648) (h5 : -2147483648 ≤ u) (h6 : u < 2147483648) : Ok (f_X7_ways m 0 (I i) (I q) (I u)) (fun t => ∃ X', CI t.2 X' ∧ Fr m t.2 0 376 ∧ SWays X i q u t.1 X') := by
  have hg : Option.bind (α := Int32) (if I u = (0 : Int32) then some (1 : Int32) else (if I u = (1 : Int32) then some (1 : Int32) else some (0 : Int32))) = Option.bind (some (I (ind (u = 0 ∨ u = 1)))) (β := Int64 × Mm) := by
    congr 1
    by_cases c1 : u = 0
    · rw [ind_t (Or.inl c1), c1]; rfl
    · by_cases c2 : u = 1
      · rw [ind_t (Or.inr c2), c2]; rfl
      · rw [ind_f (by omega)]; simp (disch := omega) only [L0, L1, L2, L3, L4, L5, L6, L7, L8, L9, L10, L11, L12, L13, L14, L15, L16, L17, L18, L19, L20, L21, L22, L23, L24, L25, L26, L27, L31, L32, L33, L36, L40, L41, L42, L47, L48, L57, L58, L59, L60, L61, L62, L65, L97, L101, L102, L103, L120, L126, L127, L144, L245, L1023, L1715, I_add, I_sub, I_mul, I_neg, I_lt, I_le, I_eq, Option.bind_some, if_pos, if_neg, if_true, if_false, ite_true, ite_false]
  unfold f_X7_ways
  rw [hg]
  have hnf := C_nodeFault h h1 h2 h3 h4 (g := ind (u = 0 ∨ u = 1)) (by unfold ind; split <;> omega)
  unfold SWays
  by_cases c : (0 ≤ i ∧ i < 4) ∧ 0 ≤ q ∧ (u = 0 ∨ u = 1)
  · rw [ind_t c.2.2, if_pos (show (0 ≤ i ∧ i < 4) ∧ 0 ≤ q ∧ (1 : Int) = 1 by omega)] at hnf
    rw [ind_t c.2.2]
    simp only [if_pos c]
    have hu2 : Option.bind (α := Int32) (if I u = (1 : Int32) then some (1 : Int32) else some (0 : Int32)) = Option.bind (some (I u)) (β := Int64 × Mm) := by
      congr 1
      rcases c.2.2 with rfl | rfl <;> rfl
    rw [hu2]
    by_cases c3 : q < tqn (fS X) i
    · rw [if_pos c3] at hnf
      simp only [if_pos c3]
      simp (disch := omega) only [h.self, hnf, Option.bind_some, if_pos, if_neg, if_true, if_false, ite_true, ite_false, L0, L1, L2, L3, L4, L5, L6, L7, L8, L9, L10, L11, L12, L13, L14, L15, L16, L17, L18, L19, L20, L21, L22, L23, L24, L25, L26, L27, L31, L32, L33, L36, L40, L41, L42, L47, L48, L57, L58, L59, L60, L61, L62, L65, L97, L101, L102, L103, L120, L126, L127, L144, L245, L1023, L1715, I_add, I_sub, I_mul, I_neg, I_lt, I_le, I_eq]
      refine Ok.bind (C_countMatches h c.1.1 c.1.2 (by omega)) ?_
      rintro ⟨v, m'⟩ ⟨e1, F, A, rfl, e3⟩
      dsimp only at e1 ⊢
      obtain ⟨K, hI, ha, h10⟩ := id e3
      have hh := e3.keep h
      simp (disch := omega) only [hh.1.mt, hh.1.mcO, Option.bind_some]
      refine Ok.bind (K_walk (W := wR A) (al := ftX X i) K hI c.2.1 c3 c.2.2 (fun _ _ _ _ _ _ => rfl) (fun k x k0 k1 x0 x1 => ha k x k0 k1 x0 x1)) ?_
      rintro m' ⟨A', rfl, hP⟩
      have hk := h.mat (A := A') K.2.1
      simp (disch := omega) only [hk.1.mt, hk.1.mcO, K_pathsTo K c.2.1 c3, Option.bind_some]
      exact Ok.pure ⟨X, hk.1, hk.2, rfl, wR A, pR' A', hI, hP, rfl⟩
    · rw [if_neg c3] at hnf
      simp only [if_neg c3]
      simp (disch := omega) only [h.self, hnf, Option.bind_some, if_pos, if_neg, if_true, if_false, ite_true, ite_false, L0, L1, L2, L3, L4, L5, L6, L7, L8, L9, L10, L11, L12, L13, L14, L15, L16, L17, L18, L19, L20, L21, L22, L23, L24, L25, L26, L27, L31, L32, L33, L36, L40, L41, L42, L47, L48, L57, L58, L59, L60, L61, L62, L65, L97, L101, L102, L103, L120, L126, L127, L144, L245, L1023, L1715, I_add, I_sub, I_mul, I_neg, I_lt, I_le, I_eq]
      exact (C_failJ h (by omega)).mono (fun t ht => ⟨_, ht.2.1, ht.2.2, ht.1, rfl⟩)
  · rw [if_neg (fun z => c ⟨z.1, z.2.1, by have := z.2.2; unfold ind at this; split at this <;> omega⟩)] at hnf
    simp only [if_neg c]
    simp (disch := omega) only [h.self, hnf, Option.bind_some, if_pos, if_neg, if_true, if_false, ite_true, ite_false, L0, L1, L2, L3, L4, L5, L6, L7, L8, L9, L10, L11, L12, L13, L14, L15, L16, L17, L18, L19, L20, L21, L22, L23, L24, L25, L26, L27, L31, L32, L33, L36, L40, L41, L42, L47, L48, L57, L58, L59, L60, L61, L62, L65, L97, L101, L102, L103, L120, L126, L127, L144, L245, L1023, L1715, I_add, I_sub, I_mul, I_neg, I_lt, I_le, I_eq]
    exact (C_failJ h (by omega)).mono (fun t ht => ⟨_, ht.2.1, ht.2.2, ht.1, rfl⟩)
end CWF
