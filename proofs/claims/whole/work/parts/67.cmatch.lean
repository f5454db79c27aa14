/-! ===== the class: fits, matches, part, less ===== -/
/-- an element fits a node -/
abbrev ftF (tg vl : Int → Int) (nd : Int → Int → Int) (q e : Int) : Prop := (nd q 0 = 6 ∨ nd q 0 = tg e) ∧ psF nd q (vl e)
def ftS (n : Int) (tg vl : Int → Int) (nd : Int → Int → Int) (q : Int) : Int32 := bs (fun e => ftF tg vl nd q e) n.toNat
/-- node q is pinned to e -/
def pnS (n : Int) (tg vl : Int → Int) (nd : Int → Int → Int) (q e : Int) (k : Int) : Int32 := bs (fun x => ftF tg vl nd k x ∧ (k ≠ q ∨ x = e)) n.toNat
/-- all below e, and e, are hidden -/
def hdS (n : Int) (tg vl lv : Int → Int) (nd : Int → Int → Int) (e : Int) (k : Int) : Int32 := bs (fun x => ftF tg vl nd k x ∧ ¬ (e ≤ x ∧ x < enF n lv e)) n.toNat
theorem hb_bsn {p : Int → Prop} [DecidablePred p] {n k : Int} (hn0 : 0 ≤ n) (hn : n ≤ 32) (h0 : 0 ≤ k) (h1 : k < n) : hb (bs p n.toNat) k ↔ p k := by
  rw [hb_bs (by omega) h0 (by omega)]
  exact ⟨fun z => z.2, fun z => ⟨by omega, z⟩⟩
abbrev zQ (Q : Int) (nd : Int → Int → Int) (n : Int) (lv : Int → Int) (al : Int → Int32) : Int := sQ Q nd n lv al 0 (fun _ => 0)
theorem IsWf.al {Q : Int} {nd : Int → Int → Int} {n : Int} {lv : Int → Int} {al al' : Int → Int32} {W : Int → Int → Int} {k : Int} (h : IsWf Q nd n lv al W k) (ha : ∀ q e, k ≤ q → q < Q → 0 ≤ e → e < n → (hb (al q) e ↔ hb (al' q) e)) : IsWf Q nd n lv al' W k := by
  intro q e q0 q1 e0 e1
  obtain ⟨h1, h2⟩ := h q e q0 q1 e0 e1
  have := ha q e q0 q1 e0 e1
  exact ⟨fun z => h1 (this.mpr z), fun z => h2 (fun y => z (this.mp y))⟩
def zM (X : FS) (i : Int) (al : Int → Int32) : Int := zQ (tqn (fS X) i) (tnd (fS X) i) (tn (fS X)) (tlv (fS X)) al
abbrev ftX (X : FS) (i : Int) : Int → Int32 := ftS (tn (fS X)) (ttg (fS X)) (tvl (fS X)) (tnd (fS X) i)
def rMatches (X : FS) (i : Int) : Int × FS := if 0 ≤ i ∧ i < 4 then (if tqn (fS X) i = 0 then (-3, incB X (-3)) else (zM X i (ftX X i), X)) else (-2, incB X (-2))
def rPart (X : FS) (i q e : Int) : Int × FS := if (0 ≤ i ∧ i < 4) ∧ 0 ≤ q ∧ 0 ≤ e ∧ e < tn (fS X) then (if q < tqn (fS X) i then (zM X i (pnS (tn (fS X)) (ttg (fS X)) (tvl (fS X)) (tnd (fS X) i) q e), X) else (-3, incB X (-3))) else (-2, incB X (-2))
def rLess (X : FS) (i e : Int) : Int × FS := if (0 ≤ i ∧ i < 4) ∧ 0 ≤ e ∧ e < tn (fS X) then (if tqn (fS X) i = 0 ∨ e = 0 then (-3, incB X (-3)) else (zM X i (hdS (tn (fS X)) (ttg (fS X)) (tvl (fS X)) (tlv (fS X)) (tnd (fS X) i) e) - zM X i (ftX X i), X)) else (-2, incB X (-2))
def rFits (X : FS) (i q : Int) : Int32 × FS := if (0 ≤ i ∧ i < 4) ∧ 0 ≤ q then (if q < tqn (fS X) i then (ftX X i q, X) else (I 0, incB X (-3))) else (I 0, incB X (-2))
section CMM
variable {m : Mm} {n : Int} {tg vl lv : Int → Int} {Q : Int} {nd : Int → Int → Int} {b w : Nat} {Ft Fw F : Nat → Int} {At' Aw A : Nat → Int → Int}
theorem T_fitting (ht : At m b (o4 b Ft At')) (hT : TR Ft At' n tg vl lv) (hv : At m w (o5 w Fw Aw)) (hW : WR Fw Aw Q nd) {q : Int} (q0 : 0 ≤ q) (q1 : q < Q) : f_X7_fitting m b w (I q) = some (ftS n tg vl nd q) := by
  have h6 := hW.2.1.2.1
  have hF := hT.1
  have hn1 := hT.2.1.1
  have hn2 := hT.2.1.2.1
  have w1 := (hW.2.2 q q0 q1).1
  have hg1 := (hW.2.1.2.2 q q0 q1).1
  unfold f_X7_fitting
  simp (disch := omega) only [a5_cO hv, a5_g0 hv, a5_g1 hv, a5_g2 hv, a5_g3 hv, a5_g4 hv, a5_g5 hv, a5_g6 hv, a5_l1 hv, a5_l2 hv, a5_l3 hv, a5_l4 hv, a5_l5 hv, a5_l6 hv, w1, W_passing hv hW, L0, L1, L2, L3, L4, L5, L6, L7, L8, L9, L10, L11, L12, L13, L14, L15, L16, L17, L18, L19, L20, L21, L22, L23, L24, L25, L26, L27, L31, L32, L33, L36, L40, L41, L42, L47, L48, L57, L58, L59, L60, L61, L62, L65, L97, L101, L102, L103, L120, L126, L127, L144, L245, L1023, L1715, Option.bind_some]
  refine Ok.eq (Ok.bind (P := fun r => r = ftS n tg vl nd q) ?_ (fun r hr => Ok.pure hr))
  refine Ok.whl (fun j s => ∃ e, s = (bs (fun e => ftF tg vl nd q e) e.toNat, I e) ∧ 0 ≤ e ∧ e ≤ n ∧ j = (n - e).toNat) _ (j := (n - 0).toNat) ?_ ⟨0, rfl, by omega, by omega, rfl⟩ (FU_lt (by omega))
  rintro j s ⟨e, rfl, e0, e1, rfl⟩
  dsimp only
  unfold f_X7_fitting_L20 f_X7_fitting_J46
  by_cases d1 : n ≤ e
  · simp (disch := omega) only [a4_g0 ht, hF, I_add, I_sub, I_mul, I_neg, I_lt, I_le, I_eq, Option.bind_some, if_pos, if_neg, if_true, if_false, ite_true, ite_false]
    exact Ok.pure (Or.inr ⟨_, rfl, by unfold ftS; rw [show e = n by omega]⟩)
  · obtain ⟨r1, r2, -, -, -, r3, r4, r5, r6⟩ := hT.2.2 e e0 (by omega)
    have hh : hb (psS nd q) (vl e) ↔ psF nd q (vl e) := by
      rw [hb_psS (by omega) (by omega)]
      exact ⟨fun z => z.2, fun z => ⟨by omega, z⟩⟩
    have fin : ∀ y, y = bs (fun e => ftF tg vl nd q e) (e + 1).toNat → (∃ e', ((y, I (e + 1)) : Int32 × Int32) = (bs (fun e => ftF tg vl nd q e) e'.toNat, I e') ∧ 0 ≤ e' ∧ e' ≤ n ∧ (n - (e + 1)).toNat = (n - e').toNat) := fun y z => ⟨e + 1, by rw [z], by omega, by omega, rfl⟩
    simp (disch := omega) only [a4_g0 ht, a4_g1 ht, a4_g2 ht, a4_l1 ht, a4_l2 ht, hF, r1, r2, L0, L1, L2, L3, L4, L5, L6, L7, L8, L9, L10, L11, L12, L13, L14, L15, L16, L17, L18, L19, L20, L21, L22, L23, L24, L25, L26, L27, L31, L32, L33, L36, L40, L41, L42, L47, L48, L57, L58, L59, L60, L61, L62, L65, L97, L101, L102, L103, L120, L126, L127, L144, L245, L1023, L1715, I_add, I_sub, I_mul, I_neg, I_lt, I_le, I_eq, C_holds, if_neg d1, Option.bind_some]
    by_cases d2 : psF nd q (vl e)
    · simp (disch := omega) only [ind_t (hh.mpr d2), if_false, I_add, I_sub, I_mul, I_neg, I_lt, I_le, I_eq, L0, L1, L2, L3, L4, L5, L6, L7, L8, L9, L10, L11, L12, L13, L14, L15, L16, L17, L18, L19, L20, L21, L22, L23, L24, L25, L26, L27, L31, L32, L33, L36, L40, L41, L42, L47, L48, L57, L58, L59, L60, L61, L62, L65, L97, L101, L102, L103, L120, L126, L127, L144, L245, L1023, L1715, Option.bind_some, if_pos, if_neg, if_true, if_false, ite_true, ite_false]
      by_cases d3 : nd q 0 = 6
      · simp only [if_pos d3]
        exact Ok.pure (Or.inl ⟨_, (n - (e + 1)).toNat, rfl, fin _ (bs_t e0 ⟨Or.inl d3, d2⟩).symm, by omega⟩)
      · by_cases d4 : nd q 0 = tg e
        · simp only [if_neg d3, if_pos d4]
          exact Ok.pure (Or.inl ⟨_, (n - (e + 1)).toNat, rfl, fin _ (bs_t e0 ⟨Or.inr d4, d2⟩).symm, by omega⟩)
        · simp only [if_neg d3, if_neg d4]
          exact Ok.pure (Or.inl ⟨_, (n - (e + 1)).toNat, rfl, fin _ (bs_f e0 (fun z => z.1.elim d3 d4)).symm, by omega⟩)
    · simp (disch := omega) only [ind_f (fun z => d2 (hh.mp z)), if_true, I_add, I_sub, I_mul, I_neg, I_lt, I_le, I_eq, L0, L1, L2, L3, L4, L5, L6, L7, L8, L9, L10, L11, L12, L13, L14, L15, L16, L17, L18, L19, L20, L21, L22, L23, L24, L25, L26, L27, L31, L32, L33, L36, L40, L41, L42, L47, L48, L57, L58, L59, L60, L61, L62, L65, L97, L101, L102, L103, L120, L126, L127, L144, L245, L1023, L1715, Option.bind_some, if_pos, if_neg, if_true, if_false, ite_true, ite_false]
      by_cases d3 : nd q 0 = 6
      · simp only [if_pos d3]
        exact Ok.pure (Or.inl ⟨_, (n - (e + 1)).toNat, rfl, fin _ (bs_f e0 (fun z => d2 z.2)).symm, by omega⟩)
      · by_cases d4 : nd q 0 = tg e
        · simp only [if_neg d3, if_pos d4]
          exact Ok.pure (Or.inl ⟨_, (n - (e + 1)).toNat, rfl, fin _ (bs_f e0 (fun z => d2 z.2)).symm, by omega⟩)
        · simp only [if_neg d3, if_neg d4]
          exact Ok.pure (Or.inl ⟨_, (n - (e + 1)).toNat, rfl, fin _ (bs_f e0 (fun z => d2 z.2)).symm, by omega⟩)
theorem K_open (K : KX m (upN F 1 w) w n tg vl lv Q nd) : Ok (f_X1_open (ov m 53 (o1 53 F A)) 53 w) (fun m' => ∃ A', m' = ov m 53 (o1 53 (upN F 1 w) A') ∧ (∀ q, 0 ≤ q → q < Q → I (A' 1 q) = ftS n tg vl nd q) ∧ ∀ i, i ≠ 1 → A' i = A i) := by
  obtain ⟨Fw, Aw, haw, hW⟩ := K.W
  obtain ⟨Ft, At', hat, hT⟩ := K.T
  have hFw := hW.1
  have h60 := hW.2.1.1
  have h6 := hW.2.1.2.1
  have hl := K.1
  unfold f_X1_open
  simp (disch := omega) only [o1_p1, Option.bind_some]
  refine Ok.bind (P := fun m' => ∃ A', m' = ov m 53 (o1 53 (upN F 1 w) A') ∧ (∀ q, 0 ≤ q → q < Q → I (A' 1 q) = ftS n tg vl nd q) ∧ ∀ i, i ≠ 1 → A' i = A i) ?_ (fun _ h => Ok.pure h)
  refine Ok.whl (fun j s => ∃ k A', s = (I k, ov m 53 (o1 53 (upN F 1 w) A')) ∧ 0 ≤ k ∧ k ≤ Q ∧ j = (Q - k).toNat ∧ (∀ q, 0 ≤ q → q < k → I (A' 1 q) = ftS n tg vl nd q) ∧ ∀ i, i ≠ 1 → A' i = A i) _ (j := (Q - 0).toNat) ?_ ⟨0, A, rfl, by omega, by omega, rfl, fun q q0 q1 => by omega, fun _ _ => rfl⟩ (FU_lt (by omega))
  rintro j s ⟨k, A1, rfl, k0, k1, rfl, hk, hi⟩
  dsimp only
  have hv := haw A1
  have ht := hat A1
  unfold f_X1_open_L7
  by_cases d1 : Q ≤ k
  · simp (disch := omega) only [K.g1, a5_g0 hv, hFw, I_add, I_sub, I_mul, I_neg, I_lt, I_le, I_eq, Option.bind_some, if_pos, if_neg, if_true, if_false, ite_true, ite_false]
    exact Ok.pure (Or.inr ⟨_, rfl, A1, rfl, fun q q0 q1 => hk q q0 (by omega), hi⟩)
  · obtain ⟨z, hz, -, -⟩ := I_ex (ftS n tg vl nd k)
    simp (disch := omega) only [K.g1, K.g0, a5_g0 hv, hFw, o1_g2, L0, L1, L2, L3, L4, L5, L6, L7, L8, L9, L10, L11, L12, L13, L14, L15, L16, L17, L18, L19, L20, L21, L22, L23, L24, L25, L26, L27, L31, L32, L33, L36, L40, L41, L42, L47, L48, L57, L58, L59, L60, L61, L62, L65, L97, L101, L102, L103, L120, L126, L127, L144, L245, L1023, L1715, I_add, I_sub, I_mul, I_neg, I_lt, I_le, I_eq, T_fitting ht hT hv hW, if_neg d1, Option.bind_some]
    rw [hz]
    simp (disch := omega) only [o1_s1, Option.bind_some]
    refine Ok.pure (Or.inl ⟨_, (Q - (k + 1)).toNat, rfl, ⟨k + 1, _, rfl, by omega, by omega, rfl, fun q q0 q1 => ?_, fun i hi' => by rw [upN_ne hi']; exact hi i hi'⟩, by omega⟩)
    rw [upN_at]
    by_cases y : q = k
    · rw [y, upZ_at, hz]
    · rw [upZ_ne y]; exact hk q q0 (by omega)
theorem K_hide (K : KX m F w n tg vl lv Q nd) {s : Int32} : Ok (f_X1_hide (ov m 53 (o1 53 F A)) 53 s) (fun m' => ∃ A', m' = ov m 53 (o1 53 F A') ∧ (∀ q, 0 ≤ q → q < Q → I (A' 1 q) = I (A 1 q) &&& (s ^^^ I (-1))) ∧ ∀ i, i ≠ 1 → A' i = A i) := by
  obtain ⟨Fw, Aw, haw, hW⟩ := K.W
  have hFw := hW.1
  have h60 := hW.2.1.1
  have h6 := hW.2.1.2.1
  have hl := K.1
  unfold f_X1_hide
  refine Ok.bind (P := fun m' => ∃ A', m' = ov m 53 (o1 53 F A') ∧ (∀ q, 0 ≤ q → q < Q → I (A' 1 q) = I (A 1 q) &&& (s ^^^ I (-1))) ∧ ∀ i, i ≠ 1 → A' i = A i) ?_ (fun _ h => Ok.pure h)
  refine Ok.whl (fun j s' => ∃ k A', s' = (I k, ov m 53 (o1 53 F A')) ∧ 0 ≤ k ∧ k ≤ Q ∧ j = (Q - k).toNat ∧ (∀ q, 0 ≤ q → q < k → I (A' 1 q) = I (A 1 q) &&& (s ^^^ I (-1))) ∧ (∀ q, k ≤ q → A' 1 q = A 1 q) ∧ ∀ i, i ≠ 1 → A' i = A i) _ (j := (Q - 0).toNat) ?_ ⟨0, A, rfl, by omega, by omega, rfl, fun q q0 q1 => by omega, fun _ _ => rfl, fun _ _ => rfl⟩ (FU_lt (by omega))
  rintro j s' ⟨k, A1, rfl, k0, k1, rfl, hk, hk2, hi⟩
  dsimp only
  have hv := haw A1
  unfold f_X1_hide_L2
  by_cases d1 : Q ≤ k
  · simp (disch := omega) only [K.g1, a5_g0 hv, hFw, I_add, I_sub, I_mul, I_neg, I_lt, I_le, I_eq, Option.bind_some, if_pos, if_neg, if_true, if_false, ite_true, ite_false]
    exact Ok.pure (Or.inr ⟨_, rfl, A1, rfl, fun q q0 q1 => hk q q0 (by omega), hi⟩)
  · obtain ⟨z, hz, -, -⟩ := I_ex (I (A 1 k) &&& (s ^^^ I (-1)))
    simp (disch := omega) only [K.g1, a5_g0 hv, hFw, o1_g2, o1_l1, hk2 k (Int.le_refl _), L0, L1, L2, L3, L4, L5, L6, L7, L8, L9, L10, L11, L12, L13, L14, L15, L16, L17, L18, L19, L20, L21, L22, L23, L24, L25, L26, L27, L31, L32, L33, L36, L40, L41, L42, L47, L48, L57, L58, L59, L60, L61, L62, L65, L97, L101, L102, L103, L120, L126, L127, L144, L245, L1023, L1715, I_add, I_sub, I_mul, I_neg, I_lt, I_le, I_eq, if_neg d1, Option.bind_some]
    rw [hz]
    simp (disch := omega) only [o1_s1, Option.bind_some]
    refine Ok.pure (Or.inl ⟨_, (Q - (k + 1)).toNat, rfl, ⟨k + 1, _, rfl, by omega, by omega, rfl, fun q q0 q1 => ?_, fun q q0 => ?_, fun i hi' => by rw [upN_ne hi']; exact hi i hi'⟩, by omega⟩)
    · rw [upN_at]
      by_cases y : q = k
      · rw [y, upZ_at, hz]
      · rw [upZ_ne y]; exact hk q q0 (by omega)
    · rw [upN_at, upZ_ne (by omega)]; exact hk2 q (by omega)
theorem K_pin (K : KX m F w n tg vl lv Q nd) {q e : Int} (q0 : 0 ≤ q) (q1 : q < Q) : Ok (f_X1_pin (ov m 53 (o1 53 F A)) 53 (I q) (I e)) (fun m' => ∃ A', m' = ov m 53 (o1 53 F A') ∧ I (A' 1 q) = I (A 1 q) &&& (I 1 <<< (I e &&& I 31)) ∧ (∀ k, k ≠ q → A' 1 k = A 1 k) ∧ ∀ i, i ≠ 1 → A' i = A i) := by
  obtain ⟨Fw, Aw, haw, hW⟩ := K.W
  have h6 := hW.2.1.2.1
  have hl := K.1
  unfold f_X1_pin
  obtain ⟨z, hz, -, -⟩ := I_ex (I (A 1 q) &&& (I 1 <<< (I e &&& I 31)))
  simp (disch := omega) only [o1_g2, o1_l1, L0, L1, L2, L3, L4, L5, L6, L7, L8, L9, L10, L11, L12, L13, L14, L15, L16, L17, L18, L19, L20, L21, L22, L23, L24, L25, L26, L27, L31, L32, L33, L36, L40, L41, L42, L47, L48, L57, L58, L59, L60, L61, L62, L65, L97, L101, L102, L103, L120, L126, L127, L144, L245, L1023, L1715, Option.bind_some]
  rw [hz]
  simp (disch := omega) only [o1_s1, Option.bind_some]
  refine Ok.pure ⟨_, rfl, by rw [upN_at, upZ_at], fun k kq => by rw [upN_at, upZ_ne kq], fun i hi => upN_ne hi⟩
end CMM
section CMC
variable {m : Mm} {X : FS}
theorem CI.mt (h : CI m X) : gR m 0 7 7 = some 53 := by
  obtain ⟨F, A, a1⟩ := h.main
  exact a7_g7 a1
theorem CI.mcO (h : CI m X) {α : Type} {x : Option α} : cO m 53 1 x = x := by
  obtain ⟨F, A, h3, hF⟩ := h.2.2.2.2.2.2.1
  exact a1_cO h3
/-- only the matcher's cells change -/
theorem CI.mat (h : CI m X) {F : Nat → Int} {A : Nat → Int → Int} (hF : F 0 = 2) : CI (ov m 53 (o1 53 F A)) X ∧ Fr m (ov m 53 (o1 53 F A)) 0 376 := by
  have hl := h.1
  have hf : Fr m (ov m 53 (o1 53 F A)) 53 85 := Fr.ov (N := 31) (fun off h => o1_N off h)
  refine ⟨h.scr (hf.mono (by omega) (by omega)) ?_, hf.mono (by omega) (by omega)⟩
  obtain ⟨⟨F1, A1, h1'⟩, ⟨F2, A2, h2⟩, -, ⟨F4, A4, h4⟩, F5, A5, h5⟩ := h.2.2.2.2
  exact ⟨⟨F1, A1, h1'.fr (fun off h => o4_N off h) hf (by omega)⟩, ⟨F2, A2, h2.fr (fun off h => o5_N off h) hf (by omega)⟩, ⟨F, A, o1_At (by omega), hF⟩, ⟨F4, A4, h4.fr (fun off h => o0_N off h) hf (by omega)⟩, F5, A5, h5.fr (fun off h => o6_N off h) hf (by omega)⟩
theorem CI.K (h : CI m X) {i : Int} (i0 : 0 ≤ i) (i1 : i < 4) : ∃ F A, m = ov m 53 (o1 53 F A) ∧ F 0 = 2 ∧ KX m (upN F 1 ((9 + 7 * i.toNat : Nat) : Int)) (9 + 7 * i.toNat) (tn (fS X)) (ttg (fS X)) (tvl (fS X)) (tlv (fS X)) (tqn (fS X) i) (tnd (fS X) i) := by
  obtain ⟨F, A, h3, hF⟩ := h.2.2.2.2.2.2.1
  refine ⟨F, A, h3.ov.symm, hF, by have := h.1; omega, ?_, upN_at, by omega, h.2.2.1.2.1, ?_⟩
  · rw [upN_ne (by omega)]; exact hF
  · obtain ⟨Fw, Aw, q1, q2⟩ := h.W i0 i1
    exact ⟨Fw, Aw, q1, q2⟩
/-- the matcher has been opened for twig i, and solved for what al allows -/
def SV (m : Mm) (X : FS) (i : Int) (al : Int → Int32) (F : Nat → Int) (A : Nat → Int → Int) : Prop := KX m F (9 + 7 * i.toNat) (tn (fS X)) (ttg (fS X)) (tvl (fS X)) (tlv (fS X)) (tqn (fS X) i) (tnd (fS X) i) ∧ IsW (tqn (fS X) i) (tnd (fS X) i) (tn (fS X)) (tlv (fS X)) al (wR A) ∧ (∀ q e, 0 ≤ q → q < tqn (fS X) i → 0 ≤ e → e < tn (fS X) → (hb (aR A q) e ↔ hb (al q) e)) ∧ ∀ f, 0 ≤ f → f ≤ tn (fS X) → A 10 f = TL (tqn (fS X) i) (tnd (fS X) i) (tn (fS X)) (tlv (fS X)) (wR A) (-1) 0 f
theorem SV.keep {i : Int} {al : Int → Int32} {F : Nat → Int} {A : Nat → Int → Int} (s : SV m X i al F A) (h : CI m X) : CI (ov m 53 (o1 53 F A)) X ∧ Fr m (ov m 53 (o1 53 F A)) 0 376 := h.mat s.1.2.1
theorem C_open (h : CI m X) {i : Int} (i0 : 0 ≤ i) (i1 : i < 4) : Ok (f_X1_open m 53 (9 + 7 * i.toNat)) (fun m' => ∃ F A, m' = ov m 53 (o1 53 F A) ∧ F 0 = 2 ∧ KX m F (9 + 7 * i.toNat) (tn (fS X)) (ttg (fS X)) (tvl (fS X)) (tlv (fS X)) (tqn (fS X) i) (tnd (fS X) i) ∧ ∀ q, 0 ≤ q → q < tqn (fS X) i → aR A q = ftX X i q) := by
  obtain ⟨F, A, hm, hF, K⟩ := h.K i0 i1
  have ho := K_open (A := A) K
  rw [← hm] at ho
  exact ho.mono (fun m' ⟨A', e1, e2, e3⟩ => ⟨_, A', e1, K.2.1, K, e2⟩)
theorem C_solve {i : Int} {F : Nat → Int} {A : Nat → Int → Int} {al : Int → Int32} (hQ : 1 ≤ tqn (fS X) i) (K : KX m F (9 + 7 * i.toNat) (tn (fS X)) (ttg (fS X)) (tvl (fS X)) (tlv (fS X)) (tqn (fS X) i) (tnd (fS X) i)) (ha : ∀ q e, 0 ≤ q → q < tqn (fS X) i → 0 ≤ e → e < tn (fS X) → (hb (aR A q) e ↔ hb (al q) e)) : Ok (f_X1_solve (ov m 53 (o1 53 F A)) 53) (fun t => t.1 = J (zM X i al) ∧ ∃ A', t.2 = ov m 53 (o1 53 F A') ∧ SV m X i al F A') := by
  obtain ⟨Fw, Aw, haw, hW⟩ := K.W
  obtain ⟨Ft, At', hat, hT⟩ := K.T
  have hn1 := hT.2.1.1
  refine (K_solve (A := A) K hQ).mono ?_
  rintro ⟨v, m'⟩ ⟨A', e1, e2, e3, e4, e5⟩
  dsimp only at e1 e2
  have hI := e3.al ha
  refine ⟨?_, A', e1, K, hI, fun q e q0 q1 x0 x1 => ?_, e4⟩
  · show v = _
    rw [e2, zM, zQ, sQ_all hW.2.1 hQ hn1 hI (fun j => ⟨by omega, by omega⟩)]
  · rw [← ha q e q0 q1 x0 x1]
    show hb (I (A' 1 q)) e ↔ hb (I (A 1 q)) e
    rw [e5 1 (by omega)]
theorem C_countMatches (h : CI m X) {i : Int} (i0 : 0 ≤ i) (i1 : i < 4) (hQ : 1 ≤ tqn (fS X) i) : Ok (f_X7_countMatches m 0 (I i)) (fun t => t.1 = J (zM X i (ftX X i)) ∧ ∃ F A, t.2 = ov m 53 (o1 53 F A) ∧ SV m X i (ftX X i) F A) := by
  unfold f_X7_countMatches
  simp (disch := omega) only [h.mt, h.now, h.tws, h.tw, h.mcO, Option.bind_some, if_pos, if_neg, if_true, if_false, ite_true, ite_false]
  refine Ok.bind (C_open h i0 i1) ?_
  rintro m' ⟨F, A, rfl, hF, K, ha⟩
  have hl := K.1
  simp (disch := omega) only [(h.mat hF).1.mt, o1_cO, Option.bind_some]
  refine Ok.bind (C_solve (al := ftX X i) hQ K (fun q e q0 q1 _ _ => by rw [ha q q0 q1])) ?_
  rintro ⟨v, m'⟩ ⟨e1, A', e2, e3⟩
  exact Ok.pure ⟨e1, F, A', e2, e3⟩
theorem C_failJ (h : CI m X) {c : Int} (hc : c = -2 ∨ c = -3 ∨ c = -4) : Ok ((f_X7_failed m 0 (I c)).bind fun t => some (t.1.toInt64, t.2)) (fun t => t.1 = J c ∧ CI t.2 (incB X c) ∧ Fr m t.2 0 376) := Ok.bind (C_failed h hc) (fun t ht => Ok.pure ⟨by rw [ht.1]; exact I_J (by omega) (by omega), ht.2⟩)
theorem C_fail0 (h : CI m X) {c : Int} (hc : c = -2 ∨ c = -3 ∨ c = -4) : Ok ((f_X7_failed m 0 (I c)).bind fun t => some (I 0, t.2)) (fun t => t.1 = I 0 ∧ CI t.2 (incB X c) ∧ Fr m t.2 0 376) := Ok.bind (C_failed h hc) (fun t ht => Ok.pure ⟨rfl, ht.2⟩)
theorem C_matches (h : CI m X) {i : Int} (h1 : -2147483648 ≤ i) (h2 : i < 2147483648) : Ok (f_X7_matches m 0 (I i)) (fun t => t.1 = J (rMatches X i).1 ∧ CI t.2 (rMatches X i).2 ∧ Fr m t.2 0 376) := by
  unfold f_X7_matches
  have hnf := C_twigFault h h1 h2 (g := 1) (by omega)
  simp only [L1, h.self]
  by_cases c : 0 ≤ i ∧ i < 4
  · have hr : rMatches X i = _ := if_pos c
    rw [hr]
    rw [if_pos (show (0 ≤ i ∧ i < 4) ∧ (1 : Int) = 1 by omega)] at hnf
    obtain ⟨Fw, Aw, hw, hW⟩ := h.W c.1 c.2
    have h60 := hW.2.1.1
    by_cases c3 : tqn (fS X) i = 0
    · rw [if_pos c3] at hnf ⊢
      simp (disch := omega) only [hnf, Option.bind_some, if_pos, if_neg, if_true, if_false, ite_true, ite_false, L0, L1, L2, L3, L4, L5, L6, L7, L8, L9, L10, L11, L12, L13, L14, L15, L16, L17, L18, L19, L20, L21, L22, L23, L24, L25, L26, L27, L31, L32, L33, L36, L40, L41, L42, L47, L48, L57, L58, L59, L60, L61, L62, L65, L97, L101, L102, L103, L120, L126, L127, L144, L245, L1023, L1715, I_add, I_sub, I_mul, I_neg, I_lt, I_le, I_eq]
      exact C_failJ h (by omega)
    · rw [if_neg c3] at hnf ⊢
      simp (disch := omega) only [hnf, Option.bind_some, if_pos, if_neg, if_true, if_false, ite_true, ite_false, L0, L1, L2, L3, L4, L5, L6, L7, L8, L9, L10, L11, L12, L13, L14, L15, L16, L17, L18, L19, L20, L21, L22, L23, L24, L25, L26, L27, L31, L32, L33, L36, L40, L41, L42, L47, L48, L57, L58, L59, L60, L61, L62, L65, L97, L101, L102, L103, L120, L126, L127, L144, L245, L1023, L1715, I_add, I_sub, I_mul, I_neg, I_lt, I_le, I_eq]
      refine Ok.bind (C_countMatches h c.1 c.2 (by omega)) ?_
      rintro ⟨v, m'⟩ ⟨e1, F, A, rfl, e3⟩
      exact Ok.pure ⟨e1, e3.keep h⟩
  · have hr : rMatches X i = _ := if_neg c
    rw [hr]
    rw [if_neg (fun z => c z.1)] at hnf
    simp (disch := omega) only [hnf, Option.bind_some, if_pos, if_neg, if_true, if_false, ite_true, ite_false, L0, L1, L2, L3, L4, L5, L6, L7, L8, L9, L10, L11, L12, L13, L14, L15, L16, L17, L18, L19, L20, L21, L22, L23, L24, L25, L26, L27, L31, L32, L33, L36, L40, L41, L42, L47, L48, L57, L58, L59, L60, L61, L62, L65, L97, L101, L102, L103, L120, L126, L127, L144, L245, L1023, L1715, I_add, I_sub, I_mul, I_neg, I_lt, I_le, I_eq]
    exact C_failJ h (by omega)
theorem C_fits (h : CI m X) {i q : Int} (h1 : -2147483648 ≤ i) (h2 : i < 2147483648) (h3 : -2147483648 ≤ q) (h4 : q < 2147483648) : Ok (f_X7_fits m 0 (I i) (I q)) (fun t => t.1 = (rFits X i q).1 ∧ CI t.2 (rFits X i q).2 ∧ Fr m t.2 0 376) := by
  unfold f_X7_fits
  have hnf := C_nodeFault h h1 h2 h3 h4 (g := 1) (by omega)
  simp only [L1, L0, h.self]
  by_cases c : (0 ≤ i ∧ i < 4) ∧ 0 ≤ q
  · have hr : rFits X i q = _ := if_pos c
    rw [hr]
    rw [if_pos (show (0 ≤ i ∧ i < 4) ∧ 0 ≤ q ∧ (1 : Int) = 1 by omega)] at hnf
    obtain ⟨Fw, Aw, hw, hW⟩ := h.W c.1.1 c.1.2
    obtain ⟨Ft, At', ht, hT⟩ := h.T
    by_cases c3 : q < tqn (fS X) i
    · rw [if_pos c3] at hnf ⊢
      simp (disch := omega) only [hnf, Option.bind_some, if_pos, if_neg, if_true, if_false, ite_true, ite_false, L0, L1, L2, L3, L4, L5, L6, L7, L8, L9, L10, L11, L12, L13, L14, L15, L16, L17, L18, L19, L20, L21, L22, L23, L24, L25, L26, L27, L31, L32, L33, L36, L40, L41, L42, L47, L48, L57, L58, L59, L60, L61, L62, L65, L97, L101, L102, L103, L120, L126, L127, L144, L245, L1023, L1715, I_add, I_sub, I_mul, I_neg, I_lt, I_le, I_eq, h.now, h.tree, h.tws, h.tw, T_fitting ht hT hw hW]
      exact Ok.pure ⟨rfl, h, Fr.rf⟩
    · rw [if_neg c3] at hnf ⊢
      simp (disch := omega) only [hnf, Option.bind_some, if_pos, if_neg, if_true, if_false, ite_true, ite_false, L0, L1, L2, L3, L4, L5, L6, L7, L8, L9, L10, L11, L12, L13, L14, L15, L16, L17, L18, L19, L20, L21, L22, L23, L24, L25, L26, L27, L31, L32, L33, L36, L40, L41, L42, L47, L48, L57, L58, L59, L60, L61, L62, L65, L97, L101, L102, L103, L120, L126, L127, L144, L245, L1023, L1715, I_add, I_sub, I_mul, I_neg, I_lt, I_le, I_eq]
      exact C_fail0 h (by omega)
  · have hr : rFits X i q = _ := if_neg c
    rw [hr]
    rw [if_neg (fun z => c ⟨z.1, z.2.1⟩)] at hnf
    simp (disch := omega) only [hnf, Option.bind_some, if_pos, if_neg, if_true, if_false, ite_true, ite_false, L0, L1, L2, L3, L4, L5, L6, L7, L8, L9, L10, L11, L12, L13, L14, L15, L16, L17, L18, L19, L20, L21, L22, L23, L24, L25, L26, L27, L31, L32, L33, L36, L40, L41, L42, L47, L48, L57, L58, L59, L60, L61, L62, L65, L97, L101, L102, L103, L120, L126, L127, L144, L245, L1023, L1715, I_add, I_sub, I_mul, I_neg, I_lt, I_le, I_eq]
    exact C_fail0 h (by omega)
theorem C_part (h : CI m X) {i q e : Int} (h1 : -2147483648 ≤ i) (h2 : i < 2147483648) (h3 : -2147483648 ≤ q) (h4 : q < 2147483648) (h5 : -2147483648 ≤ e) (h6 : e < 2147483648) : Ok (f_X7_part m 0 (I i) (I q) (I e)) (fun t => t.1 = J (rPart X i q e).1 ∧ CI t.2 (rPart X i q e).2 ∧ Fr m t.2 0 376) := by
  obtain ⟨Ft, At', ht, hT⟩ := h.T
  have hF := hT.1
  have hn1 := hT.2.1.1
  have hn2 := hT.2.1.2.1
  have hnf := C_nodeFault h h1 h2 h3 h4 (g := ind (0 ≤ e ∧ e < tn (fS X))) (by unfold ind; split <;> omega)
  unfold f_X7_part
  simp (disch := omega) only [h.now, h.tree, a4_cO ht, T_has ht, hF, h.self, Option.bind_some, if_pos, if_neg, if_true, if_false, ite_true, ite_false]
  by_cases c : (0 ≤ i ∧ i < 4) ∧ 0 ≤ q ∧ 0 ≤ e ∧ e < tn (fS X)
  · have hr : rPart X i q e = _ := if_pos c
    rw [hr]
    rw [if_pos (show (0 ≤ i ∧ i < 4) ∧ 0 ≤ q ∧ ind (0 ≤ e ∧ e < tn (fS X)) = 1 from ⟨c.1, c.2.1, ind_t c.2.2⟩)] at hnf
    by_cases c3 : q < tqn (fS X) i
    · rw [if_pos c3] at hnf ⊢
      simp (disch := omega) only [hnf, Option.bind_some, if_pos, if_neg, if_true, if_false, ite_true, ite_false, L0, L1, L2, L3, L4, L5, L6, L7, L8, L9, L10, L11, L12, L13, L14, L15, L16, L17, L18, L19, L20, L21, L22, L23, L24, L25, L26, L27, L31, L32, L33, L36, L40, L41, L42, L47, L48, L57, L58, L59, L60, L61, L62, L65, L97, L101, L102, L103, L120, L126, L127, L144, L245, L1023, L1715, I_add, I_sub, I_mul, I_neg, I_lt, I_le, I_eq, h.mt, h.mcO, h.tws, h.tw]
      refine Ok.bind (C_open h c.1.1 c.1.2) ?_
      rintro m' ⟨F, A, rfl, hF, K, ha⟩
      have hl := K.1
      simp (disch := omega) only [(h.mat hF).1.mt, o1_cO, Option.bind_some]
      refine Ok.bind (K_pin K c.2.1 c3) ?_
      rintro m' ⟨A1, rfl, p1, p2, p3⟩
      simp (disch := omega) only [(h.mat hF).1.mt, o1_cO, Option.bind_some]
      refine Ok.bind (C_solve (al := pnS (tn (fS X)) (ttg (fS X)) (tvl (fS X)) (tnd (fS X) i) q e) (by omega) K (fun k x k0 k1 x0 x1 => ?_)) ?_
      · unfold pnS
        rw [hb_bsn (by omega) hn2 x0 x1]
        by_cases z : k = q
        · subst z
          rw [show aR A1 k = _ from p1, show I (A 1 k) = _ from ha k k0 k1, hb_and, hb_bit (by omega) (by omega) x0 (by omega)]
          unfold ftX ftS
          rw [hb_bsn (by omega) hn2 x0 x1]
          exact ⟨fun y => ⟨y.1, Or.inr y.2⟩, fun y => ⟨y.1, y.2.elim (fun t => absurd rfl t) id⟩⟩
        · rw [show aR A1 k = aR A k from congrArg I (p2 k z), ha k k0 k1]
          unfold ftX ftS
          rw [hb_bsn (by omega) hn2 x0 x1]
          exact ⟨fun y => ⟨y, Or.inl z⟩, fun y => y.1⟩
      · rintro ⟨v, m'⟩ ⟨e1, A', rfl, e3⟩
        exact Ok.pure ⟨e1, e3.keep h⟩
    · rw [if_neg c3] at hnf ⊢
      simp (disch := omega) only [hnf, Option.bind_some, if_pos, if_neg, if_true, if_false, ite_true, ite_false, L0, L1, L2, L3, L4, L5, L6, L7, L8, L9, L10, L11, L12, L13, L14, L15, L16, L17, L18, L19, L20, L21, L22, L23, L24, L25, L26, L27, L31, L32, L33, L36, L40, L41, L42, L47, L48, L57, L58, L59, L60, L61, L62, L65, L97, L101, L102, L103, L120, L126, L127, L144, L245, L1023, L1715, I_add, I_sub, I_mul, I_neg, I_lt, I_le, I_eq]
      exact C_failJ h (by omega)
  · have hr : rPart X i q e = _ := if_neg c
    rw [hr]
    rw [if_neg (fun z => c ⟨z.1, z.2.1, by have := z.2.2; unfold ind at this; split at this <;> omega⟩)] at hnf
    simp (disch := omega) only [hnf, Option.bind_some, if_pos, if_neg, if_true, if_false, ite_true, ite_false, L0, L1, L2, L3, L4, L5, L6, L7, L8, L9, L10, L11, L12, L13, L14, L15, L16, L17, L18, L19, L20, L21, L22, L23, L24, L25, L26, L27, L31, L32, L33, L36, L40, L41, L42, L47, L48, L57, L58, L59, L60, L61, L62, L65, L97, L101, L102, L103, L120, L126, L127, L144, L245, L1023, L1715, I_add, I_sub, I_mul, I_neg, I_lt, I_le, I_eq]
    exact C_failJ h (by omega)
theorem C_less (h : CI m X) {i e : Int} (h1 : -2147483648 ≤ i) (h2 : i < 2147483648) (h5 : -2147483648 ≤ e) (h6 : e < 2147483648) : Ok (f_X7_less m 0 (I i) (I e)) (fun t => t.1 = J (rLess X i e).1 ∧ CI t.2 (rLess X i e).2 ∧ Fr m t.2 0 376) := by
  obtain ⟨Ft, At', ht, hT⟩ := h.T
  have hF := hT.1
  have hn1 := hT.2.1.1
  have hn2 := hT.2.1.2.1
  have hnf := C_twigFault h h1 h2 (g := ind (0 ≤ e ∧ e < tn (fS X))) (by unfold ind; split <;> omega)
  unfold f_X7_less
  simp (disch := omega) only [h.now, h.tree, a4_cO ht, T_has ht, hF, h.self, Option.bind_some, if_pos, if_neg, if_true, if_false, ite_true, ite_false]
  by_cases c : (0 ≤ i ∧ i < 4) ∧ 0 ≤ e ∧ e < tn (fS X)
  · have hr : rLess X i e = _ := if_pos c
    rw [hr]
    rw [if_pos (show (0 ≤ i ∧ i < 4) ∧ ind (0 ≤ e ∧ e < tn (fS X)) = 1 from ⟨c.1, ind_t c.2⟩)] at hnf
    obtain ⟨Fw, Aw, hw, hW⟩ := h.W c.1.1 c.1.2
    have h60 := hW.2.1.1
    by_cases c3 : tqn (fS X) i = 0
    · rw [if_pos c3] at hnf
      rw [if_pos (Or.inl c3)]
      simp (disch := omega) only [hnf, Option.bind_some, if_pos, if_neg, if_true, if_false, ite_true, ite_false, L0, L1, L2, L3, L4, L5, L6, L7, L8, L9, L10, L11, L12, L13, L14, L15, L16, L17, L18, L19, L20, L21, L22, L23, L24, L25, L26, L27, L31, L32, L33, L36, L40, L41, L42, L47, L48, L57, L58, L59, L60, L61, L62, L65, L97, L101, L102, L103, L120, L126, L127, L144, L245, L1023, L1715, I_add, I_sub, I_mul, I_neg, I_lt, I_le, I_eq]
      exact C_failJ h (by omega)
    · rw [if_neg c3] at hnf
      by_cases c4 : e = 0
      · rw [if_pos (Or.inr c4)]
        simp (disch := omega) only [hnf, Option.bind_some, if_pos, if_neg, if_true, if_false, ite_true, ite_false, L0, L1, L2, L3, L4, L5, L6, L7, L8, L9, L10, L11, L12, L13, L14, L15, L16, L17, L18, L19, L20, L21, L22, L23, L24, L25, L26, L27, L31, L32, L33, L36, L40, L41, L42, L47, L48, L57, L58, L59, L60, L61, L62, L65, L97, L101, L102, L103, L120, L126, L127, L144, L245, L1023, L1715, I_add, I_sub, I_mul, I_neg, I_lt, I_le, I_eq]
        exact C_failJ h (by omega)
      · rw [if_neg (show ¬ (tqn (fS X) i = 0 ∨ e = 0) by omega)]
        simp (disch := omega) only [hnf, Option.bind_some, if_pos, if_neg, if_true, if_false, ite_true, ite_false, L0, L1, L2, L3, L4, L5, L6, L7, L8, L9, L10, L11, L12, L13, L14, L15, L16, L17, L18, L19, L20, L21, L22, L23, L24, L25, L26, L27, L31, L32, L33, L36, L40, L41, L42, L47, L48, L57, L58, L59, L60, L61, L62, L65, L97, L101, L102, L103, L120, L126, L127, L144, L245, L1023, L1715, I_add, I_sub, I_mul, I_neg, I_lt, I_le, I_eq]
        refine Ok.bind (C_countMatches h c.1.1 c.1.2 (by omega)) ?_
        rintro ⟨v, m'⟩ ⟨e1, F, A, rfl, e3⟩
        dsimp only at e1 ⊢
        obtain ⟨K, -, ha, -⟩ := id e3
        have hh := (e3.keep h).1
        obtain ⟨Ft, At', ht, hT⟩ := hh.T
        have hla := (hT.2.2 e (by omega) (by omega)).2.2.2.2.1
        have hen := enF_spec (tlv (fS X)) c.2.2
        have hl := K.1
        obtain ⟨s, hs, hs2⟩ := C_span (m := ov m 53 (o1 53 F A)) (x := e) (y := enF (tn (fS X)) (tlv (fS X)) e - 1) (by omega) (by omega) (by omega) (by omega)
        simp (disch := omega) only [hh.mt, hh.now, hh.tree, a4_g5 ht, a4_l5 ht, hla, o1_cO, bsm]
        rw [hs]
        simp (disch := omega) only [bsm]
        refine Ok.bind (K_hide K) ?_
        rintro m' ⟨A1, rfl, p1, p2⟩
        simp (disch := omega) only [(h.mat K.2.1).1.mt, o1_cO, Option.bind_some]
        refine Ok.bind (C_solve (al := hdS (tn (fS X)) (ttg (fS X)) (tvl (fS X)) (tlv (fS X)) (tnd (fS X) i) e) (by omega) K (fun k x k0 k1 x0 x1 => ?_)) ?_
        · unfold hdS
          rw [hb_bsn (by omega) hn2 x0 x1, show aR A1 k = _ from p1 k k0 k1, hb_and, hb_not (by omega), hs2 x x0 (by omega), ha k x k0 k1 x0 x1]
          unfold ftX ftS
          rw [hb_bsn (by omega) hn2 x0 x1]
          exact ⟨fun y => ⟨y.1, by omega⟩, fun y => ⟨y.1, by omega⟩⟩
        · rintro ⟨v2, m'⟩ ⟨q1, A', rfl, q3⟩
          refine Ok.pure ⟨?_, q3.keep h⟩
          dsimp only at q1 ⊢
          rw [q1, e1, J_sub]
  · have hr : rLess X i e = _ := if_neg c
    rw [hr]
    rw [if_neg (fun z => c ⟨z.1, by have := z.2; unfold ind at this; split at this <;> omega⟩)] at hnf
    simp (disch := omega) only [hnf, Option.bind_some, if_pos, if_neg, if_true, if_false, ite_true, ite_false, L0, L1, L2, L3, L4, L5, L6, L7, L8, L9, L10, L11, L12, L13, L14, L15, L16, L17, L18, L19, L20, L21, L22, L23, L24, L25, L26, L27, L31, L32, L33, L36, L40, L41, L42, L47, L48, L57, L58, L59, L60, L61, L62, L65, L97, L101, L102, L103, L120, L126, L127, L144, L245, L1023, L1715, I_add, I_sub, I_mul, I_neg, I_lt, I_le, I_eq]
    exact C_failJ h (by omega)
end CMC
