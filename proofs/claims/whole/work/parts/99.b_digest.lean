/-! ===== digest ===== -/
def hR (v : Int → Int) (h : Int) : Nat → Int
  | 0 => h
  | k + 1 => 31 * hR v h k + v k
def dgT (X : FS) (h : Int) : Nat → Int
  | 0 => h
  | e + 1 => 31 * (31 * (31 * dgT X h e + ttg (fS X) e) + tvl (fS X) e) + prF (tlv (fS X)) e
abbrev dgV (nd : Int → Int → Int) (c : Int) : Int := (ndP nd (c / 5) (c % 5)).toInt
def dgW (X : FS) (h : Int) : Nat → Int
  | 0 => h
  | i + 1 => if tqn (fS X) i ≤ 0 then dgW X h i else 31 * hR (dgV (tnd (fS X) i)) (31 * dgW X h i + tqn (fS X) i) (5 * tqn (fS X) i).toNat + zM X i (ftX X i)
def dgX (X : FS) : Int := dgW X (dgT X (31 * hR (fun w => (rTally X w).toInt) 1716 7 + (I (fwy X)).toInt) (tn (fS X)).toNat) 4
theorem I64 (x : Int32) : x.toInt64 = J x.toInt := by
  have h := I_range x
  conv => lhs; rw [← I_self x]
  exact I_J h.1 h.2
theorem hR_s {v : Int → Int} {h k : Int} (k0 : 0 ≤ k) : hR v h (k + 1).toNat = 31 * hR v h k.toNat + v k := by
  rw [show (k + 1).toNat = k.toNat + 1 by omega]
  show 31 * hR v h k.toNat + v (k.toNat : Int) = _
  rw [show ((k.toNat : Nat) : Int) = k by omega]
theorem dgT_s {X : FS} {h e : Int} (e0 : 0 ≤ e) : dgT X h (e + 1).toNat = 31 * (31 * (31 * dgT X h e.toNat + ttg (fS X) e) + tvl (fS X) e) + prF (tlv (fS X)) e := by
  rw [show (e + 1).toNat = e.toNat + 1 by omega]
  show 31 * (31 * (31 * dgT X h e.toNat + ttg (fS X) (e.toNat : Int)) + tvl (fS X) (e.toNat : Int)) + prF (tlv (fS X)) (e.toNat : Int) = _
  rw [show ((e.toNat : Nat) : Int) = e by omega]
theorem dgW_s {X : FS} {h i : Int} (i0 : 0 ≤ i) : dgW X h (i + 1).toNat = if tqn (fS X) i ≤ 0 then dgW X h i.toNat else 31 * hR (dgV (tnd (fS X) i)) (31 * dgW X h i.toNat + tqn (fS X) i) (5 * tqn (fS X) i).toNat + zM X i (ftX X i) := by
  rw [show (i + 1).toNat = i.toNat + 1 by omega]
  show (if tqn (fS X) (i.toNat : Int) ≤ 0 then dgW X h i.toNat else 31 * hR (dgV (tnd (fS X) (i.toNat : Int))) (31 * dgW X h i.toNat + tqn (fS X) (i.toNat : Int)) (5 * tqn (fS X) (i.toNat : Int)).toNat + zM X (i.toNat : Int) (ftX X (i.toNat : Int))) = _
  rw [show ((i.toNat : Nat) : Int) = i by omega]
section DGC
variable {m : Mm} {X : FS}
theorem X_dgTwig {b : Nat} {Fw : Nat → Int} {Aw : Nat → Int → Int} {Q : Int} {nd : Int → Int → Int} (h : At m b (o5 b Fw Aw)) (hW : WR Fw Aw Q nd) {h0 : Int} : f_X7_digestTwig m (J h0) b = some (J (hR (dgV nd) (31 * h0 + Q) (5 * Q).toNat)) := by
  have hF := hW.1
  have h60 := hW.2.1.1
  have h6 := hW.2.1.2.1
  unfold f_X7_digestTwig
  simp (disch := omega) only [a5_g0 h, hF, I_J, J0, J1, J31, J32, J1716, J_mul, J_add, Option.bind_some]
  refine Ok.eq (Ok.bind (P := fun r => r = J (hR (dgV nd) (31 * h0 + Q) (5 * Q).toNat)) ?_ (fun r hr => Ok.pure hr))
  refine Ok.whl (fun j s => ∃ q, s = (J (hR (dgV nd) (31 * h0 + Q) (5 * q).toNat), I q) ∧ 0 ≤ q ∧ q ≤ Q ∧ j = (Q - q).toNat) _ (j := (Q - 0).toNat) ?_ ⟨0, rfl, by omega, by omega, rfl⟩ (FU_lt (by omega))
  rintro j s ⟨q, rfl, q0, q1, rfl⟩
  dsimp only
  unfold f_X7_digestTwig_L15
  by_cases d1 : Q ≤ q
  · simp (disch := omega) only [a5_g0 h, hF, I_add, I_sub, I_mul, I_neg, I_lt, I_le, I_eq, if_pos d1, Option.bind_some]
    exact Ok.pure (Or.inr ⟨_, rfl, by rw [show q = Q by omega]⟩)
  · simp (disch := omega) only [a5_g0 h, hF, L0, L1, L2, L3, L4, L5, L6, L7, L8, L9, L10, L11, L12, L13, L14, L15, L16, L17, L18, L19, L20, L21, L22, L23, L24, L25, L26, L27, L31, L32, L33, L36, L40, L41, L42, L47, L48, L57, L58, L59, L60, L61, L62, L65, L97, L101, L102, L103, L120, L126, L127, L144, L245, L1023, L1715, I_add, I_sub, I_mul, I_neg, I_lt, I_le, I_eq, if_neg d1, Option.bind_some]
    refine Ok.bind (P := fun r => r = J (hR (dgV nd) (31 * h0 + Q) (5 * q + 5).toNat)) ?_ ?_
    · refine Ok.whl (fun j s => ∃ w, s = (J (hR (dgV nd) (31 * h0 + Q) (5 * q + w).toNat), I w) ∧ 0 ≤ w ∧ w ≤ 5 ∧ j = (5 - w).toNat) _ (j := (5 - 0 : Int).toNat) ?_ ⟨0, by rw [Int.add_zero], by omega, by omega, rfl⟩ (FU_lt (by omega))
      rintro j s ⟨w, rfl, w0, w1, rfl⟩
      dsimp only
      unfold f_X7_digestTwig_L27
      by_cases d2 : 5 ≤ w
      · simp (disch := omega) only [L0, L1, L2, L3, L4, L5, L6, L7, L8, L9, L10, L11, L12, L13, L14, L15, L16, L17, L18, L19, L20, L21, L22, L23, L24, L25, L26, L27, L31, L32, L33, L36, L40, L41, L42, L47, L48, L57, L58, L59, L60, L61, L62, L65, L97, L101, L102, L103, L120, L126, L127, L144, L245, L1023, L1715, I_add, I_sub, I_mul, I_neg, I_lt, I_le, I_eq, if_pos d2]
        exact Ok.pure (Or.inr ⟨_, rfl, by rw [show w = 5 by omega]⟩)
      · simp (disch := omega) only [L0, L1, L2, L3, L4, L5, L6, L7, L8, L9, L10, L11, L12, L13, L14, L15, L16, L17, L18, L19, L20, L21, L22, L23, L24, L25, L26, L27, L31, L32, L33, L36, L40, L41, L42, L47, L48, L57, L58, L59, L60, L61, L62, L65, L97, L101, L102, L103, L120, L126, L127, L144, L245, L1023, L1715, I_add, I_sub, I_mul, I_neg, I_lt, I_le, I_eq, if_neg d2, a5_cO h, W_property h hW, I64, J0, J1, J31, J32, J1716, J_mul, J_add, Option.bind_some]
        refine Ok.pure (Or.inl ⟨_, (5 - (w + 1)).toNat, rfl, ⟨w + 1, ?_, by omega, by omega, rfl⟩, by omega⟩)
        rw [show 5 * q + (w + 1) = 5 * q + w + 1 by omega, hR_s (by omega)]
        unfold dgV
        rw [show (5 * q + w) / 5 = q by omega, show (5 * q + w) % 5 = w by omega]
    · rintro _ rfl
      exact Ok.pure (Or.inl ⟨_, (Q - (q + 1)).toNat, rfl, ⟨q + 1, by rw [show 5 * (q + 1) = 5 * q + 5 by omega], by omega, by omega, rfl⟩, by omega⟩)
theorem C_digest (h : CI m X) : Ok (f_X7_digest m 0) (fun t => t.1 = J (dgX X) ∧ CI t.2 X ∧ Fr m t.2 0 376) := by
  obtain ⟨F3, A3, t1, t2, t3, t4, t5, t6⟩ := h.2.2.2.1
  obtain ⟨Ft, At', ht, hT⟩ := h.T
  have hF := hT.1
  have hn1 := hT.2.1.1
  have hn2 := hT.2.1.2.1
  unfold f_X7_digest
  refine Ok.bind (P := fun r => r = J (hR (fun w => (rTally X w).toInt) 1716 7)) ?_ ?_
  · refine Ok.whl (fun j s => ∃ w, s = (J (hR (fun w => (rTally X w).toInt) 1716 w.toNat), I w) ∧ 0 ≤ w ∧ w ≤ 7 ∧ j = (7 - w).toNat) _ (j := (7 - 0 : Int).toNat) ?_ ⟨0, rfl, by omega, by omega, rfl⟩ (FU_lt (by omega))
    rintro j s ⟨w, rfl, w0, w1, rfl⟩
    dsimp only
    unfold f_X7_digest_L6
    by_cases d2 : 7 ≤ w
    · simp (disch := omega) only [L0, L1, L2, L3, L4, L5, L6, L7, L8, L9, L10, L11, L12, L13, L14, L15, L16, L17, L18, L19, L20, L21, L22, L23, L24, L25, L26, L27, L31, L32, L33, L36, L40, L41, L42, L47, L48, L57, L58, L59, L60, L61, L62, L65, L97, L101, L102, L103, L120, L126, L127, L144, L245, L1023, L1715, I_add, I_sub, I_mul, I_neg, I_lt, I_le, I_eq, if_pos d2]
      exact Ok.pure (Or.inr ⟨_, rfl, by rw [show w = 7 by omega]; rfl⟩)
    · simp (disch := omega) only [L0, L1, L2, L3, L4, L5, L6, L7, L8, L9, L10, L11, L12, L13, L14, L15, L16, L17, L18, L19, L20, L21, L22, L23, L24, L25, L26, L27, L31, L32, L33, L36, L40, L41, L42, L47, L48, L57, L58, L59, L60, L61, L62, L65, L97, L101, L102, L103, L120, L126, L127, L144, L245, L1023, L1715, I_add, I_sub, I_mul, I_neg, I_lt, I_le, I_eq, if_neg d2, h.self, C_tally h, I64, J0, J1, J31, J32, J1716, J_mul, J_add, Option.bind_some]
      exact Ok.pure (Or.inl ⟨_, (7 - (w + 1)).toNat, rfl, ⟨w + 1, by rw [hR_s w0], by omega, by omega, rfl⟩, by omega⟩)
  rintro _ rfl
  simp (disch := omega) only [h.txt, a3_g2 t1, t5, h.now, h.tree, I64, J0, J1, J31, J32, J1716, J_mul, J_add, Option.bind_some]
  obtain ⟨h2, hh2⟩ : ∃ h2 : Int, h2 = 31 * hR (fun w => (rTally X w).toInt) 1716 7 + (I (fwy X)).toInt := ⟨_, rfl⟩
  rw [← hh2]
  refine Ok.bind (P := fun r => r = J (dgT X h2 (tn (fS X)).toNat)) ?_ ?_
  · refine Ok.whl (fun j s => ∃ e, s = (J (dgT X h2 e.toNat), I e) ∧ 0 ≤ e ∧ e ≤ tn (fS X) ∧ j = (tn (fS X) - e).toNat) _ (j := (tn (fS X) - 0).toNat) ?_ ⟨0, rfl, by omega, by omega, rfl⟩ (FU_lt (by omega))
    rintro j s ⟨e, rfl, e0, e1, rfl⟩
    dsimp only
    unfold f_X7_digest_L57
    by_cases d2 : tn (fS X) ≤ e
    · simp (disch := omega) only [a4_g0 ht, hF, I_add, I_sub, I_mul, I_neg, I_lt, I_le, I_eq, if_pos d2, Option.bind_some]
      exact Ok.pure (Or.inr ⟨_, rfl, by rw [show e = tn (fS X) by omega]⟩)
    · obtain ⟨r1, r2, -, r4, -, r6, r7, r8, r9⟩ := hT.2.2 e e0 (by omega)
      obtain ⟨p1, p2, -, -⟩ := prF_spec (tlv (fS X)) e0
      simp (disch := omega) only [a4_g0 ht, hF, L0, L1, L2, L3, L4, L5, L6, L7, L8, L9, L10, L11, L12, L13, L14, L15, L16, L17, L18, L19, L20, L21, L22, L23, L24, L25, L26, L27, L31, L32, L33, L36, L40, L41, L42, L47, L48, L57, L58, L59, L60, L61, L62, L65, L97, L101, L102, L103, L120, L126, L127, L144, L245, L1023, L1715, I_add, I_sub, I_mul, I_neg, I_lt, I_le, I_eq, if_neg d2, a4_g1 ht, a4_l1 ht, r1, a4_g2 ht, a4_l2 ht, r2, a4_g4 ht, a4_l4 ht, r4, I_J, J0, J1, J31, J32, J1716, J_mul, J_add, Option.bind_some]
      exact Ok.pure (Or.inl ⟨_, (tn (fS X) - (e + 1)).toNat, rfl, ⟨e + 1, by rw [dgT_s e0], by omega, by omega, rfl⟩, by omega⟩)
  rintro _ rfl
  refine Ok.bind (P := fun t => t.1 = J (dgX X) ∧ CI t.2 X ∧ Fr m t.2 0 376) ?_ (fun t ht => Ok.pure ht)
  refine Ok.whl (fun j s => ∃ i m', s = (J (dgW X (dgT X h2 (tn (fS X)).toNat) i.toNat), I i, m') ∧ 0 ≤ i ∧ i ≤ 4 ∧ j = (4 - i).toNat ∧ CI m' X ∧ Fr m m' 0 376) _ (j := (4 - 0 : Int).toNat) ?_ ⟨0, m, rfl, by omega, by omega, rfl, h, Fr.rf⟩ (FU_lt (by omega))
  rintro j s ⟨i, m', rfl, i0, i1, rfl, h', hf'⟩
  dsimp only
  unfold f_X7_digest_L120
  by_cases d2 : 4 ≤ i
  · simp (disch := omega) only [L0, L1, L2, L3, L4, L5, L6, L7, L8, L9, L10, L11, L12, L13, L14, L15, L16, L17, L18, L19, L20, L21, L22, L23, L24, L25, L26, L27, L31, L32, L33, L36, L40, L41, L42, L47, L48, L57, L58, L59, L60, L61, L62, L65, L97, L101, L102, L103, L120, L126, L127, L144, L245, L1023, L1715, I_add, I_sub, I_mul, I_neg, I_lt, I_le, I_eq, if_pos d2]
    refine Ok.pure (Or.inr ⟨_, rfl, ?_, h', hf'⟩)
    rw [show i = 4 by omega, hh2]
    rfl
  · obtain ⟨Fw, Aw, hw, hW⟩ := h'.W i0 (by omega)
    have hFw := hW.1
    have h60 := hW.2.1.1
    have h6 := hW.2.1.2.1
    have hs := dgW_s (X := X) (h := dgT X h2 (tn (fS X)).toNat) i0
    by_cases z : tqn (fS X) i ≤ 0
    · rw [if_pos z] at hs
      simp (disch := omega) only [L0, L1, L2, L3, L4, L5, L6, L7, L8, L9, L10, L11, L12, L13, L14, L15, L16, L17, L18, L19, L20, L21, L22, L23, L24, L25, L26, L27, L31, L32, L33, L36, L40, L41, L42, L47, L48, L57, L58, L59, L60, L61, L62, L65, L97, L101, L102, L103, L120, L126, L127, L144, L245, L1023, L1715, I_add, I_sub, I_mul, I_neg, I_lt, I_le, I_eq, if_neg d2, h'.now, h'.tws, h'.tw, a5_g0 hw, hFw, if_pos z, Option.bind_some]
      exact Ok.pure (Or.inl ⟨_, (4 - (i + 1)).toNat, rfl, ⟨i + 1, m', by rw [hs], by omega, by omega, rfl, h', hf'⟩, by omega⟩)
    · rw [if_neg z] at hs
      simp (disch := omega) only [L0, L1, L2, L3, L4, L5, L6, L7, L8, L9, L10, L11, L12, L13, L14, L15, L16, L17, L18, L19, L20, L21, L22, L23, L24, L25, L26, L27, L31, L32, L33, L36, L40, L41, L42, L47, L48, L57, L58, L59, L60, L61, L62, L65, L97, L101, L102, L103, L120, L126, L127, L144, L245, L1023, L1715, I_add, I_sub, I_mul, I_neg, I_lt, I_le, I_eq, if_neg d2, h'.now, h'.tws, h'.tw, a5_g0 hw, hFw, if_neg z, X_dgTwig hw hW, h'.self, Option.bind_some]
      refine Ok.bind (C_countMatches h' i0 (by omega) (by omega)) ?_
      rintro ⟨v, m2⟩ ⟨e1, F, A, rfl, e3⟩
      dsimp only at e1 ⊢
      have hk := e3.keep h'
      rw [e1]
      simp (disch := omega) only [J0, J1, J31, J32, J1716, J_mul, J_add]
      exact Ok.pure (Or.inl ⟨_, (4 - (i + 1)).toNat, rfl, ⟨i + 1, _, by rw [hs], by omega, by omega, rfl, hk.1, hf'.tr hk.2⟩, by omega⟩)
end DGC
section DGM
variable {m : Mm} {a : Nat} {F : Nat → Int} {A : Nat → Int → Int} {X : FS}
theorem M_digest (hl : a + 25 < m.length) (h : MB F A X) : Ok (f_X8_digest (ov m a (o8 a F A)) a) (fun t => t.1 = J (dgX X) ∧ MP m a t.2 X) := by
  have hF := h.1.1
  have hn1 := h.1.2.1.1
  have hn2 := h.1.2.1.2.1
  have h23 := h.2.2.2.1.2.2.2.1
  unfold f_X8_digest
  refine Ok.bind (P := fun r => r = J (hR (fun w => (rTally X w).toInt) 1716 7)) ?_ ?_
  · refine Ok.whl (fun j s => ∃ w, s = (J (hR (fun w => (rTally X w).toInt) 1716 w.toNat), I w) ∧ 0 ≤ w ∧ w ≤ 7 ∧ j = (7 - w).toNat) _ (j := (7 - 0 : Int).toNat) ?_ ⟨0, rfl, by omega, by omega, rfl⟩ (FU_lt (by omega))
    rintro j s ⟨w, rfl, w0, w1, rfl⟩
    dsimp only
    unfold f_X8_digest_L6
    by_cases d2 : 7 ≤ w
    · simp (disch := omega) only [L0, L1, L2, L3, L4, L5, L6, L7, L8, L9, L10, L11, L12, L13, L14, L15, L16, L17, L18, L19, L20, L21, L22, L23, L24, L25, L26, L27, L31, L32, L33, L36, L40, L41, L42, L47, L48, L57, L58, L59, L60, L61, L62, L65, L97, L101, L102, L103, L120, L126, L127, L144, L245, L1023, L1715, I_add, I_sub, I_mul, I_neg, I_lt, I_le, I_eq, if_pos d2]
      exact Ok.pure (Or.inr ⟨_, rfl, by rw [show w = 7 by omega]; rfl⟩)
    · simp (disch := omega) only [L0, L1, L2, L3, L4, L5, L6, L7, L8, L9, L10, L11, L12, L13, L14, L15, L16, L17, L18, L19, L20, L21, L22, L23, L24, L25, L26, L27, L31, L32, L33, L36, L40, L41, L42, L47, L48, L57, L58, L59, L60, L61, L62, L65, L97, L101, L102, L103, L120, L126, L127, L144, L245, L1023, L1715, I_add, I_sub, I_mul, I_neg, I_lt, I_le, I_eq, if_neg d2, o8_cO, M_toldBy hl h, I64, J0, J1, J31, J32, J1716, J_mul, J_add, Option.bind_some]
      exact Ok.pure (Or.inl ⟨_, (7 - (w + 1)).toNat, rfl, ⟨w + 1, by rw [hR_s w0], by omega, by omega, rfl⟩, by omega⟩)
  rintro _ rfl
  simp (disch := omega) only [o8_g23, h23, I64, J0, J1, J31, J32, J1716, J_mul, J_add, Option.bind_some]
  obtain ⟨h2, hh2⟩ : ∃ h2 : Int, h2 = 31 * hR (fun w => (rTally X w).toInt) 1716 7 + (I (fwy X)).toInt := ⟨_, rfl⟩
  rw [← hh2]
  refine Ok.bind (P := fun r => r = J (dgT X h2 (tn (fS X)).toNat)) ?_ ?_
  · refine Ok.whl (fun j s => ∃ e, s = (J (dgT X h2 e.toNat), I e) ∧ 0 ≤ e ∧ e ≤ tn (fS X) ∧ j = (tn (fS X) - e).toNat) _ (j := (tn (fS X) - 0).toNat) ?_ ⟨0, rfl, by omega, by omega, rfl⟩ (FU_lt (by omega))
    rintro j s ⟨e, rfl, e0, e1, rfl⟩
    dsimp only
    unfold f_X8_digest_L45
    by_cases d2 : tn (fS X) ≤ e
    · simp (disch := omega) only [o8_g1, hF, I_add, I_sub, I_mul, I_neg, I_lt, I_le, I_eq, if_pos d2, Option.bind_some]
      exact Ok.pure (Or.inr ⟨_, rfl, by rw [show e = tn (fS X) by omega]⟩)
    · obtain ⟨r1, r2, -, -, r4, r6, r7, r8, r9⟩ := h.1.2.2 e e0 (by omega)
      obtain ⟨p1, p2, -, -⟩ := prF_spec (tlv (fS X)) e0
      simp (disch := omega) only [o8_g1, hF, L0, L1, L2, L3, L4, L5, L6, L7, L8, L9, L10, L11, L12, L13, L14, L15, L16, L17, L18, L19, L20, L21, L22, L23, L24, L25, L26, L27, L31, L32, L33, L36, L40, L41, L42, L47, L48, L57, L58, L59, L60, L61, L62, L65, L97, L101, L102, L103, L120, L126, L127, L144, L245, L1023, L1715, I_add, I_sub, I_mul, I_neg, I_lt, I_le, I_eq, if_neg d2, o8_g2, o8_l2, r1, o8_g3, o8_l3, r2, o8_g6, o8_l6, r4, I_J, J0, J1, J31, J32, J1716, J_mul, J_add, Option.bind_some]
      exact Ok.pure (Or.inl ⟨_, (tn (fS X) - (e + 1)).toNat, rfl, ⟨e + 1, by rw [dgT_s e0], by omega, by omega, rfl⟩, by omega⟩)
  rintro _ rfl
  refine Ok.bind (P := fun t => t.1 = J (dgX X) ∧ MP m a t.2 X) ?_ (fun t ht => Ok.pure ht)
  refine Ok.whl (fun j s => ∃ i A', s = (J (dgW X (dgT X h2 (tn (fS X)).toNat) i.toNat), I i, ov m a (o8 a F A')) ∧ 0 ≤ i ∧ i ≤ 4 ∧ j = (4 - i).toNat ∧ MB F A' X) _ (j := (4 - 0 : Int).toNat) ?_ ⟨0, A, rfl, by omega, by omega, rfl, h⟩ (FU_lt (by omega))
  rintro j s ⟨i, A', rfl, i0, i1, rfl, h'⟩
  dsimp only
  unfold f_X8_digest_L99
  by_cases d2 : 4 ≤ i
  · simp (disch := omega) only [L0, L1, L2, L3, L4, L5, L6, L7, L8, L9, L10, L11, L12, L13, L14, L15, L16, L17, L18, L19, L20, L21, L22, L23, L24, L25, L26, L27, L31, L32, L33, L36, L40, L41, L42, L47, L48, L57, L58, L59, L60, L61, L62, L65, L97, L101, L102, L103, L120, L126, L127, L144, L245, L1023, L1715, I_add, I_sub, I_mul, I_neg, I_lt, I_le, I_eq, if_pos d2]
    refine Ok.pure (Or.inr ⟨_, rfl, ?_, F, A', rfl, h'⟩)
    rw [show i = 4 by omega, hh2]
    rfl
  · have hAt : At (ov m a (o8 a F A')) a (o8 a F A') := o8_At hl
    obtain ⟨ex7, hw, -⟩ := h'.2.1 i i0 (by omega)
    have h60 := hw.1
    have h6 := hw.2.1
    have hs := dgW_s (X := X) (h := dgT X h2 (tn (fS X)).toNat) i0
    by_cases z : tqn (fS X) i ≤ 0
    · rw [if_pos z] at hs
      simp (disch := omega) only [L0, L1, L2, L3, L4, L5, L6, L7, L8, L9, L10, L11, L12, L13, L14, L15, L16, L17, L18, L19, L20, L21, L22, L23, L24, L25, L26, L27, L31, L32, L33, L36, L40, L41, L42, L47, L48, L57, L58, L59, L60, L61, L62, L65, L97, L101, L102, L103, L120, L126, L127, L144, L245, L1023, L1715, I_add, I_sub, I_mul, I_neg, I_lt, I_le, I_eq, if_neg d2, o8_g7, o8_l7, ex7, if_pos z, Option.bind_some]
      exact Ok.pure (Or.inl ⟨_, (4 - (i + 1)).toNat, rfl, ⟨i + 1, A', by rw [hs], by omega, by omega, rfl, h'⟩, by omega⟩)
    · rw [if_neg z] at hs
      simp (disch := omega) only [L0, L1, L2, L3, L4, L5, L6, L7, L8, L9, L10, L11, L12, L13, L14, L15, L16, L17, L18, L19, L20, L21, L22, L23, L24, L25, L26, L27, L31, L32, L33, L36, L40, L41, L42, L47, L48, L57, L58, L59, L60, L61, L62, L65, L97, L101, L102, L103, L120, L126, L127, L144, L245, L1023, L1715, I_add, I_sub, I_mul, I_neg, I_lt, I_le, I_eq, if_neg d2, o8_g7, o8_l7, ex7, if_neg z, I_J, J0, J1, J31, J32, J1716, J_mul, J_add, o8_cO, Option.bind_some]
      refine Ok.bind (P := fun r => r = J (hR (dgV (tnd (fS X) i)) (31 * dgW X (dgT X h2 (tn (fS X)).toNat) i.toNat + tqn (fS X) i) (5 * tqn (fS X) i).toNat)) ?_ ?_
      · refine Ok.whl (fun j s => ∃ c, s = (J (hR (dgV (tnd (fS X) i)) (31 * dgW X (dgT X h2 (tn (fS X)).toNat) i.toNat + tqn (fS X) i) c.toNat), I c) ∧ 0 ≤ c ∧ c ≤ 5 * tqn (fS X) i ∧ j = (5 * tqn (fS X) i - c).toNat) _ (j := (5 * tqn (fS X) i - 0).toNat) ?_ ⟨0, rfl, by omega, by omega, rfl⟩ (FU_lt (by omega))
        rintro j s ⟨c, rfl, c0, c1, rfl⟩
        dsimp only
        unfold f_X8_digest_L130
        by_cases d3 : 5 * tqn (fS X) i ≤ c
        · simp (disch := omega) only [L0, L1, L2, L3, L4, L5, L6, L7, L8, L9, L10, L11, L12, L13, L14, L15, L16, L17, L18, L19, L20, L21, L22, L23, L24, L25, L26, L27, L31, L32, L33, L36, L40, L41, L42, L47, L48, L57, L58, L59, L60, L61, L62, L65, L97, L101, L102, L103, L120, L126, L127, L144, L245, L1023, L1715, o8_g7, o8_l7, ex7, I_add, I_sub, I_mul, I_neg, I_lt, I_le, I_eq, if_pos d3, Option.bind_some]
          exact Ok.pure (Or.inr ⟨_, rfl, by rw [show c = 5 * tqn (fS X) i by omega]⟩)
        · have hdv : I c / I 5 = I (c / 5) := I_div c0 (by omega) (by omega) (by omega)
          simp (disch := omega) only [L0, L1, L2, L3, L4, L5, L6, L7, L8, L9, L10, L11, L12, L13, L14, L15, L16, L17, L18, L19, L20, L21, L22, L23, L24, L25, L26, L27, L31, L32, L33, L36, L40, L41, L42, L47, L48, L57, L58, L59, L60, L61, L62, L65, L97, L101, L102, L103, L120, L126, L127, L144, L245, L1023, L1715, o8_g7, o8_l7, ex7, I_add, I_sub, I_mul, I_neg, I_lt, I_le, I_eq, if_neg d3, hdv, o8_cO, Option.bind_some]
          rw [show c - c / 5 * 5 = c % 5 by omega, N_nodeIs hAt h'.2.1 i0 (by omega) (by omega) (by omega) (by omega) (by omega)]
          simp (disch := omega) only [I64, J0, J1, J31, J32, J1716, J_mul, J_add, Option.bind_some]
          exact Ok.pure (Or.inl ⟨_, (5 * tqn (fS X) i - (c + 1)).toNat, rfl, ⟨c + 1, by rw [hR_s c0], by omega, by omega, rfl⟩, by omega⟩)
      · rintro _ rfl
        refine Ok.bind (M_matchesOf hl h' i0 (by omega) (by omega)) ?_
        rintro ⟨v, m2⟩ ⟨e1, A2, rfl, e3, -⟩
        dsimp only at e1 ⊢
        rw [e1]
        simp (disch := omega) only [J_mul, J_add]
        exact Ok.pure (Or.inl ⟨_, (4 - (i + 1)).toNat, rfl, ⟨i + 1, A2, by rw [hs], by omega, by omega, rfl, e3⟩, by omega⟩)
end DGM
