/-! ===== the class: match, place ===== -/
def SMatch (X : FS) (i j q : Int) (r : Int32) (X' : FS) : Prop := if (0 ≤ i ∧ i < 4) ∧ 0 ≤ q ∧ 0 ≤ j then (if q < tqn (fS X) i then X' = X ∧ ((zM X i (ftX X i) ≤ j ∧ r = I (-1)) ∨ (j < zM X i (ftX X i) ∧ ∃ g l : Int → Int, l 0 = j ∧ PK (tqn (fS X) i) (tnd (fS X) i) (tn (fS X)) (tlv (fS X)) (ftX X i) g l q ∧ r = I (g q))) else r = I (-3) ∧ X' = incB X (-3)) else r = I (-2) ∧ X' = incB X (-2)
theorem SMatch_uniq {X X1 X2 : FS} {i j q : Int} {r1 r2 : Int32} (hw : 0 ≤ i → i < 4 → WW (tqn (fS X) i) (tnd (fS X) i)) (h1 : SMatch X i j q r1 X1) (h2 : SMatch X i j q r2 X2) : r1 = r2 ∧ X1 = X2 := by
  unfold SMatch at h1 h2
  by_cases c : (0 ≤ i ∧ i < 4) ∧ 0 ≤ q ∧ 0 ≤ j
  · rw [if_pos c] at h1 h2
    by_cases c2 : q < tqn (fS X) i
    · rw [if_pos c2] at h1 h2
      obtain ⟨rfl, h1⟩ := h1
      obtain ⟨rfl, h2⟩ := h2
      refine ⟨?_, rfl⟩
      rcases h1 with ⟨p1, rfl⟩ | ⟨p1, g, l, p2, p3, rfl⟩
      · rcases h2 with ⟨q1, rfl⟩ | ⟨q1, -⟩
        · rfl
        · omega
      · rcases h2 with ⟨q1, -⟩ | ⟨q1, g', l', q2, q3, rfl⟩
        · omega
        · rw [PK_uniq (hw c.1.1 c.1.2) c2 p3 q3 (p2.trans q2.symm) q c.2.1 (Int.le_refl _)]
    · rw [if_neg c2] at h1 h2
      exact ⟨h1.1.trans h2.1.symm, h1.2.trans h2.2.symm⟩
  · rw [if_neg c] at h1 h2
    exact ⟨h1.1.trans h2.1.symm, h1.2.trans h2.2.symm⟩
/-- the elements that a row of digits tells -/
def dg (Q row c : Int) : Int := row / 32 ^ (Q - 1 - c).toNat % 32
def RowOk (Q : Int) (nd : Int → Int → Int) (n : Int) (lv : Int → Int) (al : Int → Int32) (row : Int) (g : Int → Int) : Prop := row < 32 ^ Q.toNat ∧ (∀ k, 0 ≤ g k ∧ g k < n) ∧ (∀ k, 0 ≤ k → k < Q → g k = dg Q row k) ∧ PL Q nd n lv al g
def SPlace (X : FS) (i row : Int) (r : Int64) (X' : FS) : Prop := if (0 ≤ i ∧ i < 4) ∧ 0 ≤ row then (if tqn (fS X) i = 0 then r = J (-3) ∧ X' = incB X (-3) else X' = X ∧ ((∃ g, RowOk (tqn (fS X) i) (tnd (fS X) i) (tn (fS X)) (tlv (fS X)) (ftX X i) row g ∧ r = J (plV (tqn (fS X) i) (tnd (fS X) i) (tn (fS X)) (tlv (fS X)) (ftX X i) g)) ∨ ((¬ ∃ g, RowOk (tqn (fS X) i) (tnd (fS X) i) (tn (fS X)) (tlv (fS X)) (ftX X i) row g) ∧ r = J (-1)))) else r = J (-2) ∧ X' = incB X (-2)
theorem SPlace_uniq {X X1 X2 : FS} {i row : Int} {r1 r2 : Int64} (hw : 0 ≤ i → i < 4 → WW (tqn (fS X) i) (tnd (fS X) i)) (h1 : SPlace X i row r1 X1) (h2 : SPlace X i row r2 X2) : r1 = r2 ∧ X1 = X2 := by
  unfold SPlace at h1 h2
  by_cases c : (0 ≤ i ∧ i < 4) ∧ 0 ≤ row
  · rw [if_pos c] at h1 h2
    by_cases c2 : tqn (fS X) i = 0
    · rw [if_pos c2] at h1 h2
      exact ⟨h1.1.trans h2.1.symm, h1.2.trans h2.2.symm⟩
    · rw [if_neg c2] at h1 h2
      obtain ⟨rfl, h1⟩ := h1
      obtain ⟨rfl, h2⟩ := h2
      refine ⟨?_, rfl⟩
      rcases h1 with ⟨g, p1, rfl⟩ | ⟨p1, rfl⟩
      · rcases h2 with ⟨g', q1, rfl⟩ | ⟨q1, -⟩
        · rw [plV_low (g := g) (g' := g') (hw c.1.1 c.1.2) (fun k k0 k1 => by rw [p1.2.2.1 k k0 k1, q1.2.2.1 k k0 k1])]
        · exact absurd ⟨g, p1⟩ q1
      · rcases h2 with ⟨g', q1, rfl⟩ | ⟨q1, rfl⟩
        · exact absurd ⟨g', q1⟩ p1
        · rfl
  · rw [if_neg c] at h1 h2
    exact ⟨h1.1.trans h2.1.symm, h1.2.trans h2.2.symm⟩
theorem us64 : ∀ i : Fin 64, ((I ((i.val : Nat) : Int)).toInt64.toUInt64 &&& Int64.toUInt64 63).toBitVec % 64 = BitVec.ofNat 64 i.val := by decide
theorem J_nat (a : Nat) : (J (a : Int)).toBitVec = BitVec.ofNat 64 a := BitVec.ofInt_natCast 64 a
theorem J_ushr {x k : Int} (x0 : 0 ≤ x) (x1 : x < 9223372036854775808) (k0 : 0 ≤ k) (k1 : k < 64) : lushrJ (J x) (I k) = J (x / 2 ^ k.toNat) := by
  have h := us64 ⟨k.toNat, by omega⟩
  rw [show ((k.toNat : Nat) : Int) = k by omega] at h
  obtain ⟨a, rfl⟩ := Int.eq_ofNat_of_zero_le x0
  have hdiv : (a : Int) / 2 ^ k.toNat = ((a / 2 ^ k.toNat : Nat) : Int) := by
    rw [Int.natCast_ediv, Int.natCast_pow]; rfl
  rw [hdiv]
  apply Int64.toBitVec_inj.mp
  unfold lushrJ
  rw [show (((J (a : Int)).toUInt64 >>> ((I k).toInt64.toUInt64 &&& Int64.toUInt64 63)).toInt64).toBitVec = (J (a : Int)).toBitVec >>> (((I k).toInt64.toUInt64 &&& Int64.toUInt64 63).toBitVec % 64) from rfl, h, J_nat, J_nat]
  apply BitVec.eq_of_toNat_eq
  rw [show BitVec.ofNat 64 a >>> BitVec.ofNat 64 k.toNat = BitVec.ofNat 64 a >>> (BitVec.ofNat 64 k.toNat).toNat from rfl, BitVec.toNat_ofNat, BitVec.toNat_ushiftRight, BitVec.toNat_ofNat, BitVec.toNat_ofNat, Nat.mod_eq_of_lt (show k.toNat < 2 ^ 64 by omega), Nat.mod_eq_of_lt (show a < 2 ^ 64 by omega), Nat.shiftRight_eq_div_pow]
  have : a / 2 ^ k.toNat ≤ a := Nat.div_le_self _ _
  rw [Nat.mod_eq_of_lt (by omega)]
theorem J_and31 {x : Int} (x0 : 0 ≤ x) (x1 : x < 9223372036854775808) : J x &&& J 31 = J (x % 32) := by
  obtain ⟨a, rfl⟩ := Int.eq_ofNat_of_zero_le x0
  rw [show (a : Int) % 32 = ((a % 32 : Nat) : Int) by omega]
  apply Int64.toBitVec_inj.mp
  rw [show (J (a : Int) &&& J 31).toBitVec = (J (a : Int)).toBitVec &&& (J ((31 : Nat) : Int)).toBitVec from rfl, J_nat, J_nat, J_nat]
  apply BitVec.eq_of_toNat_eq
  rw [BitVec.toNat_and, BitVec.toNat_ofNat, BitVec.toNat_ofNat, BitVec.toNat_ofNat, Nat.mod_eq_of_lt (show a < 2 ^ 64 by omega)]
  rw [show (31 : Nat) % 2 ^ 64 = 2 ^ 5 - 1 by decide, Nat.and_two_pow_sub_one_eq_mod, Nat.mod_eq_of_lt (show a % 32 < 2 ^ 64 by omega)]
theorem pow32 (k : Nat) : (2 : Int) ^ (5 * k) = 32 ^ k := by rw [Int.pow_mul]; rfl
section CPK2
variable {m : Mm} {F : Nat → Int} {A : Nat → Int → Int} {w : Nat} {n : Int} {tg vl lv : Int → Int} {Q : Int} {nd : Int → Int → Int} {W : Int → Int → Int} {al : Int → Int32}
theorem ls_ga (hw : WW Q nd) (hn1 : 1 ≤ n) {g : Int → Int} {c : Int} (c0 : 0 ≤ c) (c1 : c < Q) (hg : ∀ j, 0 ≤ g j ∧ g j < n) (hp : pvF nd c ≠ -1 → ga nd g c + 1 ≤ g (pvF nd c)) : ga nd g c + 1 ≤ ls nd n lv g c := by
  unfold ls
  by_cases z : pvF nd c = -1 ∨ nd c 4 = 0
  · rw [if_pos z]; omega
  · rw [if_neg z]
    have := (enF_spec lv (hg (pvF nd c)).2).1
    have := hp (fun q => z (Or.inl q))
    omega
/-- each choice lies behind the one of the node above -/
def Gd (nd : Int → Int → Int) (g : Int → Int) (c : Int) : Prop := ∀ k, 0 ≤ k → k < c → ga nd g k + 1 ≤ g k
theorem Gd.ls (hw : WW Q nd) (hn1 : 1 ≤ n) {g : Int → Int} {c : Int} (h : Gd nd g c) (c0 : 0 ≤ c) (c1 : c < Q) (hg : ∀ j, 0 ≤ g j ∧ g j < n) : ga nd g c + 1 ≤ ls nd n lv g c := by
  refine ls_ga hw hn1 c0 c1 hg (fun z => ?_)
  obtain ⟨d1, d2, d3, -⟩ := pv_some hw c0 c1 z
  have := h (pvF nd c) (by omega) d2
  unfold ga at this ⊢
  rwa [d3] at this
theorem Gd.ext (hw : WW Q nd) {g : Int → Int} {c f : Int} (h : Gd nd g c) (c0 : 0 ≤ c) (c1 : c < Q) (hf : ga nd g c + 1 ≤ f) : Gd nd (upZ g c f) (c + 1) := by
  intro k k0 k1
  rw [gg_ga hw k0 (by omega) (g' := g) (fun j j0 j1 => upZ_ne (by omega))]
  by_cases z : k = c
  · rw [z, upZ_at]; exact hf
  · rw [upZ_ne z]; exact h k k0 (by omega)
theorem upZ_rg {g : Int → Int} {c f : Int} (hg : ∀ j, 0 ≤ g j ∧ g j < n) (f0 : 0 ≤ f) (f1 : f < n) : ∀ j, 0 ≤ upZ g c f j ∧ upZ g c f j < n := by
  intro j
  by_cases z : j = c
  · rw [z, upZ_at]; omega
  · rw [upZ_ne z]; exact hg j
theorem K_elementOf (K : KX m F w n tg vl lv Q nd) (hI : IsW Q nd n lv al W) (hWA : ∀ c x, 0 ≤ c → c < Q → 0 ≤ x → x < n → A (3 + c.toNat) x = W c x) (h10 : ∀ f, 0 ≤ f → f ≤ n → A 10 f = TL Q nd n lv W (-1) 0 f) {j q : Int} (q0 : 0 ≤ q) (q1 : q < Q) (j0 : 0 ≤ j) (j1 : j < zQ Q nd n lv al) : Ok (f_X1_elementOf (ov m 53 (o1 53 F A)) 53 (J j) (I q)) (fun t => (∃ A', t.2 = ov m 53 (o1 53 F A')) ∧ ∃ g l, l 0 = j ∧ PK Q nd n lv al g l q ∧ t.1 = I (g q)) := by
  obtain ⟨Fw, Aw, haw, hW⟩ := K.W
  obtain ⟨Ft, At', hat, hT⟩ := K.T
  have h6 := hW.2.1.2.1
  have hw := hW.2.1
  have hn1 := hT.2.1.1
  have hn2 := hT.2.1.2.1
  have hl := K.1
  unfold f_X1_elementOf
  refine Ok.bind (P := fun m' => ∃ A' g l, m' = ov m 53 (o1 53 F A') ∧ l 0 = j ∧ PK Q nd n lv al g l q ∧ A' 30 q = g q) ?_ ?_
  · refine Ok.whl (fun jj s => ∃ c left g l A', s = (J left, I c, ov m 53 (o1 53 F A')) ∧ 0 ≤ c ∧ c ≤ q + 1 ∧ jj = (q + 1 - c).toNat ∧ (∀ k, 0 ≤ g k ∧ g k < n) ∧ l 0 = j ∧ l c = left ∧ 0 ≤ left ∧ left < sQ Q nd n lv al c g ∧ PK Q nd n lv al g l (c - 1) ∧ Gd nd g c ∧ CH Q nd n lv al W g c A' ∧ ∀ i, i < 10 → A' i = A i) _ (j := (q + 1 - 0).toNat) ?_ ⟨0, j, fun _ => 0, fun _ => j, A, rfl, by omega, by omega, rfl, fun k => ⟨Int.le_refl 0, show (0 : Int) < n by omega⟩, rfl, rfl, j0, j1, fun c c0 c1 => by omega, fun k k0 k1 => by omega, ⟨fun k k0 k1 => by omega, fun k k0 k1 => by omega, fun d d0 d1 d2 f f0 f1 => ?_⟩, fun _ _ => rfl⟩ (FU_lt (by omega))
    · rintro jj s ⟨c, left, g, l, A1, rfl, c0, c1, rfl, hg, hl0, hlc, lf0, lf1, hP, hG, hC, hi⟩
      dsimp only
      unfold f_X1_elementOf_L6
      by_cases d1 : q < c
      · simp (disch := omega) only [I_add, I_sub, I_mul, I_neg, I_lt, I_le, I_eq, Option.bind_some, if_pos, if_neg, if_true, if_false, ite_true, ite_false]
        have hcq : c - 1 = q := by omega
        rw [hcq] at hP
        exact Ok.pure (Or.inr ⟨_, rfl, A1, g, l, rfl, hl0, hP, hC.1 q q0 (by omega)⟩)
      · have hgg := ga_ge (nd := nd) hg c hn1
        have hee := (eE_in (lv := lv) hgg.1 hgg.2).2
        have hlg := hG.ls (n := n) (lv := lv) hw hn1 c0 (show c < Q by omega) hg
        have hQc := sQ_le (Q := Q) (nd := nd) (lv := lv) (al := al) hn1 hn2 c g hg
        have hpw := pow6 (show (Q - c).toNat ≤ 6 by omega)
        simp (disch := omega) only [I_add, I_sub, I_mul, I_neg, I_lt, I_le, I_eq, K.g0, o1_cO, K_above K c0 (show c < Q by omega) hC.1, a4_cO (hat A1), K_lastBelow K hgg.1 hgg.2, K_least K c0 (show c < Q by omega) hC.1 hg, Option.bind_some, if_neg d1]
        have hsw := sQ_wA (nd := nd) (n := n) (lv := lv) (al := al) (g := g) (show c < Q by omega)
        have hlt : ls nd n lv g c < eE n lv (ga nd g c) := by
          by_cases z : ls nd n lv g c < eE n lv (ga nd g c)
          · exact z
          · rw [Sm_nil (by omega)] at hsw; omega
        refine Ok.bind (P := fun t => ∃ f l', t = (J l', I f) ∧ ls nd n lv g c ≤ f ∧ f < eE n lv (ga nd g c) ∧ 0 ≤ l' ∧ l' < wA Q nd n lv al g c f ∧ left = Sm (wA Q nd n lv al g c) (ls nd n lv g c) f + l') ?_ ?_
        · refine Ok.whl (fun jj s => ∃ f l', s = (J l', I f) ∧ ls nd n lv g c ≤ f ∧ f < eE n lv (ga nd g c) ∧ jj = (eE n lv (ga nd g c) - f).toNat ∧ 0 ≤ l' ∧ l' < Sm (wA Q nd n lv al g c) f (eE n lv (ga nd g c)) ∧ left = Sm (wA Q nd n lv al g c) (ls nd n lv g c) f + l') _ (j := (eE n lv (ga nd g c) - ls nd n lv g c).toNat) ?_ ⟨_, left, rfl, Int.le_refl _, hlt, rfl, lf0, by omega, by rw [Sm_nil (Int.le_refl _)]; omega⟩ (FU_lt (by omega))
          rintro jj s ⟨f, l', rfl, f0, f1, rfl, l0, l1, l2⟩
          dsimp only
          unfold f_X1_elementOf_L35
          have hfr := Sm_front (f := wA Q nd n lv al g c) f1
          have hnn : 0 ≤ wA Q nd n lv al g c f := wA_nn
          have hnn2 : 0 ≤ Sm (wA Q nd n lv al g c) (f + 1) (eE n lv (ga nd g c)) := Sm_nonneg (fun _ _ _ => wA_nn)
          have hnn3 : 0 ≤ Sm (wA Q nd n lv al g c) (ls nd n lv g c) f := Sm_nonneg (fun _ _ _ => wA_nn)
          have hsp := Sm_split (f := wA Q nd n lv al g c) f0 (show f ≤ eE n lv (ga nd g c) by omega)
          by_cases e1 : eE n lv (ga nd g c) - 1 ≤ f
          · simp (disch := omega) only [I_add, I_sub, I_mul, I_neg, I_lt, I_le, I_eq, if_pos e1]
            rw [Sm_nil (lo := f + 1) (by omega)] at hfr
            exact Ok.pure (Or.inr ⟨_, rfl, f, l', rfl, f0, f1, l0, by omega, l2⟩)
          · by_cases e2 : l' < wA Q nd n lv al g c f
            · simp (disch := omega) only [I_add, I_sub, I_mul, I_neg, I_lt, I_le, I_eq, J_add, J_sub, J_mul, J_neg, J_lt, J_le, J_eq, Option.bind_some, if_pos, if_neg, if_true, if_false, ite_true, ite_false, if_neg e1, if_pos e2, o1_cO, K_waysAt K hn1 hI c0 (show c < Q by omega) hg hC (show ga nd g c + 1 ≤ f by omega) f1]
              exact Ok.pure (Or.inr ⟨_, rfl, f, l', rfl, f0, f1, l0, e2, l2⟩)
            · simp (disch := omega) only [I_add, I_sub, I_mul, I_neg, I_lt, I_le, I_eq, J_add, J_sub, J_mul, J_neg, J_lt, J_le, J_eq, L0, L1, L2, L3, L4, L5, L6, L7, L8, L9, L10, L11, L12, L13, L14, L15, L16, L17, L18, L19, L20, L21, L22, L23, L24, L25, L26, L27, L31, L32, L33, L36, L40, L41, L42, L47, L48, L57, L58, L59, L60, L61, L62, L65, L97, L101, L102, L103, L120, L126, L127, L144, L245, L1023, L1715, Option.bind_some, if_pos, if_neg, if_true, if_false, ite_true, ite_false, if_neg e1, if_neg e2, o1_cO, K_waysAt K hn1 hI c0 (show c < Q by omega) hg hC (show ga nd g c + 1 ≤ f by omega) f1, J_sub]
              refine Ok.pure (Or.inl ⟨_, (eE n lv (ga nd g c) - (f + 1)).toNat, rfl, ⟨f + 1, _, rfl, by omega, by omega, rfl, by omega, by omega, ?_⟩, by omega⟩)
              rw [Sm_succ f0]; omega
        · rintro ⟨l'', f''⟩ ⟨f, l', he, f0, f1, l0, l1, l2⟩
          obtain ⟨rfl, rfl⟩ := Prod.mk.inj he
          dsimp only
          refine Ok.bind (K_choose K hn1 hI c0 (by omega) hg hC (show ga nd g c + 1 ≤ f by omega) f1 (fun k x k0 k1 x0 x1 => by rw [hi _ (by omega)]; exact hWA k x k0 k1 x0 x1)) ?_
          rintro m' ⟨A2, rfl, hC2, hi2⟩
          simp only [L1, I_add]
          refine Ok.pure (Or.inl ⟨_, (q + 1 - (c + 1)).toNat, rfl, ⟨c + 1, l', upZ g c f, upZ l (c + 1) l', A2, rfl, by omega, by omega, rfl, upZ_rg hg (by omega) (by omega), by rw [upZ_ne (by omega)]; exact hl0, upZ_at, l0, ?_, ?_, hG.ext hw c0 (by omega) (by omega), hC2, fun i hi' => by rw [hi2 i hi', hi i hi']⟩, by omega⟩)
          · refine Int.lt_of_lt_of_le l1 ?_
            unfold wA
            have h1 := @ind_le (hb (al c) f ∧ egF lv nd c (ga nd g c) f) _
            have h2 := sQ_nn (Q := Q) (nd := nd) (n := n) (lv := lv) (al := al) (c + 1) (upZ g c f)
            have := Int.mul_le_mul_of_nonneg_right h1 h2
            omega
          · rw [show c + 1 - 1 = c by omega]
            exact PK_ext hw hP c0 (by omega) f0 f1 l0 l1 (by rw [hlc]; exact l2)
    · have hd : d = 0 := by
        by_cases z : d = 0
        · exact z
        · have := ((hw.2.2 d d0 d1).2.2.2.2.2.2.2 (by omega)).2.1
          omega
      subst hd
      have h5 : nd 0 5 = -1 := by have := hw.ab (q := 0) (by omega) (by omega); omega
      have hga : ga nd (fun _ => (0 : Int)) 0 = -1 := by unfold ga; rw [if_pos h5]
      rw [hga] at f0 f1 ⊢
      rw [show eE n lv (-1) = n from if_pos rfl] at f1
      exact h10 f (by omega) f1
  · rintro m' ⟨A', g, l, rfl, h1, h2, h3⟩
    simp (disch := omega) only [o1_g7, o1_l30, h3, Option.bind_some]
    exact Ok.pure ⟨⟨A', rfl⟩, g, l, h1, h2, rfl⟩
/-- the first tail is there before all choices -/
theorem CH_0 (hw : WW Q nd) {g : Int → Int} (h10 : ∀ f, 0 ≤ f → f ≤ n → A 10 f = TL Q nd n lv W (-1) 0 f) : CH Q nd n lv al W g 0 A := by
  refine ⟨fun k k0 k1 => by omega, fun k k0 k1 => by omega, fun d d0 d1 d2 f f0 f1 => ?_⟩
  have hd : d = 0 := by
    by_cases z : d = 0
    · exact z
    · have := ((hw.2.2 d d0 d1).2.2.2.2.2.2.2 (by omega)).2.1
      omega
  subst hd
  have h5 : nd 0 5 = -1 := by have := hw.ab (q := 0) (by omega) (by omega); omega
  have hga : ga nd g 0 = -1 := by unfold ga; rw [if_pos h5]
  rw [hga] at f0 f1 ⊢
  rw [show eE n lv (-1) = n from if_pos rfl] at f1
  exact h10 f (by omega) f1
theorem K_rankOf (K : KX m F w n tg vl lv Q nd) (hQ : 1 ≤ Q) (hI : IsW Q nd n lv al W) (hWA : ∀ c x, 0 ≤ c → c < Q → 0 ≤ x → x < n → A (3 + c.toNat) x = W c x) (h10 : ∀ f, 0 ≤ f → f ≤ n → A 10 f = TL Q nd n lv W (-1) 0 f) {row : Int} (r0 : 0 ≤ row) (r1 : row < 9223372036854775808) : Ok (f_X1_rankOf (ov m 53 (o1 53 F A)) 53 (J row)) (fun t => (∃ A', t.2 = ov m 53 (o1 53 F A')) ∧ ((∃ g, RowOk Q nd n lv al row g ∧ t.1 = J (plV Q nd n lv al g)) ∨ ((¬ ∃ g, RowOk Q nd n lv al row g) ∧ t.1 = J (-1)))) := by
  obtain ⟨Fw, Aw, haw, hW⟩ := K.W
  obtain ⟨Ft, At', hat, hT⟩ := K.T
  have hFw := hW.1
  have h6 := hW.2.1.2.1
  have hw := hW.2.1
  have hn1 := hT.2.1.1
  have hn2 := hT.2.1.2.1
  have hl := K.1
  have hpq : (0 : Int) < 32 ^ Q.toNat := I_pow_pos _
  have hsh : row / 2 ^ (5 * Q).toNat = 0 ↔ row < 32 ^ Q.toNat := by
    rw [show (5 * Q).toNat = 5 * Q.toNat by omega, pow32]
    constructor
    · intro z
      have h1 := Int.emod_lt_of_pos row hpq
      have h2 := Int.emod_add_mul_ediv row (32 ^ Q.toNat)
      rw [z, Int.mul_zero] at h2
      omega
    · intro z
      exact Int.ediv_eq_zero_of_lt r0 z
  have hd0 : 0 ≤ row / 2 ^ (5 * Q).toNat := Int.ediv_nonneg r0 (Int.le_of_lt (Int.pow_pos (by omega)))
  have hd1 : row / 2 ^ (5 * Q).toNat ≤ row := Int.ediv_le_self _ r0
  unfold f_X1_rankOf
  simp (disch := omega) only [K.g1, a5_g0 (haw A), hFw, L0, L1, L2, L3, L4, L5, L6, L7, L8, L9, L10, L11, L12, L13, L14, L15, L16, L17, L18, L19, L20, L21, L22, L23, L24, L25, L26, L27, L31, L32, L33, L36, L40, L41, L42, L47, L48, L57, L58, L59, L60, L61, L62, L65, L97, L101, L102, L103, L120, L126, L127, L144, L245, L1023, L1715, J0, J1, J31, J32, J1716, I_mul, J_ushr, J_add, J_sub, J_mul, J_neg, J_lt, J_le, J_eq, Option.bind_some]
  by_cases d0 : row / 2 ^ (5 * Q).toNat = 0
  · rw [if_pos d0]
    have hrow := hsh.mp d0
    refine Ok.bind (P := fun t => (∃ A' r, t = Sum.inl (J r, ov m 53 (o1 53 F A')) ∧ ∃ g, RowOk Q nd n lv al row g ∧ r = plV Q nd n lv al g) ∨ ((¬ ∃ g, RowOk Q nd n lv al row g) ∧ ∃ A', t = Sum.inr (ov m 53 (o1 53 F A')))) ?_ ?_
    · refine Ok.whl (fun jj s => ∃ c g A', s = (J (Sm (fun c => Sm (wA Q nd n lv al g c) (ls nd n lv g c) (g c)) 0 c), I c, ov m 53 (o1 53 F A')) ∧ 0 ≤ c ∧ c ≤ Q ∧ jj = (Q - c).toNat ∧ (∀ k, 0 ≤ g k ∧ g k < n) ∧ (∀ k, 0 ≤ k → k < c → g k = dg Q row k) ∧ (∀ k, 0 ≤ k → k < c → okF nd n lv al g k (g k)) ∧ Gd nd g c ∧ CH Q nd n lv al W g c A' ∧ ∀ i, i < 10 → A' i = A i) _ (j := (Q - 0).toNat) ?_ ⟨0, fun _ => 0, A, by rw [Sm_nil (Int.le_refl _)], by omega, by omega, rfl, fun k => ⟨Int.le_refl 0, show (0 : Int) < n by omega⟩, fun k k0 k1 => by omega, fun k k0 k1 => by omega, fun k k0 k1 => by omega, CH_0 hw h10, fun _ _ => rfl⟩ (FU_lt (by omega))
      rintro jj s ⟨c, g, A1, rfl, c0, c1, rfl, hg, hgd, hok, hG, hC, hi⟩
      dsimp only
      unfold f_X1_rankOf_L25
      by_cases d1 : Q ≤ c
      · simp (disch := omega) only [K.g1, a5_g0 (haw A1), hFw, I_add, I_sub, I_mul, I_neg, I_lt, I_le, I_eq, Option.bind_some, if_pos, if_neg, if_true, if_false, ite_true, ite_false]
        have hcQ : c = Q := by omega
        subst hcQ
        exact Ok.pure (Or.inr ⟨_, rfl, Or.inl ⟨A1, _, rfl, g, ⟨hrow, hg, hgd, hok⟩, rfl⟩⟩)
      · have hgg := ga_ge (nd := nd) hg c hn1
        have hee := eE_in (lv := lv) hgg.1 hgg.2
        have hlg := hG.ls (n := n) (lv := lv) hw hn1 c0 (show c < Q by omega) hg
        have hls0 := ls_ge (nd := nd) (lv := lv) hn1 hg c
        have hls1 : ls nd n lv g c ≤ n := by
          unfold ls
          by_cases z : pvF nd c = -1 ∨ nd c 4 = 0
          · rw [if_pos z]; omega
          · rw [if_neg z]; exact (enF_spec lv (hg (pvF nd c)).2).2.1
        have hx0 : 0 ≤ row / 2 ^ (5 * (Q - 1 - c)).toNat := Int.ediv_nonneg r0 (Int.le_of_lt (Int.pow_pos (by omega)))
        have hx1 : row / 2 ^ (5 * (Q - 1 - c)).toNat ≤ row := Int.ediv_le_self _ r0
        have hdg : row / 2 ^ (5 * (Q - 1 - c)).toNat % 32 = dg Q row c := by
          unfold dg
          rw [show (5 * (Q - 1 - c)).toNat = 5 * (Q - 1 - c).toNat by omega, pow32]
        have hd2 : 0 ≤ dg Q row c ∧ dg Q row c < 32 := by unfold dg; omega
        -- no row is right that fails here
        have bad : ¬ (ls nd n lv g c ≤ dg Q row c ∧ dg Q row c < eE n lv (ga nd g c) ∧ wA Q nd n lv al g c (dg Q row c) ≠ 0) → ¬ ∃ g, RowOk Q nd n lv al row g := by
          rintro hb ⟨g', p1, p2, p3, p4⟩
          have hk : ∀ k, 0 ≤ k → k < c → g' k = g k := fun k k0 k1 => by rw [p3 k k0 (by omega), hgd k k0 k1]
          have ho := p4 c c0 (by omega)
          have ho2 := (gg_ok hw c0 (by omega) hk (g' c)).mp ho
          rw [p3 c c0 (by omega)] at ho2
          refine hb ⟨ho2.2.2.1, ho2.2.2.2, ?_⟩
          rw [← gg_wA hw c0 (by omega) hk, ← p3 c c0 (by omega), wA_ok ho, upZ_self]
          have := PL_pos p4 (c + 1) (by omega) (by omega)
          omega
        have hQc := sQ_le (Q := Q) (nd := nd) (lv := lv) (al := al) hn1 hn2 c g hg
        have hpw := pow6 (show (Q - c).toNat ≤ 6 by omega)
        have hsw := sQ_wA (nd := nd) (n := n) (lv := lv) (al := al) (g := g) (show c < Q by omega)
        simp (disch := omega) only [K.g1, K.g0, a5_g0 (haw A1), hFw, o1_cO, K_least K c0 (show c < Q by omega) hC.1 hg, K_above K c0 (show c < Q by omega) hC.1, a4_cO (hat A1), K_lastBelow K hgg.1 hgg.2, L0, L1, L2, L3, L4, L5, L6, L7, L8, L9, L10, L11, L12, L13, L14, L15, L16, L17, L18, L19, L20, L21, L22, L23, L24, L25, L26, L27, L31, L32, L33, L36, L40, L41, L42, L47, L48, L57, L58, L59, L60, L61, L62, L65, L97, L101, L102, L103, L120, L126, L127, L144, L245, L1023, L1715, J0, J1, J31, J32, J1716, I_sub, I_mul, J_ushr, J_and31, J_I, hdg, I_add, I_sub, I_mul, I_neg, I_lt, I_le, I_eq, if_neg d1, Option.bind_some]
        by_cases d2 : dg Q row c < ls nd n lv g c
        · simp only [if_pos d2]
          exact Ok.pure (Or.inr ⟨_, rfl, Or.inr ⟨bad (by omega), A1, rfl⟩⟩)
        · by_cases d3 : eE n lv (ga nd g c) - 1 < dg Q row c
          · simp only [if_neg d2, if_pos d3]
            exact Ok.pure (Or.inr ⟨_, rfl, Or.inr ⟨bad (by omega), A1, rfl⟩⟩)
          · have hnn : 0 ≤ wA Q nd n lv al g c (dg Q row c) := wA_nn
            have htm := Sm_term (f := wA Q nd n lv al g c) (k := dg Q row c) (lo := ls nd n lv g c) (hi := eE n lv (ga nd g c)) (fun _ _ _ => wA_nn) (by omega) (by omega)
            by_cases d4 : wA Q nd n lv al g c (dg Q row c) = 0
            · simp (disch := omega) only [if_neg d2, if_neg d3, K_waysAt K hn1 hI c0 (show c < Q by omega) hg hC (show ga nd g c + 1 ≤ dg Q row c by omega) (show dg Q row c < eE n lv (ga nd g c) by omega), d4, Option.bind_some, if_true]
              exact Ok.pure (Or.inr ⟨_, rfl, Or.inr ⟨bad (fun z => z.2.2 d4), A1, rfl⟩⟩)
            · have hne : ¬ (J (wA Q nd n lv al g c (dg Q row c)) = J 0) := by rw [J_eq (by omega) (by omega) (by omega) (by omega)]; exact d4
              have hab := hw.ab c0 (show c < Q by omega)
              have t1 := hC.2.2 c (Int.le_refl _) (by omega) hab.2 (ls nd n lv g c) hlg (by omega)
              have t2 := hC.2.2 c (Int.le_refl _) (by omega) hab.2 (dg Q row c) (by omega) (by omega)
              simp (disch := omega) only [if_neg d2, if_neg d3, K_waysAt K hn1 hI c0 (show c < Q by omega) hg hC (show ga nd g c + 1 ≤ dg Q row c by omega) (show dg Q row c < eE n lv (ga nd g c) by omega), if_neg hne, o1_g4, o1_r9, r_lT, t1, t2, K_outer K c0 (show c < Q by omega) hC.2.1, J_sub, J_mul, J_add, Option.bind_some]
              refine Ok.bind (K_choose K hn1 hI c0 (by omega) hg hC (show ga nd g c + 1 ≤ dg Q row c by omega) (by omega) (fun k x k0 k1 x0 x1 => by rw [hi _ (by omega)]; exact hWA k x k0 k1 x0 x1)) ?_
              rintro m' ⟨A2, rfl, hC2, hi2⟩
              have hoc : okF nd n lv al g c (dg Q row c) := by
                have : hb (al c) (dg Q row c) ∧ egF lv nd c (ga nd g c) (dg Q row c) := by
                  by_cases y : hb (al c) (dg Q row c) ∧ egF lv nd c (ga nd g c) (dg Q row c)
                  · exact y
                  · exfalso; apply d4; unfold wA; rw [ind_f y, Int.zero_mul]
                exact ⟨this.1, this.2, by omega, by omega⟩
              refine Ok.pure (Or.inl ⟨_, (Q - (c + 1)).toNat, rfl, ⟨c + 1, upZ g c (dg Q row c), A2, ?_, by omega, by omega, rfl, upZ_rg hg (by omega) (by omega), fun k k0 k1 => ?_, fun k k0 k1 => ?_, hG.ext hw c0 (by omega) (by omega), hC2, fun i hi' => by rw [hi2 i hi', hi i hi']⟩, by omega⟩)
              · have hst : ∀ k, 0 ≤ k → k ≤ c → Sm (wA Q nd n lv al (upZ g c (dg Q row c)) k) (ls nd n lv (upZ g c (dg Q row c)) k) (upZ g c (dg Q row c) k) = Sm (wA Q nd n lv al g k) (ls nd n lv g k) (upZ g c (dg Q row c) k) := by
                  intro k k0 k1
                  have hk : ∀ j, 0 ≤ j → j < k → upZ g c (dg Q row c) j = g j := fun j j0 j1 => upZ_ne (by omega)
                  rw [gg_ls hw k0 (by omega) hk, show wA Q nd n lv al (upZ g c (dg Q row c)) k = wA Q nd n lv al g k from funext (gg_wA hw k0 (by omega) hk)]
                rw [Sm_succ c0, hst c c0 (Int.le_refl _), upZ_at]
                rw [Sm_congr (f := fun k => Sm (wA Q nd n lv al (upZ g c (dg Q row c)) k) (ls nd n lv (upZ g c (dg Q row c)) k) (upZ g c (dg Q row c) k)) (g := fun k => Sm (wA Q nd n lv al g k) (ls nd n lv g k) (g k)) (fun k k0 k1 => by show Sm _ _ _ = Sm _ _ _; rw [hst k k0 (by omega), upZ_ne (by omega)])]
                rw [wA_sum hw hn1 hI c0 (by omega) hg hlg _ (by omega) (by omega)]
              · by_cases z : k = c
                · rw [z, upZ_at]
                · rw [upZ_ne z]; exact hgd k k0 (by omega)
              · have hk : ∀ j, 0 ≤ j → j < k → upZ g c (dg Q row c) j = g j := fun j j0 j1 => upZ_ne (by omega)
                rw [gg_ok hw k0 (by omega) hk]
                by_cases z : k = c
                · rw [z, upZ_at]; exact hoc
                · rw [upZ_ne z]; exact hok k k0 (by omega)
    · rintro t (⟨A', r, rfl, g, h1, h2⟩ | ⟨h1, A', rfl⟩)
      · exact Ok.pure ⟨⟨A', rfl⟩, Or.inl ⟨g, h1, by rw [h2]⟩⟩
      · exact Ok.pure ⟨⟨A', rfl⟩, Or.inr ⟨h1, rfl⟩⟩
  · rw [if_neg d0]
    exact Ok.pure ⟨⟨A, rfl⟩, Or.inr ⟨fun ⟨g, z⟩ => d0 (hsh.mpr z.1), rfl⟩⟩
end CPK2
