/-! ===== the reference: counts ===== -/
/-- one node held to x -/
def hB (B : Int → Int → Int) (held x : Int) : Int → Int → Int := fun r y => if r = held then ind (y = x) else B r y
abbrev bR (A : Nat → Int → Int) : Int → Int → Int := fun q e => A 13 (32 * q + e)
section MCT
variable {M m : Mm} {a : Nat} {F : Nat → Int} {A : Nat → Int → Int} {S : TS}
theorem M_next (hl : a + 25 < m.length) (hM : MC F A S) {i q e held x b r : Int} (i0 : 0 ≤ i) (i1 : i < 4) (e0 : 0 ≤ e) (e1 : e < tn S) (r0 : 0 ≤ r) (r1 : r < tqn S i) (hh : -1 ≤ held ∧ held < 6) (hx : 0 ≤ x ∧ x < 32) : Ok (whl (σ := Int32 × Mm) (ρ := (Mm)) FU (fun t11 => f_X8_chains_L33 t11.2 a (I i) (I q) (I e) (I held) (I x) (I b) (I r) t11.1) ((0 : Int32), ov m a (o8 a F A))) (fun m' => ∃ R, m' = ov m a (o8 a F (upN A 15 R)) ∧ ∀ y, 0 ≤ y → y < tn S → R y = ind (e < y ∧ y < enF (tn S) (tlv S) e ∧ egF (tlv S) (tnd S i) r e y) * hB (bR A) held x r y) := by
  have hF := hM.1.1
  have hn1 := hM.1.2.1.1
  have hn2 := hM.1.2.1.2.1
  have hQ6 := (hM.2 i i0 i1).2.1.2.1
  refine Ok.whl (fun j s => ∃ y R, s = (I y, ov m a (o8 a F (upN A 15 R))) ∧ 0 ≤ y ∧ y ≤ tn S ∧ j = (tn S - y).toNat ∧ ∀ k, 0 ≤ k → k < y → R k = ind (e < k ∧ k < enF (tn S) (tlv S) e ∧ egF (tlv S) (tnd S i) r e k) * hB (bR A) held x r k) _ (j := (tn S - 0).toNat) ?_ ⟨0, A 15, by rw [upN_self]; rfl, by omega, by omega, rfl, fun k k0 k1 => by omega⟩ (FU_lt (by omega))
  rintro j s ⟨y, R, rfl, y0, y1, rfl, hk⟩
  dsimp only
  have hAt : At (ov m a (o8 a F (upN A 15 R))) a (o8 a F (upN A 15 R)) := o8_At hl
  have hM' : MC F (upN A 15 R) S := hM.cg (fun i hi => upN_ne (by omega))
  unfold f_X8_chains_L33
  by_cases d1 : tn S ≤ y
  · simp (disch := omega) only [o8_g1, hF, I_add, I_sub, I_mul, I_neg, I_lt, I_le, I_eq, if_pos d1, Option.bind_some]
    exact Ok.pure (Or.inr ⟨_, rfl, R, rfl, fun k k0 k1 => hk k k0 (by omega)⟩)
  · have nxt : ∀ v, v = ind (e < y ∧ y < enF (tn S) (tlv S) e ∧ egF (tlv S) (tnd S i) r e y) * hB (bR A) held x r y → ∃ y' R', ((I (y + 1), ov m a (o8 a F (upN A 15 (upZ R y v)))) : Int32 × Mm) = (I y', ov m a (o8 a F (upN A 15 R'))) ∧ 0 ≤ y' ∧ y' ≤ tn S ∧ (tn S - (y + 1)).toNat = (tn S - y').toNat ∧ ∀ k, 0 ≤ k → k < y' → R' k = ind (e < k ∧ k < enF (tn S) (tlv S) e ∧ egF (tlv S) (tnd S i) r e k) * hB (bR A) held x r k := by
      intro v hv
      refine ⟨y + 1, _, rfl, by omega, by omega, rfl, fun k k0 k1 => ?_⟩
      by_cases z : k = y
      · rw [z, upZ_at]; exact hv
      · rw [upZ_ne z]; exact hk k k0 (by omega)
    have r13 : upN A 15 R 13 = A 13 := upN_ne (by omega)
    have hits : Option.bind (α := Int64) (if I r = I held then (if I y = I x then some (1 : Int64) else some (0 : Int64)) else (gR (ov m a (o8 a F (upN A 15 R))) a 8 14).bind fun v6 => (lJ (ov m a (o8 a F (upN A 15 R))) v6 (((32 : Int32) * I r) + I y)).bind fun v8 => some v8) = Option.bind (some (J (hB (bR A) held x r y))) (β := (Int32 × Mm) ⊕ Mm) := by
      congr 1
      unfold hB
      by_cases z : r = held
      · rw [if_pos z]
        by_cases t : y = x
        · rw [ind_t t]
          simp (disch := omega) only [I_add, I_sub, I_mul, I_neg, I_lt, I_le, I_eq, J0, J1, J31, J32, J1716, if_pos z, if_pos t]
        · rw [ind_f t]
          simp (disch := omega) only [I_add, I_sub, I_mul, I_neg, I_lt, I_le, I_eq, J0, J1, J31, J32, J1716, if_pos z, if_neg t]
      · rw [if_neg z]
        simp (disch := omega) only [L0, L1, L2, L3, L4, L5, L6, L7, L8, L9, L10, L11, L12, L13, L14, L15, L16, L17, L18, L19, L20, L21, L22, L23, L24, L25, L26, L27, L31, L32, L33, L36, L40, L41, L42, L47, L48, L57, L58, L59, L60, L61, L62, L65, L97, L101, L102, L103, L120, L126, L127, L144, L245, L1023, L1715, I_add, I_sub, I_mul, I_neg, I_lt, I_le, I_eq, if_neg z, o8_g14, o8_l13, r13, Option.bind_some]
    rw [hits]
    simp (disch := omega) only [o8_g1, hF, L0, L1, L2, L3, L4, L5, L6, L7, L8, L9, L10, L11, L12, L13, L14, L15, L16, L17, L18, L19, L20, L21, L22, L23, L24, L25, L26, L27, L31, L32, L33, L36, L40, L41, L42, L47, L48, L57, L58, L59, L60, L61, L62, L65, L97, L101, L102, L103, L120, L126, L127, L144, L245, L1023, L1715, I_add, I_sub, I_mul, I_neg, I_lt, I_le, I_eq, if_neg d1, o8_g16, o8_cO, N_joined hAt hM' i0 i1 r0 r1 e0 e1 y0 (show y < tn S by omega), Option.bind_some]
    by_cases d2 : e < y ∧ y < enF (tn S) (tlv S) e ∧ egF (tlv S) (tnd S i) r e y
    · simp (disch := omega) only [ind_t d2, I_add, I_sub, I_mul, I_neg, I_lt, I_le, I_eq, Option.bind_some, if_pos, if_neg, if_true, if_false, ite_true, ite_false, o8_s15, upN_at, upN_upN, Option.bind_some]
      exact Ok.pure (Or.inl ⟨_, (tn S - (y + 1)).toNat, rfl, nxt _ (by rw [ind_t d2, Int.one_mul]), by omega⟩)
    · simp (disch := omega) only [ind_f d2, I_add, I_sub, I_mul, I_neg, I_lt, I_le, I_eq, J0, J1, J31, J32, J1716, Option.bind_some, if_pos, if_neg, if_true, if_false, ite_true, ite_false, o8_s15, upN_at, upN_upN, Option.bind_some]
      exact Ok.pure (Or.inl ⟨_, (tn S - (y + 1)).toNat, rfl, nxt _ (by rw [ind_f d2, Int.zero_mul]), by omega⟩)
theorem M_chains (hl : a + 25 < m.length) (hM : MC F A S) {i q e held x : Int} (i0 : 0 ≤ i) (i1 : i < 4) (q0 : 0 ≤ q) (q1 : q < tqn S i) (e0 : 0 ≤ e) (e1 : e < tn S) (hh : -1 ≤ held ∧ held < 6) (hx : 0 ≤ x ∧ x < 32) : Ok (f_X8_chains (ov m a (o8 a F A)) a (I i) (I q) (I e) (I held) (I x)) (fun t => t.1 = J (cw1 (tqn S i) (tnd S i) (tn S) (tlv S) (hB (bR A) held x) q e) ∧ ∃ A', t.2 = ov m a (o8 a F A') ∧ ∀ i, i ≠ 14 → i ≠ 15 → i ≠ 16 → A' i = A i) := by
  have hF := hM.1.1
  have hn1 := hM.1.2.1.1
  have hn2 := hM.1.2.1.2.1
  obtain ⟨hq7, hw, -⟩ := hM.2 i i0 i1
  have hQ6 := hw.2.1
  have hEe : eE (tn S) (tlv S) e = enF (tn S) (tlv S) e := if_neg (by omega)
  obtain ⟨k1, k2, -, -⟩ := enF_spec (tlv S) e1
  unfold f_X8_chains
  simp only [L1, I_add]
  -- all branches
  refine Ok.bind (P := fun t => ∃ b A', t = (I b, ov m a (o8 a F A')) ∧ (∀ i, i ≠ 14 → i ≠ 15 → i ≠ 16 → A' i = A i) ∧ ((b = 0 ∧ ∀ k, q < k → k < tqn S i → tnd S i k 5 ≠ q) ∨ (b = 1 ∧ ∃ p, q < p ∧ p < tqn S i ∧ tnd S i p 5 = q ∧ (∀ k, p < k → k < tqn S i → tnd S i k 5 ≠ q) ∧ ∀ y, 0 ≤ y → y < tn S → A' 14 y = ind (e < y ∧ y < enF (tn S) (tlv S) e) * FW (tnd S i) (tn S) (tlv S) (hB (bR A) held x) e p y))) ?_ ?_
  · refine Ok.whl (fun j s => ∃ b r A', s = (I b, I r, ov m a (o8 a F A')) ∧ q < r ∧ r ≤ tqn S i ∧ j = (tqn S i - r).toNat ∧ (∀ i, i ≠ 14 → i ≠ 15 → i ≠ 16 → A' i = A i) ∧ ((b = 0 ∧ ∀ k, q < k → k < r → tnd S i k 5 ≠ q) ∨ (b = 1 ∧ ∃ p, q < p ∧ p < r ∧ tnd S i p 5 = q ∧ (∀ k, p < k → k < r → tnd S i k 5 ≠ q) ∧ ∀ y, 0 ≤ y → y < tn S → A' 14 y = ind (e < y ∧ y < enF (tn S) (tlv S) e) * FW (tnd S i) (tn S) (tlv S) (hB (bR A) held x) e p y))) _ (j := (tqn S i - (q + 1)).toNat) ?_ ⟨0, q + 1, A, rfl, by omega, by omega, rfl, fun _ _ _ _ => rfl, Or.inl ⟨rfl, fun k p1 p2 => by omega⟩⟩ (FU_lt (by omega))
    rintro j s ⟨b, r, A1, rfl, r0, r1, rfl, hi, hb'⟩
    dsimp only
    have hAt1 : At (ov m a (o8 a F A1)) a (o8 a F A1) := o8_At hl
    have hM1 : MC F A1 S := hM.cg (fun i hi' => hi i (by omega) (by omega) (by omega))
    have h7 : A1 7 i = tqn S i := by rw [hi 7 (by omega) (by omega) (by omega)]; exact hq7
    unfold f_X8_chains_L8
    by_cases d1 : tqn S i ≤ r
    · simp (disch := omega) only [o8_g7, o8_l7, h7, I_add, I_sub, I_mul, I_neg, I_lt, I_le, I_eq, if_pos d1, Option.bind_some]
      rw [show r = tqn S i by omega] at hb'
      exact Ok.pure (Or.inr ⟨_, rfl, b, A1, rfl, hi, hb'⟩)
    · have hab := hw.ab (show 0 ≤ r by omega) (show r < tqn S i by omega)
      simp (disch := omega) only [o8_g7, o8_l7, h7, L0, L1, L2, L3, L4, L5, L6, L7, L8, L9, L10, L11, L12, L13, L14, L15, L16, L17, L18, L19, L20, L21, L22, L23, L24, L25, L26, L27, L31, L32, L33, L36, L40, L41, L42, L47, L48, L57, L58, L59, L60, L61, L62, L65, L97, L101, L102, L103, L120, L126, L127, L144, L245, L1023, L1715, I_add, I_sub, I_mul, I_neg, I_lt, I_le, I_eq, if_neg d1, o8_cO, N_of hAt1 hM1.2, Option.bind_some]
      by_cases d2 : tnd S i r 5 = q
      · simp only [if_pos d2]
        have hbb : b = 0 ∨ b = 1 := hb'.elim (fun z => Or.inl z.1) (fun z => Or.inr z.1)
        refine Ok.bind (M_next (b := b) (q := q) (x := x) hl hM1 i0 i1 e0 e1 (show 0 ≤ r by omega) (by omega) hh hx) ?_
        rintro m' ⟨R, rfl, hR⟩
        have hM2 : MC F (upN A1 15 R) S := hM1.cg (fun i hi' => upN_ne (by omega))
        have hAt2 : At (ov m a (o8 a F (upN A1 15 R))) a (o8 a F (upN A1 15 R)) := o8_At hl
        simp (disch := omega) only [o8_cO, N_ord hAt2 hM2.2, Option.bind_some]
        have ho4 := (hw.2.2 r (by omega) (by omega)).2.2.2.2.1
        refine Ok.bind (M_goesOn hl hM2 (o := tnd S i r 4) ho4 hbb) ?_
        rintro m' ⟨A2, rfl, hi2, h14⟩
        have h13 : bR A1 = bR A := by funext q e; show A1 13 _ = A 13 _; rw [hi 13 (by omega) (by omega) (by omega)]
        -- the chain so far is fw
        have hfw : ∀ y, 0 ≤ y → y < tn S → A2 14 y = ind (e < y ∧ y < enF (tn S) (tlv S) e) * FW (tnd S i) (tn S) (tlv S) (hB (bR A) held x) e r y := by
          intro y y0 y1
          have hfe : FW (tnd S i) (tn S) (tlv S) (hB (bR A) held x) e r y = wv (tlv S) (tnd S i) (hB (bR A) held x) e r y * BF (tqn S i) (tnd S i) (tn S) (tlv S) (hB (bR A) held x) e r y := by
            show fw _ _ _ _ _ _ _ = _
            rw [fw_eq hw (by omega) (by omega)]
          have hR' : R y = ind (e < y ∧ y < enF (tn S) (tlv S) e) * wv (tlv S) (tnd S i) (hB (bR A) held x) e r y := by
            rw [hR y y0 y1, h13]
            unfold wv
            by_cases z1 : e < y ∧ y < enF (tn S) (tlv S) e
            · rw [ind_t z1, Int.one_mul, Int.mul_comm]
              congr 1
              exact ind_congr ⟨fun z => z.2.2, fun z => ⟨z1.1, z1.2, z⟩⟩
            · rw [ind_f z1, ind_f (fun z => z1 ⟨z.1, z.2.1⟩), Int.zero_mul, Int.zero_mul]
          rw [h14 y y0 y1, upN_at, hR', hfe]
          have hpv := pv_spec (tnd S i) (show 0 ≤ r by omega)
          rcases hb' with ⟨rfl, hn⟩ | ⟨rfl, p, p1, p2, p3, p4, p5⟩
          · rw [if_pos rfl]
            have hp : pvF (tnd S i) r = -1 := by
              by_cases z : pvF (tnd S i) r = -1
              · exact z
              · have h1 := hpv.2.2.1 (by omega)
                rw [d2] at h1
                have h2 := hw.ab (show 0 ≤ pvF (tnd S i) r by omega) (by omega)
                exact absurd h1 (hn _ (by omega) (by omega))
            unfold BF bf
            rw [if_pos hp, Int.mul_one]
          · rw [if_neg (by omega)]
            have hp : pvF (tnd S i) r = p := by
              have h1 : ¬ pvF (tnd S i) r < p := fun z => hpv.2.2.2 p z (by omega) (by omega) (by omega)
              have h2 : ¬ p < pvF (tnd S i) r := fun z => p4 _ z (by omega) (by rw [hpv.2.2.1 (by omega)]; exact d2)
              omega
            unfold BF bf
            rw [if_neg (by omega), hp, Int.mul_assoc]
            congr 2
            rw [hEe, ← Sm_rng e0 k1 k2]
            refine Sm_congr (fun z z0 z1 => ?_)
            rw [upN_ne (by omega), p5 z z0 z1, Int.mul_assoc]
            simp only [FW, hEe]
        refine Ok.pure (Or.inl ⟨_, (tqn S i - (r + 1)).toNat, rfl, ⟨1, r + 1, A2, rfl, by omega, by omega, rfl, fun i h1 h2 h3 => by rw [hi2 i h1 h3, upN_ne h2]; exact hi i h1 h2 h3, Or.inr ⟨rfl, r, r0, by omega, d2, fun k p1 p2 => by omega, hfw⟩⟩, by omega⟩)
      · simp only [if_neg d2]
        refine Ok.pure (Or.inl ⟨_, (tqn S i - (r + 1)).toNat, rfl, ⟨b, r + 1, A1, rfl, by omega, by omega, rfl, hi, ?_⟩, by omega⟩)
        rcases hb' with ⟨hb0, hn⟩ | ⟨hb0, p, p1, p2, p3, p4, p5⟩
        · refine Or.inl ⟨hb0, fun k g1 g2 => ?_⟩
          by_cases z : k = r
          · rw [z]; exact d2
          · exact hn k g1 (by omega)
        · refine Or.inr ⟨hb0, p, p1, by omega, p3, fun k g1 g2 => ?_, p5⟩
          by_cases z : k = r
          · rw [z]; exact d2
          · exact p4 k g1 (by omega)
  · rintro ⟨b', m'⟩ ⟨b, A1, he, hi, hb'⟩
    obtain ⟨rfl, rfl⟩ := Prod.mk.inj he
    dsimp only
    rcases hb' with ⟨rfl, hn⟩ | ⟨rfl, p, p1, p2, p3, p4, p5⟩
    · have hcw : cw1 (tqn S i) (tnd S i) (tn S) (tlv S) (hB (bR A) held x) q e = 1 := by
        unfold cw1
        rw [if_neg (fun z => hn (q + 1) (by omega) (by have := (eW_in (nd := tnd S i) q1).2; omega) ((fc_iff hw q0 q1).mp z).2)]
      rw [hcw]
      simp (disch := omega) only [I_add, I_sub, I_mul, I_neg, I_lt, I_le, I_eq, L0, L1, L2, L3, L4, L5, L6, L7, L8, L9, L10, L11, L12, L13, L14, L15, L16, L17, L18, L19, L20, L21, L22, L23, L24, L25, L26, L27, L31, L32, L33, L36, L40, L41, L42, L47, L48, L57, L58, L59, L60, L61, L62, L65, L97, L101, L102, L103, L120, L126, L127, L144, L245, L1023, L1715, J0, J1, J31, J32, J1716, Option.bind_some, if_pos, if_neg, if_true, if_false, ite_true, ite_false, if_true]
      refine Ok.bind (P := fun v => v = J 1) ?_ (fun v hv => Ok.pure ⟨hv, A1, rfl, hi⟩)
      refine Ok.whl (fun j s => s = (J 1, I 0) ∧ j = 0) _ (j := 0) ?_ ⟨rfl, rfl⟩ (FU_lt (by omega))
      rintro j s ⟨rfl, rfl⟩
      dsimp only
      unfold f_X8_chains_L148
      simp (disch := omega) only [o8_g1, hF, L0, L1, L2, L3, L4, L5, L6, L7, L8, L9, L10, L11, L12, L13, L14, L15, L16, L17, L18, L19, L20, L21, L22, L23, L24, L25, L26, L27, L31, L32, L33, L36, L40, L41, L42, L47, L48, L57, L58, L59, L60, L61, L62, L65, L97, L101, L102, L103, L120, L126, L127, L144, L245, L1023, L1715, I_add, I_sub, I_mul, I_neg, I_lt, I_le, I_eq, Option.bind_some, if_true, if_neg (show ¬ tn S ≤ 0 by omega)]
      exact Ok.pure (Or.inr ⟨_, rfl, rfl⟩)
    · have hcw : cw1 (tqn S i) (tnd S i) (tn S) (tlv S) (hB (bR A) held x) q e = Sm (fun y => A1 14 y) 0 (tn S) := by
        rw [← p3, cw_ch hw (show 0 < p by omega) p2 e0 e1]
        rw [show Sm (fun y => A1 14 y) 0 (tn S) = Sm (fun y => ind (e < y ∧ y < enF (tn S) (tlv S) e) * FW (tnd S i) (tn S) (tlv S) (hB (bR A) held x) e p y) 0 (tn S) from Sm_congr (fun y y0 y1 => p5 y y0 y1), Sm_rng e0 k1 k2, hEe]
        refine Sm_congr (fun y y0 y1 => ?_)
        have hnx : nxF (tqn S i) (tnd S i) p = -1 := by
          by_cases z : nxF (tqn S i) (tnd S i) p = -1
          · exact z
          · obtain ⟨g1, g2, g3, g4, g5, g6⟩ := nx_some hw (show 0 ≤ p by omega) p2 z
            exact absurd (g5.trans p3) (p4 _ g3 g4)
        show _ = fw _ _ _ _ _ _ _
        rw [fw_eq hw (by omega) p2]
        have : AF (tqn S i) (tnd S i) (tn S) (tlv S) (hB (bR A) held x) e p y = 1 := if_pos hnx
        rw [this, Int.mul_one]
      rw [hcw]
      simp (disch := omega) only [I_add, I_sub, I_mul, I_neg, I_lt, I_le, I_eq, L0, L1, L2, L3, L4, L5, L6, L7, L8, L9, L10, L11, L12, L13, L14, L15, L16, L17, L18, L19, L20, L21, L22, L23, L24, L25, L26, L27, L31, L32, L33, L36, L40, L41, L42, L47, L48, L57, L58, L59, L60, L61, L62, L65, L97, L101, L102, L103, L120, L126, L127, L144, L245, L1023, L1715, J0, J1, J31, J32, J1716, Option.bind_some, if_pos, if_neg, if_true, if_false, ite_true, ite_false]
      refine Ok.bind (P := fun v => v = J (Sm (fun y => A1 14 y) 0 (tn S))) ?_ (fun v hv => Ok.pure ⟨hv, A1, rfl, hi⟩)
      refine Ok.whl (fun j s => ∃ y, s = (J (Sm (fun y => A1 14 y) 0 y), I y) ∧ 0 ≤ y ∧ y ≤ tn S ∧ j = (tn S - y).toNat) _ (j := (tn S - 0).toNat) ?_ ⟨0, by rw [Sm_nil (Int.le_refl _)], by omega, by omega, rfl⟩ (FU_lt (by omega))
      rintro j s ⟨y, rfl, y0, y1, rfl⟩
      dsimp only
      unfold f_X8_chains_L148
      by_cases d1 : tn S ≤ y
      · simp (disch := omega) only [o8_g1, hF, I_add, I_sub, I_mul, I_neg, I_lt, I_le, I_eq, if_pos d1, Option.bind_some]
        exact Ok.pure (Or.inr ⟨_, rfl, by rw [show y = tn S by omega]⟩)
      · simp (disch := omega) only [o8_g1, hF, L0, L1, L2, L3, L4, L5, L6, L7, L8, L9, L10, L11, L12, L13, L14, L15, L16, L17, L18, L19, L20, L21, L22, L23, L24, L25, L26, L27, L31, L32, L33, L36, L40, L41, L42, L47, L48, L57, L58, L59, L60, L61, L62, L65, L97, L101, L102, L103, L120, L126, L127, L144, L245, L1023, L1715, I_add, I_sub, I_mul, I_neg, I_lt, I_le, I_eq, Option.bind_some, if_pos, if_neg, if_true, if_false, ite_true, ite_false, if_neg d1, o8_g15, o8_l14, J_add, Option.bind_some]
        exact Ok.pure (Or.inl ⟨_, (tn S - (y + 1)).toNat, rfl, ⟨y + 1, by rw [Sm_succ y0], by omega, by omega, rfl⟩, by omega⟩)
/-- what a node may be, and fits -/
def aM (A : Nat → Int → Int) (S : TS) (i q : Int) : Int32 := I (A 12 q) &&& ftS (tn S) (ttg S) (tvl S) (tnd S i) q
theorem hB_off {B : Int → Int → Int} {x q e : Int} (hq : 0 ≤ q) : hB B (-1) x q e = B q e := if_neg (by omega)
theorem M_counts (hl : a + 25 < m.length) (hM : MC F A S) {i : Int} (i0 : 0 ≤ i) (i1 : i < 4) : Ok (f_X8_counts (ov m a (o8 a F A)) a (I i)) (fun t => ∃ A', t.2 = ov m a (o8 a F A') ∧ t.1 = J (Sm (fun e => bR A' 0 e) 0 (tn S)) ∧ IsW (tqn S i) (tnd S i) (tn S) (tlv S) (aM A S i) (bR A') ∧ ∀ i, i ≠ 13 → i ≠ 14 → i ≠ 15 → i ≠ 16 → A' i = A i) := by
  have hF := hM.1.1
  have hn1 := hM.1.2.1.1
  have hn2 := hM.1.2.1.2.1
  obtain ⟨hq7, hw, -⟩ := hM.2 i i0 i1
  have hQ0 := hw.1
  have hQ6 := hw.2.1
  unfold f_X8_counts
  simp (disch := omega) only [o8_g7, o8_l7, hq7, L0, L1, L2, L3, L4, L5, L6, L7, L8, L9, L10, L11, L12, L13, L14, L15, L16, L17, L18, L19, L20, L21, L22, L23, L24, L25, L26, L27, L31, L32, L33, L36, L40, L41, L42, L47, L48, L57, L58, L59, L60, L61, L62, L65, L97, L101, L102, L103, L120, L126, L127, L144, L245, L1023, L1715, I_sub, Option.bind_some]
  refine Ok.bind (P := fun m' => ∃ A', m' = ov m a (o8 a F A') ∧ IsW (tqn S i) (tnd S i) (tn S) (tlv S) (aM A S i) (bR A') ∧ ∀ i, i ≠ 13 → i ≠ 14 → i ≠ 15 → i ≠ 16 → A' i = A i) ?_ ?_
  · refine Ok.whl (fun j s => ∃ q A', s = (I q, ov m a (o8 a F A')) ∧ -1 ≤ q ∧ q < tqn S i ∧ j = (q + 1).toNat ∧ IsWf (tqn S i) (tnd S i) (tn S) (tlv S) (aM A S i) (bR A') (q + 1) ∧ ∀ i, i ≠ 13 → i ≠ 14 → i ≠ 15 → i ≠ 16 → A' i = A i) _ (j := (tqn S i - 1 + 1).toNat) ?_ ⟨tqn S i - 1, A, rfl, by omega, by omega, rfl, fun q e q0 q1 => by omega, fun _ _ _ _ _ => rfl⟩ (FU_lt (by omega))
    rintro j s ⟨q, A1, rfl, q0, q1, rfl, hI, hi⟩
    dsimp only
    unfold f_X8_counts_L9
    by_cases d1 : q < 0
    · simp (disch := omega) only [L0, L1, L2, L3, L4, L5, L6, L7, L8, L9, L10, L11, L12, L13, L14, L15, L16, L17, L18, L19, L20, L21, L22, L23, L24, L25, L26, L27, L31, L32, L33, L36, L40, L41, L42, L47, L48, L57, L58, L59, L60, L61, L62, L65, L97, L101, L102, L103, L120, L126, L127, L144, L245, L1023, L1715, I_add, I_sub, I_mul, I_neg, I_lt, I_le, I_eq, if_pos d1]
      exact Ok.pure (Or.inr ⟨_, rfl, A1, rfl, by have := hI; rwa [show q + 1 = 0 by omega] at this, hi⟩)
    · simp (disch := omega) only [L0, L1, L2, L3, L4, L5, L6, L7, L8, L9, L10, L11, L12, L13, L14, L15, L16, L17, L18, L19, L20, L21, L22, L23, L24, L25, L26, L27, L31, L32, L33, L36, L40, L41, L42, L47, L48, L57, L58, L59, L60, L61, L62, L65, L97, L101, L102, L103, L120, L126, L127, L144, L245, L1023, L1715, I_add, I_sub, I_mul, I_neg, I_lt, I_le, I_eq, if_neg d1]
      refine Ok.bind (P := fun m' => ∃ A', m' = ov m a (o8 a F A') ∧ IsWf (tqn S i) (tnd S i) (tn S) (tlv S) (aM A S i) (bR A') q ∧ ∀ i, i ≠ 13 → i ≠ 14 → i ≠ 15 → i ≠ 16 → A' i = A i) ?_ ?_
      · refine Ok.whl (fun j s => ∃ e A', s = (I e, ov m a (o8 a F A')) ∧ 0 ≤ e ∧ e ≤ tn S ∧ j = (tn S - e).toNat ∧ (∀ k x, q < k → k < tqn S i → 0 ≤ x → x < tn S → bR A' k x = bR A1 k x) ∧ (∀ x, 0 ≤ x → x < e → (hb (aM A S i q) x → bR A' q x = cw1 (tqn S i) (tnd S i) (tn S) (tlv S) (bR A1) q x) ∧ (¬ hb (aM A S i q) x → bR A' q x = 0)) ∧ ∀ i, i ≠ 13 → i ≠ 14 → i ≠ 15 → i ≠ 16 → A' i = A i) _ (j := (tn S - 0).toNat) ?_ ⟨0, A1, rfl, by omega, by omega, rfl, fun _ _ _ _ _ _ => rfl, fun x x0 x1 => by omega, hi⟩ (FU_lt (by omega))
        rintro j s ⟨e, A2, rfl, e0, e1, rfl, hr, hx, hi2⟩
        dsimp only
        have hAt : At (ov m a (o8 a F A2)) a (o8 a F A2) := o8_At hl
        have hM2 : MC F A2 S := hM.cg (fun i hi' => hi2 i (by omega) (by omega) (by omega) (by omega))
        unfold f_X8_counts_L15
        by_cases d2 : tn S ≤ e
        · simp (disch := omega) only [o8_g1, hF, I_add, I_sub, I_mul, I_neg, I_lt, I_le, I_eq, if_pos d2, Option.bind_some]
          refine Ok.pure (Or.inr ⟨_, rfl, A2, rfl, fun k x k0 k1 x0 x1 => ?_, hi2⟩)
          by_cases z : k = q
          · subst z
            obtain ⟨y1, y2⟩ := hx x x0 (by omega)
            refine ⟨fun ha => ?_, y2⟩
            rw [y1 ha]
            exact cw1_congr hw (by omega) k1 x0 x1 (fun c x p1 p2 p3 p4 => (hr c x (by omega) p2 p3 p4).symm)
          · obtain ⟨y1, y2⟩ := hI k x (by omega) k1 x0 x1
            rw [hr k x (by omega) k1 x0 x1]
            refine ⟨fun ha => ?_, y2⟩
            rw [y1 ha]
            exact cw1_congr hw (by omega) k1 x0 x1 (fun c x p1 p2 p3 p4 => (hr c x (by omega) p2 p3 p4).symm)
        · have h12 : A2 12 = A 12 := hi2 12 (by omega) (by omega) (by omega) (by omega)
          have hhb : hb (aM A S i q) e ↔ hb (I (A 12 q)) e ∧ ftF (ttg S) (tvl S) (tnd S i) q e := by
            unfold aM ftS
            rw [hb_and, hb_bsn (by omega) hn2 e0 (by omega)]
          have nxt : ∀ (A3 : Nat → Int → Int) (v : Int), (∀ i, i ≠ 14 → i ≠ 15 → i ≠ 16 → A3 i = A2 i) → (hb (aM A S i q) e → v = cw1 (tqn S i) (tnd S i) (tn S) (tlv S) (bR A1) q e) → (¬ hb (aM A S i q) e → v = 0) → ∃ e' A', ((I (e + 1), ov m a (o8 a F (upN A3 13 (upZ (A3 13) (32 * q + e) v)))) : Int32 × Mm) = (I e', ov m a (o8 a F A')) ∧ 0 ≤ e' ∧ e' ≤ tn S ∧ (tn S - (e + 1)).toNat = (tn S - e').toNat ∧ (∀ k x, q < k → k < tqn S i → 0 ≤ x → x < tn S → bR A' k x = bR A1 k x) ∧ (∀ x, 0 ≤ x → x < e' → (hb (aM A S i q) x → bR A' q x = cw1 (tqn S i) (tnd S i) (tn S) (tlv S) (bR A1) q x) ∧ (¬ hb (aM A S i q) x → bR A' q x = 0)) ∧ ∀ i, i ≠ 13 → i ≠ 14 → i ≠ 15 → i ≠ 16 → A' i = A i := by
            intro A3 v h3 v1 v2
            have h313 : A3 13 = A2 13 := h3 13 (by omega) (by omega) (by omega)
            refine ⟨e + 1, _, rfl, by omega, by omega, rfl, fun k x k0 k1 x0 x1 => ?_, fun x x0 x1 => ?_, fun i g1 g2 g3 g4 => ?_⟩
            · show upN A3 13 _ 13 (32 * k + x) = _
              rw [upN_at, upZ_ne (by omega), h313]
              exact hr k x k0 k1 x0 x1
            · show (_ → upN A3 13 _ 13 (32 * q + x) = _) ∧ (_ → upN A3 13 _ 13 (32 * q + x) = 0)
              rw [upN_at]
              by_cases z : x = e
              · subst z
                rw [upZ_at]
                exact ⟨v1, v2⟩
              · rw [upZ_ne (by omega), h313]
                exact hx x x0 (by omega)
            · rw [upN_ne g1, h3 i g2 g3 g4]; exact hi2 i g1 g2 g3 g4
          have hmay : Option.bind (α := Int32) (if ((iushrJ (I (A2 12 q)) (I e)) &&& (1 : Int32)) = (1 : Int32) then cO (ov m a (o8 a F A2)) a 8 <| (f_X8_fitsIn (ov m a (o8 a F A2)) a (I i) (I q) (I e)).bind fun v13 => (if v13 = (0 : Int32) then some (0 : Int32) else some (1 : Int32)) else some (0 : Int32)) = Option.bind (some (I (ind (hb (aM A S i q) e)))) (β := (Int32 × Mm) ⊕ Mm) := by
            congr 1
            by_cases z1 : hb (I (A 12 q)) e
            · by_cases z2 : ftF (ttg S) (tvl S) (tnd S i) q e
              · rw [ind_t (hhb.mpr ⟨z1, z2⟩)]
                simp (disch := omega) only [L0, L1, L2, L3, L4, L5, L6, L7, L8, L9, L10, L11, L12, L13, L14, L15, L16, L17, L18, L19, L20, L21, L22, L23, L24, L25, L26, L27, L31, L32, L33, L36, L40, L41, L42, L47, L48, L57, L58, L59, L60, L61, L62, L65, L97, L101, L102, L103, L120, L126, L127, L144, L245, L1023, L1715, h12, tst_ushr e0, ind_t z1, if_true, o8_cO, N_fits hAt hM2, ind_t z2, I_add, I_sub, I_mul, I_neg, I_lt, I_le, I_eq, Option.bind_some, if_pos, if_neg, if_true, if_false, ite_true, ite_false]
              · rw [ind_f (fun z => z2 (hhb.mp z).2)]
                simp (disch := omega) only [L0, L1, L2, L3, L4, L5, L6, L7, L8, L9, L10, L11, L12, L13, L14, L15, L16, L17, L18, L19, L20, L21, L22, L23, L24, L25, L26, L27, L31, L32, L33, L36, L40, L41, L42, L47, L48, L57, L58, L59, L60, L61, L62, L65, L97, L101, L102, L103, L120, L126, L127, L144, L245, L1023, L1715, h12, tst_ushr e0, ind_t z1, if_true, o8_cO, N_fits hAt hM2, ind_f z2, I_add, I_sub, I_mul, I_neg, I_lt, I_le, I_eq, Option.bind_some, if_pos, if_neg, if_true, if_false, ite_true, ite_false]
            · rw [ind_f (fun z => z1 (hhb.mp z).1)]
              simp (disch := omega) only [L0, L1, L2, L3, L4, L5, L6, L7, L8, L9, L10, L11, L12, L13, L14, L15, L16, L17, L18, L19, L20, L21, L22, L23, L24, L25, L26, L27, L31, L32, L33, L36, L40, L41, L42, L47, L48, L57, L58, L59, L60, L61, L62, L65, L97, L101, L102, L103, L120, L126, L127, L144, L245, L1023, L1715, h12, tst_ushr e0, ind_f z1, I_add, I_sub, I_mul, I_neg, I_lt, I_le, I_eq, Option.bind_some, if_pos, if_neg, if_true, if_false, ite_true, ite_false]
          simp (disch := omega) only [o8_g1, hF, I_add, I_sub, I_mul, I_neg, I_lt, I_le, I_eq, if_neg d2, o8_g13, o8_l12, o8_g14, Option.bind_some]
          rw [hmay]
          simp (disch := omega) only [L0, L1, L2, L3, L4, L5, L6, L7, L8, L9, L10, L11, L12, L13, L14, L15, L16, L17, L18, L19, L20, L21, L22, L23, L24, L25, L26, L27, L31, L32, L33, L36, L40, L41, L42, L47, L48, L57, L58, L59, L60, L61, L62, L65, L97, L101, L102, L103, L120, L126, L127, L144, L245, L1023, L1715, I_add, I_sub, I_mul, I_neg, I_lt, I_le, I_eq, Option.bind_some]
          by_cases d3 : hb (aM A S i q) e
          · simp (disch := omega) only [ind_t d3, I_add, I_sub, I_mul, I_neg, I_lt, I_le, I_eq, Option.bind_some, if_pos, if_neg, if_true, if_false, ite_true, ite_false, o8_cO]
            refine Ok.bind (M_chains hl hM2 i0 i1 (by omega) q1 e0 (by omega) (held := -1) (x := 0) (by omega) (by omega)) ?_
            rintro ⟨v, m3⟩ ⟨e3, A3, rfl, h3⟩
            dsimp only at e3 ⊢
            rw [e3]
            simp (disch := omega) only [o8_s13, Option.bind_some]
            refine Ok.pure (Or.inl ⟨_, (tn S - (e + 1)).toNat, rfl, nxt A3 _ h3 (fun _ => ?_) (fun z => absurd d3 z), by omega⟩)
            refine cw1_congr hw (by omega) q1 e0 (by omega) (fun c x p1 p2 p3 p4 => ?_)
            rw [hB_off (by omega)]
            exact hr c x p1 p2 p3 p4
          · simp (disch := omega) only [ind_f d3, I_add, I_sub, I_mul, I_neg, I_lt, I_le, I_eq, Option.bind_some, if_pos, if_neg, if_true, if_false, ite_true, ite_false, J0, J1, J31, J32, J1716, o8_s13, Option.bind_some, if_true]
            exact Ok.pure (Or.inl ⟨_, (tn S - (e + 1)).toNat, rfl, nxt A2 _ (fun _ _ _ _ => rfl) (fun z => absurd z d3) (fun _ => rfl), by omega⟩)
      · rintro m' ⟨A', rfl, hI', hi'⟩
        exact Ok.pure (Or.inl ⟨_, (q + -1 + 1).toNat, rfl, ⟨q + -1, A', rfl, by omega, by omega, rfl, by rw [show q + -1 + 1 = q by omega]; exact hI', hi'⟩, by omega⟩)
  · rintro m' ⟨A', rfl, hI, hi⟩
    refine Ok.bind (P := fun v => v = J (Sm (fun e => bR A' 0 e) 0 (tn S))) ?_ (fun v hv => Ok.pure ⟨A', rfl, hv, hI, hi⟩)
    refine Ok.whl (fun j s => ∃ e, s = (J (Sm (fun e => bR A' 0 e) 0 e), I e) ∧ 0 ≤ e ∧ e ≤ tn S ∧ j = (tn S - e).toNat) _ (j := (tn S - 0).toNat) ?_ ⟨0, by rw [Sm_nil (Int.le_refl _)]; rfl, by omega, by omega, rfl⟩ (FU_lt (by omega))
    rintro j s ⟨e, rfl, e0, e1, rfl⟩
    dsimp only
    unfold f_X8_counts_L100
    by_cases d1 : tn S ≤ e
    · simp (disch := omega) only [o8_g1, hF, I_add, I_sub, I_mul, I_neg, I_lt, I_le, I_eq, if_pos d1, Option.bind_some]
      exact Ok.pure (Or.inr ⟨_, rfl, by rw [show e = tn S by omega]⟩)
    · simp (disch := omega) only [o8_g1, hF, L0, L1, L2, L3, L4, L5, L6, L7, L8, L9, L10, L11, L12, L13, L14, L15, L16, L17, L18, L19, L20, L21, L22, L23, L24, L25, L26, L27, L31, L32, L33, L36, L40, L41, L42, L47, L48, L57, L58, L59, L60, L61, L62, L65, L97, L101, L102, L103, L120, L126, L127, L144, L245, L1023, L1715, I_add, I_sub, I_mul, I_neg, I_lt, I_le, I_eq, if_neg d1, o8_g14, o8_l13, J_add, Option.bind_some]
      refine Ok.pure (Or.inl ⟨_, (tn S - (e + 1)).toNat, rfl, ⟨e + 1, ?_, by omega, by omega, rfl⟩, by omega⟩)
      rw [Sm_succ e0]
      show _ = (J (_ + A' 13 (32 * 0 + e)), _)
      rw [show 32 * 0 + e = e by omega]
end MCT
