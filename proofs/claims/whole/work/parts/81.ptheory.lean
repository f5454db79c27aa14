/-! ===== paths and pins: what is found, what is used ===== -/
section PT0
variable {Q : Int} {nd : Int → Int → Int} {en : Int → Int} {lo E : Int} {v v' : Int → Int → Int}
theorem bf_cg (hw : WW Q nd) {c x : Int} (c0 : 0 ≤ c) (c1 : c < Q) (h : ∀ c' y, 0 ≤ c' → c' < c → nd c' 5 = nd c 5 → lo ≤ y → y < E → v c' y = v' c' y) : bf nd en lo E v c x = bf nd en lo E v' c x := by
  unfold bf
  by_cases z : pvF nd c = -1
  · rw [if_pos z, if_pos z]
  · obtain ⟨d1, d2, d3, d4⟩ := pv_some hw c0 c1 z
    rw [if_neg z, if_neg z]
    refine Sm_congr (fun y y0 y1 => ?_)
    rw [fw_congr hw (pvF nd c) y (by omega) (by omega) y0 y1 (fun c' t p1 p2 p3 p4 p5 => h c' t p1 (by omega) (by omega) p4 p5)]
theorem af_cg (hw : WW Q nd) (hen : ∀ x, lo ≤ x → x < E → x < en x) {c x : Int} (c0 : 0 ≤ c) (c1 : c < Q) (x0 : lo ≤ x) (x1 : x < E) (h : ∀ c' y, c < c' → c' < Q → nd c' 5 = nd c 5 → lo ≤ y → y < E → v c' y = v' c' y) : af Q nd en lo E v c x = af Q nd en lo E v' c x := by
  unfold af
  by_cases z : nxF Q nd c = -1
  · rw [if_pos z, if_pos z]
  · obtain ⟨d1, d2, d3, d4, d5, d6⟩ := nx_some hw c0 c1 z
    rw [if_neg z, if_neg z]
    have := hen x x0 x1
    exact tl_congr hw hen _ _ (by omega) d4 (by split <;> omega) (fun c' t p1 p2 p3 p4 p5 => h c' t (by omega) p2 (by omega) p4 p5)
end PT0
section PT1
variable {Q : Int} {nd : Int → Int → Int} {n : Int} {lv : Int → Int} {al al' : Int → Int32} {W W' P : Int → Int → Int} {u : Int}
theorem BF_cg (hw : WW Q nd) {e c x : Int} (c0 : 0 ≤ c) (c1 : c < Q) (e0 : 0 ≤ e) (e1 : e < n) (h : ∀ c' y, 0 ≤ c' → c' < c → nd c' 5 = nd c 5 → 0 ≤ y → y < n → W c' y = W' c' y) : BF Q nd n lv W e c x = BF Q nd n lv W' e c x := by
  have hee := eE_in (n := n) (lv := lv) (e := e) (by omega) e1
  refine bf_cg hw c0 c1 (fun c' y p1 p2 p3 p4 p5 => ?_)
  unfold wv
  rw [h c' y p1 p2 p3 (by omega) (by omega)]
theorem AF_cg (hw : WW Q nd) {e c x : Int} (c0 : 0 ≤ c) (c1 : c < Q) (e0 : 0 ≤ e) (e1 : e < n) (x0 : e + 1 ≤ x) (x1 : x < eE n lv e) (h : ∀ c' y, c < c' → c' < Q → nd c' 5 = nd c 5 → 0 ≤ y → y < n → W c' y = W' c' y) : AF Q nd n lv W e c x = AF Q nd n lv W' e c x := by
  have hee := eE_in (n := n) (lv := lv) (e := e) (by omega) e1
  refine af_cg hw (fun x x0 x1 => en_gt (lv := lv) e1 x x0 x1 (show -1 ≤ e by omega)) c0 c1 x0 x1 (fun c' y p1 p2 p3 p4 p5 => ?_)
  unfold wv
  rw [h c' y p1 p2 p3 (by omega) (by omega)]
/-- all below d, if the branch c is held to x -/
theorem cw_held (hw : WW Q nd) {c e x : Int} (c0 : 0 < c) (c1 : c < Q) (e0 : 0 ≤ e) (e1 : e < n) (x0 : e + 1 ≤ x) (x1 : x < eE n lv e) : cw1 Q nd n lv (hB W c x) (nd c 5) e = ind (egF lv nd c e x) * BF Q nd n lv W e c x * AF Q nd n lv W e c x := by
  rw [cw_ch hw c0 c1 e0 e1]
  have hwv : ∀ y, wv lv nd (hB W c x) e c y = ind (y = x) * ind (egF lv nd c e y) := by
    intro y
    unfold wv hB
    rw [if_pos rfl]
  rw [Sm_one x0 x1 (fun y y0 y1 y2 => by rw [hwv, ind_f y2, Int.zero_mul, Int.zero_mul, Int.zero_mul])]
  rw [hwv, ind_t rfl, Int.one_mul]
  rw [BF_cg (W := hB W c x) (W' := W) hw (by omega) c1 e0 e1 (fun c' y p1 p2 p3 p4 p5 => if_neg (by omega)), AF_cg (W := hB W c x) (W' := W) hw (by omega) c1 e0 e1 x0 x1 (fun c' y p1 p2 p3 p4 p5 => if_neg (by omega))]
/-- what a node on a path can be -/
abbrev spF (al : Int → Int32) (W : Int → Int → Int) (u c x : Int) : Prop := (u = 0 → hb (al c) x) ∧ (u ≠ 0 → W c x ≠ 0)
theorem Sm_ne {f : Int → Int} {lo hi : Int} (h : Sm f lo hi ≠ 0) : ∃ k, lo ≤ k ∧ k < hi ∧ f k ≠ 0 := by
  by_cases z : ∃ k, lo ≤ k ∧ k < hi ∧ f k ≠ 0
  · exact z
  · exfalso
    exact h (Sm_zero (fun k k0 k1 => Classical.byContradiction (fun t => z ⟨k, k0, k1, t⟩)))
theorem ind_ne {p : Prop} [Decidable p] (h : ind p ≠ 0) : p := Classical.byContradiction (fun z => h (ind_f z))
theorem P_sp (hw : WW Q nd) {q : Int} (q1 : q < Q) (h : IsPf Q nd n lv al W u P q (q + 1)) {c x : Int} (c0 : 0 ≤ c) (c1 : c ≤ q) (cq : q < eW Q nd c) (x0 : 0 ≤ x) (x1 : x < n) (hp : P c x ≠ 0) : spF al W u c x := by
  by_cases z : c = 0
  · subst z
    rw [h.1 x x0 x1] at hp
    rcases ind_ne hp with ⟨z1, z2⟩ | ⟨z1, z2⟩
    · exact ⟨fun _ => z2, fun t => absurd z1 t⟩
    · exact ⟨fun t => absurd t z1, fun _ => z2⟩
  · rw [h.2 c (by omega) (by omega) cq x x0 x1] at hp
    obtain ⟨e, e0, e1, he⟩ := Sm_ne hp
    have hs : stp Q nd n lv al W u c e x ≠ 0 := fun t => he (by rw [t, Int.mul_zero])
    rcases (ind_ne hs).2.2 with ⟨z1, z2, -⟩ | ⟨z1, z2, -⟩
    · exact ⟨fun _ => z2, fun t => absurd z1 t⟩
    · exact ⟨fun t => absurd t z1, fun _ => z2⟩
theorem P_root (hw : WW Q nd) {q : Int} (q1 : q < Q) (h : IsPf Q nd n lv al W u P q (q + 1)) : ∀ c x, 0 ≤ c → c ≤ q → q < eW Q nd c → 0 ≤ x → x < n → P c x ≠ 0 → ∃ e, 0 ≤ e ∧ e < n ∧ P 0 e ≠ 0 := by
  have key : ∀ j : Nat, ∀ c x, c.toNat ≤ j → 0 ≤ c → c ≤ q → q < eW Q nd c → 0 ≤ x → x < n → P c x ≠ 0 → ∃ e, 0 ≤ e ∧ e < n ∧ P 0 e ≠ 0 := by
    intro j
    induction j with
    | zero => intro c x hj c0 c1 cq x0 x1 hp; rw [show c = 0 by omega] at hp; exact ⟨x, x0, x1, hp⟩
    | succ j ih =>
      intro c x hj c0 c1 cq x0 x1 hp
      by_cases z : c = 0
      · rw [z] at hp; exact ⟨x, x0, x1, hp⟩
      · rw [h.2 c (by omega) (by omega) cq x x0 x1] at hp
        obtain ⟨e, e0, e1, he⟩ := Sm_ne hp
        obtain ⟨g1, g2, g3⟩ := on_path hw (show 0 < c by omega) (by omega) cq
        exact ih (nd c 5) e (by omega) g1 (by omega) g3 e0 e1 (fun t => he (by rw [t, Int.zero_mul]))
  exact fun c x => key _ c x (Nat.le_refl _)
/-- all below d is positive, seen from its branch c -/
theorem cw_pos (hw : WW Q nd) (hn : n ≤ 32) (hI : IsW Q nd n lv al W) {c e : Int} (c0 : 0 < c) (c1 : c < Q) (e0 : 0 ≤ e) (e1 : e < n) : 0 < cw1 Q nd n lv W (nd c 5) e ↔ ∃ x, e + 1 ≤ x ∧ x < eE n lv e ∧ 0 < W c x ∧ egF lv nd c e x ∧ BF Q nd n lv W e c x ≠ 0 ∧ AF Q nd n lv W e c x ≠ 0 := by
  have hee := eE_in (n := n) (lv := lv) (e := e) (by omega) e1
  have hb := fun x => BF_bd (x := x) hw hn hI e0 e1 (show 0 ≤ c by omega) c1
  have ha := fun x x0 x1 => AF_bd (x := x) hw hn hI e0 e1 (show 0 ≤ c by omega) c1 x0 x1
  have hnn := fun x x0 x1 => (wv_bd hw hn hI e0 e1 (show 0 ≤ c by omega) c1 x0 x1 : 0 ≤ wv lv nd W e c x ∧ _).1
  rw [cw_ch hw c0 c1 e0 e1, Sm_pos (fun x x0 x1 => Int.mul_nonneg (Int.mul_nonneg (hnn x x0 x1) (hb x).1) (ha x x0 x1).1)]
  constructor
  · rintro ⟨x, x0, x1, hx⟩
    have hne : wv lv nd W e c x * BF Q nd n lv W e c x * AF Q nd n lv W e c x ≠ 0 := by omega
    have h1 : wv lv nd W e c x ≠ 0 := fun t => hne (by rw [t, Int.zero_mul, Int.zero_mul])
    have h2 : BF Q nd n lv W e c x ≠ 0 := fun t => hne (by rw [t, Int.mul_zero, Int.zero_mul])
    have h3 : AF Q nd n lv W e c x ≠ 0 := fun t => hne (by rw [t, Int.mul_zero])
    have h4 : W c x ≠ 0 := fun t => h1 (by unfold wv; rw [t, Int.zero_mul])
    have h5 : egF lv nd c e x := Classical.byContradiction (fun t => h1 (by unfold wv; rw [ind_f t, Int.mul_zero]))
    have h6 := hI.nn (Int.le_refl _) hw c x (by omega) c1 (by omega) (by omega)
    exact ⟨x, x0, x1, by omega, h5, h2, h3⟩
  · rintro ⟨x, x0, x1, h1, h2, h3, h4⟩
    refine ⟨x, x0, x1, ?_⟩
    have g1 := hb x
    have g2 := ha x x0 x1
    unfold wv
    rw [ind_t h2, Int.mul_one]
    exact Int.mul_pos (Int.mul_pos h1 (by omega)) (by omega)
theorem W_pos (hI : IsW Q nd n lv al W) {c e : Int} (c0 : 0 ≤ c) (c1 : c < Q) (e0 : 0 ≤ e) (e1 : e < n) : 0 < W c e ↔ hb (al c) e ∧ 0 < cw1 Q nd n lv W c e := by
  obtain ⟨h1, h2⟩ := hI c e c0 c1 e0 e1
  by_cases z : hb (al c) e
  · rw [h1 z]; exact ⟨fun t => ⟨z, t⟩, fun t => t.2⟩
  · rw [h2 z]; exact ⟨fun t => by omega, fun t => absurd t.1 z⟩
theorem cw1_loc (hw : WW Q nd) {q e : Int} (q0 : 0 ≤ q) (q1 : q < Q) (e0 : 0 ≤ e) (e1 : e < n) (h : ∀ c x, q < c → c < Q → nd c 5 = q → 0 ≤ x → x < n → W c x = W' c x) : cw1 Q nd n lv W q e = cw1 Q nd n lv W' q e := by
  obtain ⟨hT1, hT2⟩ := eE_in (lv := lv) (show -1 ≤ e by omega) e1
  unfold cw1
  by_cases z : q + 1 < eW Q nd q
  · rw [if_pos z, if_pos z]
    have := (eW_in (nd := nd) q1).2
    have h5 := ((fc_iff hw q0 q1).mp z).2
    refine tl_congr hw (fun x x0 x1 => en_gt e1 x x0 x1 (by omega)) (q + 1) (e + 1) (by omega) (by omega) (Int.le_refl _) (fun c' x p1 p2 p3 p4 p5 => ?_)
    unfold wv
    rw [h c' x (by omega) p2 (by omega) (by omega) (by omega)]
  · rw [if_neg z, if_neg z]
/-- a pin at q changes nothing where q is not below -/
theorem pin_off (hw : WW Q nd) {q x : Int} (hal : ∀ k y, 0 ≤ k → k < Q → 0 ≤ y → y < n → (hb (al' k) y ↔ hb (al k) y ∧ (k ≠ q ∨ y = x))) (hI : IsW Q nd n lv al W) (hI' : IsW Q nd n lv al' W') : ∀ c e, 0 ≤ c → c < Q → 0 ≤ e → e < n → ¬ (c ≤ q ∧ q < eW Q nd c) → W c e = W' c e := by
  have key : ∀ j : Nat, ∀ c e, (Q - c).toNat ≤ j → 0 ≤ c → c < Q → 0 ≤ e → e < n → ¬ (c ≤ q ∧ q < eW Q nd c) → W c e = W' c e := by
    intro j
    induction j with
    | zero => intro c e hj c0 c1; omega
    | succ j ih =>
      intro c e hj c0 c1 e0 e1 hc
      have hew := eW_in (nd := nd) c1
      have hcq : c ≠ q := fun t => hc (by omega)
      have ha := hal c e c0 c1 e0 e1
      obtain ⟨a1, a2⟩ := hI c e c0 c1 e0 e1
      obtain ⟨b1, b2⟩ := hI' c e c0 c1 e0 e1
      by_cases z : hb (al c) e
      · rw [a1 z, b1 (ha.mpr ⟨z, Or.inl hcq⟩)]
        refine cw1_loc hw c0 c1 e0 e1 (fun c' x p1 p2 p3 p4 p5 => ih c' x (by omega) (by omega) p2 p4 p5 (fun t => ?_))
        have := eW_nest hw (show 0 < c' by omega) p2
        rw [p3] at this
        exact hc (by omega)
      · rw [a2 z, b2 (fun t => z (ha.mp t).1)]
  exact fun c e => key _ c e (Nat.le_refl _)
/-- an element is found for q, just if a path reaches it -/
theorem found_iff (hw : WW Q nd) (hn1 : 1 ≤ n) (hn : n ≤ 32) {q x : Int} (q0 : 0 ≤ q) (q1 : q < Q) (x0 : 0 ≤ x) (x1 : x < n) (hal : ∀ k y, 0 ≤ k → k < Q → 0 ≤ y → y < n → (hb (al' k) y ↔ hb (al k) y ∧ (k ≠ q ∨ y = x))) (hI : IsW Q nd n lv al W) (hI' : IsW Q nd n lv al' W') (h : IsPf Q nd n lv al W 1 P q (q + 1)) : 0 < Sm (fun e => W' 0 e) 0 n ↔ P q x ≠ 0 := by
  have hoff := pin_off hw hal hI hI'
  have hWn := fun c y => hI.nn (Int.le_refl _) hw c y
  have hPb := fun c y => h.bd hw (by omega) hn c y
  -- from q up
  have step : ∀ j : Nat, ∀ c, c.toNat ≤ j → 0 ≤ c → c ≤ q → q < eW Q nd c → (∀ y, 0 ≤ y → y < n → 0 < W' c y → 0 < W c y) → ((∃ e, 0 ≤ e ∧ e < n ∧ P c e ≠ 0 ∧ 0 < W' c e) ↔ P q x ≠ 0) → (∀ y, 0 ≤ y → y < n → 0 < W' 0 y → 0 < W 0 y) ∧ ((∃ e, 0 ≤ e ∧ e < n ∧ P 0 e ≠ 0 ∧ 0 < W' 0 e) ↔ P q x ≠ 0) := by
    intro j
    induction j with
    | zero => intro c hj c0 c1 cq hm hi; rw [show c = 0 by omega] at hm hi; exact ⟨hm, hi⟩
    | succ j ih =>
      intro c hj c0 c1 cq hm hi
      by_cases z : c = 0
      · rw [z] at hm hi; exact ⟨hm, hi⟩
      · obtain ⟨g1, g2, g3⟩ := on_path hw (show 0 < c by omega) (by omega) cq
        -- beside c nothing changes
        have hbf : ∀ e y, 0 ≤ e → e < n → BF Q nd n lv W' e c y = BF Q nd n lv W e c y := by
          intro e y e0 e1
          refine (BF_cg hw c0 (by omega) e0 e1 (fun c' t p1 p2 p3 p4 p5 => hoff c' t p1 (by omega) p4 p5 (fun s => ?_))).symm
          have := (br_out hw p1 (show c' < Q by omega) p2 (by omega) p3.symm).2.1
          omega
        have haf : ∀ e y, 0 ≤ e → e < n → e + 1 ≤ y → y < eE n lv e → AF Q nd n lv W' e c y = AF Q nd n lv W e c y := by
          intro e y e0 e1 y0 y1
          refine (AF_cg hw c0 (by omega) e0 e1 y0 y1 (fun c' t p1 p2 p3 p4 p5 => hoff c' t (by omega) p2 p4 p5 (fun s => ?_))).symm
          have := (br_out hw c0 (show c < Q by omega) p1 p2 p3).2.1
          omega
        have hW'd : ∀ e, 0 ≤ e → e < n → (0 < W' (nd c 5) e ↔ hb (al (nd c 5)) e ∧ ∃ y, e + 1 ≤ y ∧ y < eE n lv e ∧ 0 < W' c y ∧ egF lv nd c e y ∧ BF Q nd n lv W e c y ≠ 0 ∧ AF Q nd n lv W e c y ≠ 0) := by
          intro e e0 e1
          rw [W_pos hI' g1 (by omega) e0 e1, cw_pos hw hn hI' (by omega) (by omega) e0 e1, hal (nd c 5) e g1 (by omega) e0 e1]
          constructor
          · rintro ⟨s1, y, y0, y1, s2, s3, s4, s5⟩
            exact ⟨s1.1, y, y0, y1, s2, s3, by rw [← hbf e y e0 e1]; exact s4, by rw [← haf e y e0 e1 y0 y1]; exact s5⟩
          · rintro ⟨s1, y, y0, y1, s2, s3, s4, s5⟩
            exact ⟨⟨s1, Or.inl (by omega)⟩, y, y0, y1, s2, s3, by rw [hbf e y e0 e1]; exact s4, by rw [haf e y e0 e1 y0 y1]; exact s5⟩
        refine ih (nd c 5) (by omega) g1 (by omega) g3 (fun e e0 e1 he => ?_) ?_
        · obtain ⟨s1, y, y0, y1, s2, s3, s4, s5⟩ := (hW'd e e0 e1).mp he
          have hee := eE_in (n := n) (lv := lv) (e := e) (by omega) e1
          exact (W_pos hI g1 (by omega) e0 e1).mpr ⟨s1, (cw_pos hw hn hI (by omega) (by omega) e0 e1).mpr ⟨y, y0, y1, hm y (by omega) (by omega) s2, s3, s4, s5⟩⟩
        · rw [← hi]
          constructor
          · rintro ⟨e, e0, e1, p1, p2⟩
            obtain ⟨s1, y, y0, y1, s2, s3, s4, s5⟩ := (hW'd e e0 e1).mp p2
            have hee := eE_in (n := n) (lv := lv) (e := e) (by omega) e1
            have hEe : eE n lv e = enF n lv e := if_neg (by omega)
            have hWy := hm y (by omega) (by omega) s2
            refine ⟨y, by omega, by omega, ?_, s2⟩
            rw [h.2 c (by omega) (by omega) cq y (by omega) (by omega)]
            have ht := Sm_term (f := fun e => P (nd c 5) e * stp Q nd n lv al W 1 c e y) (lo := 0) (hi := n) (k := e) (fun k k0 k1 => Int.mul_nonneg (hPb (nd c 5) k g1 (by omega) (by omega) g3 k0 k1).1 stp_nn) e0 e1
            have hst : stp Q nd n lv al W 1 c e y = 1 := ind_t ⟨by omega, by omega, Or.inr ⟨by omega, by omega, s3, s4, s5⟩⟩
            rw [hst, Int.mul_one] at ht
            have := (hPb (nd c 5) e g1 (by omega) (by omega) g3 e0 e1).1
            omega
          · rintro ⟨y, y0, y1, p1, p2⟩
            have p1' := p1
            rw [h.2 c (by omega) (by omega) cq y y0 y1] at p1
            obtain ⟨e, e0, e1, he⟩ := Sm_ne p1
            have hpe : P (nd c 5) e ≠ 0 := fun t => he (by rw [t, Int.zero_mul])
            have hst : stp Q nd n lv al W 1 c e y ≠ 0 := fun t => he (by rw [t, Int.mul_zero])
            obtain ⟨t1, t2, t3⟩ := ind_ne hst
            have hEe : eE n lv e = enF n lv e := if_neg (by omega)
            rcases t3 with ⟨t3, -⟩ | ⟨-, t4, t5, t6, t7⟩
            · omega
            · have hsp := (P_sp hw q1 h g1 (by omega) g3 e0 e1 hpe).2 (by omega)
              have hWd := (W_pos hI g1 (by omega) e0 e1).mp (by have := hWn (nd c 5) e g1 (by omega) e0 e1; omega)
              exact ⟨e, e0, e1, hpe, (hW'd e e0 e1).mpr ⟨hWd.1, y, by omega, by omega, p2, t5, t6, t7⟩⟩
  have hcwq : ∀ y, 0 ≤ y → y < n → cw1 Q nd n lv W' q y = cw1 Q nd n lv W q y := fun y y0 y1 => (cw1_loc hw q0 q1 y0 y1 (fun c x p1 p2 p3 p4 p5 => hoff c x (by omega) p2 p4 p5 (by omega))).symm
  obtain ⟨s1, s2⟩ := step _ q (Nat.le_refl _) q0 (Int.le_refl _) (eW_in (nd := nd) q1).1 (fun y y0 y1 hy => by
    obtain ⟨t1, t2⟩ := (W_pos hI' q0 q1 y0 y1).mp hy
    rw [hcwq y y0 y1] at t2
    exact (W_pos hI q0 q1 y0 y1).mpr ⟨((hal q y q0 q1 y0 y1).mp t1).1, t2⟩) (by
    constructor
    · rintro ⟨e, e0, e1, p1, p2⟩
      have := ((hal q e q0 q1 e0 e1).mp ((W_pos hI' q0 q1 e0 e1).mp p2).1).2
      rw [show x = e by omega]
      exact p1
    · intro p
      have hsp := (P_sp hw q1 h q0 (Int.le_refl _) (eW_in (nd := nd) q1).1 x0 x1 p).2 (by omega)
      have hWd := (W_pos hI q0 q1 x0 x1).mp (by have := hWn q x q0 q1 x0 x1; omega)
      exact ⟨x, x0, x1, p, (W_pos hI' q0 q1 x0 x1).mpr ⟨(hal q x q0 q1 x0 x1).mpr ⟨hWd.1, Or.inr rfl⟩, by rw [hcwq x x0 x1]; exact hWd.2⟩⟩)
  rw [← s2, Sm_pos (fun k k0 k1 => hI'.nn (Int.le_refl _) hw 0 k (by omega) (by omega) k0 k1)]
  constructor
  · rintro ⟨e, e0, e1, p⟩
    refine ⟨e, e0, e1, ?_, p⟩
    have := s1 e e0 e1 p
    rw [h.1 e e0 e1, ind_t (Or.inr ⟨by omega, by omega⟩)]
    omega
  · rintro ⟨e, e0, e1, -, p⟩
    exact ⟨e, e0, e1, p⟩
end PT1
