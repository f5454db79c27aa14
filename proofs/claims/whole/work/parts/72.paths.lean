/-! ===== paths down to a node ===== -/
theorem bf_bd {Q : Int} {nd : Int → Int → Int} {en : Int → Int} {lo E : Int} {v : Int → Int → Int} (hw : WW Q nd) (hE : E - lo ≤ 32) (hlo : 0 ≤ E - lo) : ∀ c x, 0 ≤ c → c < Q → (∀ c' x, 0 ≤ c' → c' ≤ c → nd c' 5 = nd c 5 → lo ≤ x → x < E → 0 ≤ v c' x ∧ v c' x ≤ 32 ^ (eW Q nd c' - c' - 1).toNat) → bf nd en lo E v c x ≤ 32 ^ (c - nd c 5 - 1).toNat := by
  have key : ∀ k : Nat, ∀ c x, c.toNat ≤ k → 0 ≤ c → c < Q → (∀ c' x, 0 ≤ c' → c' ≤ c → nd c' 5 = nd c 5 → lo ≤ x → x < E → 0 ≤ v c' x ∧ v c' x ≤ 32 ^ (eW Q nd c' - c' - 1).toNat) → bf nd en lo E v c x ≤ 32 ^ (c - nd c 5 - 1).toNat := by
    intro k
    induction k with
    | zero =>
      intro c x hk c0 c1 hv
      unfold bf
      by_cases z : pvF nd c = -1
      · rw [if_pos z]
        have := I_pow_pos (c - nd c 5 - 1).toNat
        omega
      · obtain ⟨d1, d2, d3, d4⟩ := pv_some hw c0 c1 z; omega
    | succ k ih =>
      intro c x hk c0 c1 hv
      unfold bf
      by_cases z : pvF nd c = -1
      · rw [if_pos z]
        have := I_pow_pos (c - nd c 5 - 1).toNat
        omega
      · obtain ⟨d1, d2, d3, d4⟩ := pv_some hw c0 c1 z
        rw [if_neg z]
        obtain ⟨p1, p2, p3, p4, p5, p6⟩ := nx_some hw (show 0 ≤ pvF nd c by omega) (by omega) (by omega)
        have hab := hw.ab (show 0 ≤ pvF nd c by omega) (by omega)
        have hew := eW_in (nd := nd) (show pvF nd c < Q by omega)
        have hterm : ∀ y, lo ≤ y → y < E → fw nd en lo E v (pvF nd c) y * ind (nd c 4 = 0 ∨ en y ≤ x) ≤ 32 ^ (c - nd c 5 - 2).toNat := by
          intro y y0 y1
          have hv1 := hv (pvF nd c) y (by omega) (by omega) d3 y0 y1
          have hb1 := ih (pvF nd c) y (by omega) (by omega) (by omega) (fun c' x q1 q2 q3 q4 q5 => hv c' x q1 (by omega) (by omega) q4 q5)
          have hb0 := bf_nn (en := en) (v := v) (x := y) (lo := lo) (E := E) hw (show 0 ≤ pvF nd c by omega) (by omega) (fun c' x q1 q2 q3 q4 q5 => (hv c' x q1 (by omega) (by omega) q4 q5).1)
          rw [fw_eq hw (by omega) (by omega)]
          have h1 : v (pvF nd c) y * bf nd en lo E v (pvF nd c) y ≤ 32 ^ (c - nd c 5 - 2).toNat := by
            calc v (pvF nd c) y * bf nd en lo E v (pvF nd c) y ≤ 32 ^ (eW Q nd (pvF nd c) - pvF nd c - 1).toNat * 32 ^ (pvF nd c - nd (pvF nd c) 5 - 1).toNat := Int.mul_le_mul hv1.2 hb1 hb0 (Int.le_of_lt (I_pow_pos _))
              _ = 32 ^ (c - nd c 5 - 2).toNat := by rw [← Int.pow_add]; congr 1; omega
          have h2 := Int.mul_le_mul_of_nonneg_left (@ind_le (nd c 4 = 0 ∨ en y ≤ x) _) (Int.mul_nonneg hv1.1 hb0)
          omega
        have h1 := Sm_le (lo := lo) (hi := E) (f := fun y => fw nd en lo E v (pvF nd c) y * ind (nd c 4 = 0 ∨ en y ≤ x)) (g := fun _ => 32 ^ (c - nd c 5 - 2).toNat) hterm
        rw [Sm_const (by omega)] at h1
        refine Int.le_trans h1 ?_
        have h2 : (E - lo) * 32 ^ (c - nd c 5 - 2).toNat ≤ 32 * 32 ^ (c - nd c 5 - 2).toNat := Int.mul_le_mul_of_nonneg_right (by omega) (Int.le_of_lt (I_pow_pos _))
        refine Int.le_trans h2 ?_
        rw [show (c - nd c 5 - 1).toNat = (c - nd c 5 - 2).toNat + 1 by omega, Int.pow_succ, Int.mul_comm]
        exact Int.le_refl _
  exact fun c x c0 c1 hv => key _ c x (Nat.le_refl _) c0 c1 hv
section PTH
variable {Q : Int} {nd : Int → Int → Int} {n : Int} {lv : Int → Int} {al : Int → Int32} {W P : Int → Int → Int} {u : Int}
theorem wv_bd (hw : WW Q nd) (hn : n ≤ 32) (hI : IsW Q nd n lv al W) {e : Int} (e0 : 0 ≤ e) (e1 : e < n) {c x : Int} (c0 : 0 ≤ c) (c1 : c < Q) (x0 : e + 1 ≤ x) (x1 : x < eE n lv e) : 0 ≤ wv lv nd W e c x ∧ wv lv nd W e c x ≤ 32 ^ (eW Q nd c - c - 1).toNat := by
  have hee := eE_in (n := n) (lv := lv) (e := e) (by omega) e1
  have h0 := hI.nn (Int.le_refl _) hw c x c0 c1 (by omega) (by omega)
  have h1 := hI.bd (Int.le_refl _) hw hn c x c0 c1 (by omega) (by omega)
  have h2 := Int.mul_le_mul_of_nonneg_left (@ind_le (egF lv nd c e x) _) h0
  refine ⟨Int.mul_nonneg h0 ind_nn, ?_⟩
  unfold wv
  omega
theorem BF_bd (hw : WW Q nd) (hn : n ≤ 32) (hI : IsW Q nd n lv al W) {e : Int} (e0 : 0 ≤ e) (e1 : e < n) {c x : Int} (c0 : 0 ≤ c) (c1 : c < Q) : 0 ≤ BF Q nd n lv W e c x ∧ BF Q nd n lv W e c x ≤ 1073741824 := by
  have hee := eE_in (n := n) (lv := lv) (e := e) (by omega) e1
  refine ⟨bf_nn hw c0 c1 (fun c' x p1 p2 p3 p4 p5 => (wv_bd hw hn hI e0 e1 p1 (by omega) p4 p5).1), ?_⟩
  refine Int.le_trans (bf_bd hw (by omega) (by omega) c x c0 c1 (fun c' x p1 p2 p3 p4 p5 => wv_bd hw hn hI e0 e1 p1 (by omega) p4 p5)) (pow6 ?_)
  have := hw.ab c0 c1
  have := hw.2.1
  omega
theorem AF_bd (hw : WW Q nd) (hn : n ≤ 32) (hI : IsW Q nd n lv al W) {e : Int} (e0 : 0 ≤ e) (e1 : e < n) {c x : Int} (c0 : 0 ≤ c) (c1 : c < Q) (x0 : e + 1 ≤ x) (x1 : x < eE n lv e) : 0 ≤ AF Q nd n lv W e c x ∧ AF Q nd n lv W e c x ≤ 1073741824 := by
  have hee := eE_in (n := n) (lv := lv) (e := e) (by omega) e1
  have hen := fun x x0 x1 => en_gt (lv := lv) e1 x x0 x1 (show -1 ≤ e by omega)
  refine ⟨af_nn hw hen c0 c1 x0 x1 (fun c' x p1 p2 p3 p4 p5 => (wv_bd hw hn hI e0 e1 (by omega) (by omega) p4 p5).1), ?_⟩
  unfold AF af
  by_cases z : nxF Q nd c = -1
  · rw [if_pos z]; omega
  · obtain ⟨d1, d2, d3, d4, d5, d6⟩ := nx_some hw c0 c1 z
    rw [if_neg z]
    have := hen x x0 x1
    refine Int.le_trans (tl_bd hw (by omega) (by omega) hen _ _ (by omega) d4 (by split <;> omega) (fun c' x p1 p2 p3 p4 p5 => wv_bd hw hn hI e0 e1 (by omega) p2 p4 p5)) (pow6 ?_)
    have := hw.2.1
    unfold eA
    rw [if_neg (by omega), d5]
    have := (hw.ab c0 c1).1
    have h5 := ((hw.2.2 c c0 c1).2.2.2.2.2.2.2 d1).2.1
    have := (hw.ab c0 c1).2
    have := (eW_in (nd := nd) (q := nd c 5) (Q := Q) (by omega)).2
    omega
/-- all below d, seen from one of its branches -/
theorem cw_ch (hw : WW Q nd) {c e : Int} (c0 : 0 < c) (c1 : c < Q) (e0 : 0 ≤ e) (e1 : e < n) : cw1 Q nd n lv W (nd c 5) e = Sm (fun x => wv lv nd W e c x * BF Q nd n lv W e c x * AF Q nd n lv W e c x) (e + 1) (eE n lv e) := by
  have hn := eW_nest hw c0 c1
  have hab := hw.ab (show 0 ≤ c by omega) c1
  unfold cw1
  rw [if_pos (show nd c 5 + 1 < eW Q nd (nd c 5) by omega)]
  show tl _ _ _ _ _ _ _ _ = _
  rw [← ch_inv hw (fun x x0 x1 => en_gt (lv := lv) e1 x x0 x1 (show -1 ≤ e by omega)) c (by omega) c1]
  refine Sm_congr (fun x x0 x1 => ?_)
  rw [fw_eq hw (by omega) c1]
/-- c can be x below e, on a path: as it is allowed, or as it is used -/
abbrev usF (Q : Int) (nd : Int → Int → Int) (n : Int) (lv : Int → Int) (al : Int → Int32) (W : Int → Int → Int) (u c e x : Int) : Prop := (u = 0 ∧ hb (al c) x ∧ egF lv nd c e x) ∨ (u ≠ 0 ∧ W c x ≠ 0 ∧ egF lv nd c e x ∧ BF Q nd n lv W e c x ≠ 0 ∧ AF Q nd n lv W e c x ≠ 0)
def stp (Q : Int) (nd : Int → Int → Int) (n : Int) (lv : Int → Int) (al : Int → Int32) (W : Int → Int → Int) (u c e x : Int) : Int := ind (e < x ∧ x < enF n lv e ∧ usF Q nd n lv al W u c e x)
/-- P counts the paths, for the nodes above q that lie before k -/
def IsPf (Q : Int) (nd : Int → Int → Int) (n : Int) (lv : Int → Int) (al : Int → Int32) (W : Int → Int → Int) (u : Int) (P : Int → Int → Int) (q k : Int) : Prop := (∀ x, 0 ≤ x → x < n → P 0 x = ind ((u = 0 ∧ hb (al 0) x) ∨ (u ≠ 0 ∧ W 0 x ≠ 0))) ∧ ∀ c, 0 < c → c < k → q < eW Q nd c → ∀ x, 0 ≤ x → x < n → P c x = Sm (fun e => P (nd c 5) e * stp Q nd n lv al W u c e x) 0 n
theorem stp_nn {c e x : Int} : 0 ≤ stp Q nd n lv al W u c e x := ind_nn
/-- the node above one on the path is on it -/
theorem on_path (hw : WW Q nd) {c q : Int} (c0 : 0 < c) (c1 : c < Q) (h : q < eW Q nd c) : 0 ≤ nd c 5 ∧ nd c 5 < c ∧ q < eW Q nd (nd c 5) := by
  have h1 := ((hw.2.2 c (by omega) c1).2.2.2.2.2.2.2 c0).2.1
  have h2 := hw.ab (show 0 ≤ c by omega) c1
  have h3 := eW_nest hw c0 c1
  omega
theorem IsPf.bd (hw : WW Q nd) (hn0 : 0 ≤ n) (hn : n ≤ 32) {q k : Int} (h : IsPf Q nd n lv al W u P q k) : ∀ c x, 0 ≤ c → (c = 0 ∨ c < k) → c < Q → q < eW Q nd c → 0 ≤ x → x < n → 0 ≤ P c x ∧ P c x ≤ 32 ^ c.toNat := by
  have key : ∀ j : Nat, ∀ c x, c.toNat ≤ j → 0 ≤ c → (c = 0 ∨ c < k) → c < Q → q < eW Q nd c → 0 ≤ x → x < n → 0 ≤ P c x ∧ P c x ≤ 32 ^ c.toNat := by
    intro j
    induction j with
    | zero =>
      intro c x hj c0 ck c1 cq x0 x1
      have hc : c = 0 := by omega
      subst hc
      rw [h.1 x x0 x1]
      refine ⟨ind_nn, ?_⟩
      have := @ind_le ((u = 0 ∧ hb (al 0) x) ∨ (u ≠ 0 ∧ W 0 x ≠ 0)) _
      simpa using this
    | succ j ih =>
      intro c x hj c0 ck c1 cq x0 x1
      by_cases z : c = 0
      · exact ih c x (by omega) c0 ck c1 cq x0 x1
      · obtain ⟨g1, g2, g3⟩ := on_path hw (show 0 < c by omega) c1 cq
        rw [h.2 c (by omega) (by omega) cq x x0 x1]
        have hi := fun e e0 e1 => ih (nd c 5) e (by omega) g1 (by omega) (by omega) g3 e0 e1
        refine ⟨Sm_nonneg (fun e e0 e1 => Int.mul_nonneg (hi e e0 e1).1 stp_nn), ?_⟩
        have hterm : ∀ e, 0 ≤ e → e < n → P (nd c 5) e * stp Q nd n lv al W u c e x ≤ 32 ^ (c - 1).toNat := by
          intro e e0 e1
          have h1 := Int.mul_le_mul_of_nonneg_left (show stp Q nd n lv al W u c e x ≤ 1 from ind_le) (hi e e0 e1).1
          have h2 := I_pow_le (show (nd c 5).toNat ≤ (c - 1).toNat by omega)
          have := (hi e e0 e1).2
          omega
        have h1 := Sm_le (lo := 0) (hi := n) (f := fun e => P (nd c 5) e * stp Q nd n lv al W u c e x) (g := fun _ => 32 ^ (c - 1).toNat) hterm
        rw [Sm_const hn0] at h1
        refine Int.le_trans h1 ?_
        have h2 : (n - 0) * 32 ^ (c - 1).toNat ≤ 32 * 32 ^ (c - 1).toNat := Int.mul_le_mul_of_nonneg_right (by omega) (Int.le_of_lt (I_pow_pos _))
        refine Int.le_trans h2 ?_
        rw [show c.toNat = (c - 1).toNat + 1 by omega, Int.pow_succ, Int.mul_comm]
        exact Int.le_refl _
  exact fun c x => key _ c x (Nat.le_refl _)
end PTH
