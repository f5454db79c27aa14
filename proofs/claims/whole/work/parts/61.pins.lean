/-! ===== one count for equal sets; bounds; pinned nodes ===== -/
theorem I_pow_pos (a : Nat) : (0 : Int) < 32 ^ a := Int.pow_pos (by omega)
theorem I_pow_le {a b : Nat} (h : a ≤ b) : (32 : Int) ^ a ≤ 32 ^ b := by
  obtain ⟨k, rfl⟩ : ∃ k, b = a + k := ⟨b - a, by omega⟩
  rw [Int.pow_add]
  have h1 := I_pow_pos k
  have h2 := Int.mul_le_mul_of_nonneg_left (show (1 : Int) ≤ 32 ^ k by omega) (Int.le_of_lt (I_pow_pos a))
  omega
section PIN
variable {Q : Int} {nd : Int → Int → Int} {n : Int} {lv : Int → Int} {al al' : Int → Int32} {W W' : Int → Int → Int}
theorem IsW_uniq (hw : WW Q nd) (hal : ∀ q e, 0 ≤ q → q < Q → 0 ≤ e → e < n → (hb (al q) e ↔ hb (al' q) e)) (h : IsW Q nd n lv al W) (h' : IsW Q nd n lv al' W') : ∀ q e, 0 ≤ q → q < Q → 0 ≤ e → e < n → W q e = W' q e := by
  have key : ∀ k : Nat, ∀ q e, (Q - q).toNat ≤ k → 0 ≤ q → q < Q → 0 ≤ e → e < n → W q e = W' q e := by
    intro k
    induction k with
    | zero => intro q e hk q0 q1; omega
    | succ k ih =>
      intro q e hk q0 q1 e0 e1
      have hee := eE_in (n := n) (lv := lv) (e := e) (by omega) e1
      by_cases c : hb (al q) e
      · rw [(h q e q0 q1 e0 e1).1 c, (h' q e q0 q1 e0 e1).1 ((hal q e q0 q1 e0 e1).mp c)]
        unfold cw1
        by_cases z : q + 1 < eW Q nd q
        · rw [if_pos z, if_pos z]
          have := (eW_in (nd := nd) q1).2
          refine tl_congr hw (fun x x0 x1 => en_gt e1 x x0 x1 (by omega)) (q + 1) (e + 1) (by omega) (by omega) (Int.le_refl _) (fun c' x p1 p2 p3 p4 p5 => ?_)
          unfold wv
          rw [ih c' x (by omega) (by omega) p2 (by omega) (by omega)]
        · rw [if_neg z, if_neg z]
      · rw [(h q e q0 q1 e0 e1).2 c, (h' q e q0 q1 e0 e1).2 (fun z => c ((hal q e q0 q1 e0 e1).mpr z))]
  exact fun q e q0 q1 e0 e1 => key _ q e (Nat.le_refl _) q0 q1 e0 e1
theorem IsWf.nn {k0 : Int} (hk0 : 0 ≤ k0) (hw : WW Q nd) (h : IsWf Q nd n lv al W k0) : ∀ q e, k0 ≤ q → q < Q → 0 ≤ e → e < n → 0 ≤ W q e := by
  have key : ∀ k : Nat, ∀ q e, (Q - q).toNat ≤ k → k0 ≤ q → q < Q → 0 ≤ e → e < n → 0 ≤ W q e := by
    intro k
    induction k with
    | zero => intro q e hk q0 q1; omega
    | succ k ih =>
      intro q e hk q0 q1 e0 e1
      have hee := eE_in (n := n) (lv := lv) (e := e) (by omega) e1
      by_cases c : hb (al q) e
      · rw [(h q e q0 q1 e0 e1).1 c]
        unfold cw1
        by_cases z : q + 1 < eW Q nd q
        · rw [if_pos z]
          have := (eW_in (nd := nd) q1).2
          refine tl_nn hw (fun x x0 x1 => en_gt e1 x x0 x1 (by omega)) (q + 1) (e + 1) (by omega) (by omega) (Int.le_refl _) (fun c' x p1 p2 p3 p4 p5 => ?_)
          exact Int.mul_nonneg (ih c' x (by omega) (by omega) p2 (by omega) (by omega)) ind_nn
        · rw [if_neg z]; omega
      · rw [(h q e q0 q1 e0 e1).2 c]; omega
  exact fun q e q0 q1 e0 e1 => key _ q e (Nat.le_refl _) q0 q1 e0 e1
/-- a bound for the chains, from one for each branch -/
theorem tl_bd (hw : WW Q nd) {en : Int → Int} {lo E : Int} {v : Int → Int → Int} (hE : E - lo ≤ 32) (hlo : 0 ≤ E - lo) (hen : ∀ x, lo ≤ x → x < E → x < en x) : ∀ c f, 0 ≤ c → c < Q → lo ≤ f → (∀ c' x, c ≤ c' → c' < Q → nd c' 5 = nd c 5 → lo ≤ x → x < E → 0 ≤ v c' x ∧ v c' x ≤ 32 ^ (eW Q nd c' - c' - 1).toNat) → tl Q nd en lo E v c f ≤ 32 ^ (eA Q nd c - c).toNat := by
  have key : ∀ k : Nat, ∀ c f, (Q - c).toNat ≤ k → 0 ≤ c → c < Q → lo ≤ f → (∀ c' x, c ≤ c' → c' < Q → nd c' 5 = nd c 5 → lo ≤ x → x < E → 0 ≤ v c' x ∧ v c' x ≤ 32 ^ (eW Q nd c' - c' - 1).toNat) → tl Q nd en lo E v c f ≤ 32 ^ (eA Q nd c - c).toNat := by
    intro k
    induction k with
    | zero => intro c f hk c0 c1; omega
    | succ k ih =>
      intro c f hk c0 c1 hf hv
      obtain ⟨w1, w2⟩ := eW_in (nd := nd) c1
      have hea : eW Q nd c ≤ eA Q nd c := by
        unfold eA
        by_cases z : c = 0
        · rw [if_pos z]; omega
        · rw [if_neg z]; exact (eW_nest hw (by omega) c1).2
      rw [tl_eq hw c0 c1]
      have hterm : ∀ x, f ≤ x → x < E → v c x * af Q nd en lo E v c x ≤ 32 ^ (eA Q nd c - c - 1).toNat := by
        intro x x0 x1
        have ha : af Q nd en lo E v c x ≤ 32 ^ (eA Q nd c - eW Q nd c).toNat := by
          unfold af
          by_cases z : nxF Q nd c = -1
          · rw [if_pos z]
            have := I_pow_pos (eA Q nd c - eW Q nd c).toNat
            omega
          · obtain ⟨d1, d2, d3, d4, d5, d6⟩ := nx_some hw c0 c1 z
            rw [if_neg z]
            have hx := hen x (by omega) x1
            have := ih (nxF Q nd c) (if nd (nxF Q nd c) 4 = 0 then lo else en x) (by omega) (by omega) d4 (by split <;> omega) (fun c' x p1 p2 p3 p4 p5 => hv c' x (by omega) p2 (by omega) p4 p5)
            have hea' : eA Q nd (nxF Q nd c) = eA Q nd c := by
              unfold eA
              rw [if_neg (by omega), if_neg (by omega), d5]
            rw [hea', d2] at this
            rw [d2]
            exact this
        have hv1 := hv c x (Int.le_refl _) c1 rfl (by omega) x1
        have h0 := af_nn (v := v) hw hen c0 c1 (show lo ≤ x by omega) x1 (fun c' x p1 p2 p3 p4 p5 => (hv c' x p1 p2 p3 p4 p5).1)
        calc v c x * af Q nd en lo E v c x ≤ 32 ^ (eW Q nd c - c - 1).toNat * 32 ^ (eA Q nd c - eW Q nd c).toNat := Int.mul_le_mul hv1.2 ha h0 (Int.le_of_lt (I_pow_pos _))
          _ = 32 ^ (eA Q nd c - c - 1).toNat := by rw [← Int.pow_add]; congr 1; omega
      have h1 := Sm_le (lo := f) (hi := E) (f := fun x => v c x * af Q nd en lo E v c x) (g := fun _ => 32 ^ (eA Q nd c - c - 1).toNat) hterm
      by_cases z : f ≤ E
      · rw [Sm_const z] at h1
        refine Int.le_trans h1 ?_
        have h2 : (E - f) * 32 ^ (eA Q nd c - c - 1).toNat ≤ 32 * 32 ^ (eA Q nd c - c - 1).toNat := Int.mul_le_mul_of_nonneg_right (by omega) (Int.le_of_lt (I_pow_pos _))
        refine Int.le_trans h2 ?_
        rw [show (eA Q nd c - c).toNat = (eA Q nd c - c - 1).toNat + 1 by omega, Int.pow_succ, Int.mul_comm]
        exact Int.le_refl _
      · rw [Sm_nil (by omega)]
        exact Int.le_of_lt (I_pow_pos _)
  exact fun c f c0 c1 hf hv => key _ c f (Nat.le_refl _) c0 c1 hf hv
theorem IsWf.bd {k0 : Int} (hk0 : 0 ≤ k0) (hw : WW Q nd) (hn : n ≤ 32) (h : IsWf Q nd n lv al W k0) : ∀ q e, k0 ≤ q → q < Q → 0 ≤ e → e < n → W q e ≤ 32 ^ (eW Q nd q - q - 1).toNat := by
  have hnn := h.nn hk0 hw
  have key : ∀ k : Nat, ∀ q e, (Q - q).toNat ≤ k → k0 ≤ q → q < Q → 0 ≤ e → e < n → W q e ≤ 32 ^ (eW Q nd q - q - 1).toNat := by
    intro k
    induction k with
    | zero => intro q e hk q0 q1; omega
    | succ k ih =>
      intro q e hk q0 q1 e0 e1
      have hee := eE_in (n := n) (lv := lv) (e := e) (by omega) e1
      have hp := I_pow_pos (eW Q nd q - q - 1).toNat
      by_cases c : hb (al q) e
      · rw [(h q e q0 q1 e0 e1).1 c]
        unfold cw1
        by_cases z : q + 1 < eW Q nd q
        · rw [if_pos z]
          have h2 := (eW_in (nd := nd) q1).2
          have h5 := ((fc_iff hw (show 0 ≤ q by omega) q1).mp z).2
          have hea : eA Q nd (q + 1) = eW Q nd q := by unfold eA; rw [if_neg (by omega), h5]
          have := tl_bd (v := wv lv nd W e) hw (lo := e + 1) (E := eE n lv e) (by omega) (by omega) (fun x x0 x1 => en_gt e1 x x0 x1 (by omega)) (q + 1) (e + 1) (by omega) (by omega) (Int.le_refl _) (fun c' x p1 p2 p3 p4 p5 => by
            have w0 := hnn c' x (by omega) p2 (by omega) (by omega)
            refine ⟨Int.mul_nonneg w0 ind_nn, Int.le_trans ?_ (ih c' x (by omega) (by omega) p2 (by omega) (by omega))⟩
            unfold wv
            have := Int.mul_le_mul_of_nonneg_left (ind_le (p := egF lv nd c' e x)) w0
            omega)
          rw [hea, show eW Q nd q - (q + 1) = eW Q nd q - q - 1 by omega] at this
          exact this
        · rw [if_neg z]; omega
      · rw [(h q e q0 q1 e0 e1).2 c]; omega
  exact fun q e q0 q1 e0 e1 => key _ q e (Nat.le_refl _) q0 q1 e0 e1
end PIN
