/-! ===== chains of branches: from the last one back (tl), from the first one on (fw) ===== -/
theorem Sm_from {g : Int → Int} {lo s E : Int} (h : lo ≤ s) : Sm (fun x => ind (s ≤ x) * g x) lo E = Sm g s E := by
  by_cases c : s ≤ E
  · rw [Sm_split h c, Sm_zero (fun k k0 k1 => by rw [ind_f (by omega), Int.zero_mul]), Int.zero_add]
    exact Sm_congr (fun k k0 k1 => by rw [ind_t k0, Int.one_mul])
  · rw [Sm_nil (show E ≤ s by omega)]
    exact Sm_zero (fun k k0 k1 => by rw [ind_f (by omega), Int.zero_mul])
section CH
variable (Q : Int) (nd : Int → Int → Int) (en : Int → Int) (lo E : Int) (v : Int → Int → Int)
def tlN : Nat → Int → Int → Int
  | 0, _, _ => 0
  | k + 1, c, f => Sm (fun x => v c x * (if nxF Q nd c = -1 then 1 else tlN k (nxF Q nd c) (if nd (nxF Q nd c) 4 = 0 then lo else en x))) f E
/-- the ways for a branch and those after it, where its element is f or a later one -/
def tl (c f : Int) : Int := tlN Q nd en lo E v (Q - c).toNat c f
/-- the ways for the branches after c, where c is x -/
def af (c x : Int) : Int := if nxF Q nd c = -1 then 1 else tl Q nd en lo E v (nxF Q nd c) (if nd (nxF Q nd c) 4 = 0 then lo else en x)
def fwN : Nat → Int → Int → Int
  | 0, _, _ => 0
  | k + 1, c, x => v c x * (if pvF nd c = -1 then 1 else Sm (fun y => fwN k (pvF nd c) y * ind (nd c 4 = 0 ∨ en y ≤ x)) lo E)
/-- the ways for a branch and those before it, where it is x -/
def fw (c x : Int) : Int := fwN nd en lo E v (c + 1).toNat c x
/-- the ways for the branches before c, where c is x -/
def bf (c x : Int) : Int := if pvF nd c = -1 then 1 else Sm (fun y => fw nd en lo E v (pvF nd c) y * ind (nd c 4 = 0 ∨ en y ≤ x)) lo E
end CH
section CH2
variable {Q : Int} {nd : Int → Int → Int} {en : Int → Int} {lo E : Int} {v v' : Int → Int → Int}
theorem tlN_st (hw : WW Q nd) : ∀ (k k' : Nat) (c f : Int), 0 ≤ c → c < Q → Q - c ≤ k → Q - c ≤ k' → tlN Q nd en lo E v k c f = tlN Q nd en lo E v k' c f := by
  intro k
  induction k with
  | zero => intro k' c f c0 c1 h1 h2; omega
  | succ k ih =>
    intro k' c f c0 c1 h1 h2
    cases k' with
    | zero => omega
    | succ k' =>
      unfold tlN
      refine Sm_congr (fun x x0 x1 => ?_)
      by_cases z : nxF Q nd c = -1
      · rw [if_pos z, if_pos z]
      · obtain ⟨d1, d2, d3, d4, d5, d6⟩ := nx_some hw c0 c1 z
        rw [if_neg z, if_neg z, ih k' (nxF Q nd c) _ (by omega) d4 (by omega) (by omega)]
theorem tl_eq (hw : WW Q nd) {c f : Int} (c0 : 0 ≤ c) (c1 : c < Q) : tl Q nd en lo E v c f = Sm (fun x => v c x * af Q nd en lo E v c x) f E := by
  unfold tl
  obtain ⟨k, hk⟩ : ∃ k : Nat, (Q - c).toNat = k + 1 := ⟨(Q - c).toNat - 1, by omega⟩
  rw [hk]
  unfold tlN
  refine Sm_congr (fun x x0 x1 => ?_)
  unfold af
  by_cases z : nxF Q nd c = -1
  · rw [if_pos z, if_pos z]
  · obtain ⟨d1, d2, d3, d4, d5, d6⟩ := nx_some hw c0 c1 z
    rw [if_neg z, if_neg z]
    unfold tl
    rw [tlN_st hw k (Q - nxF Q nd c).toNat (nxF Q nd c) _ (by omega) d4 (by omega) (by omega)]
theorem fwN_st (hw : WW Q nd) : ∀ (k k' : Nat) (c x : Int), 0 ≤ c → c < Q → c + 1 ≤ k → c + 1 ≤ k' → fwN nd en lo E v k c x = fwN nd en lo E v k' c x := by
  intro k
  induction k with
  | zero => intro k' c x c0 c1 h1 h2; omega
  | succ k ih =>
    intro k' c x c0 c1 h1 h2
    cases k' with
    | zero => omega
    | succ k' =>
      unfold fwN
      by_cases z : pvF nd c = -1
      · rw [if_pos z, if_pos z]
      · obtain ⟨d1, d2, d3, d4⟩ := pv_some hw c0 c1 z
        rw [if_neg z, if_neg z]
        congr 1
        exact Sm_congr (fun y y0 y1 => by rw [ih k' (pvF nd c) y (by omega) (by omega) (by omega) (by omega)])
theorem fw_eq (hw : WW Q nd) {c x : Int} (c0 : 0 ≤ c) (c1 : c < Q) : fw nd en lo E v c x = v c x * bf nd en lo E v c x := by
  unfold fw
  rw [show (c + 1).toNat = c.toNat + 1 by omega]
  unfold fwN
  congr 1
  unfold bf
  by_cases z : pvF nd c = -1
  · rw [if_pos z, if_pos z]
  · obtain ⟨d1, d2, d3, d4⟩ := pv_some hw c0 c1 z
    rw [if_neg z, if_neg z]
    refine Sm_congr (fun y y0 y1 => ?_)
    unfold fw
    rw [fwN_st hw c.toNat (pvF nd c + 1).toNat (pvF nd c) y (by omega) (by omega) (by omega) (by omega)]
/-- what is before times what is after, summed up, is the same for every branch of a node -/
theorem ch_inv (hw : WW Q nd) (hen : ∀ x, lo ≤ x → x < E → x < en x) : ∀ c, 0 ≤ c → c < Q → Sm (fun x => fw nd en lo E v c x * af Q nd en lo E v c x) lo E = tl Q nd en lo E v (nd c 5 + 1) lo := by
  have key : ∀ k : Nat, ∀ c : Int, c.toNat ≤ k → 0 ≤ c → c < Q → Sm (fun x => fw nd en lo E v c x * af Q nd en lo E v c x) lo E = tl Q nd en lo E v (nd c 5 + 1) lo := by
    intro k
    induction k with
    | zero =>
      intro c hc c0 c1
      obtain rfl : c = 0 := by omega
      have h5 : nd 0 5 = -1 := by have := hw.ab (q := 0) (by omega) c1; omega
      have hp : pvF nd 0 = -1 := pv_first hw (by omega) c1 (by omega)
      rw [h5, show (-1 : Int) + 1 = 0 by rfl, tl_eq hw (by omega) c1]
      refine Sm_congr (fun x x0 x1 => ?_)
      rw [fw_eq hw (by omega) c1]
      unfold bf
      rw [if_pos hp, Int.mul_one]
    | succ k ih =>
      intro c hc c0 c1
      by_cases z : pvF nd c = -1
      · have h5 := pv_none hw c0 c1 z
        rw [h5, show c - 1 + 1 = c by omega, tl_eq hw c0 c1]
        refine Sm_congr (fun x x0 x1 => ?_)
        rw [fw_eq hw c0 c1]
        unfold bf
        rw [if_pos z, Int.mul_one]
      · obtain ⟨d1, d2, d3, d4⟩ := pv_some hw c0 c1 z
        rw [← d3, ← ih (pvF nd c) (by omega) (by omega) (by omega)]
        -- both sums over pairs
        have e1 : Sm (fun x => fw nd en lo E v c x * af Q nd en lo E v c x) lo E = Sm (fun x => Sm (fun y => fw nd en lo E v (pvF nd c) y * (ind (nd c 4 = 0 ∨ en y ≤ x) * (v c x * af Q nd en lo E v c x))) lo E) lo E := by
          refine Sm_congr (fun x x0 x1 => ?_)
          rw [fw_eq hw c0 c1]
          unfold bf
          rw [if_neg z, Int.mul_comm (v c x), Int.mul_assoc, ← Sm_mulr]
          exact Sm_congr (fun y y0 y1 => by rw [Int.mul_assoc])
        rw [e1, Sm_swap]
        refine Sm_congr (fun y y0 y1 => ?_)
        rw [Sm_mul]
        congr 1
        conv => rhs; unfold af
        rw [d4, if_neg (show ¬ c = -1 by omega), tl_eq hw c0 c1]
        by_cases q : nd c 4 = 0
        · rw [if_pos q]
          exact Sm_congr (fun x x0 x1 => by rw [ind_t (Or.inl q), Int.one_mul])
        · rw [if_neg q, ← Sm_from (lo := lo) (show lo ≤ en y by have := hen y y0 y1; omega)]
          exact Sm_congr (fun x x0 x1 => by rw [ind_congr (show (nd c 4 = 0 ∨ en y ≤ x) ↔ en y ≤ x from ⟨fun z => z.elim (fun z => absurd z q) id, Or.inr⟩)])
  exact fun c c0 c1 => key c.toNat c (Nat.le_refl _) c0 c1
theorem tl_congr (hw : WW Q nd) (hen : ∀ x, lo ≤ x → x < E → x < en x) : ∀ c f, 0 ≤ c → c < Q → lo ≤ f → (∀ c' x, c ≤ c' → c' < Q → nd c' 5 = nd c 5 → lo ≤ x → x < E → v c' x = v' c' x) → tl Q nd en lo E v c f = tl Q nd en lo E v' c f := by
  have key : ∀ k : Nat, ∀ c f, (Q - c).toNat ≤ k → 0 ≤ c → c < Q → lo ≤ f → (∀ c' x, c ≤ c' → c' < Q → nd c' 5 = nd c 5 → lo ≤ x → x < E → v c' x = v' c' x) → tl Q nd en lo E v c f = tl Q nd en lo E v' c f := by
    intro k
    induction k with
    | zero => intro c f hk c0 c1; omega
    | succ k ih =>
      intro c f hk c0 c1 hf hv
      rw [tl_eq hw c0 c1, tl_eq hw c0 c1]
      refine Sm_congr (fun x x0 x1 => ?_)
      rw [hv c x (Int.le_refl _) c1 rfl (by omega) x1]
      congr 1
      unfold af
      by_cases z : nxF Q nd c = -1
      · rw [if_pos z, if_pos z]
      · obtain ⟨d1, d2, d3, d4, d5, d6⟩ := nx_some hw c0 c1 z
        rw [if_neg z, if_neg z]
        refine ih _ _ (by omega) (by omega) d4 ?_ (fun c' x p1 p2 p3 p4 p5 => hv c' x (by omega) p2 (by omega) p4 p5)
        have := hen x (by omega) x1
        split <;> omega
  exact fun c f c0 c1 hf hv => key _ c f (Nat.le_refl _) c0 c1 hf hv
theorem tl_nn (hw : WW Q nd) (hen : ∀ x, lo ≤ x → x < E → x < en x) : ∀ c f, 0 ≤ c → c < Q → lo ≤ f → (∀ c' x, c ≤ c' → c' < Q → nd c' 5 = nd c 5 → lo ≤ x → x < E → 0 ≤ v c' x) → 0 ≤ tl Q nd en lo E v c f := by
  have key : ∀ k : Nat, ∀ c f, (Q - c).toNat ≤ k → 0 ≤ c → c < Q → lo ≤ f → (∀ c' x, c ≤ c' → c' < Q → nd c' 5 = nd c 5 → lo ≤ x → x < E → 0 ≤ v c' x) → 0 ≤ tl Q nd en lo E v c f := by
    intro k
    induction k with
    | zero => intro c f hk c0 c1; omega
    | succ k ih =>
      intro c f hk c0 c1 hf hv
      rw [tl_eq hw c0 c1]
      refine Sm_nonneg (fun x x0 x1 => Int.mul_nonneg (hv c x (Int.le_refl _) c1 rfl (by omega) x1) ?_)
      unfold af
      by_cases z : nxF Q nd c = -1
      · rw [if_pos z]; omega
      · obtain ⟨d1, d2, d3, d4, d5, d6⟩ := nx_some hw c0 c1 z
        rw [if_neg z]
        have := hen x (by omega) x1
        exact ih _ _ (by omega) (by omega) d4 (by split <;> omega) (fun c' x p1 p2 p3 p4 p5 => hv c' x (by omega) p2 (by omega) p4 p5)
  exact fun c f c0 c1 hf hv => key _ c f (Nat.le_refl _) c0 c1 hf hv
theorem af_nn (hw : WW Q nd) (hen : ∀ x, lo ≤ x → x < E → x < en x) {c x : Int} (c0 : 0 ≤ c) (c1 : c < Q) (x0 : lo ≤ x) (x1 : x < E) (hv : ∀ c' x, c ≤ c' → c' < Q → nd c' 5 = nd c 5 → lo ≤ x → x < E → 0 ≤ v c' x) : 0 ≤ af Q nd en lo E v c x := by
  unfold af
  by_cases z : nxF Q nd c = -1
  · rw [if_pos z]; omega
  · obtain ⟨d1, d2, d3, d4, d5, d6⟩ := nx_some hw c0 c1 z
    rw [if_neg z]
    have := hen x x0 x1
    exact tl_nn hw hen _ _ (by omega) d4 (by split <;> omega) (fun c' x p1 p2 p3 p4 p5 => hv c' x (by omega) p2 (by omega) p4 p5)
theorem fw_nn (hw : WW Q nd) : ∀ c x, 0 ≤ c → c < Q → lo ≤ x → x < E → (∀ c' x, 0 ≤ c' → c' ≤ c → nd c' 5 = nd c 5 → lo ≤ x → x < E → 0 ≤ v c' x) → 0 ≤ fw nd en lo E v c x := by
  have key : ∀ k : Nat, ∀ c x : Int, c.toNat ≤ k → 0 ≤ c → c < Q → lo ≤ x → x < E → (∀ c' x, 0 ≤ c' → c' ≤ c → nd c' 5 = nd c 5 → lo ≤ x → x < E → 0 ≤ v c' x) → 0 ≤ fw nd en lo E v c x := by
    intro k
    induction k with
    | zero =>
      intro c x hk c0 c1 x0 x1 hv
      rw [fw_eq hw c0 c1]
      refine Int.mul_nonneg (hv c x c0 (Int.le_refl _) rfl x0 x1) ?_
      unfold bf
      by_cases z : pvF nd c = -1
      · rw [if_pos z]; omega
      · obtain ⟨d1, d2, d3, d4⟩ := pv_some hw c0 c1 z; omega
    | succ k ih =>
      intro c x hk c0 c1 x0 x1 hv
      rw [fw_eq hw c0 c1]
      refine Int.mul_nonneg (hv c x c0 (Int.le_refl _) rfl x0 x1) ?_
      unfold bf
      by_cases z : pvF nd c = -1
      · rw [if_pos z]; omega
      · obtain ⟨d1, d2, d3, d4⟩ := pv_some hw c0 c1 z
        rw [if_neg z]
        exact Sm_nonneg (fun y y0 y1 => Int.mul_nonneg (ih _ _ (by omega) (by omega) (by omega) y0 y1 (fun c' x p1 p2 p3 p4 p5 => hv c' x p1 (by omega) (by omega) p4 p5)) ind_nn)
  exact fun c x c0 c1 x0 x1 hv => key _ c x (Nat.le_refl _) c0 c1 x0 x1 hv
theorem bf_nn (hw : WW Q nd) {c x : Int} (c0 : 0 ≤ c) (c1 : c < Q) (hv : ∀ c' x, 0 ≤ c' → c' ≤ c → nd c' 5 = nd c 5 → lo ≤ x → x < E → 0 ≤ v c' x) : 0 ≤ bf nd en lo E v c x := by
  unfold bf
  by_cases z : pvF nd c = -1
  · rw [if_pos z]; omega
  · obtain ⟨d1, d2, d3, d4⟩ := pv_some hw c0 c1 z
    rw [if_neg z]
    exact Sm_nonneg (fun y y0 y1 => Int.mul_nonneg (fw_nn hw _ _ (by omega) (by omega) y0 y1 (fun c' x p1 p2 p3 p4 p5 => hv c' x p1 (by omega) (by omega) p4 p5)) ind_nn)
theorem fw_congr (hw : WW Q nd) : ∀ c x, 0 ≤ c → c < Q → lo ≤ x → x < E → (∀ c' x, 0 ≤ c' → c' ≤ c → nd c' 5 = nd c 5 → lo ≤ x → x < E → v c' x = v' c' x) → fw nd en lo E v c x = fw nd en lo E v' c x := by
  have key : ∀ k : Nat, ∀ c x : Int, c.toNat ≤ k → 0 ≤ c → c < Q → lo ≤ x → x < E → (∀ c' x, 0 ≤ c' → c' ≤ c → nd c' 5 = nd c 5 → lo ≤ x → x < E → v c' x = v' c' x) → fw nd en lo E v c x = fw nd en lo E v' c x := by
    intro k
    induction k with
    | zero =>
      intro c x hk c0 c1 x0 x1 hv
      rw [fw_eq hw c0 c1, fw_eq hw c0 c1, hv c x c0 (Int.le_refl _) rfl x0 x1]
      unfold bf
      by_cases z : pvF nd c = -1
      · rw [if_pos z, if_pos z]
      · obtain ⟨d1, d2, d3, d4⟩ := pv_some hw c0 c1 z; omega
    | succ k ih =>
      intro c x hk c0 c1 x0 x1 hv
      rw [fw_eq hw c0 c1, fw_eq hw c0 c1, hv c x c0 (Int.le_refl _) rfl x0 x1]
      unfold bf
      by_cases z : pvF nd c = -1
      · rw [if_pos z, if_pos z]
      · obtain ⟨d1, d2, d3, d4⟩ := pv_some hw c0 c1 z
        rw [if_neg z, if_neg z]
        congr 1
        exact Sm_congr (fun y y0 y1 => by rw [ih _ _ (by omega) (by omega) (by omega) y0 y1 (fun c' x p1 p2 p3 p4 p5 => hv c' x p1 (by omega) (by omega) p4 p5)])
  exact fun c x c0 c1 x0 x1 hv => key _ c x (Nat.le_refl _) c0 c1 x0 x1 hv
end CH2
