/-! ===== completions: signs, bounds, sets; pinned nodes ===== -/
section PIN2
variable {Q : Int} {nd : Int → Int → Int} {n : Int} {lv : Int → Int} {al al' : Int → Int32} {W W' : Int → Int → Int}
theorem sQ_nn : ∀ c g, 0 ≤ sQ Q nd n lv al c g := by
  have key : ∀ k : Nat, ∀ c g, (Q - c).toNat ≤ k → 0 ≤ sQ Q nd n lv al c g := by
    intro k
    induction k with
    | zero => intro c g hk; rw [sQ_end (by omega)]; omega
    | succ k ih =>
      intro c g hk
      by_cases z : Q ≤ c
      · rw [sQ_end z]; omega
      · rw [sQ_eq (by omega)]
        exact Sm_nonneg (fun x x0 x1 => Int.mul_nonneg ind_nn (ih _ _ (by omega)))
  exact fun c g => key _ c g (Nat.le_refl _)
theorem sQ_le (hn1 : 1 ≤ n) (hn : n ≤ 32) : ∀ c g, (∀ j, 0 ≤ g j ∧ g j < n) → sQ Q nd n lv al c g ≤ 32 ^ (Q - c).toNat := by
  have key : ∀ k : Nat, ∀ c g, (Q - c).toNat ≤ k → (∀ j, 0 ≤ g j ∧ g j < n) → sQ Q nd n lv al c g ≤ 32 ^ (Q - c).toNat := by
    intro k
    induction k with
    | zero => intro c g hk hg; rw [sQ_end (by omega)]; have := I_pow_pos (Q - c).toNat; omega
    | succ k ih =>
      intro c g hk hg
      by_cases z : Q ≤ c
      · rw [sQ_end z]; have := I_pow_pos (Q - c).toNat; omega
      · have hgg := ga_ge (nd := nd) hg c hn1
        have hlg := ls_ge (nd := nd) (lv := lv) hn1 hg c
        have hee := (eE_in (lv := lv) hgg.1 hgg.2).2
        rw [sQ_eq (by omega)]
        have h1 := Sm_le (lo := ls nd n lv g c) (hi := eE n lv (ga nd g c)) (f := fun x => ind (hb (al c) x ∧ egF lv nd c (ga nd g c) x) * sQ Q nd n lv al (c + 1) (upZ g c x)) (g := fun _ => 32 ^ (Q - (c + 1)).toNat) (fun x x0 x1 => by
          have h2 := ih (c + 1) (upZ g c x) (by omega) (fun j => by
            by_cases y : j = c
            · rw [y, upZ_at]; omega
            · rw [upZ_ne y]; exact hg j)
          have h3 := sQ_nn (Q := Q) (nd := nd) (n := n) (lv := lv) (al := al) (c + 1) (upZ g c x)
          have h4 := Int.mul_le_mul_of_nonneg_right (ind_le (p := hb (al c) x ∧ egF lv nd c (ga nd g c) x)) h3
          omega)
        refine Int.le_trans h1 ?_
        by_cases y : ls nd n lv g c ≤ eE n lv (ga nd g c)
        · rw [Sm_const y]
          have h2 : (eE n lv (ga nd g c) - ls nd n lv g c) * 32 ^ (Q - (c + 1)).toNat ≤ 32 * 32 ^ (Q - (c + 1)).toNat := Int.mul_le_mul_of_nonneg_right (by omega) (Int.le_of_lt (I_pow_pos _))
          refine Int.le_trans h2 ?_
          rw [show (Q - c).toNat = (Q - (c + 1)).toNat + 1 by omega, Int.pow_succ, Int.mul_comm]
          exact Int.le_refl _
        · rw [Sm_nil (by omega)]; exact Int.le_of_lt (I_pow_pos _)
  exact fun c g hg => key _ c g (Nat.le_refl _) hg
theorem sQ_congr (hn1 : 1 ≤ n) : ∀ c g, (∀ j, 0 ≤ g j ∧ g j < n) → (∀ k x, c ≤ k → k < Q → 0 ≤ x → x < n → (hb (al k) x ↔ hb (al' k) x)) → sQ Q nd n lv al c g = sQ Q nd n lv al' c g := by
  have key : ∀ k : Nat, ∀ c g, (Q - c).toNat ≤ k → (∀ j, 0 ≤ g j ∧ g j < n) → (∀ k x, c ≤ k → k < Q → 0 ≤ x → x < n → (hb (al k) x ↔ hb (al' k) x)) → sQ Q nd n lv al c g = sQ Q nd n lv al' c g := by
    intro k
    induction k with
    | zero => intro c g hk _ _; rw [sQ_end (by omega), sQ_end (by omega)]
    | succ k ih =>
      intro c g hk hg h
      by_cases z : Q ≤ c
      · rw [sQ_end z, sQ_end z]
      · have hgg := ga_ge (nd := nd) hg c hn1
        have hlg := ls_ge (nd := nd) (lv := lv) hn1 hg c
        have hee := (eE_in (lv := lv) hgg.1 hgg.2).2
        rw [sQ_eq (by omega), sQ_eq (by omega)]
        refine Sm_congr (fun x x0 x1 => ?_)
        have ha := h c x (Int.le_refl _) (by omega) (by omega) (by omega)
        rw [ih (c + 1) (upZ g c x) (by omega) (fun j => by
            by_cases y : j = c
            · rw [y, upZ_at]; omega
            · rw [upZ_ne y]; exact hg j) (fun k x p1 p2 p3 p4 => h k x (by omega) p2 p3 p4)]
        rw [ind_congr (show (hb (al c) x ∧ egF lv nd c (ga nd g c) x) ↔ (hb (al' c) x ∧ egF lv nd c (ga nd g c) x) from ⟨fun q => ⟨ha.mp q.1, q.2⟩, fun q => ⟨ha.mpr q.1, q.2⟩⟩)]
  exact fun c g hg h => key _ c g (Nat.le_refl _) hg h
/-- node c can be x after g -/
abbrev okF (nd : Int → Int → Int) (n : Int) (lv : Int → Int) (al : Int → Int32) (g : Int → Int) (c x : Int) : Prop := hb (al c) x ∧ egF lv nd c (ga nd g c) x ∧ ls nd n lv g c ≤ x ∧ x < eE n lv (ga nd g c)
/-- a node pinned to x -/
theorem sQ_pin1 {c x : Int} {g : Int → Int} (c1 : c < Q) (hn1 : 1 ≤ n) (hg : ∀ j, 0 ≤ g j ∧ g j < n) (hp : ∀ y, 0 ≤ y → y < n → (hb (al' c) y ↔ y = x ∧ hb (al c) y)) : sQ Q nd n lv al' c g = ind (okF nd n lv al g c x) * sQ Q nd n lv al' (c + 1) (upZ g c x) := by
  have hgg := ga_ge (nd := nd) hg c hn1
  have hlg := ls_ge (nd := nd) (lv := lv) hn1 hg c
  have hee := (eE_in (lv := lv) hgg.1 hgg.2).2
  rw [sQ_eq c1]
  by_cases z : ls nd n lv g c ≤ x ∧ x < eE n lv (ga nd g c)
  · rw [Sm_one z.1 z.2 (fun j j0 j1 j2 => by rw [ind_f (fun q => j2 ((hp j (by omega) (by omega)).mp q.1).1), Int.zero_mul])]
    have := hp x (by omega) (by omega)
    rw [ind_congr (show (hb (al' c) x ∧ egF lv nd c (ga nd g c) x) ↔ okF nd n lv al g c x from ⟨fun q => ⟨(this.mp q.1).2, q.2, z.1, z.2⟩, fun q => ⟨this.mpr ⟨rfl, q.1⟩, q.2.1⟩⟩)]
  · rw [ind_f (fun q : okF nd n lv al g c x => z ⟨q.2.2.1, q.2.2.2⟩), Int.zero_mul]
    refine Sm_zero (fun y y0 y1 => ?_)
    rw [ind_f (fun q => z (by have := ((hp y (by omega) (by omega)).mp q.1).1; omega)), Int.zero_mul]
/-- all nodes before c are pinned to g, which is right there -/
theorem sQ_pins (hn1 : 1 ≤ n) {g : Int → Int} (hg : ∀ j, 0 ≤ g j ∧ g j < n) : ∀ c, 0 ≤ c → c ≤ Q → (∀ k, 0 ≤ k → k < c → okF nd n lv al g k (g k) ∧ ∀ y, 0 ≤ y → y < n → (hb (al' k) y ↔ y = g k ∧ hb (al k) y)) → sQ Q nd n lv al' 0 g = sQ Q nd n lv al' c g := by
  have key : ∀ k : Nat, (k : Int) ≤ Q → (∀ j : Int, 0 ≤ j → j < k → okF nd n lv al g j (g j) ∧ ∀ y, 0 ≤ y → y < n → (hb (al' j) y ↔ y = g j ∧ hb (al j) y)) → sQ Q nd n lv al' 0 g = sQ Q nd n lv al' k g := by
    intro k
    induction k with
    | zero => intro _ _; rfl
    | succ k ih =>
      intro hk h
      rw [ih (by omega) (fun j j0 j1 => h j j0 (by omega))]
      obtain ⟨h1, h2⟩ := h k (by omega) (by omega)
      rw [sQ_pin1 (al := al) (x := g k) (by omega) hn1 hg h2, ind_t h1, Int.one_mul, upZ_self]
      rfl
  intro c c0 c1 h
  have := key c.toNat (by omega) (fun j j0 j1 => h j j0 (by omega))
  rwa [show ((c.toNat : Nat) : Int) = c by omega] at this
end PIN2
