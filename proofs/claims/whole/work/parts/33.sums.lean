/-! ===== SUMS over an interval of integers ===== -/
def sm (f : Int → Int) (lo : Int) : Nat → Int
  | 0 => 0
  | s + 1 => sm f lo s + f (lo + s)
def Sm (f : Int → Int) (lo hi : Int) : Int := sm f lo (hi - lo).toNat
theorem Sm_nil {f : Int → Int} {lo hi : Int} (h : hi ≤ lo) : Sm f lo hi = 0 := by
  unfold Sm
  rw [show (hi - lo).toNat = 0 by omega]
  rfl
theorem Sm_succ {f : Int → Int} {lo hi : Int} (h : lo ≤ hi) : Sm f lo (hi + 1) = Sm f lo hi + f hi := by
  unfold Sm
  rw [show (hi + 1 - lo).toNat = (hi - lo).toNat + 1 by omega, sm, show lo + ((hi - lo).toNat : Int) = hi by omega]
theorem Sm_last {f : Int → Int} {lo hi : Int} (h : lo < hi) : Sm f lo hi = Sm f lo (hi - 1) + f (hi - 1) := by
  have := Sm_succ (f := f) (lo := lo) (hi := hi - 1) (by omega)
  rwa [show hi - 1 + 1 = hi by omega] at this
/-- induction over an interval -/
theorem Sm_ind {P : Int → Prop} {lo : Int} (h0 : P lo) (hs : ∀ k, lo ≤ k → P k → P (k + 1)) : ∀ hi, lo ≤ hi → P hi := by
  intro hi h
  have key : ∀ s : Nat, P (lo + s) := by
    intro s
    induction s with
    | zero => simpa using h0
    | succ s ih =>
      have := hs (lo + s) (by omega) ih
      rwa [show lo + (s : Int) + 1 = lo + ((s + 1 : Nat) : Int) by omega] at this
  have := key (hi - lo).toNat
  rwa [show lo + ((hi - lo).toNat : Int) = hi by omega] at this
theorem Sm_congr {f g : Int → Int} {lo hi : Int} (h : ∀ k, lo ≤ k → k < hi → f k = g k) : Sm f lo hi = Sm g lo hi := by
  by_cases hh : lo ≤ hi
  · revert h
    refine Sm_ind (P := fun hi => (∀ k, lo ≤ k → k < hi → f k = g k) → Sm f lo hi = Sm g lo hi) ?_ ?_ hi hh
    · intro _; rw [Sm_nil (Int.le_refl _), Sm_nil (Int.le_refl _)]
    · intro k hk ih h
      rw [Sm_succ hk, Sm_succ hk, ih (fun j h1 h2 => h j h1 (by omega)), h k hk (by omega)]
  · rw [Sm_nil (by omega), Sm_nil (by omega)]
theorem Sm_front {f : Int → Int} {lo hi : Int} (h : lo < hi) : Sm f lo hi = f lo + Sm f (lo + 1) hi := by
  have : ∀ hi, lo + 1 ≤ hi → Sm f lo hi = f lo + Sm f (lo + 1) hi := by
    refine Sm_ind ?_ ?_
    · rw [Sm_succ (Int.le_refl _), Sm_nil (Int.le_refl _), Sm_nil (Int.le_refl _)]; omega
    · intro k hk ih
      rw [Sm_succ (by omega), Sm_succ hk, ih]; omega
  exact this hi (by omega)
theorem Sm_split {f : Int → Int} {lo mid hi : Int} (h1 : lo ≤ mid) (h2 : mid ≤ hi) : Sm f lo hi = Sm f lo mid + Sm f mid hi := by
  refine Sm_ind (P := fun hi => Sm f lo hi = Sm f lo mid + Sm f mid hi) ?_ ?_ hi h2
  · rw [Sm_nil (Int.le_refl mid)]; omega
  · intro k hk ih
    rw [Sm_succ (by omega), Sm_succ hk, ih]; omega
theorem Sm_zero {f : Int → Int} {lo hi : Int} (h : ∀ k, lo ≤ k → k < hi → f k = 0) : Sm f lo hi = 0 := by
  have e : Sm f lo hi = Sm (fun _ => 0) lo hi := Sm_congr h
  rw [e]
  by_cases hh : lo ≤ hi
  · refine Sm_ind (P := fun hi => Sm (fun _ => 0) lo hi = 0) (Sm_nil (Int.le_refl _)) ?_ hi hh
    intro k hk ih
    rw [Sm_succ hk, ih]; rfl
  · exact Sm_nil (by omega)
theorem Sm_add {f g : Int → Int} {lo hi : Int} : Sm (fun k => f k + g k) lo hi = Sm f lo hi + Sm g lo hi := by
  by_cases hh : lo ≤ hi
  · refine Sm_ind (P := fun hi => Sm (fun k => f k + g k) lo hi = Sm f lo hi + Sm g lo hi) ?_ ?_ hi hh
    · rw [Sm_nil (Int.le_refl _), Sm_nil (Int.le_refl _), Sm_nil (Int.le_refl _)]; rfl
    · intro k hk ih
      rw [Sm_succ hk, Sm_succ hk, Sm_succ hk, ih]; omega
  · rw [Sm_nil (by omega), Sm_nil (by omega), Sm_nil (by omega)]; rfl
theorem Sm_mul {f : Int → Int} {c lo hi : Int} : Sm (fun k => c * f k) lo hi = c * Sm f lo hi := by
  by_cases hh : lo ≤ hi
  · refine Sm_ind (P := fun hi => Sm (fun k => c * f k) lo hi = c * Sm f lo hi) ?_ ?_ hi hh
    · rw [Sm_nil (Int.le_refl _), Sm_nil (Int.le_refl _), Int.mul_zero]
    · intro k hk ih
      rw [Sm_succ hk, Sm_succ hk, ih, Int.mul_add]
  · rw [Sm_nil (by omega), Sm_nil (by omega), Int.mul_zero]
theorem Sm_mulr {f : Int → Int} {c lo hi : Int} : Sm (fun k => f k * c) lo hi = Sm f lo hi * c := by
  rw [Int.mul_comm, ← Sm_mul]
  exact Sm_congr (fun k _ _ => Int.mul_comm _ _)
theorem Sm_swap {f : Int → Int → Int} {a b c d : Int} : Sm (fun i => Sm (fun j => f i j) c d) a b = Sm (fun j => Sm (fun i => f i j) a b) c d := by
  by_cases hh : a ≤ b
  · refine Sm_ind (P := fun b => Sm (fun i => Sm (fun j => f i j) c d) a b = Sm (fun j => Sm (fun i => f i j) a b) c d) ?_ ?_ b hh
    · rw [Sm_nil (Int.le_refl _)]
      exact (Sm_zero (fun k _ _ => Sm_nil (Int.le_refl _))).symm
    · intro k hk ih
      rw [Sm_succ hk, ih, ← Sm_add]
      exact Sm_congr (fun j _ _ => (Sm_succ hk).symm)
  · rw [Sm_nil (by omega)]
    exact (Sm_zero (fun k _ _ => Sm_nil (by omega))).symm
theorem Sm_nonneg {f : Int → Int} {lo hi : Int} (h : ∀ k, lo ≤ k → k < hi → 0 ≤ f k) : 0 ≤ Sm f lo hi := by
  by_cases hh : lo ≤ hi
  · revert h
    refine Sm_ind (P := fun hi => (∀ k, lo ≤ k → k < hi → 0 ≤ f k) → 0 ≤ Sm f lo hi) ?_ ?_ hi hh
    · intro _; rw [Sm_nil (Int.le_refl _)]; exact Int.le_refl _
    · intro k hk ih h
      rw [Sm_succ hk]
      have h1 := ih (fun j h1 h2 => h j h1 (by omega))
      have h2 := h k hk (by omega)
      omega
  · rw [Sm_nil (by omega)]; exact Int.le_refl _
theorem Sm_le {f g : Int → Int} {lo hi : Int} (h : ∀ k, lo ≤ k → k < hi → f k ≤ g k) : Sm f lo hi ≤ Sm g lo hi := by
  have h1 := Sm_nonneg (f := fun k => g k + -1 * f k) (lo := lo) (hi := hi) (fun k a b => by have := h k a b; show 0 ≤ g k + -1 * f k; omega)
  rw [Sm_add, Sm_mul] at h1
  omega
theorem Sm_const {c lo hi : Int} (h : lo ≤ hi) : Sm (fun _ => c) lo hi = (hi - lo) * c := by
  refine Sm_ind (P := fun hi => Sm (fun _ => c) lo hi = (hi - lo) * c) ?_ ?_ hi h
  · rw [Sm_nil (Int.le_refl _), Int.sub_self, Int.zero_mul]
  · intro k hk ih
    rw [Sm_succ hk, ih, show k + 1 - lo = (k - lo) + 1 by omega, Int.add_mul, Int.one_mul]
/-- one term is at most the sum -/
theorem Sm_term {f : Int → Int} {lo hi k : Int} (h : ∀ k, lo ≤ k → k < hi → 0 ≤ f k) (h1 : lo ≤ k) (h2 : k < hi) : f k ≤ Sm f lo hi := by
  rw [Sm_split (mid := k) h1 (by omega), Sm_front h2]
  have a := Sm_nonneg (f := f) (lo := lo) (hi := k) (fun j p q => h j p (by omega))
  have b := Sm_nonneg (f := f) (lo := k + 1) (hi := hi) (fun j p q => h j (by omega) q)
  omega
theorem Sm_pos {f : Int → Int} {lo hi : Int} (h : ∀ k, lo ≤ k → k < hi → 0 ≤ f k) : 0 < Sm f lo hi ↔ ∃ k, lo ≤ k ∧ k < hi ∧ 0 < f k := by
  constructor
  · intro hp
    by_cases hex : ∃ k, lo ≤ k ∧ k < hi ∧ 0 < f k
    · exact hex
    · have : Sm f lo hi = 0 := Sm_zero (fun k a b => by
        have h1 := h k a b
        rcases Int.lt_or_eq_of_le h1 with q | q
        · exact absurd ⟨k, a, b, q⟩ hex
        · exact q.symm)
      omega
  · rintro ⟨k, a, b, c⟩
    have := Sm_term h a b
    omega
/-- a sum of which one term alone is not zero -/
theorem Sm_one {f : Int → Int} {lo hi k : Int} (h1 : lo ≤ k) (h2 : k < hi) (h : ∀ j, lo ≤ j → j < hi → j ≠ k → f j = 0) : Sm f lo hi = f k := by
  rw [Sm_split (mid := k) h1 (by omega), Sm_front h2, Sm_zero (lo := lo) (hi := k) (fun j a b => h j a (by omega) (by omega)), Sm_zero (lo := k + 1) (hi := hi) (fun j a b => h j (by omega) b (by omega))]
  omega
theorem Sm_shift {f : Int → Int} {lo hi d : Int} : Sm (fun k => f (k + d)) lo hi = Sm f (lo + d) (hi + d) := by
  by_cases hh : lo ≤ hi
  · refine Sm_ind (P := fun hi => Sm (fun k => f (k + d)) lo hi = Sm f (lo + d) (hi + d)) ?_ ?_ hi hh
    · rw [Sm_nil (Int.le_refl _), Sm_nil (Int.le_refl _)]
    · intro k hk ih
      rw [Sm_succ hk, ih, show k + 1 + d = k + d + 1 by omega, Sm_succ (by omega)]
  · rw [Sm_nil (by omega), Sm_nil (by omega)]
/-- 1 or 0 -/
def ind (p : Prop) [Decidable p] : Int := if p then 1 else 0
theorem ind_t {p : Prop} [Decidable p] (h : p) : ind p = 1 := if_pos h
theorem ind_f {p : Prop} [Decidable p] (h : ¬ p) : ind p = 0 := if_neg h
theorem ind_nn {p : Prop} [Decidable p] : 0 ≤ ind p := by unfold ind; split <;> omega
theorem ind_le {p : Prop} [Decidable p] : ind p ≤ 1 := by unfold ind; split <;> omega
theorem ind_congr {p q : Prop} [Decidable p] [Decidable q] (h : p ↔ q) : ind p = ind q := by
  by_cases hp : p
  · rw [ind_t hp, ind_t (h.mp hp)]
  · rw [ind_f hp, ind_f (fun hq => hp (h.mpr hq))]
