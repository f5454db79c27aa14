/-! ===== NUMBERS: an Int32 or Int64 by its integer ===== -/
def I (z : Int) : Int32 := Int32.ofInt z
def J (z : Int) : Int64 := Int64.ofInt z
theorem I_add (a b : Int) : I a + I b = I (a + b) := (Int32.ofInt_add a b).symm
theorem I_sub (a b : Int) : I a - I b = I (a - b) := (Int32.ofInt_sub a b).symm
theorem I_mul (a b : Int) : I a * I b = I (a * b) := (Int32.ofInt_mul a b).symm
theorem I_neg (a : Int) : -I a = I (-a) := (Int32.ofInt_neg a).symm
theorem J_add (a b : Int) : J a + J b = J (a + b) := (Int64.ofInt_add a b).symm
theorem J_sub (a b : Int) : J a - J b = J (a - b) := (Int64.ofInt_sub a b).symm
theorem J_mul (a b : Int) : J a * J b = J (a * b) := (Int64.ofInt_mul a b).symm
theorem J_neg (a : Int) : -J a = J (-a) := (Int64.ofInt_neg a).symm
theorem I_toInt {a : Int} (h1 : -2147483648 ≤ a) (h2 : a < 2147483648) : (I a).toInt = a := Int32.toInt_ofInt_of_le h1 h2
theorem J_toInt {a : Int} (h1 : -9223372036854775808 ≤ a) (h2 : a < 9223372036854775808) : (J a).toInt = a := Int64.toInt_ofInt_of_le h1 h2
theorem I_self (x : Int32) : I x.toInt = x := Int32.ofInt_toInt x
theorem J_self (x : Int64) : J x.toInt = x := Int64.ofInt_toInt x
theorem I_lt {a b : Int} (h1 : -2147483648 ≤ a) (h2 : a < 2147483648) (h3 : -2147483648 ≤ b) (h4 : b < 2147483648) : (I a < I b) = (a < b) := by
  rw [Int32.lt_iff_toInt_lt, I_toInt h1 h2, I_toInt h3 h4]
theorem I_le {a b : Int} (h1 : -2147483648 ≤ a) (h2 : a < 2147483648) (h3 : -2147483648 ≤ b) (h4 : b < 2147483648) : (I a ≤ I b) = (a ≤ b) := by
  rw [Int32.le_iff_toInt_le, I_toInt h1 h2, I_toInt h3 h4]
theorem I_eq {a b : Int} (h1 : -2147483648 ≤ a) (h2 : a < 2147483648) (h3 : -2147483648 ≤ b) (h4 : b < 2147483648) : (I a = I b) = (a = b) := by
  apply propext
  constructor
  · intro h
    have := congrArg Int32.toInt h
    rwa [I_toInt h1 h2, I_toInt h3 h4] at this
  · intro h; rw [h]
theorem J_lt {a b : Int} (h1 : -9223372036854775808 ≤ a) (h2 : a < 9223372036854775808) (h3 : -9223372036854775808 ≤ b) (h4 : b < 9223372036854775808) : (J a < J b) = (a < b) := by
  rw [Int64.lt_iff_toInt_lt, J_toInt h1 h2, J_toInt h3 h4]
theorem J_le {a b : Int} (h1 : -9223372036854775808 ≤ a) (h2 : a < 9223372036854775808) (h3 : -9223372036854775808 ≤ b) (h4 : b < 9223372036854775808) : (J a ≤ J b) = (a ≤ b) := by
  rw [Int64.le_iff_toInt_le, J_toInt h1 h2, J_toInt h3 h4]
theorem J_eq {a b : Int} (h1 : -9223372036854775808 ≤ a) (h2 : a < 9223372036854775808) (h3 : -9223372036854775808 ≤ b) (h4 : b < 9223372036854775808) : (J a = J b) = (a = b) := by
  apply propext
  constructor
  · intro h
    have := congrArg Int64.toInt h
    rwa [J_toInt h1 h2, J_toInt h3 h4] at this
  · intro h; rw [h]
theorem I_clamp {a : Int} (h1 : 0 ≤ a) (h2 : a < 2147483648) : (I a).toNatClampNeg = a.toNat := by
  show (I a).toInt.toNat = _
  rw [I_toInt (by omega) h2]
theorem I_J {a : Int} (h1 : -2147483648 ≤ a) (h2 : a < 2147483648) : (I a).toInt64 = J a := by
  apply Int64.toInt_inj.mp
  rw [Int32.toInt_toInt64, I_toInt h1 h2, J_toInt (by omega) (by omega)]
theorem J_I {a : Int} : (J a).toInt32 = I a := by
  unfold J I
  exact Int64.toInt32_ofInt
theorem I_range (x : Int32) : -2147483648 ≤ x.toInt ∧ x.toInt < 2147483648 := ⟨Int32.le_toInt x, Int32.toInt_lt x⟩
theorem J_range (x : Int64) : -9223372036854775808 ≤ x.toInt ∧ x.toInt < 9223372036854775808 := ⟨Int64.le_toInt x, Int64.toInt_lt x⟩
/-- an Int32 is the picture of its integer -/
theorem I_ex (x : Int32) : ∃ z : Int, x = I z ∧ -2147483648 ≤ z ∧ z < 2147483648 := ⟨x.toInt, (I_self x).symm, I_range x⟩
theorem J_ex (x : Int64) : ∃ z : Int, x = J z ∧ -9223372036854775808 ≤ z ∧ z < 9223372036854775808 := ⟨x.toInt, (J_self x).symm, J_range x⟩
/-! arrays by functions on integers -/
def cv (A : Int → Int) : Nat → Int32 := fun k => I (A k)
def cw (A : Int → Int) : Nat → Int64 := fun k => J (A k)
def upZ {α : Type} (A : Int → α) (k : Int) (v : α) : Int → α := fun j => if j = k then v else A j
theorem cv_at {A : Int → Int} {k : Int} (h : 0 ≤ k) : cv A k.toNat = I (A k) := by unfold cv; rw [Int.toNat_of_nonneg h]
theorem cw_at {A : Int → Int} {k : Int} (h : 0 ≤ k) : cw A k.toNat = J (A k) := by unfold cw; rw [Int.toNat_of_nonneg h]
theorem cv_up {A : Int → Int} {k v : Int} (h : 0 ≤ k) : up1 (cv A) k.toNat (I v) = cv (upZ A k v) := by
  funext j
  unfold up1 cv upZ
  by_cases hj : j = k.toNat
  · rw [if_pos hj, if_pos (by omega)]
  · rw [if_neg hj, if_neg (by omega)]
theorem cw_up {A : Int → Int} {k v : Int} (h : 0 ≤ k) : up1 (cw A) k.toNat (J v) = cw (upZ A k v) := by
  funext j
  unfold up1 cw upZ
  by_cases hj : j = k.toNat
  · rw [if_pos hj, if_pos (by omega)]
  · rw [if_neg hj, if_neg (by omega)]
theorem upZ_at {α : Type} {A : Int → α} {k : Int} {v : α} : upZ A k v k = v := if_pos rfl
theorem upZ_ne {α : Type} {A : Int → α} {k j : Int} {v : α} (h : j ≠ k) : upZ A k v j = A j := if_neg h
/-- every row of ints is the picture of one -/
theorem cv_ex (f : Nat → Int32) : f = cv (fun k => (f k.toNat).toInt) := by
  funext k
  unfold cv
  simp [I_self]
theorem cw_ex (f : Nat → Int64) : f = cw (fun k => (f k.toNat).toInt) := by
  funext k
  unfold cw
  simp [J_self]
/-! loops -/
theorem whl_step {σ ρ : Type} {f : σ → Option (σ ⊕ ρ)} {n : Nat} {s s' : σ} (h : f s = some (.inl s')) : whl (n + 1) f s = whl n f s' := by simp [whl, h]
theorem whl_stop {σ ρ : Type} {f : σ → Option (σ ⊕ ρ)} {n : Nat} {s : σ} {r : ρ} (h : f s = some (.inr r)) : whl (n + 1) f s = some r := by simp [whl, h]
theorem whl_iter {σ ρ : Type} {f : σ → Option (σ ⊕ ρ)} {r : ρ} (st : Nat → σ) (N : Nat) (hs : ∀ j, j < N → f (st j) = some (.inl (st (j + 1)))) (he : f (st N) = some (.inr r)) : ∀ n, N < n → whl n f (st 0) = some r := by
  have key : ∀ k, k ≤ N → ∀ n, k < n → whl n f (st (N - k)) = some r := by
    intro k
    induction k with
    | zero =>
      intro _ n hn
      obtain ⟨n, rfl⟩ : ∃ q, n = q + 1 := ⟨n - 1, by omega⟩
      exact whl_stop he
    | succ k ih =>
      intro hk n hn
      obtain ⟨n, rfl⟩ : ∃ q, n = q + 1 := ⟨n - 1, by omega⟩
      rw [whl_step (hs (N - (k + 1)) (by omega)), show N - (k + 1) + 1 = N - k by omega]
      exact ih (by omega) n (by omega)
  intro n hn
  have := key N (Nat.le_refl N) n hn
  rwa [Nat.sub_self] at this
/-- a loop by an invariant and a measure -/
theorem whl_inv {σ ρ : Type} {f : σ → Option (σ ⊕ ρ)} (P : Nat → σ → Prop) (Q : ρ → Prop) (h : ∀ j s, P j s → (∃ s' j', f s = some (.inl s') ∧ P j' s' ∧ j' < j) ∨ (∃ r, f s = some (.inr r) ∧ Q r)) : ∀ n j s, P j s → j < n → ∃ r, whl n f s = some r ∧ Q r := by
  intro n
  induction n with
  | zero => intro j s _ hj; omega
  | succ n ih =>
    intro j s hp hj
    rcases h j s hp with ⟨s', j', h1, h2, h3⟩ | ⟨r, h1, h2⟩
    · rw [whl_step h1]
      exact ih j' s' h2 (by omega)
    · exact ⟨r, whl_stop h1, h2⟩
theorem FU_lt {n : Nat} (h : n < 1000000) : n < FU := h
/-- x comes to an answer with Q -/
def Ok {α : Type} (x : Option α) (Q : α → Prop) : Prop := ∃ a, x = some a ∧ Q a
theorem Ok.bind {α β : Type} {x : Option α} {f : α → Option β} {P : α → Prop} {Q : β → Prop} (h : Ok x P) (hf : ∀ a, P a → Ok (f a) Q) : Ok (x.bind f) Q := by
  obtain ⟨a, rfl, ha⟩ := h
  exact hf a ha
theorem Ok.mono {α : Type} {x : Option α} {P Q : α → Prop} (h : Ok x P) (hq : ∀ a, P a → Q a) : Ok x Q := by
  obtain ⟨a, h1, h2⟩ := h
  exact ⟨a, h1, hq a h2⟩
theorem Ok.pure {α : Type} {a : α} {Q : α → Prop} (h : Q a) : Ok (some a) Q := ⟨a, rfl, h⟩
theorem Ok.whl {σ ρ : Type} {f : σ → Option (σ ⊕ ρ)} (P : Nat → σ → Prop) (Q : ρ → Prop) {n j : Nat} {s : σ} (h : ∀ j s, P j s → Ok (f s) (fun x => (∃ s' j', x = .inl s' ∧ P j' s' ∧ j' < j) ∨ (∃ r, x = .inr r ∧ Q r))) (hp : P j s) (hj : j < n) : Ok (whl n f s) Q := by
  refine whl_inv P Q (fun j s hp => ?_) n j s hp hj
  obtain ⟨x, h1, h2⟩ := h j s hp
  rcases h2 with ⟨s', j', rfl, h3, h4⟩ | ⟨r, rfl, h3⟩
  · exact Or.inl ⟨s', j', h1, h3, h4⟩
  · exact Or.inr ⟨r, h1, h3⟩
