/-! ===== sets of numbers in an Int32 ===== -/
/-- the set holds k -/
abbrev hb (x : Int32) (k : Int) : Prop := x.toBitVec.getLsbD k.toNat = true
theorem hb_or {x y : Int32} {k : Int} : hb (x ||| y) k ↔ hb x k ∨ hb y k := by
  unfold hb
  rw [show (x ||| y).toBitVec = x.toBitVec ||| y.toBitVec from rfl, BitVec.getLsbD_or, Bool.or_eq_true]
theorem hb_and {x y : Int32} {k : Int} : hb (x &&& y) k ↔ hb x k ∧ hb y k := by
  unfold hb
  rw [show (x &&& y).toBitVec = x.toBitVec &&& y.toBitVec from rfl, BitVec.getLsbD_and, Bool.and_eq_true]
theorem hb_m1 {k : Int} (h1 : k < 32) : hb (I (-1)) k := by
  unfold hb
  rw [show (I (-1)).toBitVec = BitVec.allOnes 32 by decide, BitVec.getLsbD_allOnes]
  exact decide_eq_true (by omega)
theorem hb_not {x : Int32} {k : Int} (h1 : k < 32) : hb (x ^^^ I (-1)) k ↔ ¬ hb x k := by
  have h := hb_m1 h1
  unfold hb at *
  rw [show (x ^^^ I (-1)).toBitVec = x.toBitVec ^^^ (I (-1)).toBitVec from rfl, BitVec.getLsbD_xor, h]
  cases x.toBitVec.getLsbD k.toNat <;> decide
theorem hb_0 {k : Int} : ¬ hb (I 0) k := by
  unfold hb
  rw [show (I 0).toBitVec = 0#32 by decide, BitVec.getLsbD_zero]
  exact fun h => by cases h
theorem hb_ext {x y : Int32} (h : ∀ k : Int, 0 ≤ k → k < 32 → (hb x k ↔ hb y k)) : x = y := by
  apply Int32.toBitVec_inj.mp
  apply BitVec.eq_of_getLsbD_eq
  intro i hi
  have := h (i : Int) (by omega) (by omega)
  unfold hb at this
  rw [show ((i : Int)).toNat = i by omega] at this
  cases h1 : x.toBitVec.getLsbD i <;> cases h2 : y.toBitVec.getLsbD i <;> rw [h1, h2] at this <;> simp_all
theorem hb_none {x : Int32} : x = I 0 ↔ ∀ k : Int, 0 ≤ k → k < 32 → ¬ hb x k := by
  constructor
  · rintro rfl k _ _; exact hb_0
  · intro h; exact hb_ext (fun k k0 k1 => ⟨fun q => absurd q (h k k0 k1), fun q => absurd q hb_0⟩)
theorem sh_and : ∀ i : Fin 32, (I ((i.val : Nat) : Int) &&& I 31) = I ((i.val : Nat) : Int) := by decide
theorem sh_smod : ∀ i : Fin 32, (I ((i.val : Nat) : Int)).toBitVec.smod 32 = BitVec.ofNat 32 i.val := by decide
theorem I_and31 {i : Int} (h0 : 0 ≤ i) (h1 : i < 32) : (I i &&& I 31) = I i := by
  have := sh_and ⟨i.toNat, by omega⟩
  rwa [show ((i.toNat : Nat) : Int) = i by omega] at this
theorem I_smod {i : Int} (h0 : 0 ≤ i) (h1 : i < 32) : (I i).toBitVec.smod 32 = BitVec.ofNat 32 i.toNat := by
  have := sh_smod ⟨i.toNat, by omega⟩
  rwa [show ((i.toNat : Nat) : Int) = i by omega] at this
theorem bv_shl {x : BitVec 32} {n : Nat} (h : n < 32) : x <<< BitVec.ofNat 32 n = x <<< n := by
  show x <<< (BitVec.ofNat 32 n).toNat = _
  rw [BitVec.toNat_ofNat, Nat.mod_eq_of_lt (by omega)]
theorem hb_shl {x : Int32} {i k : Int} (h0 : 0 ≤ i) (h1 : i < 32) (h2 : 0 ≤ k) (h3 : k < 32) : hb (x <<< (I i &&& I 31)) k ↔ i ≤ k ∧ hb x (k - i) := by
  rw [I_and31 h0 h1]
  unfold hb
  rw [show (x <<< I i).toBitVec = x.toBitVec <<< ((I i).toBitVec.smod 32) from rfl, I_smod h0 h1, bv_shl (by omega), BitVec.getLsbD_shiftLeft]
  rw [show (k - i).toNat = k.toNat - i.toNat by omega]
  by_cases c : i ≤ k
  · simp [show k.toNat < 32 by omega, show ¬ k.toNat < i.toNat by omega, c]
  · simp [show k.toNat < i.toNat by omega, c]
theorem hb_1 {k : Int} (h0 : 0 ≤ k) : hb (I 1) k ↔ k = 0 := by
  unfold hb
  rw [show (I 1).toBitVec = 1#32 by decide, BitVec.getLsbD_one]
  simp
  omega
theorem hb_bit {i k : Int} (h0 : 0 ≤ i) (h1 : i < 32) (h2 : 0 ≤ k) (h3 : k < 32) : hb (I 1 <<< (I i &&& I 31)) k ↔ k = i := by
  rw [hb_shl h0 h1 h2 h3]
  constructor
  · rintro ⟨q1, q2⟩; have := (hb_1 (by omega)).mp q2; omega
  · intro q; exact ⟨by omega, (hb_1 (by omega)).mpr (by omega)⟩
theorem hb_shr {x : Int32} {i : Int} (h0 : 0 ≤ i) (h1 : i < 32) : hb (x >>> (I i &&& I 31)) 0 ↔ hb x i := by
  rw [I_and31 h0 h1]
  unfold hb
  rw [show (x >>> I i).toBitVec = x.toBitVec.sshiftRight' ((I i).toBitVec.smod 32) from rfl, I_smod h0 h1]
  rw [show x.toBitVec.sshiftRight' (BitVec.ofNat 32 i.toNat) = x.toBitVec.sshiftRight (BitVec.ofNat 32 i.toNat).toNat from rfl, BitVec.toNat_ofNat, Nat.mod_eq_of_lt (by omega), BitVec.getLsbD_sshiftRight]
  simp [show i.toNat < 32 by omega]
theorem us_and : ∀ i : Fin 32, ((I ((i.val : Nat) : Int)).toUInt32 &&& Int32.toUInt32 31).toBitVec % 32 = BitVec.ofNat 32 i.val := by decide
theorem hb_ushr {x : Int32} {i k : Int} (h0 : 0 ≤ i) (h1 : i < 32) (h2 : 0 ≤ k) : hb (iushrJ x (I i)) k ↔ hb x (k + i) := by
  have h := us_and ⟨i.toNat, by omega⟩
  rw [show ((i.toNat : Nat) : Int) = i by omega] at h
  unfold hb iushrJ
  rw [show ((x.toUInt32 >>> ((I i).toUInt32 &&& Int32.toUInt32 31)).toInt32).toBitVec = x.toBitVec >>> (((I i).toUInt32 &&& Int32.toUInt32 31).toBitVec % 32) from rfl, h]
  rw [show x.toBitVec >>> BitVec.ofNat 32 i.toNat = x.toBitVec >>> (BitVec.ofNat 32 i.toNat).toNat from rfl, BitVec.toNat_ofNat, Nat.mod_eq_of_lt (by omega), BitVec.getLsbD_ushiftRight]
  rw [show (k + i).toNat = i.toNat + k.toNat by omega]
theorem and1 {x : Int32} : (x &&& I 1) = I (ind (hb x 0)) := by
  apply hb_ext
  intro k k0 k1
  rw [hb_and, hb_1 k0]
  by_cases c : hb x 0
  · rw [ind_t c, hb_1 k0]
    constructor
    · exact fun q => q.2
    · intro q; subst q; exact ⟨c, rfl⟩
  · rw [ind_f c]
    constructor
    · rintro ⟨q1, q2⟩; subst q2; exact absurd q1 c
    · exact fun q => absurd q hb_0
theorem tst_shr {x : Int32} {i : Int} (h0 : 0 ≤ i) (h1 : i < 32) : ((x >>> (I i &&& I 31)) &&& I 1) = I (ind (hb x i)) := by
  rw [and1, ind_congr (hb_shr h0 h1)]
theorem tst_ushr {x : Int32} {i : Int} (h0 : 0 ≤ i) (h1 : i < 32) : ((iushrJ x (I i)) &&& I 1) = I (ind (hb x i)) := by
  rw [and1, ind_congr (hb_ushr h0 h1 (by omega))]
  rw [Int.zero_add]
/-- the set of the k below n with p -/
def bs (p : Int → Prop) [DecidablePred p] : Nat → Int32
  | 0 => I 0
  | n + 1 => if p n then bs p n ||| (I 1 <<< (I n &&& I 31)) else bs p n
theorem hb_bs {p : Int → Prop} [DecidablePred p] : ∀ {n : Nat}, n ≤ 32 → ∀ {k : Int}, 0 ≤ k → k < 32 → (hb (bs p n) k ↔ k < n ∧ p k) := by
  intro n
  induction n with
  | zero => intro _ k k0 k1; exact ⟨fun q => absurd q hb_0, fun q => by omega⟩
  | succ n ih =>
    intro hn k k0 k1
    unfold bs
    by_cases c : p n
    · rw [if_pos c, hb_or, ih (by omega) k0 k1, hb_bit (by omega) (by omega) k0 k1]
      constructor
      · rintro (q | rfl)
        · exact ⟨by omega, q.2⟩
        · exact ⟨by omega, c⟩
      · rintro ⟨q1, q2⟩
        by_cases z : k = n
        · exact Or.inr z
        · exact Or.inl ⟨by omega, q2⟩
    · rw [if_neg c, ih (by omega) k0 k1]
      constructor
      · exact fun q => ⟨by omega, q.2⟩
      · rintro ⟨q1, q2⟩
        by_cases z : k = n
        · subst z; exact absurd q2 c
        · exact ⟨by omega, q2⟩
theorem bs_t {p : Int → Prop} [DecidablePred p] {k : Int} (h0 : 0 ≤ k) (c : p k) : bs p (k + 1).toNat = bs p k.toNat ||| (I 1 <<< (I k &&& I 31)) := by
  obtain ⟨n, rfl⟩ : ∃ n : Nat, k = n := ⟨k.toNat, by omega⟩
  rw [show ((n : Int) + 1).toNat = n + 1 by omega, show ((n : Int)).toNat = n by omega]
  exact if_pos c
theorem bs_f {p : Int → Prop} [DecidablePred p] {k : Int} (h0 : 0 ≤ k) (c : ¬ p k) : bs p (k + 1).toNat = bs p k.toNat := by
  obtain ⟨n, rfl⟩ : ∃ n : Nat, k = n := ⟨k.toNat, by omega⟩
  rw [show ((n : Int) + 1).toNat = n + 1 by omega, show ((n : Int)).toNat = n by omega]
  exact if_neg c
theorem or0 {x : Int32} : x ||| I 0 = x := by
  apply hb_ext
  intro k k0 k1
  rw [hb_or]
  exact ⟨fun q => q.elim id (fun q => absurd q hb_0), Or.inl⟩
/-- all below d -/
theorem hb_pre {d k : Int} (h0 : 0 ≤ d) (h1 : d < 32) (h2 : 0 ≤ k) (h3 : k < 32) : hb ((I 1 <<< (I d &&& I 31)) - I 1) k ↔ k < d := by
  rw [I_and31 h0 h1]
  unfold hb
  rw [show ((I 1 <<< I d) - I 1).toBitVec = (I 1).toBitVec <<< ((I d).toBitVec.smod 32) - (I 1).toBitVec from rfl, I_smod h0 h1, bv_shl (by omega)]
  rw [show (I 1).toBitVec = 1#32 by decide]
  rw [← BitVec.testBit_toNat]
  have h2 : (1#32 <<< d.toNat).toNat = 2 ^ d.toNat := by
    rw [BitVec.toNat_shiftLeft, Nat.shiftLeft_eq, show (1#32).toNat = 1 by rfl, Nat.one_mul]
    exact Nat.mod_eq_of_lt (Nat.pow_lt_pow_right (by omega) (by omega))
  have hp : 0 < 2 ^ d.toNat := Nat.two_pow_pos _
  have h3' : 2 ^ d.toNat < 2 ^ 32 := Nat.pow_lt_pow_right (by omega) (by omega)
  have h4 : (1#32 <<< d.toNat - 1#32).toNat = 2 ^ d.toNat - 1 := by
    rw [BitVec.toNat_sub_of_le, h2]
    · rfl
    · rw [BitVec.le_def, h2]; exact hp
  rw [h4, Nat.testBit_two_pow_sub_one, decide_eq_true_iff]
  omega
/-- from a to b -/
theorem C_span {m : Mm} {x y : Int} (h0 : 0 ≤ x) (h1 : x < 32) (h2 : 0 ≤ y) (h3 : y < 32) : ∃ s, f_X7_span m (I x) (I y) = some s ∧ ∀ k, 0 ≤ k → k < 32 → (hb s k ↔ x ≤ k ∧ k ≤ y) := by
  unfold f_X7_span
  simp (disch := omega) only [L0, L1, L2, L3, L4, L5, L6, L7, L8, L9, L10, L11, L12, L13, L14, L15, L16, L17, L18, L19, L20, L21, L22, L23, L24, L25, L26, L27, L31, L32, L33, L36, L40, L41, L42, L47, L48, L57, L58, L59, L60, L61, L62, L65, L97, L101, L102, L103, L120, L126, L127, L144, L245, L1023, L1715, I_add, I_sub, I_mul, I_neg, I_lt, I_le, I_eq]
  refine ⟨_, rfl, fun k k0 k1 => ?_⟩
  rw [hb_and, hb_shl h0 h1 k0 k1, hb_ushr (by omega) (by omega) k0]
  constructor
  · rintro ⟨⟨q1, -⟩, q2⟩
    refine ⟨q1, ?_⟩
    by_cases z : k ≤ y
    · exact z
    · exfalso
      unfold hb at q2
      rw [BitVec.getLsbD_of_ge _ _ (by omega)] at q2
      cases q2
  · rintro ⟨q1, q2⟩
    exact ⟨⟨q1, hb_m1 (by omega)⟩, hb_m1 (by omega)⟩
theorem C_holds {m : Mm} {s : Int32} {k : Int} (h0 : 0 ≤ k) (h1 : k < 32) : f_X7_holds m s (I k) = some (I (ind (hb s k))) := by
  unfold f_X7_holds
  simp only [L0, L1, tst_ushr h0 h1]
  by_cases c : hb s k
  · rw [ind_t c, if_neg (by decide)]
  · rw [ind_f c, if_pos (by decide)]
