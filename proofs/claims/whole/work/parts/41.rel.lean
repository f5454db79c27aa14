/-! ===== the class's states: what they hold ===== -/
/-- a tree and four twigs: n, tags, values, levels, the twigs' numbers of nodes, their nodes (0 tag, 1 test, 2 figure, 3 joint, 4 ordered, 5 of) -/
abbrev TS : Type := Int × (Int → Int) × (Int → Int) × (Int → Int) × (Int → Int) × (Int → Int → Int → Int)
abbrev tn (S : TS) : Int := S.1
abbrev ttg (S : TS) : Int → Int := S.2.1
abbrev tvl (S : TS) : Int → Int := S.2.2.1
abbrev tlv (S : TS) : Int → Int := S.2.2.2.1
abbrev tqn (S : TS) : Int → Int := S.2.2.2.2.1
abbrev tnd (S : TS) : Int → Int → Int → Int := S.2.2.2.2.2
/-- a twig's nodes -/
def WW (qn : Int) (nd : Int → Int → Int) : Prop := 0 ≤ qn ∧ qn ≤ 6 ∧ ∀ q, 0 ≤ q → q < qn → (0 ≤ nd q 0 ∧ nd q 0 ≤ 6) ∧ (0 ≤ nd q 1 ∧ nd q 1 ≤ 3) ∧ (0 ≤ nd q 2 ∧ nd q 2 ≤ 9) ∧ (0 ≤ nd q 3 ∧ nd q 3 ≤ 2) ∧ (nd q 4 = 0 ∨ nd q 4 = 1) ∧ (-1 ≤ nd q 5 ∧ nd q 5 < q) ∧ (q = 0 → nd q 3 = 0 ∧ nd q 4 = 0) ∧ (0 < q → 1 ≤ nd q 3 ∧ 0 ≤ nd q 5 ∧ (∀ j, nd q 5 < j → j < q → nd q 5 ≤ nd j 5) ∧ (nd q 5 = q - 1 → nd q 4 = 0))
/-- the class's sign for the reference's test -/
def sgF (t : Int) : Int := if t = 1 then 61 else if t = 2 then 60 else if t = 3 then 62 else 0
def WR (F : Nat → Int) (A : Nat → Int → Int) (qn : Int) (nd : Int → Int → Int) : Prop := F 0 = qn ∧ WW qn nd ∧ ∀ q, 0 ≤ q → q < qn → A 1 q = nd q 0 ∧ A 2 q = sgF (nd q 1) ∧ A 3 q = nd q 2 ∧ A 4 q = nd q 3 ∧ A 5 q = nd q 4 ∧ A 6 q = nd q 5
/-- only cells from lo to hi (not hi itself) differ -/
def Fr (m m' : Mm) (lo hi : Nat) : Prop := m'.length = m.length ∧ ∀ k, k < lo ∨ hi ≤ k → m'[k]? = m[k]?
theorem Fr.rf {m : Mm} {lo hi : Nat} : Fr m m lo hi := ⟨rfl, fun _ _ => rfl⟩
theorem Fr.tr {m m' m'' : Mm} {lo hi : Nat} (h1 : Fr m m' lo hi) (h2 : Fr m' m'' lo hi) : Fr m m'' lo hi := ⟨h2.1.trans h1.1, fun k hk => (h2.2 k hk).trans (h1.2 k hk)⟩
theorem Fr.mono {m m' : Mm} {lo hi lo' hi' : Nat} (h : Fr m m' lo hi) (h1 : lo' ≤ lo) (h2 : hi ≤ hi') : Fr m m' lo' hi' := ⟨h.1, fun k hk => h.2 k (by omega)⟩
theorem Fr.ov {m : Mm} {a N : Nat} {c : Nat → Option mE} (hN : ∀ off, c off ≠ none → off ≤ N) : Fr m (ov m a c) a (a + N + 1) := by
  refine ⟨ov_len m a c, fun k hk => ov_out ?_⟩
  rcases hk with h | h
  · exact Or.inl h
  · right
    cases hc : c (k - a) with
    | none => rfl
    | some x => exact absurd (hN _ (by rw [hc]; exact fun q => by cases q)) (by omega)
theorem At.fr {m m' : Mm} {b K lo hi : Nat} {d : Nat → Option mE} (h : At m b d) (hK : ∀ off, d off ≠ none → off ≤ K) (hf : Fr m m' lo hi) (hd : b + K < lo ∨ hi ≤ b) : At m' b d := by
  intro off e he
  have h1 := hK off (by rw [he]; exact fun q => by cases q)
  rw [hf.2 _ (by omega)]
  exact h off e he
/-- the two cells that hold a state together -/
def SX (m : Mm) (a : Nat) : Prop := m[a]? = some (eO 2 [.ref (a + 1), .ref (a + 7)]) ∧ ∃ f, m[a + 7]? = some (eR 3 4 f) ∧ ∀ i, i < 4 → f i = some (a + 8 + 7 * i)
theorem SX.fr {m m' : Mm} {a lo hi : Nat} (h : SX m a) (hf : Fr m m' lo hi) (h1 : (a < lo ∨ hi ≤ a) ∧ (a + 7 < lo ∨ hi ≤ a + 7)) : SX m' a := by
  obtain ⟨g1, f, g2, g3⟩ := h
  exact ⟨by rw [hf.2 a h1.1]; exact g1, f, by rw [hf.2 _ h1.2]; exact g2, g3⟩
/-- a state with any contents -/
def SY (m : Mm) (a : Nat) : Prop := SX m a ∧ (∃ F A, At m (a + 1) (o4 (a + 1) F A)) ∧ ∀ i, i < 4 → ∃ F A, At m (a + 8 + 7 * i) (o5 (a + 8 + 7 * i) F A)
/-- a state with the contents S -/
def SR (m : Mm) (a : Nat) (S : TS) : Prop := SX m a ∧ (∃ F A, At m (a + 1) (o4 (a + 1) F A) ∧ TR F A (tn S) (ttg S) (tvl S) (tlv S)) ∧ ∀ i : Nat, i < 4 → ∃ F A, At m (a + 8 + 7 * i) (o5 (a + 8 + 7 * i) F A) ∧ WR F A (tqn S i) (tnd S i)
theorem SR.y {m : Mm} {a : Nat} {S : TS} (h : SR m a S) : SY m a := by
  obtain ⟨h1, ⟨F, A, h2, -⟩, h3⟩ := h
  refine ⟨h1, ⟨F, A, h2⟩, fun i hi => ?_⟩
  obtain ⟨F, A, h4, -⟩ := h3 i hi
  exact ⟨F, A, h4⟩
theorem SR.fr {m m' : Mm} {a lo hi : Nat} {S : TS} (h : SR m a S) (hf : Fr m m' lo hi) (hd : a + 35 < lo ∨ hi ≤ a) : SR m' a S := by
  obtain ⟨h1, ⟨F, A, h2, h2'⟩, h3⟩ := h
  refine ⟨h1.fr hf (by omega), ⟨F, A, h2.fr (fun off h => o4_N off h) hf (by omega), h2'⟩, fun i hi => ?_⟩
  obtain ⟨F, A, h4, h5⟩ := h3 i hi
  exact ⟨F, A, h4.fr (fun off h => o5_N off h) hf (by omega), h5⟩
theorem SY.fr {m m' : Mm} {a lo hi : Nat} (h : SY m a) (hf : Fr m m' lo hi) (hd : a + 35 < lo ∨ hi ≤ a) : SY m' a := by
  obtain ⟨h1, ⟨F, A, h2⟩, h3⟩ := h
  refine ⟨h1.fr hf (by omega), ⟨F, A, h2.fr (fun off h => o4_N off h) hf (by omega)⟩, fun i hi => ?_⟩
  obtain ⟨F, A, h4⟩ := h3 i hi
  exact ⟨F, A, h4.fr (fun off h => o5_N off h) hf (by omega)⟩
/-- what is said of a tree counts below n alone -/
theorem TR.congr {F F' : Nat → Int} {A A' : Nat → Int → Int} {n : Int} {tg vl lv : Int → Int} (h : TR F A n tg vl lv) (hF : F' 0 = F 0) (hA : ∀ i, 1 ≤ i → i ≤ 5 → ∀ k, 0 ≤ k → k < n → A' i k = A i k) : TR F' A' n tg vl lv := by
  refine ⟨by rw [hF]; exact h.1, h.2.1, fun k k0 k1 => ?_⟩
  rw [hA 1 (by omega) (by omega) k k0 k1, hA 2 (by omega) (by omega) k k0 k1, hA 3 (by omega) (by omega) k k0 k1, hA 4 (by omega) (by omega) k k0 k1, hA 5 (by omega) (by omega) k k0 k1]
  exact h.2.2 k k0 k1
theorem WR.congr {F F' : Nat → Int} {A A' : Nat → Int → Int} {qn : Int} {nd : Int → Int → Int} (h : WR F A qn nd) (hF : F' 0 = F 0) (hA : ∀ i, 1 ≤ i → i ≤ 6 → ∀ k, 0 ≤ k → k < qn → A' i k = A i k) : WR F' A' qn nd := by
  refine ⟨by rw [hF]; exact h.1, h.2.1, fun k k0 k1 => ?_⟩
  rw [hA 1 (by omega) (by omega) k k0 k1, hA 2 (by omega) (by omega) k k0 k1, hA 3 (by omega) (by omega) k k0 k1, hA 4 (by omega) (by omega) k k0 k1, hA 5 (by omega) (by omega) k k0 k1, hA 6 (by omega) (by omega) k k0 k1]
  exact h.2.2 k k0 k1
theorem W_copyFrom {m : Mm} {a b : Nat} {F F' : Nat → Int} {A A' : Nat → Int → Int} (hl : a + 6 < m.length) (hb : At m b (o5 b F' A')) (hd : a + 6 < b ∨ b + 6 < a) : ∃ A'', f_X5_copyFrom (ov m a (o5 a F A)) a b = some (ov m a (o5 a (upN F 0 (F' 0)) A'')) ∧ ∀ i, 1 ≤ i → i ≤ 6 → ∀ k, 0 ≤ k → k < 6 → A'' i k = A' i k := by
  have hB : ∀ F0 A0, At (ov m a (o5 a F0 A0)) b (o5 b F' A') := fun F0 A0 => hb.keep (fun off h => o5_N off h) (fun off h => o5_N off h) hd
  have cp : ∀ (j : Nat) (F0 : Nat → Int) (A0 : Nat → Int → Int), 1 ≤ j → j ≤ 6 → cI (ov m a (o5 a F0 A0)) (b + j) (I 0) (a + j) (I 0) (I 6) = some (ov m a (o5 a F0 (upN A0 j (cpz 6 (A' j) (A0 j))))) := by
    intro j F0 A0 h1 h2
    have hAt := o5_At (m := m) (a := a) (F := F0) (A := A0) hl
    match j, h1, h2 with
    | 1, _, _ => rw [show (6 : Int) = ((6 : Nat) : Int) from rfl, cI_c (hB F0 A0 1 _ rfl) (hAt 1 _ rfl) (by omega), ov_set, o5_w1]
    | 2, _, _ => rw [show (6 : Int) = ((6 : Nat) : Int) from rfl, cI_c (hB F0 A0 2 _ rfl) (hAt 2 _ rfl) (by omega), ov_set, o5_w2]
    | 3, _, _ => rw [show (6 : Int) = ((6 : Nat) : Int) from rfl, cI_c (hB F0 A0 3 _ rfl) (hAt 3 _ rfl) (by omega), ov_set, o5_w3]
    | 4, _, _ => rw [show (6 : Int) = ((6 : Nat) : Int) from rfl, cI_c (hB F0 A0 4 _ rfl) (hAt 4 _ rfl) (by omega), ov_set, o5_w4]
    | 5, _, _ => rw [show (6 : Int) = ((6 : Nat) : Int) from rfl, cI_c (hB F0 A0 5 _ rfl) (hAt 5 _ rfl) (by omega), ov_set, o5_w5]
    | 6, _, _ => rw [show (6 : Int) = ((6 : Nat) : Int) from rfl, cI_c (hB F0 A0 6 _ rfl) (hAt 6 _ rfl) (by omega), ov_set, o5_w6]
    | k + 7, h1, h2 => omega
  unfold f_X5_copyFrom
  simp (disch := omega) only [L0, L1, L2, L3, L4, L5, L6, L7, L8, L9, L10, L11, L12, L13, L14, L15, L16, L17, L18, L19, L20, L21, L22, L23, L24, L25, L26, L27, L31, L32, L33, L36, L40, L41, L42, L47, L48, L57, L58, L59, L60, L61, L62, L65, L97, L101, L102, L103, L120, L126, L127, L144, L245, L1023, L1715, o5_cO, o5_g0, o5_p0, o5_g1, o5_g2, o5_g3, o5_g4, o5_g5, o5_g6, o5_l1, o5_s1, o5_l2, o5_s2, o5_l3, o5_s3, o5_l4, o5_s4, o5_l5, o5_s5, o5_l6, o5_s6, Option.bind_some, if_pos, if_neg, if_true, if_false, ite_true, ite_false, a5_g0 (hB _ _), a5_g1 (hB _ _), a5_g2 (hB _ _), a5_g3 (hB _ _), a5_g4 (hB _ _), a5_g5 (hB _ _), a5_g6 (hB _ _), cp]
  refine ⟨_, rfl, fun i h1 h2 k h3 h4 => ?_⟩
  match i, h1, h2 with
  | 1, _, _ => simp [upN, cpz, h3, h4]
  | 2, _, _ => simp [upN, cpz, h3, h4]
  | 3, _, _ => simp [upN, cpz, h3, h4]
  | 4, _, _ => simp [upN, cpz, h3, h4]
  | 5, _, _ => simp [upN, cpz, h3, h4]
  | 6, _, _ => simp [upN, cpz, h3, h4]
  | k + 7, h1, h2 => omega
/-- reading a state's cells -/
theorem SX.g0 {m : Mm} {a : Nat} (h : SX m a) : gR m a 2 0 = some (a + 1) := gR_c h.1 rfl
theorem SX.g1 {m : Mm} {a : Nat} (h : SX m a) : gR m a 2 1 = some (a + 7) := gR_c h.1 rfl
theorem SX.cO {α : Type} {x : Option α} {m : Mm} {a : Nat} (h : SX m a) : cO m a 2 x = x := cO_c h.1
theorem SX.r {m : Mm} {a : Nat} (h : SX m a) {i : Int} (h0 : 0 ≤ i) (h1 : i < 4) : lR m (a + 7) 3 (I i) = some (a + 8 + 7 * i.toNat) := by
  obtain ⟨-, f, g2, g3⟩ := h
  exact lR_c g2 h0 (by omega) (by omega) (g3 _ (by omega))
/-- State.copyFrom -/
theorem S_copyFrom {m : Mm} {a b : Nat} {S : TS} (ha : SY m a) (hb : SR m b S) (hd : a + 35 < b ∨ b + 35 < a) : Ok (f_X2_copyFrom m a b) (fun m' => SR m' a S ∧ Fr m m' a (a + 36)) := by
  obtain ⟨hax, ⟨F, A, hat⟩, haw⟩ := ha
  have hbx := hb.1
  obtain ⟨F', A', hbt, hbT⟩ := hb.2.1
  have hl := a4_len hat
  obtain ⟨A2, hcp, hA2⟩ := T_copyFrom (F := F) (A := A) hl hbt (by omega)
  rw [hat.ov] at hcp
  unfold f_X2_copyFrom
  simp (disch := omega) only [hax.g0, hbx.g0, a4_cO hat, hcp, Option.bind_some, if_pos, if_neg, if_true, if_false, ite_true, ite_false]
  have hn2 := hbT.2.1.2.1
  have hT2 : TR (upN F 0 (F' 0)) A2 (tn S) (ttg S) (tvl S) (tlv S) := hbT.congr upN_at (fun i p q k k0 k1 => hA2 i p q k k0 (by omega))
  refine Ok.bind (P := fun m' => SR m' a S ∧ Fr m m' a (a + 36)) ?_ (fun _ h => Ok.pure h)
  refine Ok.whl (fun j s => ∃ (i : Int) (m' : Mm), s = (I i, m') ∧ 0 ≤ i ∧ i ≤ 4 ∧ j = (4 - i).toNat ∧ Fr m m' a (a + 36) ∧ SX m' a ∧ (∃ F A, At m' (a + 1) (o4 (a + 1) F A) ∧ TR F A (tn S) (ttg S) (tvl S) (tlv S)) ∧ ∀ x : Nat, x < 4 → ∃ F A, At m' (a + 8 + 7 * x) (o5 (a + 8 + 7 * x) F A) ∧ ((x : Int) < i → WR F A (tqn S x) (tnd S x))) _ (j := 4) ?_ ⟨0, _, rfl, by omega, by omega, rfl, (Fr.ov (fun off h => o4_N off h)).mono (by omega) (by omega), ?_, ⟨_, _, o4_At hl, hT2⟩, fun x hx => ?_⟩ (FU_lt (by omega))
  · rintro j s ⟨i, m', rfl, h0, h1, rfl, hfr, hx, ht, hw⟩
    dsimp only
    unfold f_X2_copyFrom_L13
    by_cases hi : 4 ≤ i
    · simp (disch := omega) only [L0, L1, L2, L3, L4, L5, L6, L7, L8, L9, L10, L11, L12, L13, L14, L15, L16, L17, L18, L19, L20, L21, L22, L23, L24, L25, L26, L27, L31, L32, L33, L36, L40, L41, L42, L47, L48, L57, L58, L59, L60, L61, L62, L65, L97, L101, L102, L103, L120, L126, L127, L144, L245, L1023, L1715, I_add, I_sub, I_mul, I_neg, I_lt, I_le, I_eq, Option.bind_some, if_pos, if_neg, if_true, if_false, ite_true, ite_false]
      refine Ok.pure (Or.inr ⟨_, rfl, ⟨hx, ht, fun x hx4 => ?_⟩, hfr⟩)
      obtain ⟨F, A, q1, q2⟩ := hw x hx4
      exact ⟨F, A, q1, q2 (by omega)⟩
    · have hbm := hb.fr hfr (by omega)
      obtain ⟨Fw, Aw, hw1, -⟩ := hw i.toNat (by omega)
      obtain ⟨Fb, Ab, hwb, hWb⟩ := hbm.2.2 i.toNat (by omega)
      have hlw := a5_len hw1
      obtain ⟨A3, hcp3, hA3⟩ := W_copyFrom (F := Fw) (A := Aw) hlw hwb (by omega)
      rw [hw1.ov] at hcp3
      simp (disch := omega) only [L0, L1, L2, L3, L4, L5, L6, L7, L8, L9, L10, L11, L12, L13, L14, L15, L16, L17, L18, L19, L20, L21, L22, L23, L24, L25, L26, L27, L31, L32, L33, L36, L40, L41, L42, L47, L48, L57, L58, L59, L60, L61, L62, L65, L97, L101, L102, L103, L120, L126, L127, L144, L245, L1023, L1715, I_add, I_sub, I_mul, I_neg, I_lt, I_le, I_eq, hx.g1, hbm.1.g1, hx.r, hbm.1.r, a5_cO hw1, hcp3, Option.bind_some, if_pos, if_neg, if_true, if_false, ite_true, ite_false]
      have hf2 : Fr m' (ov m' (a + 8 + 7 * i.toNat) (o5 (a + 8 + 7 * i.toNat) (upN Fw 0 (Fb 0)) A3)) (a + 8 + 7 * i.toNat) (a + 8 + 7 * i.toNat + 6 + 1) := Fr.ov (fun off h => o5_N off h)
      have hq6 := hWb.2.1.2.1
      refine Ok.pure (Or.inl ⟨_, (4 - (i + 1)).toNat, rfl, ⟨i + 1, _, rfl, by omega, by omega, rfl, hfr.tr (hf2.mono (by omega) (by omega)), hx.fr hf2 (by omega), ?_, fun x hx4 => ?_⟩, by omega⟩)
      · obtain ⟨F, A, q1, q2⟩ := ht
        exact ⟨F, A, q1.fr (fun off h => o4_N off h) hf2 (by omega), q2⟩
      · by_cases hxi : x = i.toNat
        · subst hxi
          refine ⟨_, _, o5_At hlw, fun _ => ?_⟩
          have := hWb.congr (F' := upN Fw 0 (Fb 0)) (A' := A3) upN_at (fun i p q k k0 k1 => hA3 i p q k k0 (by omega))
          exact this
        · obtain ⟨F, A, q1, q2⟩ := hw x hx4
          exact ⟨F, A, q1.fr (fun off h => o5_N off h) hf2 (by omega), fun q => q2 (by omega)⟩
  · exact hax.fr (Fr.ov (N := 5) (fun off h => o4_N off h)) (by omega)
  · obtain ⟨F, A, q1⟩ := haw x hx
    exact ⟨F, A, q1.fr (fun off h => o5_N off h) (Fr.ov (N := 5) (fun off h => o4_N off h)) (by omega), fun q => by omega⟩
