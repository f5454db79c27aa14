/-! ===== the whole state; the class's memory that holds it ===== -/
/-- the current tree and twigs; how many kept, the kept ones; the text's length, the text; the last reason; the three counts -/
abbrev FS : Type := TS × Int × (Int → TS) × Int × (Int → Int) × Int × Int × Int × Int
abbrev fS (X : FS) : TS := X.1
abbrev fks (X : FS) : Int := X.2.1
abbrev fkp (X : FS) : Int → TS := X.2.2.1
abbrev fln (X : FS) : Int := X.2.2.2.1
abbrev ftx (X : FS) : Int → Int := X.2.2.2.2.1
abbrev fwy (X : FS) : Int := X.2.2.2.2.2.1
abbrev fb0 (X : FS) : Int := X.2.2.2.2.2.2.1
abbrev fb1 (X : FS) : Int := X.2.2.2.2.2.2.2.1
abbrev fb2 (X : FS) : Int := X.2.2.2.2.2.2.2.2
/-- the state kept once more -/
def pushK (X : FS) : FS := if fks X < 8 then (fS X, fks X + 1, upZ (fkp X) (fks X) (fS X), X.2.2.2) else (fS X, 8, upZ (fun j => fkp X (j + 1)) 7 (fS X), X.2.2.2)
theorem I_div {a b : Int} (h0 : 0 ≤ a) (h1 : a < 2147483648) (h2 : 0 < b) (h3 : b < 2147483648) : I a / I b = I (a / b) := by
  have hq : 0 ≤ a / b := Int.ediv_nonneg h0 (by omega)
  have hq2 : a / b ≤ a := Int.ediv_le_self _ h0
  apply Int32.toInt_inj.mp
  rw [Int32.toInt_div, I_toInt (by omega) h1, I_toInt (by omega) h3, I_toInt (by omega) (by omega), Int.tdiv_eq_ediv_of_nonneg h0]
  exact Int.bmod_eq_of_le (by omega) (by omega)
theorem I_rem8 {a : Int} (h0 : 0 ≤ a) (h1 : a < 2147483648) : I a - I a / I 8 * I 8 = I (a % 8) := by
  rw [I_div h0 h1 (by omega) (by omega), I_mul, I_sub]
  congr 1
  omega
/-- the class's main cells: the object, the ring of kept states -/
def CM (m : Mm) (X : FS) : Prop := ∃ F A, At m 0 (o7 0 F A) ∧ 0 ≤ F 2 ∧ F 2 < 8 ∧ F 3 = fks X ∧ 0 ≤ fks X ∧ fks X ≤ 8 ∧ F 10 = fb0 X ∧ F 11 = fb1 X ∧ F 12 = fb2 X ∧ (∃ f, m[37]? = some (eR 2 8 f) ∧ ∀ i, i < 8 → f i = some (88 + 36 * i)) ∧ (∀ i, i < 8 → SY m (88 + 36 * i)) ∧ ∀ j : Int, 0 ≤ j → j < fks X → SR m (88 + 36 * ((F 2 + j) % 8).toNat) (fkp X j)
def CT (m : Mm) (X : FS) : Prop := ∃ F A, At m 38 (o3 38 F A) ∧ F 1 = fln X ∧ 0 ≤ fln X ∧ fln X ≤ 120 ∧ F 2 = fwy X ∧ ∀ k, 0 ≤ k → k < fln X → A 1 k = ftx X k ∧ 0 ≤ ftx X k ∧ ftx X k ≤ 127
/-- what only serves while a call runs -/
def CS (m : Mm) : Prop := (∃ F A, At m 40 (o4 40 F A)) ∧ (∃ F A, At m 46 (o5 46 F A)) ∧ (∃ F A, At m 53 (o1 53 F A) ∧ F 0 = 2) ∧ (∃ F A, At m 85 (o0 85 F A)) ∧ ∃ F A, At m 87 (o6 87 F A)
def CI (m : Mm) (X : FS) : Prop := 402 ≤ m.length ∧ CM m X ∧ SR m 1 (fS X) ∧ CT m X ∧ CS m
theorem CM.fr {m m' : Mm} {X : FS} {lo hi : Nat} (h : CM m X) (hf : Fr m m' lo hi) (h1 : 1 ≤ lo) (h2 : (38 ≤ lo ∧ hi ≤ 88) ∨ hi ≤ 37 ∨ 376 ≤ lo) : CM m' X := by
  obtain ⟨F, A, a1, a2, a3, a4, a5, a6, a7, a8, a9, ⟨f, b1, b2⟩, b3, b4⟩ := h
  refine ⟨F, A, a1.fr (K := 0) (fun off h => o7_N off h) hf (by omega), a2, a3, a4, a5, a6, a7, a8, a9, ⟨f, by rw [hf.2 37 (by omega)]; exact b1, b2⟩, fun i hi => (b3 i hi).fr hf (by omega), fun j j0 j1 => (b4 j j0 j1).fr hf (by omega)⟩
theorem CT.fr {m m' : Mm} {X : FS} {lo hi : Nat} (h : CT m X) (hf : Fr m m' lo hi) (h1 : 40 ≤ lo ∨ hi ≤ 38) : CT m' X := by
  obtain ⟨F, A, a1, a2⟩ := h
  exact ⟨F, A, a1.fr (K := 1) (fun off h => o3_N off h) hf (by omega), a2⟩
theorem CS.fr {m m' : Mm} {lo hi : Nat} (h : CS m) (hf : Fr m m' lo hi) (h1 : 88 ≤ lo ∨ hi ≤ 40) : CS m' := by
  obtain ⟨⟨F1, A1, h1'⟩, ⟨F2, A2, h2⟩, ⟨F3, A3, h3, h3'⟩, ⟨F4, A4, h4⟩, F5, A5, h5⟩ := h
  exact ⟨⟨F1, A1, h1'.fr (fun off h => o4_N off h) hf (by omega)⟩, ⟨F2, A2, h2.fr (fun off h => o5_N off h) hf (by omega)⟩, ⟨F3, A3, h3.fr (fun off h => o1_N off h) hf (by omega), h3'⟩, ⟨F4, A4, h4.fr (fun off h => o0_N off h) hf (by omega)⟩, F5, A5, h5.fr (fun off h => o6_N off h) hf (by omega)⟩
/-- a change of the current state's cells alone -/
theorem CI.cur {m m' : Mm} {X : FS} {S : TS} (h : CI m X) (hf : Fr m m' 1 37) (hs : SR m' 1 S) : CI m' (S, X.2) := by
  obtain ⟨h1, h2, h3, h4, h5⟩ := h
  refine ⟨by rw [hf.1]; exact h1, ?_, hs, ?_, h5.fr hf (by omega)⟩
  · exact (show CM m (S, X.2) from h2).fr hf (by omega) (by omega)
  · exact (show CT m (S, X.2) from h4).fr hf (by omega)
/-- a change of what serves while a call runs -/
theorem CI.scr {m m' : Mm} {X : FS} (h : CI m X) (hf : Fr m m' 40 88) (hs : CS m') : CI m' X := by
  obtain ⟨h1, h2, h3, h4, h5⟩ := h
  exact ⟨by rw [hf.1]; exact h1, h2.fr hf (by omega) (by omega), h3.fr hf (by omega), h4.fr hf (by omega), hs⟩
/-- a change of the reference's cells alone -/
theorem CI.other {m m' : Mm} {X : FS} (h : CI m X) (hf : Fr m m' 376 402) : CI m' X := by
  obtain ⟨h1, h2, h3, h4, h5⟩ := h
  exact ⟨by rw [hf.1]; exact h1, h2.fr hf (by omega) (by omega), h3.fr hf (by omega), h4.fr hf (by omega), h5.fr hf (by omega)⟩
/-- a count grows by one -/
def incB (X : FS) (c : Int) : FS := if c = -2 then (X.1, X.2.1, X.2.2.1, X.2.2.2.1, X.2.2.2.2.1, X.2.2.2.2.2.1, fb0 X + 1, fb1 X, fb2 X) else if c = -3 then (X.1, X.2.1, X.2.2.1, X.2.2.2.1, X.2.2.2.2.1, X.2.2.2.2.2.1, fb0 X, fb1 X + 1, fb2 X) else (X.1, X.2.1, X.2.2.1, X.2.2.2.1, X.2.2.2.2.1, X.2.2.2.2.2.1, fb0 X, fb1 X, fb2 X + 1)
theorem C_failed {m : Mm} {X : FS} (h : CI m X) {c : Int} (hc : c = -2 ∨ c = -3 ∨ c = -4) : Ok (f_X7_failed m 0 (I c)) (fun t => t.1 = I c ∧ CI t.2 (incB X c) ∧ Fr m t.2 0 376) := by
  obtain ⟨h1, ⟨F, A, a1, a2, a3, a4, a5, a6, a7, a8, a9, ⟨f, b1, b2⟩, b3, b4⟩, h3, h4, h5⟩ := h
  have hl := a7_len a1
  have hov := a1.ov
  have fin : ∀ (F' : Nat → Int) (X' : FS), F' 2 = F 2 → F' 3 = F 3 → fS X' = fS X → fks X' = fks X → fkp X' = fkp X → fln X' = fln X → ftx X' = ftx X → fwy X' = fwy X → F' 10 = fb0 X' → F' 11 = fb1 X' → F' 12 = fb2 X' → CI (ov m 0 (o7 0 F' A)) X' ∧ Fr m (ov m 0 (o7 0 F' A)) 0 376 := by
    intro F' X' e2 e3 e4 e5 e6 e7 e8 e9 c0 c1 c2
    have hf : Fr m (ov m 0 (o7 0 F' A)) 0 (0 + 0 + 1) := Fr.ov (fun off h => o7_N off h)
    refine ⟨⟨by rw [hf.1]; exact h1, ⟨F', A, o7_At hl, by omega, by omega, by rw [e3, a4, e5], by omega, by omega, c0, c1, c2, ⟨f, by rw [hf.2 37 (by omega)]; exact b1, b2⟩, fun i hi => (b3 i hi).fr hf (by omega), fun j j0 j1 => ?_⟩, ?_, ?_, h5.fr hf (by omega)⟩, hf.mono (by omega) (by omega)⟩
    · rw [e2, e6]; exact (b4 j j0 (by omega)).fr hf (by omega)
    · rw [e4]; exact h3.fr hf (by omega)
    · obtain ⟨F2, A2, p1, p2, p3, p4, p5, p6⟩ := h4.fr hf (by omega)
      exact ⟨F2, A2, p1, by rw [e7]; exact p2, by rw [e7]; exact p3, by rw [e7]; exact p4, by rw [e9]; exact p5, by rw [e7, e8]; exact p6⟩
  rw [← hov]
  unfold f_X7_failed
  rcases hc with rfl | rfl | rfl
  · simp (disch := omega) only [L0, L1, L2, L3, L4, L5, L6, L7, L8, L9, L10, L11, L12, L13, L14, L15, L16, L17, L18, L19, L20, L21, L22, L23, L24, L25, L26, L27, L31, L32, L33, L36, L40, L41, L42, L47, L48, L57, L58, L59, L60, L61, L62, L65, L97, L101, L102, L103, L120, L126, L127, L144, L245, L1023, L1715, I_add, I_sub, I_mul, I_neg, I_lt, I_le, I_eq, o7_g10, o7_p10, Option.bind_some, if_pos, if_neg, if_true, if_false, ite_true, ite_false]
    rw [hov]
    exact Ok.pure ⟨rfl, fin _ _ rfl rfl rfl rfl rfl rfl rfl rfl (by simp [upN, incB, a7]) (by simp [upN, incB, a8]) (by simp [upN, incB, a9])⟩
  · simp (disch := omega) only [L0, L1, L2, L3, L4, L5, L6, L7, L8, L9, L10, L11, L12, L13, L14, L15, L16, L17, L18, L19, L20, L21, L22, L23, L24, L25, L26, L27, L31, L32, L33, L36, L40, L41, L42, L47, L48, L57, L58, L59, L60, L61, L62, L65, L97, L101, L102, L103, L120, L126, L127, L144, L245, L1023, L1715, I_add, I_sub, I_mul, I_neg, I_lt, I_le, I_eq, o7_g11, o7_p11, Option.bind_some, if_pos, if_neg, if_true, if_false, ite_true, ite_false]
    rw [hov]
    exact Ok.pure ⟨rfl, fin _ _ rfl rfl rfl rfl rfl rfl rfl rfl (by simp [upN, incB, a7]) (by simp [upN, incB, a8]) (by simp [upN, incB, a9])⟩
  · simp (disch := omega) only [L0, L1, L2, L3, L4, L5, L6, L7, L8, L9, L10, L11, L12, L13, L14, L15, L16, L17, L18, L19, L20, L21, L22, L23, L24, L25, L26, L27, L31, L32, L33, L36, L40, L41, L42, L47, L48, L57, L58, L59, L60, L61, L62, L65, L97, L101, L102, L103, L120, L126, L127, L144, L245, L1023, L1715, I_add, I_sub, I_mul, I_neg, I_lt, I_le, I_eq, o7_g12, o7_p12, Option.bind_some, if_pos, if_neg, if_true, if_false, ite_true, ite_false]
    rw [hov]
    exact Ok.pure ⟨rfl, fin _ _ rfl rfl rfl rfl rfl rfl rfl rfl (by simp [upN, incB, a7]) (by simp [upN, incB, a8]) (by simp [upN, incB, a9])⟩
theorem C_keep {m : Mm} {X : FS} (h : CI m X) : Ok (f_X7_keep m 0) (fun m' => CI m' (pushK X) ∧ Fr m m' 0 376) := by
  obtain ⟨h1, ⟨F, A, a1, a2, a3, a4, a5, a6, a7, a8, a9, ⟨f, b1, b2⟩, b3, b4⟩, h3, h4, h5⟩ := h
  have hl := a7_len a1
  have hr : lR m 37 2 (I ((F 2 + F 3) % 8)) = some (88 + 36 * ((F 2 + F 3) % 8).toNat) := lR_c b1 (by omega) (by omega) (by omega) (b2 _ (by omega))
  have hsx := b3 ((F 2 + F 3) % 8).toNat (by omega)
  unfold f_X7_keep
  simp (disch := omega) only [L0, L1, L2, L3, L4, L5, L6, L7, L8, L9, L10, L11, L12, L13, L14, L15, L16, L17, L18, L19, L20, L21, L22, L23, L24, L25, L26, L27, L31, L32, L33, L36, L40, L41, L42, L47, L48, L57, L58, L59, L60, L61, L62, L65, L97, L101, L102, L103, L120, L126, L127, L144, L245, L1023, L1715, I_add, I_sub, I_mul, I_neg, I_lt, I_le, I_eq, I_rem8, a7_g0 a1, a7_g1 a1, a7_g2 a1, a7_g3 a1, hr, hsx.1.cO, Option.bind_some, if_pos, if_neg, if_true, if_false, ite_true, ite_false]
  refine Ok.bind (S_copyFrom hsx h3 (by omega)) ?_
  rintro m1 ⟨hs1, hf1⟩
  have a1' := a1.fr (K := 0) (fun off h => o7_N off h) hf1 (by omega)
  have hl' := a7_len a1'
  have hov := a1'.ov
  have h37 : m1[37]? = some (eR 2 8 f) := by rw [hf1.2 37 (by omega)]; exact b1
  have hsy : ∀ i, i < 8 → SY m1 (88 + 36 * i) := by
    intro i hi
    by_cases hii : i = ((F 2 + F 3) % 8).toNat
    · subst hii; exact hs1.y
    · exact (b3 i hi).fr hf1 (by omega)
  have hold : ∀ j : Int, 0 ≤ j → j < fks X → (F 2 + j) % 8 ≠ (F 2 + F 3) % 8 → SR m1 (88 + 36 * ((F 2 + j) % 8).toNat) (fkp X j) := fun j j0 j1 hne => (b4 j j0 j1).fr hf1 (by omega)
  have fin : ∀ F' : Nat → Int, Fr m1 (ov m1 0 (o7 0 F' A)) 0 1 := fun F' => Fr.ov (N := 0) (fun off h => o7_N off h)
  rw [← hov]
  by_cases hk : 8 ≤ F 3
  · simp (disch := omega) only [L0, L1, L2, L3, L4, L5, L6, L7, L8, L9, L10, L11, L12, L13, L14, L15, L16, L17, L18, L19, L20, L21, L22, L23, L24, L25, L26, L27, L31, L32, L33, L36, L40, L41, L42, L47, L48, L57, L58, L59, L60, L61, L62, L65, L97, L101, L102, L103, L120, L126, L127, L144, L245, L1023, L1715, I_add, I_sub, I_mul, I_neg, I_lt, I_le, I_eq, o7_g2, o7_g3, o7_p2, I_rem8, Option.bind_some, if_pos, if_neg, if_true, if_false, ite_true, ite_false]
    have hp : pushK X = (fS X, 8, upZ (fun j => fkp X (j + 1)) 7 (fS X), X.2.2.2) := by unfold pushK; rw [if_neg (by omega)]
    have hf := fin (upN F 2 ((F 2 + 1) % 8))
    refine Ok.pure ⟨⟨by rw [hf.1, hf1.1]; exact h1, ⟨_, A, o7_At hl', ?_, ?_, ?_, ?_, ?_, ?_, ?_, ?_, ⟨f, by rw [hf.2 37 (by omega)]; exact h37, b2⟩, fun i hi => (hsy i hi).fr hf (by omega), fun j j0 j1 => ?_⟩, ?_, ?_, (h5.fr hf1 (by omega)).fr hf (by omega)⟩, (hf1.mono (by omega) (by omega)).tr (hf.mono (by omega) (by omega))⟩
    · simp only [upN, if_true]; omega
    · simp only [upN, if_true]; omega
    · rw [hp]; simp only [upN]; rw [if_neg (by decide)]; show F 3 = 8; omega
    · rw [hp]; show (0 : Int) ≤ 8; omega
    · rw [hp]; show (8 : Int) ≤ 8; omega
    · rw [hp]; exact a7
    · rw [hp]; exact a8
    · rw [hp]; exact a9
    · rw [hp] at j1 ⊢
      have j1 : j < 8 := j1
      show SR _ (88 + 36 * (((F 2 + 1) % 8 + j) % 8).toNat) (upZ (fun j => fkp X (j + 1)) 7 (fS X) j)
      by_cases hj : j = 7
      · subst hj
        rw [upZ_at, show ((F 2 + 1) % 8 + 7) % 8 = (F 2 + F 3) % 8 by omega]
        exact hs1.fr hf (by omega)
      · rw [upZ_ne hj, show ((F 2 + 1) % 8 + j) % 8 = (F 2 + (j + 1)) % 8 by omega]
        exact (hold (j + 1) (by omega) (by omega) (by omega)).fr hf (by omega)
    · rw [hp]; exact (h3.fr hf1 (by omega)).fr hf (by omega)
    · rw [hp]; exact (show CT m (fS X, 8, upZ (fun j => fkp X (j + 1)) 7 (fS X), X.2.2.2) from h4).fr hf1 (by omega) |>.fr hf (by omega)
  · simp (disch := omega) only [L0, L1, L2, L3, L4, L5, L6, L7, L8, L9, L10, L11, L12, L13, L14, L15, L16, L17, L18, L19, L20, L21, L22, L23, L24, L25, L26, L27, L31, L32, L33, L36, L40, L41, L42, L47, L48, L57, L58, L59, L60, L61, L62, L65, L97, L101, L102, L103, L120, L126, L127, L144, L245, L1023, L1715, I_add, I_sub, I_mul, I_neg, I_lt, I_le, I_eq, o7_g2, o7_g3, o7_p3, I_rem8, Option.bind_some, if_pos, if_neg, if_true, if_false, ite_true, ite_false]
    have hp : pushK X = (fS X, fks X + 1, upZ (fkp X) (fks X) (fS X), X.2.2.2) := by unfold pushK; rw [if_pos (by omega)]
    have hf := fin (upN F 3 (F 3 + 1))
    refine Ok.pure ⟨⟨by rw [hf.1, hf1.1]; exact h1, ⟨_, A, o7_At hl', ?_, ?_, ?_, ?_, ?_, ?_, ?_, ?_, ⟨f, by rw [hf.2 37 (by omega)]; exact h37, b2⟩, fun i hi => (hsy i hi).fr hf (by omega), fun j j0 j1 => ?_⟩, ?_, ?_, (h5.fr hf1 (by omega)).fr hf (by omega)⟩, (hf1.mono (by omega) (by omega)).tr (hf.mono (by omega) (by omega))⟩
    · exact a2
    · exact a3
    · rw [hp]; simp only [upN, if_true]; show F 3 + 1 = fks X + 1; omega
    · rw [hp]; show (0 : Int) ≤ fks X + 1; omega
    · rw [hp]; show fks X + 1 ≤ 8; omega
    · rw [hp]; exact a7
    · rw [hp]; exact a8
    · rw [hp]; exact a9
    · rw [hp] at j1 ⊢
      have j1 : j < fks X + 1 := j1
      show SR _ (88 + 36 * ((F 2 + j) % 8).toNat) (upZ (fkp X) (fks X) (fS X) j)
      by_cases hj : j = fks X
      · subst hj
        rw [upZ_at, ← a4]
        exact hs1.fr hf (by omega)
      · rw [upZ_ne hj]
        exact (hold j j0 (by omega) (by omega)).fr hf (by omega)
    · rw [hp]; exact (h3.fr hf1 (by omega)).fr hf (by omega)
    · rw [hp]; exact (show CT m (fS X, fks X + 1, upZ (fkp X) (fks X) (fS X), X.2.2.2) from h4).fr hf1 (by omega) |>.fr hf (by omega)
