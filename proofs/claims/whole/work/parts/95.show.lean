/-! ===== what is shown ===== -/
/-- the parentheses between two depths -/
def prn (a b : Int) : List Int := if a < b then [40] else List.replicate (a - b).toNat 41
/-- the byte at k, -1 behind the end -/
def lk (l : List Int) (k : Int) : Int := (l[k.toNat]?).getD (-1)
def nmT (tg vl : Int → Int) (e : Int) : List Int := (97 + tg e) :: (if vl e = 0 then [] else [48 + vl e])
def sT (tg vl lv : Int → Int) : Nat → List Int
  | 0 => []
  | e + 1 => sT tg vl lv e ++ (if e = 0 then [] else prn (lv ((e : Int) - 1)) (lv e)) ++ nmT tg vl e
def shT (n : Int) (tg vl lv : Int → Int) : List Int := sT tg vl lv n.toNat ++ prn (lv (n - 1)) 1
def nmW (nd : Int → Int → Int) (q : Int) : List Int := (if nd q 4 = 0 then [] else [59]) ++ (if nd q 3 = 0 then [] else [if nd q 3 = 1 then 47 else 126]) ++ [if nd q 0 = 6 then 42 else 97 + nd q 0] ++ (if nd q 1 = 0 then [] else [sgF (nd q 1), 48 + nd q 2])
def sW (nd : Int → Int → Int) : Nat → List Int
  | 0 => []
  | q + 1 => sW nd q ++ (if q = 0 then [] else prn (lw nd ((q : Int) - 1)) (lw nd q)) ++ nmW nd q
def shW (Q : Int) (nd : Int → Int → Int) : List Int := sW nd Q.toNat ++ prn (lw nd (Q - 1)) 1
def rShown (X : FS) (i k : Int) : Int × FS := if i = -1 then (if 0 ≤ k then (lk (shT (tn (fS X)) (ttg (fS X)) (tvl (fS X)) (tlv (fS X))) k, X) else (-2, incB X (-2))) else if (0 ≤ i ∧ i < 4) ∧ 0 ≤ k then (if tqn (fS X) i = 0 then (-3, incB X (-3)) else (lk (shW (tqn (fS X) i) (tnd (fS X) i)) k, X)) else (-2, incB X (-2))
theorem lk_app {l : List Int} {c k : Int} (h0 : 0 ≤ k) : lk (l ++ [c]) k = if (l.length : Int) = k then c else lk l k := by
  unfold lk
  by_cases z : (l.length : Int) = k
  · rw [if_pos z, List.getElem?_append_right (by omega), show k.toNat - l.length = 0 by omega]
    rfl
  · rw [if_neg z]
    by_cases y : k.toNat < l.length
    · rw [List.getElem?_append_left y]
    · rw [List.getElem?_append_right (by omega), List.getElem?_eq_none (l := [c]) (by show 1 ≤ _; omega), List.getElem?_eq_none (by omega)]
theorem lk_out {l : List Int} {k : Int} (h : (l.length : Int) ≤ k) : lk l k = -1 := by
  unfold lk
  rw [List.getElem?_eq_none (by omega)]
  rfl
theorem prn_sh {a b : Int} : prn (a - 1) (b - 1) = prn a b := by
  unfold prn
  by_cases z : a < b
  · rw [if_pos z, if_pos (by omega)]
  · rw [if_neg z, if_neg (by omega), show (a - 1 - (b - 1)).toNat = (a - b).toNat by omega]
theorem prn_len {a b : Int} : ((prn a b).length : Int) ≤ (if a < b then 1 else a - b) := by
  unfold prn
  by_cases z : a < b
  · rw [if_pos z, if_pos z]; exact Int.le_refl _
  · rw [if_neg z, if_neg z, List.length_replicate]; omega
theorem nmT_len {tg vl : Int → Int} {e : Int} : (nmT tg vl e).length ≤ 2 := by
  unfold nmT
  by_cases z : vl e = 0
  · rw [if_pos z]; exact Nat.le_succ _
  · rw [if_neg z]; exact Nat.le_refl _
theorem nmW_len {nd : Int → Int → Int} {q : Int} : (nmW nd q).length ≤ 5 := by
  unfold nmW
  simp only [List.length_append, List.length_cons, List.length_nil]
  have h1 : (if nd q 4 = 0 then ([] : List Int) else [59]).length ≤ 1 := by split <;> simp
  have h2 : (if nd q 3 = 0 then ([] : List Int) else [if nd q 3 = 1 then 47 else 126]).length ≤ 1 := by split <;> simp
  have h3 : (if nd q 1 = 0 then ([] : List Int) else [sgF (nd q 1), 48 + nd q 2]).length ≤ 2 := by split <;> simp
  omega
theorem sT_len {n : Int} {tg vl lv : Int → Int} (hw : WL n lv) : ∀ e : Nat, 1 ≤ e → (e : Int) ≤ n → ((sT tg vl lv e).length : Int) + lv ((e : Int) - 1) ≤ 4 * e + 1 := by
  intro e
  induction e with
  | zero => intro h; omega
  | succ e ih =>
    intro _ he
    unfold sT
    rw [List.length_append, List.length_append]
    have hn := nmT_len (tg := tg) (vl := vl) (e := (e : Int))
    by_cases z : e = 0
    · subst z
      rw [if_pos rfl]
      have := hw.2.2.1
      simp only [sT, List.length_nil]
      show ((0 + 0 + (nmT tg vl ((0 : Nat) : Int)).length : Nat) : Int) + lv (((0 + 1 : Nat) : Int) - 1) ≤ _
      rw [show (((0 + 1 : Nat) : Int) - 1) = 0 by omega, this]
      omega
    · rw [if_neg z]
      have h1 := ih (by omega) (by omega)
      have h2 := prn_len (a := lv ((e : Int) - 1)) (b := lv e)
      have h3 := hw.2.2.2.1 e (by omega) (by omega)
      rw [show (((e + 1 : Nat) : Int) - 1) = (e : Int) by omega]
      by_cases y : lv ((e : Int) - 1) < lv e
      · rw [if_pos y] at h2; omega
      · rw [if_neg y] at h2; omega
theorem sW_len {Q : Int} {nd : Int → Int → Int} (hw : WL Q (lw nd)) : ∀ q : Nat, 1 ≤ q → (q : Int) ≤ Q → ((sW nd q).length : Int) + lw nd ((q : Int) - 1) ≤ 7 * q + 1 := by
  intro e
  induction e with
  | zero => intro h; omega
  | succ e ih =>
    intro _ he
    unfold sW
    rw [List.length_append, List.length_append]
    have hn := nmW_len (nd := nd) (q := (e : Int))
    by_cases z : e = 0
    · subst z
      rw [if_pos rfl]
      have := hw.2.2.1
      simp only [sW, List.length_nil]
      show ((0 + 0 + (nmW nd ((0 : Nat) : Int)).length : Nat) : Int) + lw nd (((0 + 1 : Nat) : Int) - 1) ≤ _
      rw [show (((0 + 1 : Nat) : Int) - 1) = 0 by omega, this]
      omega
    · rw [if_neg z]
      have h1 := ih (by omega) (by omega)
      have h2 := prn_len (a := lw nd ((e : Int) - 1)) (b := lw nd e)
      have h3 := hw.2.2.2.1 e (by omega) (by omega)
      rw [show (((e + 1 : Nat) : Int) - 1) = (e : Int) by omega]
      by_cases y : lw nd ((e : Int) - 1) < lw nd e
      · rw [if_pos y] at h2; omega
      · rw [if_neg y] at h2; omega
/-! the class's writer -/
def WS (k : Int) (l : List Int) (F : Nat → Int) : Prop := F 0 = k ∧ F 1 = l.length ∧ F 2 = lk l k
section YW
variable {m : Mm} {F : Nat → Int} {A : Nat → Int → Int} {k : Int} {l : List Int}
theorem Y_put (hl : 87 < m.length) (h : WS k l F) (k0 : 0 ≤ k) (k1 : k < 2147483648) (hn : l.length < 1000) {c : Int} : Ok (f_X6_put (ov m 87 (o6 87 F A)) 87 (I c)) (fun m' => ∃ F', m' = ov m 87 (o6 87 F' A) ∧ WS k (l ++ [c]) F') := by
  obtain ⟨h0, h1, h2⟩ := h
  unfold f_X6_put
  have ha := lk_app (l := l) (c := c) k0
  by_cases z : (l.length : Int) = k
  · rw [if_pos z] at ha
    simp (disch := omega) only [o6_g1, o6_g0, h1, h0, L0, L1, L2, L3, L4, L5, L6, L7, L8, L9, L10, L11, L12, L13, L14, L15, L16, L17, L18, L19, L20, L21, L22, L23, L24, L25, L26, L27, L31, L32, L33, L36, L40, L41, L42, L47, L48, L57, L58, L59, L60, L61, L62, L65, L97, L101, L102, L103, L120, L126, L127, L144, L245, L1023, L1715, I_add, I_sub, I_mul, I_neg, I_lt, I_le, I_eq, Option.bind_some, if_pos, if_neg, if_true, if_false, ite_true, ite_false, o6_p2]
    have f1 : upN F 2 c 1 = l.length := by rw [upN_ne (by omega)]; exact h1
    simp (disch := omega) only [o6_g1, f1, I_add, I_sub, I_mul, I_neg, I_lt, I_le, I_eq, o6_p1, Option.bind_some]
    refine Ok.pure ⟨_, rfl, by rw [upN_ne (by omega), upN_ne (by omega)]; exact h0, ?_, by rw [upN_ne (by omega), upN_at, ha]⟩
    rw [upN_at, List.length_append]; rfl
  · rw [if_neg z] at ha
    simp (disch := omega) only [o6_g1, o6_g0, h1, h0, L0, L1, L2, L3, L4, L5, L6, L7, L8, L9, L10, L11, L12, L13, L14, L15, L16, L17, L18, L19, L20, L21, L22, L23, L24, L25, L26, L27, L31, L32, L33, L36, L40, L41, L42, L47, L48, L57, L58, L59, L60, L61, L62, L65, L97, L101, L102, L103, L120, L126, L127, L144, L245, L1023, L1715, I_add, I_sub, I_mul, I_neg, I_lt, I_le, I_eq, Option.bind_some, if_pos, if_neg, if_true, if_false, ite_true, ite_false, o6_p1]
    refine Ok.pure ⟨_, rfl, by rw [upN_ne (by omega)]; exact h0, ?_, by rw [upN_ne (by omega), ha]; exact h2⟩
    rw [upN_at, List.length_append]; rfl
theorem Y_par (hl : 87 < m.length) (h : WS k l F) (k0 : 0 ≤ k) (k1 : k < 2147483648) (hn : l.length < 900) {a b : Int} (ha : 0 ≤ a ∧ a ≤ 20) (hb : 0 ≤ b ∧ b ≤ 20) : Ok (f_X6_putParentheses (ov m 87 (o6 87 F A)) 87 (I a) (I b)) (fun m' => ∃ F', m' = ov m 87 (o6 87 F' A) ∧ WS k (l ++ prn a b) F') := by
  unfold f_X6_putParentheses prn
  by_cases z : a < b
  · rw [if_pos z]
    simp (disch := omega) only [L0, L1, L2, L3, L4, L5, L6, L7, L8, L9, L10, L11, L12, L13, L14, L15, L16, L17, L18, L19, L20, L21, L22, L23, L24, L25, L26, L27, L31, L32, L33, L36, L40, L41, L42, L47, L48, L57, L58, L59, L60, L61, L62, L65, L97, L101, L102, L103, L120, L126, L127, L144, L245, L1023, L1715, I_add, I_sub, I_mul, I_neg, I_lt, I_le, I_eq, if_neg (show ¬ b ≤ a by omega), o6_cO]
    refine Ok.bind (P := fun m' => ∃ F', m' = ov m 87 (o6 87 F' A) ∧ WS k (l ++ [40]) F') ?_ ?_
    · exact Ok.bind (Y_put hl h k0 k1 (by omega)) (fun m' h' => Ok.pure h')
    · rintro m' ⟨F', rfl, h'⟩
      refine Ok.bind (P := fun m' => m' = ov m 87 (o6 87 F' A)) ?_ (fun m' e => Ok.pure ⟨F', e, h'⟩)
      refine Ok.whl (fun j s => s = (I b, ov m 87 (o6 87 F' A)) ∧ j = 0) _ (j := 0) ?_ ⟨rfl, rfl⟩ (FU_lt (by omega))
      rintro j s ⟨rfl, rfl⟩
      dsimp only
      unfold f_X6_putParentheses_L13
      simp (disch := omega) only [I_add, I_sub, I_mul, I_neg, I_lt, I_le, I_eq, if_pos (show a ≤ b by omega)]
      exact Ok.pure (Or.inr ⟨_, rfl, rfl⟩)
  · rw [if_neg z]
    simp (disch := omega) only [L0, L1, L2, L3, L4, L5, L6, L7, L8, L9, L10, L11, L12, L13, L14, L15, L16, L17, L18, L19, L20, L21, L22, L23, L24, L25, L26, L27, L31, L32, L33, L36, L40, L41, L42, L47, L48, L57, L58, L59, L60, L61, L62, L65, L97, L101, L102, L103, L120, L126, L127, L144, L245, L1023, L1715, I_add, I_sub, I_mul, I_neg, I_lt, I_le, I_eq, if_pos (show b ≤ a by omega), Option.bind_some]
    refine Ok.bind (P := fun m' => ∃ F', m' = ov m 87 (o6 87 F' A) ∧ WS k (l ++ List.replicate (a - b).toNat 41) F') ?_ (fun _ h => Ok.pure h)
    refine Ok.whl (fun j s => ∃ c F', s = (I c, ov m 87 (o6 87 F' A)) ∧ b ≤ c ∧ c ≤ a ∧ j = (a - c).toNat ∧ WS k (l ++ List.replicate (c - b).toNat 41) F') _ (j := (a - b).toNat) ?_ ⟨b, F, rfl, by omega, by omega, rfl, by rw [show (b - b).toNat = 0 by omega, List.replicate_zero, List.append_nil]; exact h⟩ (FU_lt (by omega))
    rintro j s ⟨c, F', rfl, c0, c1, rfl, h'⟩
    dsimp only
    unfold f_X6_putParentheses_L13
    by_cases d1 : a ≤ c
    · simp (disch := omega) only [I_add, I_sub, I_mul, I_neg, I_lt, I_le, I_eq, if_pos d1]
      rw [show c = a by omega] at h'
      exact Ok.pure (Or.inr ⟨_, rfl, F', rfl, h'⟩)
    · simp (disch := omega) only [L0, L1, L2, L3, L4, L5, L6, L7, L8, L9, L10, L11, L12, L13, L14, L15, L16, L17, L18, L19, L20, L21, L22, L23, L24, L25, L26, L27, L31, L32, L33, L36, L40, L41, L42, L47, L48, L57, L58, L59, L60, L61, L62, L65, L97, L101, L102, L103, L120, L126, L127, L144, L245, L1023, L1715, I_add, I_sub, I_mul, I_neg, I_lt, I_le, I_eq, if_neg d1, o6_cO]
      refine Ok.bind (Y_put hl h' k0 k1 (by rw [List.length_append, List.length_replicate]; omega)) ?_
      rintro m' ⟨F2, rfl, h2⟩
      refine Ok.pure (Or.inl ⟨_, (a - (c + 1)).toNat, rfl, ⟨c + 1, F2, rfl, by omega, by omega, rfl, ?_⟩, by omega⟩)
      rw [show (c + 1 - b).toNat = (c - b).toNat + 1 by omega, List.replicate_succ', ← List.append_assoc]
      exact h2
end YW
