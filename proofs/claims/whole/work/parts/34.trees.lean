/-! ===== TREES as rows of levels ===== -/
def dnS (p : Int → Bool) : Nat → Int
  | 0 => -1
  | k + 1 => if p k then (k : Int) else dnS p k
/-- the parent: the nearest element ahead with a lower level; -1 if there is none -/
def prF (lv : Int → Int) (e : Int) : Int := dnS (fun k => decide (lv k < lv e)) e.toNat
def upS (p : Int → Bool) (lo : Int) : Nat → Int
  | 0 => lo
  | s + 1 => if p lo then lo else upS p (lo + 1) s
/-- the end: the first element behind e that isn't below it, or n -/
def enF (n : Int) (lv : Int → Int) (e : Int) : Int := upS (fun k => decide (lv k ≤ lv e)) (e + 1) (n - (e + 1)).toNat
theorem dnS_spec (p : Int → Bool) : ∀ k : Nat, -1 ≤ dnS p k ∧ dnS p k < k ∧ (0 ≤ dnS p k → p (dnS p k) = true) ∧ ∀ j : Int, dnS p k < j → j < k → 0 ≤ j → p j = false := by
  intro k
  induction k with
  | zero => exact ⟨by simp [dnS], by simp [dnS], fun h => by simp [dnS] at h, fun j h1 h2 h3 => by simp [dnS] at h1; omega⟩
  | succ k ih =>
    obtain ⟨h1, h2, h3, h4⟩ := ih
    unfold dnS
    by_cases hp : p k = true
    · rw [if_pos hp]
      exact ⟨by omega, by omega, fun _ => hp, fun j a b _ => by omega⟩
    · rw [if_neg hp]
      refine ⟨h1, by omega, h3, fun j a b c => ?_⟩
      by_cases hj : j = k
      · subst hj; exact Bool.eq_false_iff.mpr hp
      · exact h4 j a (by omega) c
theorem prF_spec (lv : Int → Int) {e : Int} (he : 0 ≤ e) : -1 ≤ prF lv e ∧ prF lv e < e ∧ (0 ≤ prF lv e → lv (prF lv e) < lv e) ∧ ∀ j, prF lv e < j → j < e → 0 ≤ j → lv e ≤ lv j := by
  obtain ⟨h1, h2, h3, h4⟩ := dnS_spec (fun k => decide (lv k < lv e)) e.toNat
  refine ⟨h1, by unfold prF; omega, fun h => of_decide_eq_true (h3 h), fun j a b c => ?_⟩
  have := of_decide_eq_false (h4 j a (by omega) c)
  omega
theorem prF_uniq {lv : Int → Int} {e p : Int} (he : 0 ≤ e) (h1 : -1 ≤ p) (h2 : p < e) (h3 : 0 ≤ p → lv p < lv e) (h4 : ∀ j, p < j → j < e → 0 ≤ j → lv e ≤ lv j) : prF lv e = p := by
  obtain ⟨g1, g2, g3, g4⟩ := prF_spec lv he
  rcases Int.lt_trichotomy (prF lv e) p with h | h | h
  · have a := g4 p h h2 (by omega)
    have b := h3 (by omega)
    omega
  · exact h
  · have a := h4 _ h g2 (by omega)
    have b := g3 (by omega)
    omega
theorem upS_spec (p : Int → Bool) : ∀ (s : Nat) (lo : Int), lo ≤ upS p lo s ∧ upS p lo s ≤ lo + s ∧ (upS p lo s < lo + s → p (upS p lo s) = true) ∧ ∀ j : Int, lo ≤ j → j < upS p lo s → p j = false := by
  intro s
  induction s with
  | zero => intro lo; exact ⟨by simp [upS], by simp [upS], fun h => by simp [upS] at h, fun j h1 h2 => by simp [upS] at h2; omega⟩
  | succ s ih =>
    intro lo
    obtain ⟨h1, h2, h3, h4⟩ := ih (lo + 1)
    unfold upS
    by_cases hp : p lo = true
    · rw [if_pos hp]
      exact ⟨by omega, by omega, fun _ => hp, fun j a b => by omega⟩
    · rw [if_neg hp]
      refine ⟨by omega, by omega, fun h => h3 (by omega), fun j a b => ?_⟩
      by_cases hj : j = lo
      · subst hj; exact Bool.eq_false_iff.mpr hp
      · exact h4 j (by omega) b
theorem enF_spec {n : Int} (lv : Int → Int) {e : Int} (he : e < n) : e < enF n lv e ∧ enF n lv e ≤ n ∧ (enF n lv e < n → lv (enF n lv e) ≤ lv e) ∧ ∀ j, e < j → j < enF n lv e → lv e < lv j := by
  obtain ⟨h1, h2, h3, h4⟩ := upS_spec (fun k => decide (lv k ≤ lv e)) (n - (e + 1)).toNat (e + 1)
  refine ⟨by unfold enF; omega, by unfold enF; omega, fun h => of_decide_eq_true (h3 (by unfold enF at h; omega)), fun j a b => ?_⟩
  have := of_decide_eq_false (h4 j (by omega) b)
  omega
theorem enF_uniq {n : Int} {lv : Int → Int} {e r : Int} (he : e < n) (h1 : e < r) (h2 : r ≤ n) (h3 : r < n → lv r ≤ lv e) (h4 : ∀ j, e < j → j < r → lv e < lv j) : enF n lv e = r := by
  obtain ⟨g1, g2, g3, g4⟩ := enF_spec lv he
  rcases Int.lt_trichotomy (enF n lv e) r with h | h | h
  · have a := h4 _ g1 h
    have b := g3 (by omega)
    omega
  · exact h
  · have a := g4 r h1 h
    have b := h3 (by omega)
    omega
theorem prF_congr {lv lv' : Int → Int} {e : Int} (he : 0 ≤ e) (h : ∀ j, 0 ≤ j → j ≤ e → lv j = lv' j) : prF lv e = prF lv' e := by
  obtain ⟨g1, g2, g3, g4⟩ := prF_spec lv' he
  refine prF_uniq he g1 g2 (fun q => ?_) (fun j a b c => ?_)
  · rw [h _ q (by omega), h e he (Int.le_refl _)]; exact g3 q
  · rw [h j c (by omega), h e he (Int.le_refl _)]; exact g4 j a b c
theorem enF_congr {n : Int} {lv lv' : Int → Int} {e : Int} (he0 : 0 ≤ e) (he : e < n) (h : ∀ j, 0 ≤ j → j < n → lv j = lv' j) : enF n lv e = enF n lv' e := by
  obtain ⟨g1, g2, g3, g4⟩ := enF_spec lv' he
  refine enF_uniq he g1 g2 (fun q => ?_) (fun j a b => ?_)
  · rw [h _ (by omega) q, h e he0 he]; exact g3 q
  · rw [h j (by omega) (by omega), h e he0 he]; exact g4 j a b
/-- levels of a tree of n elements -/
def WL (n : Int) (lv : Int → Int) : Prop := 1 ≤ n ∧ n ≤ 32 ∧ lv 0 = 1 ∧ (∀ k, 0 < k → k < n → 2 ≤ lv k ∧ lv k ≤ lv (k - 1) + 1) ∧ ∀ k, 0 ≤ k → k < n → lv k ≤ 10
theorem WL.ge1 {n : Int} {lv : Int → Int} (h : WL n lv) {k : Int} (h1 : 0 ≤ k) (h2 : k < n) : 1 ≤ lv k ∧ lv k ≤ 10 := by
  refine ⟨?_, h.2.2.2.2 k h1 h2⟩
  by_cases hk : k = 0
  · subst hk; rw [h.2.2.1]; omega
  · have := (h.2.2.2.1 k (by omega) h2).1; omega
theorem pr_ge {n : Int} {lv : Int → Int} (h : WL n lv) {e : Int} (h1 : 0 < e) (h2 : e < n) : 0 ≤ prF lv e := by
  obtain ⟨g1, g2, g3, g4⟩ := prF_spec lv (e := e) (by omega)
  rcases Int.lt_or_le (prF lv e) 0 with q | q
  · have a := g4 0 q h1 (Int.le_refl _)
    have b := (h.2.2.2.1 e h1 h2).1
    have c := h.2.2.1
    omega
  · exact q
theorem pr_0 (lv : Int → Int) : prF lv 0 = -1 := rfl
/-- a parent is one level up -/
theorem pr_lv {n : Int} {lv : Int → Int} (h : WL n lv) {e : Int} (h1 : 0 < e) (h2 : e < n) : lv (prF lv e) = lv e - 1 := by
  obtain ⟨g1, g2, g3, g4⟩ := prF_spec lv (e := e) (by omega)
  have hp := pr_ge h h1 h2
  have a := g3 hp
  by_cases hq : prF lv e + 1 = e
  · have b := (h.2.2.2.1 e h1 h2).2
    rw [show e - 1 = prF lv e by omega] at b
    omega
  · have b := g4 (prF lv e + 1) (by omega) (by omega) (by omega)
    have c := (h.2.2.2.1 (prF lv e + 1) (by omega) (by omega)).2
    rw [show prF lv e + 1 - 1 = prF lv e by omega] at c
    omega
/-- the children of e: one level down, before its end -/
theorem pr_iff {n : Int} {lv : Int → Int} (h : WL n lv) {e f : Int} (he : 0 ≤ e) (he2 : e < n) (hf : 0 ≤ f) (hf2 : f < n) : prF lv f = e ↔ e < f ∧ f < enF n lv e ∧ lv f = lv e + 1 := by
  obtain ⟨r1, r2, r3, r4⟩ := enF_spec lv he2
  constructor
  · intro hp
    obtain ⟨g1, g2, g3, g4⟩ := prF_spec lv hf
    rw [hp] at g1 g2 g3 g4
    have a := g3 he
    have b := pr_lv h (e := f) (by omega) hf2
    rw [hp] at b
    refine ⟨g2, ?_, by omega⟩
    rcases Int.lt_or_le f (enF n lv e) with q | q
    · exact q
    · have c := r3 (by omega)
      by_cases hq : enF n lv e = f
      · rw [hq] at c; omega
      · have d := g4 _ r1 (by omega) (by omega)
        omega
  · rintro ⟨h1, h2, h3⟩
    refine prF_uniq hf (by omega) h1 (fun _ => by omega) (fun j a b c => ?_)
    have := r4 j a (by omega)
    omega
theorem en_le {n : Int} {lv : Int → Int} {e f : Int} (he2 : e < n) (h1 : e < f) (h2 : f < enF n lv e) : enF n lv f ≤ enF n lv e := by
  obtain ⟨r1, r2, r3, r4⟩ := enF_spec lv he2
  obtain ⟨s1, s2, s3, s4⟩ := enF_spec lv (show f < n by omega)
  rcases Int.lt_or_le (enF n lv e) (enF n lv f) with q | q
  · have a := s4 _ h2 q
    have b := r3 (by omega)
    have c := r4 f h1 h2
    omega
  · exact q
/-- behind a child, before the end of e: the next child -/
theorem sib {n : Int} {lv : Int → Int} {e f : Int} (he2 : e < n) (h1 : e < f) (h2 : f < enF n lv e) (h3 : lv f = lv e + 1) (h4 : enF n lv f < enF n lv e) : lv (enF n lv f) = lv e + 1 := by
  obtain ⟨r1, r2, r3, r4⟩ := enF_spec lv he2
  obtain ⟨s1, s2, s3, s4⟩ := enF_spec lv (show f < n by omega)
  have a := r4 (enF n lv f) (by omega) h4
  have b := s3 (by omega)
  omega
theorem first_child {n : Int} {lv : Int → Int} (h : WL n lv) {e : Int} (he : 0 ≤ e) (he2 : e < n) (h1 : e + 1 < enF n lv e) : lv (e + 1) = lv e + 1 := by
  obtain ⟨r1, r2, r3, r4⟩ := enF_spec lv he2
  have a := r4 (e + 1) (by omega) h1
  have b := (h.2.2.2.1 (e + 1) (by omega) (by omega)).2
  rw [show e + 1 - 1 = e by omega] at b
  omega
/-- an element with something below it has a child that ends where it ends -/
theorem last_child {n : Int} {lv : Int → Int} (h : WL n lv) {e : Int} (he : 0 ≤ e) (he2 : e < n) (h1 : e + 1 < enF n lv e) : ∃ f, e < f ∧ f < enF n lv e ∧ lv f = lv e + 1 ∧ enF n lv f = enF n lv e := by
  obtain ⟨r1, r2, r3, r4⟩ := enF_spec lv he2
  have key : ∀ x, e + 1 ≤ x → x < enF n lv e → ∃ f, e < f ∧ f ≤ x ∧ lv f = lv e + 1 ∧ ∀ j, f < j → j ≤ x → lv f < lv j := by
    refine Sm_ind ?_ ?_
    · intro _
      exact ⟨e + 1, by omega, by omega, first_child h he he2 h1, fun j a b => by omega⟩
    · intro x hx ih hx2
      obtain ⟨f, a, b, c, d⟩ := ih (by omega)
      have hl := r4 (x + 1) (by omega) hx2
      by_cases hq : lv (x + 1) = lv e + 1
      · exact ⟨x + 1, by omega, by omega, hq, fun j p q => by omega⟩
      · refine ⟨f, a, by omega, c, fun j p q => ?_⟩
        by_cases hj : j = x + 1
        · subst hj; omega
        · exact d j p (by omega)
  obtain ⟨f, a, b, c, d⟩ := key (enF n lv e - 1) (by omega) (by omega)
  refine ⟨f, a, by omega, c, ?_⟩
  refine enF_uniq (by omega) (by omega) r2 (fun q => ?_) (fun j p q => d j p (by omega))
  have := r3 q
  omega
