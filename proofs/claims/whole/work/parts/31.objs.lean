/-! ===== OBJECTS: cells laid over a memory ===== -/
def ov (m : Mm) (a : Nat) (c : Nat → Option mE) : Mm := m.mapIdx (fun k e => if a ≤ k then (c (k - a)).getD e else e)
theorem ov_len (m : Mm) (a : Nat) (c : Nat → Option mE) : (ov m a c).length = m.length := by simp [ov]
theorem ov_in {m : Mm} {a off : Nat} {c : Nat → Option mE} {e : mE} (h : c off = some e) (hl : a + off < m.length) : (ov m a c)[a + off]? = some e := by
  simp [ov, List.getElem?_eq_getElem hl, h]
theorem ov_out {m : Mm} {a k : Nat} {c : Nat → Option mE} (h : k < a ∨ c (k - a) = none) : (ov m a c)[k]? = m[k]? := by
  simp only [ov, List.getElem?_mapIdx]
  rcases h with h | h
  · simp [show ¬ a ≤ k by omega]
  · simp [h]
theorem ov_set (m : Mm) (a off : Nat) (c : Nat → Option mE) (e : mE) : (ov m a c).set (a + off) e = ov m a (up1 c off (some e)) := by
  apply List.ext_getElem?
  intro i
  simp only [ov, List.getElem?_set, List.getElem?_mapIdx, List.length_mapIdx]
  by_cases h : a + off = i
  · subst h
    by_cases h2 : a + off < m.length
    · simp [h2, up1]
    · simp [h2]
  · rw [if_neg h]
    refine congrArg (fun g => Option.map g m[i]?) (funext fun e' => ?_)
    by_cases h3 : a ≤ i
    · rw [if_pos h3, if_pos h3, up1, if_neg (by omega)]
    · rw [if_neg h3, if_neg h3]
/-- the memory holds these cells from a on -/
def At (m : Mm) (a : Nat) (c : Nat → Option mE) : Prop := ∀ off e, c off = some e → m[a + off]? = some e
theorem At.ov {m : Mm} {a : Nat} {c : Nat → Option mE} (h : At m a c) : ov m a c = m := by
  apply List.ext_getElem?
  intro i
  by_cases h1 : a ≤ i
  · cases hc : c (i - a) with
    | none => exact ov_out (Or.inr hc)
    | some e =>
      have h2 := h _ _ hc
      rw [show a + (i - a) = i by omega] at h2
      have hl : i < m.length := (List.getElem?_eq_some_iff.mp h2).1
      have h3 := ov_in (m := m) (a := a) hc (by omega)
      rw [show a + (i - a) = i by omega] at h3
      rw [h3, h2]
  · exact ov_out (Or.inl (by omega))
theorem At.over {m : Mm} {a N : Nat} {c : Nat → Option mE} (hN : ∀ off e, c off = some e → off ≤ N) (hl : a + N < m.length) : At (_root_.Jvm.Pilot.@@N@@.ov m a c) a c := fun off e h => ov_in h (by have := hN off e h; omega)
/-- other cells stay -/
theorem At.keep {m : Mm} {a b N K : Nat} {c d : Nat → Option mE} (h : At m b d) (hN : ∀ off, c off ≠ none → off ≤ N) (hK : ∀ off, d off ≠ none → off ≤ K) (hd : a + N < b ∨ b + K < a) : At (_root_.Jvm.Pilot.@@N@@.ov m a c) b d := by
  intro off e he
  rw [ov_out, h off e he]
  have h1 := hK off (by rw [he]; exact fun q => by cases q)
  rcases hd with q | q
  · right
    cases hc : c (b + off - a) with
    | none => rfl
    | some x => exact absurd (hN _ (by rw [hc]; exact fun q => by cases q)) (by omega)
  · left; omega
theorem At.same {m : Mm} {a b : Nat} {c d : Nat → Option mE} (h : At (_root_.Jvm.Pilot.@@N@@.ov m a c) b d) : At (_root_.Jvm.Pilot.@@N@@.ov m a c) b d := h
theorem ov_twice {m : Mm} {a : Nat} {c d : Nat → Option mE} (h : ∀ k, c k ≠ none → d k ≠ none) : ov (ov m a c) a d = ov m a d := by
  apply List.ext_getElem?
  intro i
  simp only [ov, List.getElem?_mapIdx, Option.map_map]
  refine congrArg (fun g => Option.map g m[i]?) (funext fun e => ?_)
  simp only [Function.comp]
  by_cases h1 : a ≤ i
  · simp only [if_pos h1]
    cases hd : d (i - a) with
    | some x => rfl
    | none =>
      cases hc : c (i - a) with
      | none => rfl
      | some y => exact absurd hd (h _ (by rw [hc]; exact fun q => by cases q))
  · simp only [if_neg h1]
def upN {α : Type} (f : Nat → α) (k : Nat) (v : α) : Nat → α := fun j => if j = k then v else f j
theorem upN_at {α : Type} {f : Nat → α} {k : Nat} {v : α} : upN f k v k = v := if_pos rfl
theorem upN_ne {α : Type} {f : Nat → α} {k j : Nat} {v : α} (h : j ≠ k) : upN f k v j = f j := if_neg h
/-! operations at a cell -/
theorem gI_c {m : Mm} {a c k : Nat} {fs : List Value} {v : Int32} (h : m[a]? = some (eO c fs)) (hv : fs[k]? = some (.int v)) : gI m a c k = some v := by simp [gI, gO, h, hv]
theorem gR_c {m : Mm} {a c k v : Nat} {fs : List Value} (h : m[a]? = some (eO c fs)) (hv : fs[k]? = some (.ref v)) : gR m a c k = some v := by simp [gR, gO, h, hv]
theorem gO_c {m : Mm} {a c : Nat} {fs : List Value} (h : m[a]? = some (eO c fs)) : gO m a c = some fs := by simp [gO, h]
theorem cO_c {α : Type} {m : Mm} {a c : Nat} {fs : List Value} {x : Option α} (h : m[a]? = some (eO c fs)) : cO m a c x = x := by simp [cO, gO, h]
theorem pV_c {m : Mm} {a c k : Nat} {fs : List Value} {v : Value} (h : m[a]? = some (eO c fs)) (hk : k < fs.length) : pV m a c k v = some (m.set a (eO c (fs.set k v))) := by simp [pV, gO, h, hk]
theorem I_in {i : Int} {n : Nat} (h0 : 0 ≤ i) (h1 : i < n) (h2 : i < 2147483648) : ¬ (I i < 0 ∨ n ≤ (I i).toNatClampNeg) := by
  rw [I_clamp h0 h2]
  intro h
  rcases h with h | h
  · rw [show (0 : Int32) = I 0 from rfl, I_lt (by omega) h2 (by omega) (by omega)] at h; omega
  · omega
theorem lI_c {m : Mm} {a n : Nat} {A : Int → Int} {i : Int} (h : m[a]? = some (eI n (cv A))) (h0 : 0 ≤ i) (h1 : i < n) (h2 : i < 2147483648) : lI m a (I i) = some (I (A i)) := by
  simp only [lI, h]
  rw [if_neg (I_in h0 h1 h2), I_clamp h0 h2, cv_at h0]
theorem sI_c {m : Mm} {a n : Nat} {A : Int → Int} {i v : Int} (h : m[a]? = some (eI n (cv A))) (h0 : 0 ≤ i) (h1 : i < n) (h2 : i < 2147483648) : sI m a (I i) (I v) = some (m.set a (eI n (cv (upZ A i v)))) := by
  simp only [sI, h]
  rw [if_neg (I_in h0 h1 h2), I_clamp h0 h2, cv_up h0]
theorem lJ_c {m : Mm} {a n : Nat} {A : Int → Int} {i : Int} (h : m[a]? = some (eJ n (cw A))) (h0 : 0 ≤ i) (h1 : i < n) (h2 : i < 2147483648) : lJ m a (I i) = some (J (A i)) := by
  simp only [lJ, h]
  rw [if_neg (I_in h0 h1 h2), I_clamp h0 h2, cw_at h0]
theorem sJ_c {m : Mm} {a n : Nat} {A : Int → Int} {i v : Int} (h : m[a]? = some (eJ n (cw A))) (h0 : 0 ≤ i) (h1 : i < n) (h2 : i < 2147483648) : sJ m a (I i) (J v) = some (m.set a (eJ n (cw (upZ A i v)))) := by
  simp only [sJ, h]
  rw [if_neg (I_in h0 h1 h2), I_clamp h0 h2, cw_up h0]
theorem lR_c {m : Mm} {a k n v : Nat} {f : Nat → Option Nat} {i : Int} (h : m[a]? = some (eR k n f)) (h0 : 0 ≤ i) (h1 : i < n) (h2 : i < 2147483648) (hv : f i.toNat = some v) : lR m a k (I i) = some v := by
  simp only [lR, h, if_true]
  rw [if_neg (I_in h0 h1 h2), I_clamp h0 h2, hv]
-- TwigMatches$Mapping: 0 targets @1
def o0 (a : Nat) (F : Nat → Int) (A : Nat → Int → Int) : Nat → Option mE := fun off => match off with
  | 0 => some (eO 0 [.ref (a + 1)])
  | 1 => some (eI 6 (cv (A 1)))
  | _ => none
theorem o0_N {a : Nat} {F : Nat → Int} {A : Nat → Int → Int} (off : Nat) (h : o0 a F A off ≠ none) : off ≤ 1 := by
  match off, h with
  | 0, _ => exact Nat.le_of_ble_eq_true rfl
  | 1, _ => exact Nat.le_of_ble_eq_true rfl
  | k + 2, h => exact absurd rfl h
theorem o0_c0 {a : Nat} {F : Nat → Int} {A : Nat → Int → Int} {m : Mm} (hl : a + 1 < m.length) : (ov m a (o0 a F A))[a]? = some (eO 0 [.ref (a + 1)]) := ov_in (off := 0) (c := o0 a F A) rfl (by omega)
theorem o0_cO {α : Type} {x : Option α} {m : Mm} {a : Nat} {F : Nat → Int} {A : Nat → Int → Int} (hl : a + 1 < m.length) : cO (ov m a (o0 a F A)) a 0 x = x := cO_c (o0_c0 hl)
theorem a0_c0 {m : Mm} {a : Nat} {F : Nat → Int} {A : Nat → Int → Int} (h : At m a (o0 a F A)) : m[a]? = some (eO 0 [.ref (a + 1)]) := h 0 _ rfl
theorem a0_cO {α : Type} {x : Option α} {m : Mm} {a : Nat} {F : Nat → Int} {A : Nat → Int → Int} (h : At m a (o0 a F A)) : cO m a 0 x = x := cO_c (a0_c0 h)
theorem a0_g0 {m : Mm} {a : Nat} {F : Nat → Int} {A : Nat → Int → Int} (h : At m a (o0 a F A)) : gR m a 0 0 = some (a + 1) := gR_c (a0_c0 h) rfl
theorem a0_l1 {m : Mm} {a : Nat} {F : Nat → Int} {A : Nat → Int → Int} (h : At m a (o0 a F A)) {i : Int} (h0 : 0 ≤ i) (h1 : i < 6) : lI m (a + 1) (I i) = some (I (A 1 i)) := lI_c (h 1 _ rfl) h0 (by omega) (by omega)
theorem o0_At {m : Mm} {a : Nat} {F : Nat → Int} {A : Nat → Int → Int} (hl : a + 1 < m.length) : At (ov m a (o0 a F A)) a (o0 a F A) := At.over (N := 1) (fun off e h => o0_N off (by rw [h]; exact fun q => by cases q)) hl
theorem a0_len {m : Mm} {a : Nat} {F : Nat → Int} {A : Nat → Int → Int} (h : At m a (o0 a F A)) : a + 1 < m.length := (List.getElem?_eq_some_iff.mp (h 1 _ rfl)).1
theorem o0_g0 {m : Mm} {a : Nat} {F : Nat → Int} {A : Nat → Int → Int} (hl : a + 1 < m.length) : gR (ov m a (o0 a F A)) a 0 0 = some (a + 1) := gR_c (o0_c0 hl) rfl
theorem o0_w1 {a : Nat} {F : Nat → Int} {A : Nat → Int → Int} {x : Int → Int} : up1 (o0 a F A) 1 (some (eI 6 (cv x))) = o0 a F (upN A 1 x) := by
  funext off
  match off with
  | 0 => rfl
  | 1 => rfl
  | k + 2 => rfl
theorem o0_l1 {m : Mm} {a : Nat} {F : Nat → Int} {A : Nat → Int → Int} (hl : a + 1 < m.length) {i : Int} (h0 : 0 ≤ i) (h1 : i < 6) : lI (ov m a (o0 a F A)) (a + 1) (I i) = some (I (A 1 i)) := lI_c (ov_in (m := m) (a := a) (c := o0 a F A) (off := 1) rfl (by omega)) h0 (by omega) (by omega)
theorem o0_s1 {m : Mm} {a : Nat} {F : Nat → Int} {A : Nat → Int → Int} (hl : a + 1 < m.length) {i v : Int} (h0 : 0 ≤ i) (h1 : i < 6) : sI (ov m a (o0 a F A)) (a + 1) (I i) (I v) = some (ov m a (o0 a F (upN A 1 (upZ (A 1) i v)))) := by
  rw [← o0_w1, ← ov_set]
  exact sI_c (ov_in (m := m) (a := a) (c := o0 a F A) (off := 1) rfl (by omega)) h0 (by omega) (by omega)
-- TwigMatches$Matcher: 0 tree, 1 twig, 2 allowed @1, 3 whole @2, 4 tail @9, 5 head @16, 6 paths @23, 7 chosen @30, 8 outer @31
def o1 (a : Nat) (F : Nat → Int) (A : Nat → Int → Int) : Nat → Option mE := fun off => match off with
  | 0 => some (eO 1 [.ref (F 0).toNat, .ref (F 1).toNat, .ref (a + 1), .ref (a + 2), .ref (a + 9), .ref (a + 16), .ref (a + 23), .ref (a + 30), .ref (a + 31)])
  | 1 => some (eI 6 (cv (A 1)))
  | 2 => some (eR 4 6 (fun i => if i < 6 then some (a + 2 + 1 + i) else none))
  | 3 => some (eJ 32 (cw (A 3)))
  | 4 => some (eJ 32 (cw (A 4)))
  | 5 => some (eJ 32 (cw (A 5)))
  | 6 => some (eJ 32 (cw (A 6)))
  | 7 => some (eJ 32 (cw (A 7)))
  | 8 => some (eJ 32 (cw (A 8)))
  | 9 => some (eR 4 6 (fun i => if i < 6 then some (a + 9 + 1 + i) else none))
  | 10 => some (eJ 33 (cw (A 10)))
  | 11 => some (eJ 33 (cw (A 11)))
  | 12 => some (eJ 33 (cw (A 12)))
  | 13 => some (eJ 33 (cw (A 13)))
  | 14 => some (eJ 33 (cw (A 14)))
  | 15 => some (eJ 33 (cw (A 15)))
  | 16 => some (eR 4 6 (fun i => if i < 6 then some (a + 16 + 1 + i) else none))
  | 17 => some (eJ 33 (cw (A 17)))
  | 18 => some (eJ 33 (cw (A 18)))
  | 19 => some (eJ 33 (cw (A 19)))
  | 20 => some (eJ 33 (cw (A 20)))
  | 21 => some (eJ 33 (cw (A 21)))
  | 22 => some (eJ 33 (cw (A 22)))
  | 23 => some (eR 4 6 (fun i => if i < 6 then some (a + 23 + 1 + i) else none))
  | 24 => some (eJ 32 (cw (A 24)))
  | 25 => some (eJ 32 (cw (A 25)))
  | 26 => some (eJ 32 (cw (A 26)))
  | 27 => some (eJ 32 (cw (A 27)))
  | 28 => some (eJ 32 (cw (A 28)))
  | 29 => some (eJ 32 (cw (A 29)))
  | 30 => some (eI 6 (cv (A 30)))
  | 31 => some (eJ 6 (cw (A 31)))
  | _ => none
theorem o1_N {a : Nat} {F : Nat → Int} {A : Nat → Int → Int} (off : Nat) (h : o1 a F A off ≠ none) : off ≤ 31 := by
  match off, h with
  | 0, _ => exact Nat.le_of_ble_eq_true rfl
  | 1, _ => exact Nat.le_of_ble_eq_true rfl
  | 2, _ => exact Nat.le_of_ble_eq_true rfl
  | 3, _ => exact Nat.le_of_ble_eq_true rfl
  | 4, _ => exact Nat.le_of_ble_eq_true rfl
  | 5, _ => exact Nat.le_of_ble_eq_true rfl
  | 6, _ => exact Nat.le_of_ble_eq_true rfl
  | 7, _ => exact Nat.le_of_ble_eq_true rfl
  | 8, _ => exact Nat.le_of_ble_eq_true rfl
  | 9, _ => exact Nat.le_of_ble_eq_true rfl
  | 10, _ => exact Nat.le_of_ble_eq_true rfl
  | 11, _ => exact Nat.le_of_ble_eq_true rfl
  | 12, _ => exact Nat.le_of_ble_eq_true rfl
  | 13, _ => exact Nat.le_of_ble_eq_true rfl
  | 14, _ => exact Nat.le_of_ble_eq_true rfl
  | 15, _ => exact Nat.le_of_ble_eq_true rfl
  | 16, _ => exact Nat.le_of_ble_eq_true rfl
  | 17, _ => exact Nat.le_of_ble_eq_true rfl
  | 18, _ => exact Nat.le_of_ble_eq_true rfl
  | 19, _ => exact Nat.le_of_ble_eq_true rfl
  | 20, _ => exact Nat.le_of_ble_eq_true rfl
  | 21, _ => exact Nat.le_of_ble_eq_true rfl
  | 22, _ => exact Nat.le_of_ble_eq_true rfl
  | 23, _ => exact Nat.le_of_ble_eq_true rfl
  | 24, _ => exact Nat.le_of_ble_eq_true rfl
  | 25, _ => exact Nat.le_of_ble_eq_true rfl
  | 26, _ => exact Nat.le_of_ble_eq_true rfl
  | 27, _ => exact Nat.le_of_ble_eq_true rfl
  | 28, _ => exact Nat.le_of_ble_eq_true rfl
  | 29, _ => exact Nat.le_of_ble_eq_true rfl
  | 30, _ => exact Nat.le_of_ble_eq_true rfl
  | 31, _ => exact Nat.le_of_ble_eq_true rfl
  | k + 32, h => exact absurd rfl h
theorem o1_c0 {a : Nat} {F : Nat → Int} {A : Nat → Int → Int} {m : Mm} (hl : a + 31 < m.length) : (ov m a (o1 a F A))[a]? = some (eO 1 [.ref (F 0).toNat, .ref (F 1).toNat, .ref (a + 1), .ref (a + 2), .ref (a + 9), .ref (a + 16), .ref (a + 23), .ref (a + 30), .ref (a + 31)]) := ov_in (off := 0) (c := o1 a F A) rfl (by omega)
theorem o1_cO {α : Type} {x : Option α} {m : Mm} {a : Nat} {F : Nat → Int} {A : Nat → Int → Int} (hl : a + 31 < m.length) : cO (ov m a (o1 a F A)) a 1 x = x := cO_c (o1_c0 hl)
theorem a1_c0 {m : Mm} {a : Nat} {F : Nat → Int} {A : Nat → Int → Int} (h : At m a (o1 a F A)) : m[a]? = some (eO 1 [.ref (F 0).toNat, .ref (F 1).toNat, .ref (a + 1), .ref (a + 2), .ref (a + 9), .ref (a + 16), .ref (a + 23), .ref (a + 30), .ref (a + 31)]) := h 0 _ rfl
theorem a1_cO {α : Type} {x : Option α} {m : Mm} {a : Nat} {F : Nat → Int} {A : Nat → Int → Int} (h : At m a (o1 a F A)) : cO m a 1 x = x := cO_c (a1_c0 h)
theorem a1_g0 {m : Mm} {a : Nat} {F : Nat → Int} {A : Nat → Int → Int} (h : At m a (o1 a F A)) : gR m a 1 0 = some (F 0).toNat := gR_c (a1_c0 h) rfl
theorem a1_g1 {m : Mm} {a : Nat} {F : Nat → Int} {A : Nat → Int → Int} (h : At m a (o1 a F A)) : gR m a 1 1 = some (F 1).toNat := gR_c (a1_c0 h) rfl
theorem a1_g2 {m : Mm} {a : Nat} {F : Nat → Int} {A : Nat → Int → Int} (h : At m a (o1 a F A)) : gR m a 1 2 = some (a + 1) := gR_c (a1_c0 h) rfl
theorem a1_g3 {m : Mm} {a : Nat} {F : Nat → Int} {A : Nat → Int → Int} (h : At m a (o1 a F A)) : gR m a 1 3 = some (a + 2) := gR_c (a1_c0 h) rfl
theorem a1_g4 {m : Mm} {a : Nat} {F : Nat → Int} {A : Nat → Int → Int} (h : At m a (o1 a F A)) : gR m a 1 4 = some (a + 9) := gR_c (a1_c0 h) rfl
theorem a1_g5 {m : Mm} {a : Nat} {F : Nat → Int} {A : Nat → Int → Int} (h : At m a (o1 a F A)) : gR m a 1 5 = some (a + 16) := gR_c (a1_c0 h) rfl
theorem a1_g6 {m : Mm} {a : Nat} {F : Nat → Int} {A : Nat → Int → Int} (h : At m a (o1 a F A)) : gR m a 1 6 = some (a + 23) := gR_c (a1_c0 h) rfl
theorem a1_g7 {m : Mm} {a : Nat} {F : Nat → Int} {A : Nat → Int → Int} (h : At m a (o1 a F A)) : gR m a 1 7 = some (a + 30) := gR_c (a1_c0 h) rfl
theorem a1_g8 {m : Mm} {a : Nat} {F : Nat → Int} {A : Nat → Int → Int} (h : At m a (o1 a F A)) : gR m a 1 8 = some (a + 31) := gR_c (a1_c0 h) rfl
theorem a1_l1 {m : Mm} {a : Nat} {F : Nat → Int} {A : Nat → Int → Int} (h : At m a (o1 a F A)) {i : Int} (h0 : 0 ≤ i) (h1 : i < 6) : lI m (a + 1) (I i) = some (I (A 1 i)) := lI_c (h 1 _ rfl) h0 (by omega) (by omega)
theorem a1_r2 {m : Mm} {a : Nat} {F : Nat → Int} {A : Nat → Int → Int} (h : At m a (o1 a F A)) {i : Int} (h0 : 0 ≤ i) (h1 : i < 6) : lR m (a + 2) 4 (I i) = some (a + 2 + 1 + i.toNat) := lR_c (h 2 _ rfl) h0 (by omega) (by omega) (if_pos (by omega))
theorem a1_l3 {m : Mm} {a : Nat} {F : Nat → Int} {A : Nat → Int → Int} (h : At m a (o1 a F A)) {i : Int} (h0 : 0 ≤ i) (h1 : i < 32) : lJ m (a + 3) (I i) = some (J (A 3 i)) := lJ_c (h 3 _ rfl) h0 (by omega) (by omega)
theorem a1_l4 {m : Mm} {a : Nat} {F : Nat → Int} {A : Nat → Int → Int} (h : At m a (o1 a F A)) {i : Int} (h0 : 0 ≤ i) (h1 : i < 32) : lJ m (a + 4) (I i) = some (J (A 4 i)) := lJ_c (h 4 _ rfl) h0 (by omega) (by omega)
theorem a1_l5 {m : Mm} {a : Nat} {F : Nat → Int} {A : Nat → Int → Int} (h : At m a (o1 a F A)) {i : Int} (h0 : 0 ≤ i) (h1 : i < 32) : lJ m (a + 5) (I i) = some (J (A 5 i)) := lJ_c (h 5 _ rfl) h0 (by omega) (by omega)
theorem a1_l6 {m : Mm} {a : Nat} {F : Nat → Int} {A : Nat → Int → Int} (h : At m a (o1 a F A)) {i : Int} (h0 : 0 ≤ i) (h1 : i < 32) : lJ m (a + 6) (I i) = some (J (A 6 i)) := lJ_c (h 6 _ rfl) h0 (by omega) (by omega)
theorem a1_l7 {m : Mm} {a : Nat} {F : Nat → Int} {A : Nat → Int → Int} (h : At m a (o1 a F A)) {i : Int} (h0 : 0 ≤ i) (h1 : i < 32) : lJ m (a + 7) (I i) = some (J (A 7 i)) := lJ_c (h 7 _ rfl) h0 (by omega) (by omega)
theorem a1_l8 {m : Mm} {a : Nat} {F : Nat → Int} {A : Nat → Int → Int} (h : At m a (o1 a F A)) {i : Int} (h0 : 0 ≤ i) (h1 : i < 32) : lJ m (a + 8) (I i) = some (J (A 8 i)) := lJ_c (h 8 _ rfl) h0 (by omega) (by omega)
theorem a1_r9 {m : Mm} {a : Nat} {F : Nat → Int} {A : Nat → Int → Int} (h : At m a (o1 a F A)) {i : Int} (h0 : 0 ≤ i) (h1 : i < 6) : lR m (a + 9) 4 (I i) = some (a + 9 + 1 + i.toNat) := lR_c (h 9 _ rfl) h0 (by omega) (by omega) (if_pos (by omega))
theorem a1_l10 {m : Mm} {a : Nat} {F : Nat → Int} {A : Nat → Int → Int} (h : At m a (o1 a F A)) {i : Int} (h0 : 0 ≤ i) (h1 : i < 33) : lJ m (a + 10) (I i) = some (J (A 10 i)) := lJ_c (h 10 _ rfl) h0 (by omega) (by omega)
theorem a1_l11 {m : Mm} {a : Nat} {F : Nat → Int} {A : Nat → Int → Int} (h : At m a (o1 a F A)) {i : Int} (h0 : 0 ≤ i) (h1 : i < 33) : lJ m (a + 11) (I i) = some (J (A 11 i)) := lJ_c (h 11 _ rfl) h0 (by omega) (by omega)
theorem a1_l12 {m : Mm} {a : Nat} {F : Nat → Int} {A : Nat → Int → Int} (h : At m a (o1 a F A)) {i : Int} (h0 : 0 ≤ i) (h1 : i < 33) : lJ m (a + 12) (I i) = some (J (A 12 i)) := lJ_c (h 12 _ rfl) h0 (by omega) (by omega)
theorem a1_l13 {m : Mm} {a : Nat} {F : Nat → Int} {A : Nat → Int → Int} (h : At m a (o1 a F A)) {i : Int} (h0 : 0 ≤ i) (h1 : i < 33) : lJ m (a + 13) (I i) = some (J (A 13 i)) := lJ_c (h 13 _ rfl) h0 (by omega) (by omega)
theorem a1_l14 {m : Mm} {a : Nat} {F : Nat → Int} {A : Nat → Int → Int} (h : At m a (o1 a F A)) {i : Int} (h0 : 0 ≤ i) (h1 : i < 33) : lJ m (a + 14) (I i) = some (J (A 14 i)) := lJ_c (h 14 _ rfl) h0 (by omega) (by omega)
theorem a1_l15 {m : Mm} {a : Nat} {F : Nat → Int} {A : Nat → Int → Int} (h : At m a (o1 a F A)) {i : Int} (h0 : 0 ≤ i) (h1 : i < 33) : lJ m (a + 15) (I i) = some (J (A 15 i)) := lJ_c (h 15 _ rfl) h0 (by omega) (by omega)
theorem a1_r16 {m : Mm} {a : Nat} {F : Nat → Int} {A : Nat → Int → Int} (h : At m a (o1 a F A)) {i : Int} (h0 : 0 ≤ i) (h1 : i < 6) : lR m (a + 16) 4 (I i) = some (a + 16 + 1 + i.toNat) := lR_c (h 16 _ rfl) h0 (by omega) (by omega) (if_pos (by omega))
theorem a1_l17 {m : Mm} {a : Nat} {F : Nat → Int} {A : Nat → Int → Int} (h : At m a (o1 a F A)) {i : Int} (h0 : 0 ≤ i) (h1 : i < 33) : lJ m (a + 17) (I i) = some (J (A 17 i)) := lJ_c (h 17 _ rfl) h0 (by omega) (by omega)
theorem a1_l18 {m : Mm} {a : Nat} {F : Nat → Int} {A : Nat → Int → Int} (h : At m a (o1 a F A)) {i : Int} (h0 : 0 ≤ i) (h1 : i < 33) : lJ m (a + 18) (I i) = some (J (A 18 i)) := lJ_c (h 18 _ rfl) h0 (by omega) (by omega)
theorem a1_l19 {m : Mm} {a : Nat} {F : Nat → Int} {A : Nat → Int → Int} (h : At m a (o1 a F A)) {i : Int} (h0 : 0 ≤ i) (h1 : i < 33) : lJ m (a + 19) (I i) = some (J (A 19 i)) := lJ_c (h 19 _ rfl) h0 (by omega) (by omega)
theorem a1_l20 {m : Mm} {a : Nat} {F : Nat → Int} {A : Nat → Int → Int} (h : At m a (o1 a F A)) {i : Int} (h0 : 0 ≤ i) (h1 : i < 33) : lJ m (a + 20) (I i) = some (J (A 20 i)) := lJ_c (h 20 _ rfl) h0 (by omega) (by omega)
theorem a1_l21 {m : Mm} {a : Nat} {F : Nat → Int} {A : Nat → Int → Int} (h : At m a (o1 a F A)) {i : Int} (h0 : 0 ≤ i) (h1 : i < 33) : lJ m (a + 21) (I i) = some (J (A 21 i)) := lJ_c (h 21 _ rfl) h0 (by omega) (by omega)
theorem a1_l22 {m : Mm} {a : Nat} {F : Nat → Int} {A : Nat → Int → Int} (h : At m a (o1 a F A)) {i : Int} (h0 : 0 ≤ i) (h1 : i < 33) : lJ m (a + 22) (I i) = some (J (A 22 i)) := lJ_c (h 22 _ rfl) h0 (by omega) (by omega)
theorem a1_r23 {m : Mm} {a : Nat} {F : Nat → Int} {A : Nat → Int → Int} (h : At m a (o1 a F A)) {i : Int} (h0 : 0 ≤ i) (h1 : i < 6) : lR m (a + 23) 4 (I i) = some (a + 23 + 1 + i.toNat) := lR_c (h 23 _ rfl) h0 (by omega) (by omega) (if_pos (by omega))
theorem a1_l24 {m : Mm} {a : Nat} {F : Nat → Int} {A : Nat → Int → Int} (h : At m a (o1 a F A)) {i : Int} (h0 : 0 ≤ i) (h1 : i < 32) : lJ m (a + 24) (I i) = some (J (A 24 i)) := lJ_c (h 24 _ rfl) h0 (by omega) (by omega)
theorem a1_l25 {m : Mm} {a : Nat} {F : Nat → Int} {A : Nat → Int → Int} (h : At m a (o1 a F A)) {i : Int} (h0 : 0 ≤ i) (h1 : i < 32) : lJ m (a + 25) (I i) = some (J (A 25 i)) := lJ_c (h 25 _ rfl) h0 (by omega) (by omega)
theorem a1_l26 {m : Mm} {a : Nat} {F : Nat → Int} {A : Nat → Int → Int} (h : At m a (o1 a F A)) {i : Int} (h0 : 0 ≤ i) (h1 : i < 32) : lJ m (a + 26) (I i) = some (J (A 26 i)) := lJ_c (h 26 _ rfl) h0 (by omega) (by omega)
theorem a1_l27 {m : Mm} {a : Nat} {F : Nat → Int} {A : Nat → Int → Int} (h : At m a (o1 a F A)) {i : Int} (h0 : 0 ≤ i) (h1 : i < 32) : lJ m (a + 27) (I i) = some (J (A 27 i)) := lJ_c (h 27 _ rfl) h0 (by omega) (by omega)
theorem a1_l28 {m : Mm} {a : Nat} {F : Nat → Int} {A : Nat → Int → Int} (h : At m a (o1 a F A)) {i : Int} (h0 : 0 ≤ i) (h1 : i < 32) : lJ m (a + 28) (I i) = some (J (A 28 i)) := lJ_c (h 28 _ rfl) h0 (by omega) (by omega)
theorem a1_l29 {m : Mm} {a : Nat} {F : Nat → Int} {A : Nat → Int → Int} (h : At m a (o1 a F A)) {i : Int} (h0 : 0 ≤ i) (h1 : i < 32) : lJ m (a + 29) (I i) = some (J (A 29 i)) := lJ_c (h 29 _ rfl) h0 (by omega) (by omega)
theorem a1_l30 {m : Mm} {a : Nat} {F : Nat → Int} {A : Nat → Int → Int} (h : At m a (o1 a F A)) {i : Int} (h0 : 0 ≤ i) (h1 : i < 6) : lI m (a + 30) (I i) = some (I (A 30 i)) := lI_c (h 30 _ rfl) h0 (by omega) (by omega)
theorem a1_l31 {m : Mm} {a : Nat} {F : Nat → Int} {A : Nat → Int → Int} (h : At m a (o1 a F A)) {i : Int} (h0 : 0 ≤ i) (h1 : i < 6) : lJ m (a + 31) (I i) = some (J (A 31 i)) := lJ_c (h 31 _ rfl) h0 (by omega) (by omega)
theorem o1_At {m : Mm} {a : Nat} {F : Nat → Int} {A : Nat → Int → Int} (hl : a + 31 < m.length) : At (ov m a (o1 a F A)) a (o1 a F A) := At.over (N := 31) (fun off e h => o1_N off (by rw [h]; exact fun q => by cases q)) hl
theorem a1_len {m : Mm} {a : Nat} {F : Nat → Int} {A : Nat → Int → Int} (h : At m a (o1 a F A)) : a + 31 < m.length := (List.getElem?_eq_some_iff.mp (h 31 _ rfl)).1
theorem o1_g0 {m : Mm} {a : Nat} {F : Nat → Int} {A : Nat → Int → Int} (hl : a + 31 < m.length) : gR (ov m a (o1 a F A)) a 1 0 = some (F 0).toNat := gR_c (o1_c0 hl) rfl
theorem o1_u0 {a : Nat} {F : Nat → Int} {A : Nat → Int → Int} {v : Nat} : up1 (o1 a F A) 0 (some (eO 1 [.ref v, .ref (F 1).toNat, .ref (a + 1), .ref (a + 2), .ref (a + 9), .ref (a + 16), .ref (a + 23), .ref (a + 30), .ref (a + 31)])) = o1 a (upN F 0 v) A := by
  funext off
  match off with
  | 0 => rfl
  | 1 => rfl
  | 2 => rfl
  | 3 => rfl
  | 4 => rfl
  | 5 => rfl
  | 6 => rfl
  | 7 => rfl
  | 8 => rfl
  | 9 => rfl
  | 10 => rfl
  | 11 => rfl
  | 12 => rfl
  | 13 => rfl
  | 14 => rfl
  | 15 => rfl
  | 16 => rfl
  | 17 => rfl
  | 18 => rfl
  | 19 => rfl
  | 20 => rfl
  | 21 => rfl
  | 22 => rfl
  | 23 => rfl
  | 24 => rfl
  | 25 => rfl
  | 26 => rfl
  | 27 => rfl
  | 28 => rfl
  | 29 => rfl
  | 30 => rfl
  | 31 => rfl
  | k + 32 => rfl
theorem o1_p0 {v : Nat} {m : Mm} {a : Nat} {F : Nat → Int} {A : Nat → Int → Int} (hl : a + 31 < m.length) : pR (ov m a (o1 a F A)) a 1 0 v = some (ov m a (o1 a (upN F 0 v) A)) := by
  rw [← o1_u0, ← ov_set]
  exact pV_c (o1_c0 hl) (Nat.le_of_ble_eq_true rfl)
theorem o1_g1 {m : Mm} {a : Nat} {F : Nat → Int} {A : Nat → Int → Int} (hl : a + 31 < m.length) : gR (ov m a (o1 a F A)) a 1 1 = some (F 1).toNat := gR_c (o1_c0 hl) rfl
theorem o1_u1 {a : Nat} {F : Nat → Int} {A : Nat → Int → Int} {v : Nat} : up1 (o1 a F A) 0 (some (eO 1 [.ref (F 0).toNat, .ref v, .ref (a + 1), .ref (a + 2), .ref (a + 9), .ref (a + 16), .ref (a + 23), .ref (a + 30), .ref (a + 31)])) = o1 a (upN F 1 v) A := by
  funext off
  match off with
  | 0 => rfl
  | 1 => rfl
  | 2 => rfl
  | 3 => rfl
  | 4 => rfl
  | 5 => rfl
  | 6 => rfl
  | 7 => rfl
  | 8 => rfl
  | 9 => rfl
  | 10 => rfl
  | 11 => rfl
  | 12 => rfl
  | 13 => rfl
  | 14 => rfl
  | 15 => rfl
  | 16 => rfl
  | 17 => rfl
  | 18 => rfl
  | 19 => rfl
  | 20 => rfl
  | 21 => rfl
  | 22 => rfl
  | 23 => rfl
  | 24 => rfl
  | 25 => rfl
  | 26 => rfl
  | 27 => rfl
  | 28 => rfl
  | 29 => rfl
  | 30 => rfl
  | 31 => rfl
  | k + 32 => rfl
theorem o1_p1 {v : Nat} {m : Mm} {a : Nat} {F : Nat → Int} {A : Nat → Int → Int} (hl : a + 31 < m.length) : pR (ov m a (o1 a F A)) a 1 1 v = some (ov m a (o1 a (upN F 1 v) A)) := by
  rw [← o1_u1, ← ov_set]
  exact pV_c (o1_c0 hl) (Nat.le_of_ble_eq_true rfl)
theorem o1_g2 {m : Mm} {a : Nat} {F : Nat → Int} {A : Nat → Int → Int} (hl : a + 31 < m.length) : gR (ov m a (o1 a F A)) a 1 2 = some (a + 1) := gR_c (o1_c0 hl) rfl
theorem o1_g3 {m : Mm} {a : Nat} {F : Nat → Int} {A : Nat → Int → Int} (hl : a + 31 < m.length) : gR (ov m a (o1 a F A)) a 1 3 = some (a + 2) := gR_c (o1_c0 hl) rfl
theorem o1_g4 {m : Mm} {a : Nat} {F : Nat → Int} {A : Nat → Int → Int} (hl : a + 31 < m.length) : gR (ov m a (o1 a F A)) a 1 4 = some (a + 9) := gR_c (o1_c0 hl) rfl
theorem o1_g5 {m : Mm} {a : Nat} {F : Nat → Int} {A : Nat → Int → Int} (hl : a + 31 < m.length) : gR (ov m a (o1 a F A)) a 1 5 = some (a + 16) := gR_c (o1_c0 hl) rfl
theorem o1_g6 {m : Mm} {a : Nat} {F : Nat → Int} {A : Nat → Int → Int} (hl : a + 31 < m.length) : gR (ov m a (o1 a F A)) a 1 6 = some (a + 23) := gR_c (o1_c0 hl) rfl
theorem o1_g7 {m : Mm} {a : Nat} {F : Nat → Int} {A : Nat → Int → Int} (hl : a + 31 < m.length) : gR (ov m a (o1 a F A)) a 1 7 = some (a + 30) := gR_c (o1_c0 hl) rfl
theorem o1_g8 {m : Mm} {a : Nat} {F : Nat → Int} {A : Nat → Int → Int} (hl : a + 31 < m.length) : gR (ov m a (o1 a F A)) a 1 8 = some (a + 31) := gR_c (o1_c0 hl) rfl
theorem o1_w1 {a : Nat} {F : Nat → Int} {A : Nat → Int → Int} {x : Int → Int} : up1 (o1 a F A) 1 (some (eI 6 (cv x))) = o1 a F (upN A 1 x) := by
  funext off
  match off with
  | 0 => rfl
  | 1 => rfl
  | 2 => rfl
  | 3 => rfl
  | 4 => rfl
  | 5 => rfl
  | 6 => rfl
  | 7 => rfl
  | 8 => rfl
  | 9 => rfl
  | 10 => rfl
  | 11 => rfl
  | 12 => rfl
  | 13 => rfl
  | 14 => rfl
  | 15 => rfl
  | 16 => rfl
  | 17 => rfl
  | 18 => rfl
  | 19 => rfl
  | 20 => rfl
  | 21 => rfl
  | 22 => rfl
  | 23 => rfl
  | 24 => rfl
  | 25 => rfl
  | 26 => rfl
  | 27 => rfl
  | 28 => rfl
  | 29 => rfl
  | 30 => rfl
  | 31 => rfl
  | k + 32 => rfl
theorem o1_l1 {m : Mm} {a : Nat} {F : Nat → Int} {A : Nat → Int → Int} (hl : a + 31 < m.length) {i : Int} (h0 : 0 ≤ i) (h1 : i < 6) : lI (ov m a (o1 a F A)) (a + 1) (I i) = some (I (A 1 i)) := lI_c (ov_in (m := m) (a := a) (c := o1 a F A) (off := 1) rfl (by omega)) h0 (by omega) (by omega)
theorem o1_s1 {m : Mm} {a : Nat} {F : Nat → Int} {A : Nat → Int → Int} (hl : a + 31 < m.length) {i v : Int} (h0 : 0 ≤ i) (h1 : i < 6) : sI (ov m a (o1 a F A)) (a + 1) (I i) (I v) = some (ov m a (o1 a F (upN A 1 (upZ (A 1) i v)))) := by
  rw [← o1_w1, ← ov_set]
  exact sI_c (ov_in (m := m) (a := a) (c := o1 a F A) (off := 1) rfl (by omega)) h0 (by omega) (by omega)
theorem o1_r2 {m : Mm} {a : Nat} {F : Nat → Int} {A : Nat → Int → Int} (hl : a + 31 < m.length) {i : Int} (h0 : 0 ≤ i) (h1 : i < 6) : lR (ov m a (o1 a F A)) (a + 2) 4 (I i) = some (a + 2 + 1 + i.toNat) := lR_c (ov_in (m := m) (a := a) (c := o1 a F A) (off := 2) rfl (by omega)) h0 (by omega) (by omega) (if_pos (by omega))
theorem o1_w3 {a : Nat} {F : Nat → Int} {A : Nat → Int → Int} {x : Int → Int} : up1 (o1 a F A) 3 (some (eJ 32 (cw x))) = o1 a F (upN A 3 x) := by
  funext off
  match off with
  | 0 => rfl
  | 1 => rfl
  | 2 => rfl
  | 3 => rfl
  | 4 => rfl
  | 5 => rfl
  | 6 => rfl
  | 7 => rfl
  | 8 => rfl
  | 9 => rfl
  | 10 => rfl
  | 11 => rfl
  | 12 => rfl
  | 13 => rfl
  | 14 => rfl
  | 15 => rfl
  | 16 => rfl
  | 17 => rfl
  | 18 => rfl
  | 19 => rfl
  | 20 => rfl
  | 21 => rfl
  | 22 => rfl
  | 23 => rfl
  | 24 => rfl
  | 25 => rfl
  | 26 => rfl
  | 27 => rfl
  | 28 => rfl
  | 29 => rfl
  | 30 => rfl
  | 31 => rfl
  | k + 32 => rfl
theorem o1_l3 {m : Mm} {a : Nat} {F : Nat → Int} {A : Nat → Int → Int} (hl : a + 31 < m.length) {i : Int} (h0 : 0 ≤ i) (h1 : i < 32) : lJ (ov m a (o1 a F A)) (a + 3) (I i) = some (J (A 3 i)) := lJ_c (ov_in (m := m) (a := a) (c := o1 a F A) (off := 3) rfl (by omega)) h0 (by omega) (by omega)
theorem o1_s3 {m : Mm} {a : Nat} {F : Nat → Int} {A : Nat → Int → Int} (hl : a + 31 < m.length) {i v : Int} (h0 : 0 ≤ i) (h1 : i < 32) : sJ (ov m a (o1 a F A)) (a + 3) (I i) (J v) = some (ov m a (o1 a F (upN A 3 (upZ (A 3) i v)))) := by
  rw [← o1_w3, ← ov_set]
  exact sJ_c (ov_in (m := m) (a := a) (c := o1 a F A) (off := 3) rfl (by omega)) h0 (by omega) (by omega)
theorem o1_w4 {a : Nat} {F : Nat → Int} {A : Nat → Int → Int} {x : Int → Int} : up1 (o1 a F A) 4 (some (eJ 32 (cw x))) = o1 a F (upN A 4 x) := by
  funext off
  match off with
  | 0 => rfl
  | 1 => rfl
  | 2 => rfl
  | 3 => rfl
  | 4 => rfl
  | 5 => rfl
  | 6 => rfl
  | 7 => rfl
  | 8 => rfl
  | 9 => rfl
  | 10 => rfl
  | 11 => rfl
  | 12 => rfl
  | 13 => rfl
  | 14 => rfl
  | 15 => rfl
  | 16 => rfl
  | 17 => rfl
  | 18 => rfl
  | 19 => rfl
  | 20 => rfl
  | 21 => rfl
  | 22 => rfl
  | 23 => rfl
  | 24 => rfl
  | 25 => rfl
  | 26 => rfl
  | 27 => rfl
  | 28 => rfl
  | 29 => rfl
  | 30 => rfl
  | 31 => rfl
  | k + 32 => rfl
theorem o1_l4 {m : Mm} {a : Nat} {F : Nat → Int} {A : Nat → Int → Int} (hl : a + 31 < m.length) {i : Int} (h0 : 0 ≤ i) (h1 : i < 32) : lJ (ov m a (o1 a F A)) (a + 4) (I i) = some (J (A 4 i)) := lJ_c (ov_in (m := m) (a := a) (c := o1 a F A) (off := 4) rfl (by omega)) h0 (by omega) (by omega)
theorem o1_s4 {m : Mm} {a : Nat} {F : Nat → Int} {A : Nat → Int → Int} (hl : a + 31 < m.length) {i v : Int} (h0 : 0 ≤ i) (h1 : i < 32) : sJ (ov m a (o1 a F A)) (a + 4) (I i) (J v) = some (ov m a (o1 a F (upN A 4 (upZ (A 4) i v)))) := by
  rw [← o1_w4, ← ov_set]
  exact sJ_c (ov_in (m := m) (a := a) (c := o1 a F A) (off := 4) rfl (by omega)) h0 (by omega) (by omega)
theorem o1_w5 {a : Nat} {F : Nat → Int} {A : Nat → Int → Int} {x : Int → Int} : up1 (o1 a F A) 5 (some (eJ 32 (cw x))) = o1 a F (upN A 5 x) := by
  funext off
  match off with
  | 0 => rfl
  | 1 => rfl
  | 2 => rfl
  | 3 => rfl
  | 4 => rfl
  | 5 => rfl
  | 6 => rfl
  | 7 => rfl
  | 8 => rfl
  | 9 => rfl
  | 10 => rfl
  | 11 => rfl
  | 12 => rfl
  | 13 => rfl
  | 14 => rfl
  | 15 => rfl
  | 16 => rfl
  | 17 => rfl
  | 18 => rfl
  | 19 => rfl
  | 20 => rfl
  | 21 => rfl
  | 22 => rfl
  | 23 => rfl
  | 24 => rfl
  | 25 => rfl
  | 26 => rfl
  | 27 => rfl
  | 28 => rfl
  | 29 => rfl
  | 30 => rfl
  | 31 => rfl
  | k + 32 => rfl
theorem o1_l5 {m : Mm} {a : Nat} {F : Nat → Int} {A : Nat → Int → Int} (hl : a + 31 < m.length) {i : Int} (h0 : 0 ≤ i) (h1 : i < 32) : lJ (ov m a (o1 a F A)) (a + 5) (I i) = some (J (A 5 i)) := lJ_c (ov_in (m := m) (a := a) (c := o1 a F A) (off := 5) rfl (by omega)) h0 (by omega) (by omega)
theorem o1_s5 {m : Mm} {a : Nat} {F : Nat → Int} {A : Nat → Int → Int} (hl : a + 31 < m.length) {i v : Int} (h0 : 0 ≤ i) (h1 : i < 32) : sJ (ov m a (o1 a F A)) (a + 5) (I i) (J v) = some (ov m a (o1 a F (upN A 5 (upZ (A 5) i v)))) := by
  rw [← o1_w5, ← ov_set]
  exact sJ_c (ov_in (m := m) (a := a) (c := o1 a F A) (off := 5) rfl (by omega)) h0 (by omega) (by omega)
theorem o1_w6 {a : Nat} {F : Nat → Int} {A : Nat → Int → Int} {x : Int → Int} : up1 (o1 a F A) 6 (some (eJ 32 (cw x))) = o1 a F (upN A 6 x) := by
  funext off
  match off with
  | 0 => rfl
  | 1 => rfl
  | 2 => rfl
  | 3 => rfl
  | 4 => rfl
  | 5 => rfl
  | 6 => rfl
  | 7 => rfl
  | 8 => rfl
  | 9 => rfl
  | 10 => rfl
  | 11 => rfl
  | 12 => rfl
  | 13 => rfl
  | 14 => rfl
  | 15 => rfl
  | 16 => rfl
  | 17 => rfl
  | 18 => rfl
  | 19 => rfl
  | 20 => rfl
  | 21 => rfl
  | 22 => rfl
  | 23 => rfl
  | 24 => rfl
  | 25 => rfl
  | 26 => rfl
  | 27 => rfl
  | 28 => rfl
  | 29 => rfl
  | 30 => rfl
  | 31 => rfl
  | k + 32 => rfl
theorem o1_l6 {m : Mm} {a : Nat} {F : Nat → Int} {A : Nat → Int → Int} (hl : a + 31 < m.length) {i : Int} (h0 : 0 ≤ i) (h1 : i < 32) : lJ (ov m a (o1 a F A)) (a + 6) (I i) = some (J (A 6 i)) := lJ_c (ov_in (m := m) (a := a) (c := o1 a F A) (off := 6) rfl (by omega)) h0 (by omega) (by omega)
theorem o1_s6 {m : Mm} {a : Nat} {F : Nat → Int} {A : Nat → Int → Int} (hl : a + 31 < m.length) {i v : Int} (h0 : 0 ≤ i) (h1 : i < 32) : sJ (ov m a (o1 a F A)) (a + 6) (I i) (J v) = some (ov m a (o1 a F (upN A 6 (upZ (A 6) i v)))) := by
  rw [← o1_w6, ← ov_set]
  exact sJ_c (ov_in (m := m) (a := a) (c := o1 a F A) (off := 6) rfl (by omega)) h0 (by omega) (by omega)
theorem o1_w7 {a : Nat} {F : Nat → Int} {A : Nat → Int → Int} {x : Int → Int} : up1 (o1 a F A) 7 (some (eJ 32 (cw x))) = o1 a F (upN A 7 x) := by
  funext off
  match off with
  | 0 => rfl
  | 1 => rfl
  | 2 => rfl
  | 3 => rfl
  | 4 => rfl
  | 5 => rfl
  | 6 => rfl
  | 7 => rfl
  | 8 => rfl
  | 9 => rfl
  | 10 => rfl
  | 11 => rfl
  | 12 => rfl
  | 13 => rfl
  | 14 => rfl
  | 15 => rfl
  | 16 => rfl
  | 17 => rfl
  | 18 => rfl
  | 19 => rfl
  | 20 => rfl
  | 21 => rfl
  | 22 => rfl
  | 23 => rfl
  | 24 => rfl
  | 25 => rfl
  | 26 => rfl
  | 27 => rfl
  | 28 => rfl
  | 29 => rfl
  | 30 => rfl
  | 31 => rfl
  | k + 32 => rfl
theorem o1_l7 {m : Mm} {a : Nat} {F : Nat → Int} {A : Nat → Int → Int} (hl : a + 31 < m.length) {i : Int} (h0 : 0 ≤ i) (h1 : i < 32) : lJ (ov m a (o1 a F A)) (a + 7) (I i) = some (J (A 7 i)) := lJ_c (ov_in (m := m) (a := a) (c := o1 a F A) (off := 7) rfl (by omega)) h0 (by omega) (by omega)
theorem o1_s7 {m : Mm} {a : Nat} {F : Nat → Int} {A : Nat → Int → Int} (hl : a + 31 < m.length) {i v : Int} (h0 : 0 ≤ i) (h1 : i < 32) : sJ (ov m a (o1 a F A)) (a + 7) (I i) (J v) = some (ov m a (o1 a F (upN A 7 (upZ (A 7) i v)))) := by
  rw [← o1_w7, ← ov_set]
  exact sJ_c (ov_in (m := m) (a := a) (c := o1 a F A) (off := 7) rfl (by omega)) h0 (by omega) (by omega)
theorem o1_w8 {a : Nat} {F : Nat → Int} {A : Nat → Int → Int} {x : Int → Int} : up1 (o1 a F A) 8 (some (eJ 32 (cw x))) = o1 a F (upN A 8 x) := by
  funext off
  match off with
  | 0 => rfl
  | 1 => rfl
  | 2 => rfl
  | 3 => rfl
  | 4 => rfl
  | 5 => rfl
  | 6 => rfl
  | 7 => rfl
  | 8 => rfl
  | 9 => rfl
  | 10 => rfl
  | 11 => rfl
  | 12 => rfl
  | 13 => rfl
  | 14 => rfl
  | 15 => rfl
  | 16 => rfl
  | 17 => rfl
  | 18 => rfl
  | 19 => rfl
  | 20 => rfl
  | 21 => rfl
  | 22 => rfl
  | 23 => rfl
  | 24 => rfl
  | 25 => rfl
  | 26 => rfl
  | 27 => rfl
  | 28 => rfl
  | 29 => rfl
  | 30 => rfl
  | 31 => rfl
  | k + 32 => rfl
theorem o1_l8 {m : Mm} {a : Nat} {F : Nat → Int} {A : Nat → Int → Int} (hl : a + 31 < m.length) {i : Int} (h0 : 0 ≤ i) (h1 : i < 32) : lJ (ov m a (o1 a F A)) (a + 8) (I i) = some (J (A 8 i)) := lJ_c (ov_in (m := m) (a := a) (c := o1 a F A) (off := 8) rfl (by omega)) h0 (by omega) (by omega)
theorem o1_s8 {m : Mm} {a : Nat} {F : Nat → Int} {A : Nat → Int → Int} (hl : a + 31 < m.length) {i v : Int} (h0 : 0 ≤ i) (h1 : i < 32) : sJ (ov m a (o1 a F A)) (a + 8) (I i) (J v) = some (ov m a (o1 a F (upN A 8 (upZ (A 8) i v)))) := by
  rw [← o1_w8, ← ov_set]
  exact sJ_c (ov_in (m := m) (a := a) (c := o1 a F A) (off := 8) rfl (by omega)) h0 (by omega) (by omega)
theorem o1_r9 {m : Mm} {a : Nat} {F : Nat → Int} {A : Nat → Int → Int} (hl : a + 31 < m.length) {i : Int} (h0 : 0 ≤ i) (h1 : i < 6) : lR (ov m a (o1 a F A)) (a + 9) 4 (I i) = some (a + 9 + 1 + i.toNat) := lR_c (ov_in (m := m) (a := a) (c := o1 a F A) (off := 9) rfl (by omega)) h0 (by omega) (by omega) (if_pos (by omega))
theorem o1_w10 {a : Nat} {F : Nat → Int} {A : Nat → Int → Int} {x : Int → Int} : up1 (o1 a F A) 10 (some (eJ 33 (cw x))) = o1 a F (upN A 10 x) := by
  funext off
  match off with
  | 0 => rfl
  | 1 => rfl
  | 2 => rfl
  | 3 => rfl
  | 4 => rfl
  | 5 => rfl
  | 6 => rfl
  | 7 => rfl
  | 8 => rfl
  | 9 => rfl
  | 10 => rfl
  | 11 => rfl
  | 12 => rfl
  | 13 => rfl
  | 14 => rfl
  | 15 => rfl
  | 16 => rfl
  | 17 => rfl
  | 18 => rfl
  | 19 => rfl
  | 20 => rfl
  | 21 => rfl
  | 22 => rfl
  | 23 => rfl
  | 24 => rfl
  | 25 => rfl
  | 26 => rfl
  | 27 => rfl
  | 28 => rfl
  | 29 => rfl
  | 30 => rfl
  | 31 => rfl
  | k + 32 => rfl
theorem o1_l10 {m : Mm} {a : Nat} {F : Nat → Int} {A : Nat → Int → Int} (hl : a + 31 < m.length) {i : Int} (h0 : 0 ≤ i) (h1 : i < 33) : lJ (ov m a (o1 a F A)) (a + 10) (I i) = some (J (A 10 i)) := lJ_c (ov_in (m := m) (a := a) (c := o1 a F A) (off := 10) rfl (by omega)) h0 (by omega) (by omega)
theorem o1_s10 {m : Mm} {a : Nat} {F : Nat → Int} {A : Nat → Int → Int} (hl : a + 31 < m.length) {i v : Int} (h0 : 0 ≤ i) (h1 : i < 33) : sJ (ov m a (o1 a F A)) (a + 10) (I i) (J v) = some (ov m a (o1 a F (upN A 10 (upZ (A 10) i v)))) := by
  rw [← o1_w10, ← ov_set]
  exact sJ_c (ov_in (m := m) (a := a) (c := o1 a F A) (off := 10) rfl (by omega)) h0 (by omega) (by omega)
theorem o1_w11 {a : Nat} {F : Nat → Int} {A : Nat → Int → Int} {x : Int → Int} : up1 (o1 a F A) 11 (some (eJ 33 (cw x))) = o1 a F (upN A 11 x) := by
  funext off
  match off with
  | 0 => rfl
  | 1 => rfl
  | 2 => rfl
  | 3 => rfl
  | 4 => rfl
  | 5 => rfl
  | 6 => rfl
  | 7 => rfl
  | 8 => rfl
  | 9 => rfl
  | 10 => rfl
  | 11 => rfl
  | 12 => rfl
  | 13 => rfl
  | 14 => rfl
  | 15 => rfl
  | 16 => rfl
  | 17 => rfl
  | 18 => rfl
  | 19 => rfl
  | 20 => rfl
  | 21 => rfl
  | 22 => rfl
  | 23 => rfl
  | 24 => rfl
  | 25 => rfl
  | 26 => rfl
  | 27 => rfl
  | 28 => rfl
  | 29 => rfl
  | 30 => rfl
  | 31 => rfl
  | k + 32 => rfl
theorem o1_l11 {m : Mm} {a : Nat} {F : Nat → Int} {A : Nat → Int → Int} (hl : a + 31 < m.length) {i : Int} (h0 : 0 ≤ i) (h1 : i < 33) : lJ (ov m a (o1 a F A)) (a + 11) (I i) = some (J (A 11 i)) := lJ_c (ov_in (m := m) (a := a) (c := o1 a F A) (off := 11) rfl (by omega)) h0 (by omega) (by omega)
theorem o1_s11 {m : Mm} {a : Nat} {F : Nat → Int} {A : Nat → Int → Int} (hl : a + 31 < m.length) {i v : Int} (h0 : 0 ≤ i) (h1 : i < 33) : sJ (ov m a (o1 a F A)) (a + 11) (I i) (J v) = some (ov m a (o1 a F (upN A 11 (upZ (A 11) i v)))) := by
  rw [← o1_w11, ← ov_set]
  exact sJ_c (ov_in (m := m) (a := a) (c := o1 a F A) (off := 11) rfl (by omega)) h0 (by omega) (by omega)
theorem o1_w12 {a : Nat} {F : Nat → Int} {A : Nat → Int → Int} {x : Int → Int} : up1 (o1 a F A) 12 (some (eJ 33 (cw x))) = o1 a F (upN A 12 x) := by
  funext off
  match off with
  | 0 => rfl
  | 1 => rfl
  | 2 => rfl
  | 3 => rfl
  | 4 => rfl
  | 5 => rfl
  | 6 => rfl
  | 7 => rfl
  | 8 => rfl
  | 9 => rfl
  | 10 => rfl
  | 11 => rfl
  | 12 => rfl
  | 13 => rfl
  | 14 => rfl
  | 15 => rfl
  | 16 => rfl
  | 17 => rfl
  | 18 => rfl
  | 19 => rfl
  | 20 => rfl
  | 21 => rfl
  | 22 => rfl
  | 23 => rfl
  | 24 => rfl
  | 25 => rfl
  | 26 => rfl
  | 27 => rfl
  | 28 => rfl
  | 29 => rfl
  | 30 => rfl
  | 31 => rfl
  | k + 32 => rfl
theorem o1_l12 {m : Mm} {a : Nat} {F : Nat → Int} {A : Nat → Int → Int} (hl : a + 31 < m.length) {i : Int} (h0 : 0 ≤ i) (h1 : i < 33) : lJ (ov m a (o1 a F A)) (a + 12) (I i) = some (J (A 12 i)) := lJ_c (ov_in (m := m) (a := a) (c := o1 a F A) (off := 12) rfl (by omega)) h0 (by omega) (by omega)
theorem o1_s12 {m : Mm} {a : Nat} {F : Nat → Int} {A : Nat → Int → Int} (hl : a + 31 < m.length) {i v : Int} (h0 : 0 ≤ i) (h1 : i < 33) : sJ (ov m a (o1 a F A)) (a + 12) (I i) (J v) = some (ov m a (o1 a F (upN A 12 (upZ (A 12) i v)))) := by
  rw [← o1_w12, ← ov_set]
  exact sJ_c (ov_in (m := m) (a := a) (c := o1 a F A) (off := 12) rfl (by omega)) h0 (by omega) (by omega)
theorem o1_w13 {a : Nat} {F : Nat → Int} {A : Nat → Int → Int} {x : Int → Int} : up1 (o1 a F A) 13 (some (eJ 33 (cw x))) = o1 a F (upN A 13 x) := by
  funext off
  match off with
  | 0 => rfl
  | 1 => rfl
  | 2 => rfl
  | 3 => rfl
  | 4 => rfl
  | 5 => rfl
  | 6 => rfl
  | 7 => rfl
  | 8 => rfl
  | 9 => rfl
  | 10 => rfl
  | 11 => rfl
  | 12 => rfl
  | 13 => rfl
  | 14 => rfl
  | 15 => rfl
  | 16 => rfl
  | 17 => rfl
  | 18 => rfl
  | 19 => rfl
  | 20 => rfl
  | 21 => rfl
  | 22 => rfl
  | 23 => rfl
  | 24 => rfl
  | 25 => rfl
  | 26 => rfl
  | 27 => rfl
  | 28 => rfl
  | 29 => rfl
  | 30 => rfl
  | 31 => rfl
  | k + 32 => rfl
theorem o1_l13 {m : Mm} {a : Nat} {F : Nat → Int} {A : Nat → Int → Int} (hl : a + 31 < m.length) {i : Int} (h0 : 0 ≤ i) (h1 : i < 33) : lJ (ov m a (o1 a F A)) (a + 13) (I i) = some (J (A 13 i)) := lJ_c (ov_in (m := m) (a := a) (c := o1 a F A) (off := 13) rfl (by omega)) h0 (by omega) (by omega)
theorem o1_s13 {m : Mm} {a : Nat} {F : Nat → Int} {A : Nat → Int → Int} (hl : a + 31 < m.length) {i v : Int} (h0 : 0 ≤ i) (h1 : i < 33) : sJ (ov m a (o1 a F A)) (a + 13) (I i) (J v) = some (ov m a (o1 a F (upN A 13 (upZ (A 13) i v)))) := by
  rw [← o1_w13, ← ov_set]
  exact sJ_c (ov_in (m := m) (a := a) (c := o1 a F A) (off := 13) rfl (by omega)) h0 (by omega) (by omega)
theorem o1_w14 {a : Nat} {F : Nat → Int} {A : Nat → Int → Int} {x : Int → Int} : up1 (o1 a F A) 14 (some (eJ 33 (cw x))) = o1 a F (upN A 14 x) := by
  funext off
  match off with
  | 0 => rfl
  | 1 => rfl
  | 2 => rfl
  | 3 => rfl
  | 4 => rfl
  | 5 => rfl
  | 6 => rfl
  | 7 => rfl
  | 8 => rfl
  | 9 => rfl
  | 10 => rfl
  | 11 => rfl
  | 12 => rfl
  | 13 => rfl
  | 14 => rfl
  | 15 => rfl
  | 16 => rfl
  | 17 => rfl
  | 18 => rfl
  | 19 => rfl
  | 20 => rfl
  | 21 => rfl
  | 22 => rfl
  | 23 => rfl
  | 24 => rfl
  | 25 => rfl
  | 26 => rfl
  | 27 => rfl
  | 28 => rfl
  | 29 => rfl
  | 30 => rfl
  | 31 => rfl
  | k + 32 => rfl
theorem o1_l14 {m : Mm} {a : Nat} {F : Nat → Int} {A : Nat → Int → Int} (hl : a + 31 < m.length) {i : Int} (h0 : 0 ≤ i) (h1 : i < 33) : lJ (ov m a (o1 a F A)) (a + 14) (I i) = some (J (A 14 i)) := lJ_c (ov_in (m := m) (a := a) (c := o1 a F A) (off := 14) rfl (by omega)) h0 (by omega) (by omega)
theorem o1_s14 {m : Mm} {a : Nat} {F : Nat → Int} {A : Nat → Int → Int} (hl : a + 31 < m.length) {i v : Int} (h0 : 0 ≤ i) (h1 : i < 33) : sJ (ov m a (o1 a F A)) (a + 14) (I i) (J v) = some (ov m a (o1 a F (upN A 14 (upZ (A 14) i v)))) := by
  rw [← o1_w14, ← ov_set]
  exact sJ_c (ov_in (m := m) (a := a) (c := o1 a F A) (off := 14) rfl (by omega)) h0 (by omega) (by omega)
theorem o1_w15 {a : Nat} {F : Nat → Int} {A : Nat → Int → Int} {x : Int → Int} : up1 (o1 a F A) 15 (some (eJ 33 (cw x))) = o1 a F (upN A 15 x) := by
  funext off
  match off with
  | 0 => rfl
  | 1 => rfl
  | 2 => rfl
  | 3 => rfl
  | 4 => rfl
  | 5 => rfl
  | 6 => rfl
  | 7 => rfl
  | 8 => rfl
  | 9 => rfl
  | 10 => rfl
  | 11 => rfl
  | 12 => rfl
  | 13 => rfl
  | 14 => rfl
  | 15 => rfl
  | 16 => rfl
  | 17 => rfl
  | 18 => rfl
  | 19 => rfl
  | 20 => rfl
  | 21 => rfl
  | 22 => rfl
  | 23 => rfl
  | 24 => rfl
  | 25 => rfl
  | 26 => rfl
  | 27 => rfl
  | 28 => rfl
  | 29 => rfl
  | 30 => rfl
  | 31 => rfl
  | k + 32 => rfl
theorem o1_l15 {m : Mm} {a : Nat} {F : Nat → Int} {A : Nat → Int → Int} (hl : a + 31 < m.length) {i : Int} (h0 : 0 ≤ i) (h1 : i < 33) : lJ (ov m a (o1 a F A)) (a + 15) (I i) = some (J (A 15 i)) := lJ_c (ov_in (m := m) (a := a) (c := o1 a F A) (off := 15) rfl (by omega)) h0 (by omega) (by omega)
theorem o1_s15 {m : Mm} {a : Nat} {F : Nat → Int} {A : Nat → Int → Int} (hl : a + 31 < m.length) {i v : Int} (h0 : 0 ≤ i) (h1 : i < 33) : sJ (ov m a (o1 a F A)) (a + 15) (I i) (J v) = some (ov m a (o1 a F (upN A 15 (upZ (A 15) i v)))) := by
  rw [← o1_w15, ← ov_set]
  exact sJ_c (ov_in (m := m) (a := a) (c := o1 a F A) (off := 15) rfl (by omega)) h0 (by omega) (by omega)
theorem o1_r16 {m : Mm} {a : Nat} {F : Nat → Int} {A : Nat → Int → Int} (hl : a + 31 < m.length) {i : Int} (h0 : 0 ≤ i) (h1 : i < 6) : lR (ov m a (o1 a F A)) (a + 16) 4 (I i) = some (a + 16 + 1 + i.toNat) := lR_c (ov_in (m := m) (a := a) (c := o1 a F A) (off := 16) rfl (by omega)) h0 (by omega) (by omega) (if_pos (by omega))
theorem o1_w17 {a : Nat} {F : Nat → Int} {A : Nat → Int → Int} {x : Int → Int} : up1 (o1 a F A) 17 (some (eJ 33 (cw x))) = o1 a F (upN A 17 x) := by
  funext off
  match off with
  | 0 => rfl
  | 1 => rfl
  | 2 => rfl
  | 3 => rfl
  | 4 => rfl
  | 5 => rfl
  | 6 => rfl
  | 7 => rfl
  | 8 => rfl
  | 9 => rfl
  | 10 => rfl
  | 11 => rfl
  | 12 => rfl
  | 13 => rfl
  | 14 => rfl
  | 15 => rfl
  | 16 => rfl
  | 17 => rfl
  | 18 => rfl
  | 19 => rfl
  | 20 => rfl
  | 21 => rfl
  | 22 => rfl
  | 23 => rfl
  | 24 => rfl
  | 25 => rfl
  | 26 => rfl
  | 27 => rfl
  | 28 => rfl
  | 29 => rfl
  | 30 => rfl
  | 31 => rfl
  | k + 32 => rfl
theorem o1_l17 {m : Mm} {a : Nat} {F : Nat → Int} {A : Nat → Int → Int} (hl : a + 31 < m.length) {i : Int} (h0 : 0 ≤ i) (h1 : i < 33) : lJ (ov m a (o1 a F A)) (a + 17) (I i) = some (J (A 17 i)) := lJ_c (ov_in (m := m) (a := a) (c := o1 a F A) (off := 17) rfl (by omega)) h0 (by omega) (by omega)
theorem o1_s17 {m : Mm} {a : Nat} {F : Nat → Int} {A : Nat → Int → Int} (hl : a + 31 < m.length) {i v : Int} (h0 : 0 ≤ i) (h1 : i < 33) : sJ (ov m a (o1 a F A)) (a + 17) (I i) (J v) = some (ov m a (o1 a F (upN A 17 (upZ (A 17) i v)))) := by
  rw [← o1_w17, ← ov_set]
  exact sJ_c (ov_in (m := m) (a := a) (c := o1 a F A) (off := 17) rfl (by omega)) h0 (by omega) (by omega)
theorem o1_w18 {a : Nat} {F : Nat → Int} {A : Nat → Int → Int} {x : Int → Int} : up1 (o1 a F A) 18 (some (eJ 33 (cw x))) = o1 a F (upN A 18 x) := by
  funext off
  match off with
  | 0 => rfl
  | 1 => rfl
  | 2 => rfl
  | 3 => rfl
  | 4 => rfl
  | 5 => rfl
  | 6 => rfl
  | 7 => rfl
  | 8 => rfl
  | 9 => rfl
  | 10 => rfl
  | 11 => rfl
  | 12 => rfl
  | 13 => rfl
  | 14 => rfl
  | 15 => rfl
  | 16 => rfl
  | 17 => rfl
  | 18 => rfl
  | 19 => rfl
  | 20 => rfl
  | 21 => rfl
  | 22 => rfl
  | 23 => rfl
  | 24 => rfl
  | 25 => rfl
  | 26 => rfl
  | 27 => rfl
  | 28 => rfl
  | 29 => rfl
  | 30 => rfl
  | 31 => rfl
  | k + 32 => rfl
theorem o1_l18 {m : Mm} {a : Nat} {F : Nat → Int} {A : Nat → Int → Int} (hl : a + 31 < m.length) {i : Int} (h0 : 0 ≤ i) (h1 : i < 33) : lJ (ov m a (o1 a F A)) (a + 18) (I i) = some (J (A 18 i)) := lJ_c (ov_in (m := m) (a := a) (c := o1 a F A) (off := 18) rfl (by omega)) h0 (by omega) (by omega)
theorem o1_s18 {m : Mm} {a : Nat} {F : Nat → Int} {A : Nat → Int → Int} (hl : a + 31 < m.length) {i v : Int} (h0 : 0 ≤ i) (h1 : i < 33) : sJ (ov m a (o1 a F A)) (a + 18) (I i) (J v) = some (ov m a (o1 a F (upN A 18 (upZ (A 18) i v)))) := by
  rw [← o1_w18, ← ov_set]
  exact sJ_c (ov_in (m := m) (a := a) (c := o1 a F A) (off := 18) rfl (by omega)) h0 (by omega) (by omega)
theorem o1_w19 {a : Nat} {F : Nat → Int} {A : Nat → Int → Int} {x : Int → Int} : up1 (o1 a F A) 19 (some (eJ 33 (cw x))) = o1 a F (upN A 19 x) := by
  funext off
  match off with
  | 0 => rfl
  | 1 => rfl
  | 2 => rfl
  | 3 => rfl
  | 4 => rfl
  | 5 => rfl
  | 6 => rfl
  | 7 => rfl
  | 8 => rfl
  | 9 => rfl
  | 10 => rfl
  | 11 => rfl
  | 12 => rfl
  | 13 => rfl
  | 14 => rfl
  | 15 => rfl
  | 16 => rfl
  | 17 => rfl
  | 18 => rfl
  | 19 => rfl
  | 20 => rfl
  | 21 => rfl
  | 22 => rfl
  | 23 => rfl
  | 24 => rfl
  | 25 => rfl
  | 26 => rfl
  | 27 => rfl
  | 28 => rfl
  | 29 => rfl
  | 30 => rfl
  | 31 => rfl
  | k + 32 => rfl
theorem o1_l19 {m : Mm} {a : Nat} {F : Nat → Int} {A : Nat → Int → Int} (hl : a + 31 < m.length) {i : Int} (h0 : 0 ≤ i) (h1 : i < 33) : lJ (ov m a (o1 a F A)) (a + 19) (I i) = some (J (A 19 i)) := lJ_c (ov_in (m := m) (a := a) (c := o1 a F A) (off := 19) rfl (by omega)) h0 (by omega) (by omega)
theorem o1_s19 {m : Mm} {a : Nat} {F : Nat → Int} {A : Nat → Int → Int} (hl : a + 31 < m.length) {i v : Int} (h0 : 0 ≤ i) (h1 : i < 33) : sJ (ov m a (o1 a F A)) (a + 19) (I i) (J v) = some (ov m a (o1 a F (upN A 19 (upZ (A 19) i v)))) := by
  rw [← o1_w19, ← ov_set]
  exact sJ_c (ov_in (m := m) (a := a) (c := o1 a F A) (off := 19) rfl (by omega)) h0 (by omega) (by omega)
theorem o1_w20 {a : Nat} {F : Nat → Int} {A : Nat → Int → Int} {x : Int → Int} : up1 (o1 a F A) 20 (some (eJ 33 (cw x))) = o1 a F (upN A 20 x) := by
  funext off
  match off with
  | 0 => rfl
  | 1 => rfl
  | 2 => rfl
  | 3 => rfl
  | 4 => rfl
  | 5 => rfl
  | 6 => rfl
  | 7 => rfl
  | 8 => rfl
  | 9 => rfl
  | 10 => rfl
  | 11 => rfl
  | 12 => rfl
  | 13 => rfl
  | 14 => rfl
  | 15 => rfl
  | 16 => rfl
  | 17 => rfl
  | 18 => rfl
  | 19 => rfl
  | 20 => rfl
  | 21 => rfl
  | 22 => rfl
  | 23 => rfl
  | 24 => rfl
  | 25 => rfl
  | 26 => rfl
  | 27 => rfl
  | 28 => rfl
  | 29 => rfl
  | 30 => rfl
  | 31 => rfl
  | k + 32 => rfl
theorem o1_l20 {m : Mm} {a : Nat} {F : Nat → Int} {A : Nat → Int → Int} (hl : a + 31 < m.length) {i : Int} (h0 : 0 ≤ i) (h1 : i < 33) : lJ (ov m a (o1 a F A)) (a + 20) (I i) = some (J (A 20 i)) := lJ_c (ov_in (m := m) (a := a) (c := o1 a F A) (off := 20) rfl (by omega)) h0 (by omega) (by omega)
theorem o1_s20 {m : Mm} {a : Nat} {F : Nat → Int} {A : Nat → Int → Int} (hl : a + 31 < m.length) {i v : Int} (h0 : 0 ≤ i) (h1 : i < 33) : sJ (ov m a (o1 a F A)) (a + 20) (I i) (J v) = some (ov m a (o1 a F (upN A 20 (upZ (A 20) i v)))) := by
  rw [← o1_w20, ← ov_set]
  exact sJ_c (ov_in (m := m) (a := a) (c := o1 a F A) (off := 20) rfl (by omega)) h0 (by omega) (by omega)
theorem o1_w21 {a : Nat} {F : Nat → Int} {A : Nat → Int → Int} {x : Int → Int} : up1 (o1 a F A) 21 (some (eJ 33 (cw x))) = o1 a F (upN A 21 x) := by
  funext off
  match off with
  | 0 => rfl
  | 1 => rfl
  | 2 => rfl
  | 3 => rfl
  | 4 => rfl
  | 5 => rfl
  | 6 => rfl
  | 7 => rfl
  | 8 => rfl
  | 9 => rfl
  | 10 => rfl
  | 11 => rfl
  | 12 => rfl
  | 13 => rfl
  | 14 => rfl
  | 15 => rfl
  | 16 => rfl
  | 17 => rfl
  | 18 => rfl
  | 19 => rfl
  | 20 => rfl
  | 21 => rfl
  | 22 => rfl
  | 23 => rfl
  | 24 => rfl
  | 25 => rfl
  | 26 => rfl
  | 27 => rfl
  | 28 => rfl
  | 29 => rfl
  | 30 => rfl
  | 31 => rfl
  | k + 32 => rfl
theorem o1_l21 {m : Mm} {a : Nat} {F : Nat → Int} {A : Nat → Int → Int} (hl : a + 31 < m.length) {i : Int} (h0 : 0 ≤ i) (h1 : i < 33) : lJ (ov m a (o1 a F A)) (a + 21) (I i) = some (J (A 21 i)) := lJ_c (ov_in (m := m) (a := a) (c := o1 a F A) (off := 21) rfl (by omega)) h0 (by omega) (by omega)
theorem o1_s21 {m : Mm} {a : Nat} {F : Nat → Int} {A : Nat → Int → Int} (hl : a + 31 < m.length) {i v : Int} (h0 : 0 ≤ i) (h1 : i < 33) : sJ (ov m a (o1 a F A)) (a + 21) (I i) (J v) = some (ov m a (o1 a F (upN A 21 (upZ (A 21) i v)))) := by
  rw [← o1_w21, ← ov_set]
  exact sJ_c (ov_in (m := m) (a := a) (c := o1 a F A) (off := 21) rfl (by omega)) h0 (by omega) (by omega)
theorem o1_w22 {a : Nat} {F : Nat → Int} {A : Nat → Int → Int} {x : Int → Int} : up1 (o1 a F A) 22 (some (eJ 33 (cw x))) = o1 a F (upN A 22 x) := by
  funext off
  match off with
  | 0 => rfl
  | 1 => rfl
  | 2 => rfl
  | 3 => rfl
  | 4 => rfl
  | 5 => rfl
  | 6 => rfl
  | 7 => rfl
  | 8 => rfl
  | 9 => rfl
  | 10 => rfl
  | 11 => rfl
  | 12 => rfl
  | 13 => rfl
  | 14 => rfl
  | 15 => rfl
  | 16 => rfl
  | 17 => rfl
  | 18 => rfl
  | 19 => rfl
  | 20 => rfl
  | 21 => rfl
  | 22 => rfl
  | 23 => rfl
  | 24 => rfl
  | 25 => rfl
  | 26 => rfl
  | 27 => rfl
  | 28 => rfl
  | 29 => rfl
  | 30 => rfl
  | 31 => rfl
  | k + 32 => rfl
theorem o1_l22 {m : Mm} {a : Nat} {F : Nat → Int} {A : Nat → Int → Int} (hl : a + 31 < m.length) {i : Int} (h0 : 0 ≤ i) (h1 : i < 33) : lJ (ov m a (o1 a F A)) (a + 22) (I i) = some (J (A 22 i)) := lJ_c (ov_in (m := m) (a := a) (c := o1 a F A) (off := 22) rfl (by omega)) h0 (by omega) (by omega)
theorem o1_s22 {m : Mm} {a : Nat} {F : Nat → Int} {A : Nat → Int → Int} (hl : a + 31 < m.length) {i v : Int} (h0 : 0 ≤ i) (h1 : i < 33) : sJ (ov m a (o1 a F A)) (a + 22) (I i) (J v) = some (ov m a (o1 a F (upN A 22 (upZ (A 22) i v)))) := by
  rw [← o1_w22, ← ov_set]
  exact sJ_c (ov_in (m := m) (a := a) (c := o1 a F A) (off := 22) rfl (by omega)) h0 (by omega) (by omega)
theorem o1_r23 {m : Mm} {a : Nat} {F : Nat → Int} {A : Nat → Int → Int} (hl : a + 31 < m.length) {i : Int} (h0 : 0 ≤ i) (h1 : i < 6) : lR (ov m a (o1 a F A)) (a + 23) 4 (I i) = some (a + 23 + 1 + i.toNat) := lR_c (ov_in (m := m) (a := a) (c := o1 a F A) (off := 23) rfl (by omega)) h0 (by omega) (by omega) (if_pos (by omega))
theorem o1_w24 {a : Nat} {F : Nat → Int} {A : Nat → Int → Int} {x : Int → Int} : up1 (o1 a F A) 24 (some (eJ 32 (cw x))) = o1 a F (upN A 24 x) := by
  funext off
  match off with
  | 0 => rfl
  | 1 => rfl
  | 2 => rfl
  | 3 => rfl
  | 4 => rfl
  | 5 => rfl
  | 6 => rfl
  | 7 => rfl
  | 8 => rfl
  | 9 => rfl
  | 10 => rfl
  | 11 => rfl
  | 12 => rfl
  | 13 => rfl
  | 14 => rfl
  | 15 => rfl
  | 16 => rfl
  | 17 => rfl
  | 18 => rfl
  | 19 => rfl
  | 20 => rfl
  | 21 => rfl
  | 22 => rfl
  | 23 => rfl
  | 24 => rfl
  | 25 => rfl
  | 26 => rfl
  | 27 => rfl
  | 28 => rfl
  | 29 => rfl
  | 30 => rfl
  | 31 => rfl
  | k + 32 => rfl
theorem o1_l24 {m : Mm} {a : Nat} {F : Nat → Int} {A : Nat → Int → Int} (hl : a + 31 < m.length) {i : Int} (h0 : 0 ≤ i) (h1 : i < 32) : lJ (ov m a (o1 a F A)) (a + 24) (I i) = some (J (A 24 i)) := lJ_c (ov_in (m := m) (a := a) (c := o1 a F A) (off := 24) rfl (by omega)) h0 (by omega) (by omega)
theorem o1_s24 {m : Mm} {a : Nat} {F : Nat → Int} {A : Nat → Int → Int} (hl : a + 31 < m.length) {i v : Int} (h0 : 0 ≤ i) (h1 : i < 32) : sJ (ov m a (o1 a F A)) (a + 24) (I i) (J v) = some (ov m a (o1 a F (upN A 24 (upZ (A 24) i v)))) := by
  rw [← o1_w24, ← ov_set]
  exact sJ_c (ov_in (m := m) (a := a) (c := o1 a F A) (off := 24) rfl (by omega)) h0 (by omega) (by omega)
theorem o1_w25 {a : Nat} {F : Nat → Int} {A : Nat → Int → Int} {x : Int → Int} : up1 (o1 a F A) 25 (some (eJ 32 (cw x))) = o1 a F (upN A 25 x) := by
  funext off
  match off with
  | 0 => rfl
  | 1 => rfl
  | 2 => rfl
  | 3 => rfl
  | 4 => rfl
  | 5 => rfl
  | 6 => rfl
  | 7 => rfl
  | 8 => rfl
  | 9 => rfl
  | 10 => rfl
  | 11 => rfl
  | 12 => rfl
  | 13 => rfl
  | 14 => rfl
  | 15 => rfl
  | 16 => rfl
  | 17 => rfl
  | 18 => rfl
  | 19 => rfl
  | 20 => rfl
  | 21 => rfl
  | 22 => rfl
  | 23 => rfl
  | 24 => rfl
  | 25 => rfl
  | 26 => rfl
  | 27 => rfl
  | 28 => rfl
  | 29 => rfl
  | 30 => rfl
  | 31 => rfl
  | k + 32 => rfl
theorem o1_l25 {m : Mm} {a : Nat} {F : Nat → Int} {A : Nat → Int → Int} (hl : a + 31 < m.length) {i : Int} (h0 : 0 ≤ i) (h1 : i < 32) : lJ (ov m a (o1 a F A)) (a + 25) (I i) = some (J (A 25 i)) := lJ_c (ov_in (m := m) (a := a) (c := o1 a F A) (off := 25) rfl (by omega)) h0 (by omega) (by omega)
theorem o1_s25 {m : Mm} {a : Nat} {F : Nat → Int} {A : Nat → Int → Int} (hl : a + 31 < m.length) {i v : Int} (h0 : 0 ≤ i) (h1 : i < 32) : sJ (ov m a (o1 a F A)) (a + 25) (I i) (J v) = some (ov m a (o1 a F (upN A 25 (upZ (A 25) i v)))) := by
  rw [← o1_w25, ← ov_set]
  exact sJ_c (ov_in (m := m) (a := a) (c := o1 a F A) (off := 25) rfl (by omega)) h0 (by omega) (by omega)
theorem o1_w26 {a : Nat} {F : Nat → Int} {A : Nat → Int → Int} {x : Int → Int} : up1 (o1 a F A) 26 (some (eJ 32 (cw x))) = o1 a F (upN A 26 x) := by
  funext off
  match off with
  | 0 => rfl
  | 1 => rfl
  | 2 => rfl
  | 3 => rfl
  | 4 => rfl
  | 5 => rfl
  | 6 => rfl
  | 7 => rfl
  | 8 => rfl
  | 9 => rfl
  | 10 => rfl
  | 11 => rfl
  | 12 => rfl
  | 13 => rfl
  | 14 => rfl
  | 15 => rfl
  | 16 => rfl
  | 17 => rfl
  | 18 => rfl
  | 19 => rfl
  | 20 => rfl
  | 21 => rfl
  | 22 => rfl
  | 23 => rfl
  | 24 => rfl
  | 25 => rfl
  | 26 => rfl
  | 27 => rfl
  | 28 => rfl
  | 29 => rfl
  | 30 => rfl
  | 31 => rfl
  | k + 32 => rfl
theorem o1_l26 {m : Mm} {a : Nat} {F : Nat → Int} {A : Nat → Int → Int} (hl : a + 31 < m.length) {i : Int} (h0 : 0 ≤ i) (h1 : i < 32) : lJ (ov m a (o1 a F A)) (a + 26) (I i) = some (J (A 26 i)) := lJ_c (ov_in (m := m) (a := a) (c := o1 a F A) (off := 26) rfl (by omega)) h0 (by omega) (by omega)
theorem o1_s26 {m : Mm} {a : Nat} {F : Nat → Int} {A : Nat → Int → Int} (hl : a + 31 < m.length) {i v : Int} (h0 : 0 ≤ i) (h1 : i < 32) : sJ (ov m a (o1 a F A)) (a + 26) (I i) (J v) = some (ov m a (o1 a F (upN A 26 (upZ (A 26) i v)))) := by
  rw [← o1_w26, ← ov_set]
  exact sJ_c (ov_in (m := m) (a := a) (c := o1 a F A) (off := 26) rfl (by omega)) h0 (by omega) (by omega)
theorem o1_w27 {a : Nat} {F : Nat → Int} {A : Nat → Int → Int} {x : Int → Int} : up1 (o1 a F A) 27 (some (eJ 32 (cw x))) = o1 a F (upN A 27 x) := by
  funext off
  match off with
  | 0 => rfl
  | 1 => rfl
  | 2 => rfl
  | 3 => rfl
  | 4 => rfl
  | 5 => rfl
  | 6 => rfl
  | 7 => rfl
  | 8 => rfl
  | 9 => rfl
  | 10 => rfl
  | 11 => rfl
  | 12 => rfl
  | 13 => rfl
  | 14 => rfl
  | 15 => rfl
  | 16 => rfl
  | 17 => rfl
  | 18 => rfl
  | 19 => rfl
  | 20 => rfl
  | 21 => rfl
  | 22 => rfl
  | 23 => rfl
  | 24 => rfl
  | 25 => rfl
  | 26 => rfl
  | 27 => rfl
  | 28 => rfl
  | 29 => rfl
  | 30 => rfl
  | 31 => rfl
  | k + 32 => rfl
theorem o1_l27 {m : Mm} {a : Nat} {F : Nat → Int} {A : Nat → Int → Int} (hl : a + 31 < m.length) {i : Int} (h0 : 0 ≤ i) (h1 : i < 32) : lJ (ov m a (o1 a F A)) (a + 27) (I i) = some (J (A 27 i)) := lJ_c (ov_in (m := m) (a := a) (c := o1 a F A) (off := 27) rfl (by omega)) h0 (by omega) (by omega)
theorem o1_s27 {m : Mm} {a : Nat} {F : Nat → Int} {A : Nat → Int → Int} (hl : a + 31 < m.length) {i v : Int} (h0 : 0 ≤ i) (h1 : i < 32) : sJ (ov m a (o1 a F A)) (a + 27) (I i) (J v) = some (ov m a (o1 a F (upN A 27 (upZ (A 27) i v)))) := by
  rw [← o1_w27, ← ov_set]
  exact sJ_c (ov_in (m := m) (a := a) (c := o1 a F A) (off := 27) rfl (by omega)) h0 (by omega) (by omega)
theorem o1_w28 {a : Nat} {F : Nat → Int} {A : Nat → Int → Int} {x : Int → Int} : up1 (o1 a F A) 28 (some (eJ 32 (cw x))) = o1 a F (upN A 28 x) := by
  funext off
  match off with
  | 0 => rfl
  | 1 => rfl
  | 2 => rfl
  | 3 => rfl
  | 4 => rfl
  | 5 => rfl
  | 6 => rfl
  | 7 => rfl
  | 8 => rfl
  | 9 => rfl
  | 10 => rfl
  | 11 => rfl
  | 12 => rfl
  | 13 => rfl
  | 14 => rfl
  | 15 => rfl
  | 16 => rfl
  | 17 => rfl
  | 18 => rfl
  | 19 => rfl
  | 20 => rfl
  | 21 => rfl
  | 22 => rfl
  | 23 => rfl
  | 24 => rfl
  | 25 => rfl
  | 26 => rfl
  | 27 => rfl
  | 28 => rfl
  | 29 => rfl
  | 30 => rfl
  | 31 => rfl
  | k + 32 => rfl
theorem o1_l28 {m : Mm} {a : Nat} {F : Nat → Int} {A : Nat → Int → Int} (hl : a + 31 < m.length) {i : Int} (h0 : 0 ≤ i) (h1 : i < 32) : lJ (ov m a (o1 a F A)) (a + 28) (I i) = some (J (A 28 i)) := lJ_c (ov_in (m := m) (a := a) (c := o1 a F A) (off := 28) rfl (by omega)) h0 (by omega) (by omega)
theorem o1_s28 {m : Mm} {a : Nat} {F : Nat → Int} {A : Nat → Int → Int} (hl : a + 31 < m.length) {i v : Int} (h0 : 0 ≤ i) (h1 : i < 32) : sJ (ov m a (o1 a F A)) (a + 28) (I i) (J v) = some (ov m a (o1 a F (upN A 28 (upZ (A 28) i v)))) := by
  rw [← o1_w28, ← ov_set]
  exact sJ_c (ov_in (m := m) (a := a) (c := o1 a F A) (off := 28) rfl (by omega)) h0 (by omega) (by omega)
theorem o1_w29 {a : Nat} {F : Nat → Int} {A : Nat → Int → Int} {x : Int → Int} : up1 (o1 a F A) 29 (some (eJ 32 (cw x))) = o1 a F (upN A 29 x) := by
  funext off
  match off with
  | 0 => rfl
  | 1 => rfl
  | 2 => rfl
  | 3 => rfl
  | 4 => rfl
  | 5 => rfl
  | 6 => rfl
  | 7 => rfl
  | 8 => rfl
  | 9 => rfl
  | 10 => rfl
  | 11 => rfl
  | 12 => rfl
  | 13 => rfl
  | 14 => rfl
  | 15 => rfl
  | 16 => rfl
  | 17 => rfl
  | 18 => rfl
  | 19 => rfl
  | 20 => rfl
  | 21 => rfl
  | 22 => rfl
  | 23 => rfl
  | 24 => rfl
  | 25 => rfl
  | 26 => rfl
  | 27 => rfl
  | 28 => rfl
  | 29 => rfl
  | 30 => rfl
  | 31 => rfl
  | k + 32 => rfl
theorem o1_l29 {m : Mm} {a : Nat} {F : Nat → Int} {A : Nat → Int → Int} (hl : a + 31 < m.length) {i : Int} (h0 : 0 ≤ i) (h1 : i < 32) : lJ (ov m a (o1 a F A)) (a + 29) (I i) = some (J (A 29 i)) := lJ_c (ov_in (m := m) (a := a) (c := o1 a F A) (off := 29) rfl (by omega)) h0 (by omega) (by omega)
theorem o1_s29 {m : Mm} {a : Nat} {F : Nat → Int} {A : Nat → Int → Int} (hl : a + 31 < m.length) {i v : Int} (h0 : 0 ≤ i) (h1 : i < 32) : sJ (ov m a (o1 a F A)) (a + 29) (I i) (J v) = some (ov m a (o1 a F (upN A 29 (upZ (A 29) i v)))) := by
  rw [← o1_w29, ← ov_set]
  exact sJ_c (ov_in (m := m) (a := a) (c := o1 a F A) (off := 29) rfl (by omega)) h0 (by omega) (by omega)
theorem o1_w30 {a : Nat} {F : Nat → Int} {A : Nat → Int → Int} {x : Int → Int} : up1 (o1 a F A) 30 (some (eI 6 (cv x))) = o1 a F (upN A 30 x) := by
  funext off
  match off with
  | 0 => rfl
  | 1 => rfl
  | 2 => rfl
  | 3 => rfl
  | 4 => rfl
  | 5 => rfl
  | 6 => rfl
  | 7 => rfl
  | 8 => rfl
  | 9 => rfl
  | 10 => rfl
  | 11 => rfl
  | 12 => rfl
  | 13 => rfl
  | 14 => rfl
  | 15 => rfl
  | 16 => rfl
  | 17 => rfl
  | 18 => rfl
  | 19 => rfl
  | 20 => rfl
  | 21 => rfl
  | 22 => rfl
  | 23 => rfl
  | 24 => rfl
  | 25 => rfl
  | 26 => rfl
  | 27 => rfl
  | 28 => rfl
  | 29 => rfl
  | 30 => rfl
  | 31 => rfl
  | k + 32 => rfl
theorem o1_l30 {m : Mm} {a : Nat} {F : Nat → Int} {A : Nat → Int → Int} (hl : a + 31 < m.length) {i : Int} (h0 : 0 ≤ i) (h1 : i < 6) : lI (ov m a (o1 a F A)) (a + 30) (I i) = some (I (A 30 i)) := lI_c (ov_in (m := m) (a := a) (c := o1 a F A) (off := 30) rfl (by omega)) h0 (by omega) (by omega)
theorem o1_s30 {m : Mm} {a : Nat} {F : Nat → Int} {A : Nat → Int → Int} (hl : a + 31 < m.length) {i v : Int} (h0 : 0 ≤ i) (h1 : i < 6) : sI (ov m a (o1 a F A)) (a + 30) (I i) (I v) = some (ov m a (o1 a F (upN A 30 (upZ (A 30) i v)))) := by
  rw [← o1_w30, ← ov_set]
  exact sI_c (ov_in (m := m) (a := a) (c := o1 a F A) (off := 30) rfl (by omega)) h0 (by omega) (by omega)
theorem o1_w31 {a : Nat} {F : Nat → Int} {A : Nat → Int → Int} {x : Int → Int} : up1 (o1 a F A) 31 (some (eJ 6 (cw x))) = o1 a F (upN A 31 x) := by
  funext off
  match off with
  | 0 => rfl
  | 1 => rfl
  | 2 => rfl
  | 3 => rfl
  | 4 => rfl
  | 5 => rfl
  | 6 => rfl
  | 7 => rfl
  | 8 => rfl
  | 9 => rfl
  | 10 => rfl
  | 11 => rfl
  | 12 => rfl
  | 13 => rfl
  | 14 => rfl
  | 15 => rfl
  | 16 => rfl
  | 17 => rfl
  | 18 => rfl
  | 19 => rfl
  | 20 => rfl
  | 21 => rfl
  | 22 => rfl
  | 23 => rfl
  | 24 => rfl
  | 25 => rfl
  | 26 => rfl
  | 27 => rfl
  | 28 => rfl
  | 29 => rfl
  | 30 => rfl
  | 31 => rfl
  | k + 32 => rfl
theorem o1_l31 {m : Mm} {a : Nat} {F : Nat → Int} {A : Nat → Int → Int} (hl : a + 31 < m.length) {i : Int} (h0 : 0 ≤ i) (h1 : i < 6) : lJ (ov m a (o1 a F A)) (a + 31) (I i) = some (J (A 31 i)) := lJ_c (ov_in (m := m) (a := a) (c := o1 a F A) (off := 31) rfl (by omega)) h0 (by omega) (by omega)
theorem o1_s31 {m : Mm} {a : Nat} {F : Nat → Int} {A : Nat → Int → Int} (hl : a + 31 < m.length) {i v : Int} (h0 : 0 ≤ i) (h1 : i < 6) : sJ (ov m a (o1 a F A)) (a + 31) (I i) (J v) = some (ov m a (o1 a F (upN A 31 (upZ (A 31) i v)))) := by
  rw [← o1_w31, ← ov_set]
  exact sJ_c (ov_in (m := m) (a := a) (c := o1 a F A) (off := 31) rfl (by omega)) h0 (by omega) (by omega)
-- TwigMatches$Text: 0 bytes @1, 1 length, 2 reason
def o3 (a : Nat) (F : Nat → Int) (A : Nat → Int → Int) : Nat → Option mE := fun off => match off with
  | 0 => some (eO 3 [.ref (a + 1), .int (I (F 1)), .int (I (F 2))])
  | 1 => some (eI 120 (cv (A 1)))
  | _ => none
theorem o3_N {a : Nat} {F : Nat → Int} {A : Nat → Int → Int} (off : Nat) (h : o3 a F A off ≠ none) : off ≤ 1 := by
  match off, h with
  | 0, _ => exact Nat.le_of_ble_eq_true rfl
  | 1, _ => exact Nat.le_of_ble_eq_true rfl
  | k + 2, h => exact absurd rfl h
theorem o3_c0 {a : Nat} {F : Nat → Int} {A : Nat → Int → Int} {m : Mm} (hl : a + 1 < m.length) : (ov m a (o3 a F A))[a]? = some (eO 3 [.ref (a + 1), .int (I (F 1)), .int (I (F 2))]) := ov_in (off := 0) (c := o3 a F A) rfl (by omega)
theorem o3_cO {α : Type} {x : Option α} {m : Mm} {a : Nat} {F : Nat → Int} {A : Nat → Int → Int} (hl : a + 1 < m.length) : cO (ov m a (o3 a F A)) a 3 x = x := cO_c (o3_c0 hl)
theorem a3_c0 {m : Mm} {a : Nat} {F : Nat → Int} {A : Nat → Int → Int} (h : At m a (o3 a F A)) : m[a]? = some (eO 3 [.ref (a + 1), .int (I (F 1)), .int (I (F 2))]) := h 0 _ rfl
theorem a3_cO {α : Type} {x : Option α} {m : Mm} {a : Nat} {F : Nat → Int} {A : Nat → Int → Int} (h : At m a (o3 a F A)) : cO m a 3 x = x := cO_c (a3_c0 h)
theorem a3_g0 {m : Mm} {a : Nat} {F : Nat → Int} {A : Nat → Int → Int} (h : At m a (o3 a F A)) : gR m a 3 0 = some (a + 1) := gR_c (a3_c0 h) rfl
theorem a3_g1 {m : Mm} {a : Nat} {F : Nat → Int} {A : Nat → Int → Int} (h : At m a (o3 a F A)) : gI m a 3 1 = some (I (F 1)) := gI_c (a3_c0 h) rfl
theorem a3_g2 {m : Mm} {a : Nat} {F : Nat → Int} {A : Nat → Int → Int} (h : At m a (o3 a F A)) : gI m a 3 2 = some (I (F 2)) := gI_c (a3_c0 h) rfl
theorem a3_l1 {m : Mm} {a : Nat} {F : Nat → Int} {A : Nat → Int → Int} (h : At m a (o3 a F A)) {i : Int} (h0 : 0 ≤ i) (h1 : i < 120) : lI m (a + 1) (I i) = some (I (A 1 i)) := lI_c (h 1 _ rfl) h0 (by omega) (by omega)
theorem o3_At {m : Mm} {a : Nat} {F : Nat → Int} {A : Nat → Int → Int} (hl : a + 1 < m.length) : At (ov m a (o3 a F A)) a (o3 a F A) := At.over (N := 1) (fun off e h => o3_N off (by rw [h]; exact fun q => by cases q)) hl
theorem a3_len {m : Mm} {a : Nat} {F : Nat → Int} {A : Nat → Int → Int} (h : At m a (o3 a F A)) : a + 1 < m.length := (List.getElem?_eq_some_iff.mp (h 1 _ rfl)).1
theorem o3_g0 {m : Mm} {a : Nat} {F : Nat → Int} {A : Nat → Int → Int} (hl : a + 1 < m.length) : gR (ov m a (o3 a F A)) a 3 0 = some (a + 1) := gR_c (o3_c0 hl) rfl
theorem o3_g1 {m : Mm} {a : Nat} {F : Nat → Int} {A : Nat → Int → Int} (hl : a + 1 < m.length) : gI (ov m a (o3 a F A)) a 3 1 = some (I (F 1)) := gI_c (o3_c0 hl) rfl
theorem o3_u1 {a : Nat} {F : Nat → Int} {A : Nat → Int → Int} {v : Int} : up1 (o3 a F A) 0 (some (eO 3 [.ref (a + 1), .int (I v), .int (I (F 2))])) = o3 a (upN F 1 v) A := by
  funext off
  match off with
  | 0 => rfl
  | 1 => rfl
  | k + 2 => rfl
theorem o3_p1 {v : Int} {m : Mm} {a : Nat} {F : Nat → Int} {A : Nat → Int → Int} (hl : a + 1 < m.length) : pI (ov m a (o3 a F A)) a 3 1 (I v) = some (ov m a (o3 a (upN F 1 v) A)) := by
  rw [← o3_u1, ← ov_set]
  exact pV_c (o3_c0 hl) (Nat.le_of_ble_eq_true rfl)
theorem o3_g2 {m : Mm} {a : Nat} {F : Nat → Int} {A : Nat → Int → Int} (hl : a + 1 < m.length) : gI (ov m a (o3 a F A)) a 3 2 = some (I (F 2)) := gI_c (o3_c0 hl) rfl
theorem o3_u2 {a : Nat} {F : Nat → Int} {A : Nat → Int → Int} {v : Int} : up1 (o3 a F A) 0 (some (eO 3 [.ref (a + 1), .int (I (F 1)), .int (I v)])) = o3 a (upN F 2 v) A := by
  funext off
  match off with
  | 0 => rfl
  | 1 => rfl
  | k + 2 => rfl
theorem o3_p2 {v : Int} {m : Mm} {a : Nat} {F : Nat → Int} {A : Nat → Int → Int} (hl : a + 1 < m.length) : pI (ov m a (o3 a F A)) a 3 2 (I v) = some (ov m a (o3 a (upN F 2 v) A)) := by
  rw [← o3_u2, ← ov_set]
  exact pV_c (o3_c0 hl) (Nat.le_of_ble_eq_true rfl)
theorem o3_w1 {a : Nat} {F : Nat → Int} {A : Nat → Int → Int} {x : Int → Int} : up1 (o3 a F A) 1 (some (eI 120 (cv x))) = o3 a F (upN A 1 x) := by
  funext off
  match off with
  | 0 => rfl
  | 1 => rfl
  | k + 2 => rfl
theorem o3_l1 {m : Mm} {a : Nat} {F : Nat → Int} {A : Nat → Int → Int} (hl : a + 1 < m.length) {i : Int} (h0 : 0 ≤ i) (h1 : i < 120) : lI (ov m a (o3 a F A)) (a + 1) (I i) = some (I (A 1 i)) := lI_c (ov_in (m := m) (a := a) (c := o3 a F A) (off := 1) rfl (by omega)) h0 (by omega) (by omega)
theorem o3_s1 {m : Mm} {a : Nat} {F : Nat → Int} {A : Nat → Int → Int} (hl : a + 1 < m.length) {i v : Int} (h0 : 0 ≤ i) (h1 : i < 120) : sI (ov m a (o3 a F A)) (a + 1) (I i) (I v) = some (ov m a (o3 a F (upN A 1 (upZ (A 1) i v)))) := by
  rw [← o3_w1, ← ov_set]
  exact sI_c (ov_in (m := m) (a := a) (c := o3 a F A) (off := 1) rfl (by omega)) h0 (by omega) (by omega)
-- TwigMatches$Tree: 0 count, 1 tag @1, 2 value @2, 3 level @3, 4 parent @4, 5 last @5
def o4 (a : Nat) (F : Nat → Int) (A : Nat → Int → Int) : Nat → Option mE := fun off => match off with
  | 0 => some (eO 4 [.int (I (F 0)), .ref (a + 1), .ref (a + 2), .ref (a + 3), .ref (a + 4), .ref (a + 5)])
  | 1 => some (eI 32 (cv (A 1)))
  | 2 => some (eI 32 (cv (A 2)))
  | 3 => some (eI 32 (cv (A 3)))
  | 4 => some (eI 32 (cv (A 4)))
  | 5 => some (eI 32 (cv (A 5)))
  | _ => none
theorem o4_N {a : Nat} {F : Nat → Int} {A : Nat → Int → Int} (off : Nat) (h : o4 a F A off ≠ none) : off ≤ 5 := by
  match off, h with
  | 0, _ => exact Nat.le_of_ble_eq_true rfl
  | 1, _ => exact Nat.le_of_ble_eq_true rfl
  | 2, _ => exact Nat.le_of_ble_eq_true rfl
  | 3, _ => exact Nat.le_of_ble_eq_true rfl
  | 4, _ => exact Nat.le_of_ble_eq_true rfl
  | 5, _ => exact Nat.le_of_ble_eq_true rfl
  | k + 6, h => exact absurd rfl h
theorem o4_c0 {a : Nat} {F : Nat → Int} {A : Nat → Int → Int} {m : Mm} (hl : a + 5 < m.length) : (ov m a (o4 a F A))[a]? = some (eO 4 [.int (I (F 0)), .ref (a + 1), .ref (a + 2), .ref (a + 3), .ref (a + 4), .ref (a + 5)]) := ov_in (off := 0) (c := o4 a F A) rfl (by omega)
theorem o4_cO {α : Type} {x : Option α} {m : Mm} {a : Nat} {F : Nat → Int} {A : Nat → Int → Int} (hl : a + 5 < m.length) : cO (ov m a (o4 a F A)) a 4 x = x := cO_c (o4_c0 hl)
theorem a4_c0 {m : Mm} {a : Nat} {F : Nat → Int} {A : Nat → Int → Int} (h : At m a (o4 a F A)) : m[a]? = some (eO 4 [.int (I (F 0)), .ref (a + 1), .ref (a + 2), .ref (a + 3), .ref (a + 4), .ref (a + 5)]) := h 0 _ rfl
theorem a4_cO {α : Type} {x : Option α} {m : Mm} {a : Nat} {F : Nat → Int} {A : Nat → Int → Int} (h : At m a (o4 a F A)) : cO m a 4 x = x := cO_c (a4_c0 h)
theorem a4_g0 {m : Mm} {a : Nat} {F : Nat → Int} {A : Nat → Int → Int} (h : At m a (o4 a F A)) : gI m a 4 0 = some (I (F 0)) := gI_c (a4_c0 h) rfl
theorem a4_g1 {m : Mm} {a : Nat} {F : Nat → Int} {A : Nat → Int → Int} (h : At m a (o4 a F A)) : gR m a 4 1 = some (a + 1) := gR_c (a4_c0 h) rfl
theorem a4_g2 {m : Mm} {a : Nat} {F : Nat → Int} {A : Nat → Int → Int} (h : At m a (o4 a F A)) : gR m a 4 2 = some (a + 2) := gR_c (a4_c0 h) rfl
theorem a4_g3 {m : Mm} {a : Nat} {F : Nat → Int} {A : Nat → Int → Int} (h : At m a (o4 a F A)) : gR m a 4 3 = some (a + 3) := gR_c (a4_c0 h) rfl
theorem a4_g4 {m : Mm} {a : Nat} {F : Nat → Int} {A : Nat → Int → Int} (h : At m a (o4 a F A)) : gR m a 4 4 = some (a + 4) := gR_c (a4_c0 h) rfl
theorem a4_g5 {m : Mm} {a : Nat} {F : Nat → Int} {A : Nat → Int → Int} (h : At m a (o4 a F A)) : gR m a 4 5 = some (a + 5) := gR_c (a4_c0 h) rfl
theorem a4_l1 {m : Mm} {a : Nat} {F : Nat → Int} {A : Nat → Int → Int} (h : At m a (o4 a F A)) {i : Int} (h0 : 0 ≤ i) (h1 : i < 32) : lI m (a + 1) (I i) = some (I (A 1 i)) := lI_c (h 1 _ rfl) h0 (by omega) (by omega)
theorem a4_l2 {m : Mm} {a : Nat} {F : Nat → Int} {A : Nat → Int → Int} (h : At m a (o4 a F A)) {i : Int} (h0 : 0 ≤ i) (h1 : i < 32) : lI m (a + 2) (I i) = some (I (A 2 i)) := lI_c (h 2 _ rfl) h0 (by omega) (by omega)
theorem a4_l3 {m : Mm} {a : Nat} {F : Nat → Int} {A : Nat → Int → Int} (h : At m a (o4 a F A)) {i : Int} (h0 : 0 ≤ i) (h1 : i < 32) : lI m (a + 3) (I i) = some (I (A 3 i)) := lI_c (h 3 _ rfl) h0 (by omega) (by omega)
theorem a4_l4 {m : Mm} {a : Nat} {F : Nat → Int} {A : Nat → Int → Int} (h : At m a (o4 a F A)) {i : Int} (h0 : 0 ≤ i) (h1 : i < 32) : lI m (a + 4) (I i) = some (I (A 4 i)) := lI_c (h 4 _ rfl) h0 (by omega) (by omega)
theorem a4_l5 {m : Mm} {a : Nat} {F : Nat → Int} {A : Nat → Int → Int} (h : At m a (o4 a F A)) {i : Int} (h0 : 0 ≤ i) (h1 : i < 32) : lI m (a + 5) (I i) = some (I (A 5 i)) := lI_c (h 5 _ rfl) h0 (by omega) (by omega)
theorem o4_At {m : Mm} {a : Nat} {F : Nat → Int} {A : Nat → Int → Int} (hl : a + 5 < m.length) : At (ov m a (o4 a F A)) a (o4 a F A) := At.over (N := 5) (fun off e h => o4_N off (by rw [h]; exact fun q => by cases q)) hl
theorem a4_len {m : Mm} {a : Nat} {F : Nat → Int} {A : Nat → Int → Int} (h : At m a (o4 a F A)) : a + 5 < m.length := (List.getElem?_eq_some_iff.mp (h 5 _ rfl)).1
theorem o4_g0 {m : Mm} {a : Nat} {F : Nat → Int} {A : Nat → Int → Int} (hl : a + 5 < m.length) : gI (ov m a (o4 a F A)) a 4 0 = some (I (F 0)) := gI_c (o4_c0 hl) rfl
theorem o4_u0 {a : Nat} {F : Nat → Int} {A : Nat → Int → Int} {v : Int} : up1 (o4 a F A) 0 (some (eO 4 [.int (I v), .ref (a + 1), .ref (a + 2), .ref (a + 3), .ref (a + 4), .ref (a + 5)])) = o4 a (upN F 0 v) A := by
  funext off
  match off with
  | 0 => rfl
  | 1 => rfl
  | 2 => rfl
  | 3 => rfl
  | 4 => rfl
  | 5 => rfl
  | k + 6 => rfl
theorem o4_p0 {v : Int} {m : Mm} {a : Nat} {F : Nat → Int} {A : Nat → Int → Int} (hl : a + 5 < m.length) : pI (ov m a (o4 a F A)) a 4 0 (I v) = some (ov m a (o4 a (upN F 0 v) A)) := by
  rw [← o4_u0, ← ov_set]
  exact pV_c (o4_c0 hl) (Nat.le_of_ble_eq_true rfl)
theorem o4_g1 {m : Mm} {a : Nat} {F : Nat → Int} {A : Nat → Int → Int} (hl : a + 5 < m.length) : gR (ov m a (o4 a F A)) a 4 1 = some (a + 1) := gR_c (o4_c0 hl) rfl
theorem o4_g2 {m : Mm} {a : Nat} {F : Nat → Int} {A : Nat → Int → Int} (hl : a + 5 < m.length) : gR (ov m a (o4 a F A)) a 4 2 = some (a + 2) := gR_c (o4_c0 hl) rfl
theorem o4_g3 {m : Mm} {a : Nat} {F : Nat → Int} {A : Nat → Int → Int} (hl : a + 5 < m.length) : gR (ov m a (o4 a F A)) a 4 3 = some (a + 3) := gR_c (o4_c0 hl) rfl
theorem o4_g4 {m : Mm} {a : Nat} {F : Nat → Int} {A : Nat → Int → Int} (hl : a + 5 < m.length) : gR (ov m a (o4 a F A)) a 4 4 = some (a + 4) := gR_c (o4_c0 hl) rfl
theorem o4_g5 {m : Mm} {a : Nat} {F : Nat → Int} {A : Nat → Int → Int} (hl : a + 5 < m.length) : gR (ov m a (o4 a F A)) a 4 5 = some (a + 5) := gR_c (o4_c0 hl) rfl
theorem o4_w1 {a : Nat} {F : Nat → Int} {A : Nat → Int → Int} {x : Int → Int} : up1 (o4 a F A) 1 (some (eI 32 (cv x))) = o4 a F (upN A 1 x) := by
  funext off
  match off with
  | 0 => rfl
  | 1 => rfl
  | 2 => rfl
  | 3 => rfl
  | 4 => rfl
  | 5 => rfl
  | k + 6 => rfl
theorem o4_l1 {m : Mm} {a : Nat} {F : Nat → Int} {A : Nat → Int → Int} (hl : a + 5 < m.length) {i : Int} (h0 : 0 ≤ i) (h1 : i < 32) : lI (ov m a (o4 a F A)) (a + 1) (I i) = some (I (A 1 i)) := lI_c (ov_in (m := m) (a := a) (c := o4 a F A) (off := 1) rfl (by omega)) h0 (by omega) (by omega)
theorem o4_s1 {m : Mm} {a : Nat} {F : Nat → Int} {A : Nat → Int → Int} (hl : a + 5 < m.length) {i v : Int} (h0 : 0 ≤ i) (h1 : i < 32) : sI (ov m a (o4 a F A)) (a + 1) (I i) (I v) = some (ov m a (o4 a F (upN A 1 (upZ (A 1) i v)))) := by
  rw [← o4_w1, ← ov_set]
  exact sI_c (ov_in (m := m) (a := a) (c := o4 a F A) (off := 1) rfl (by omega)) h0 (by omega) (by omega)
theorem o4_w2 {a : Nat} {F : Nat → Int} {A : Nat → Int → Int} {x : Int → Int} : up1 (o4 a F A) 2 (some (eI 32 (cv x))) = o4 a F (upN A 2 x) := by
  funext off
  match off with
  | 0 => rfl
  | 1 => rfl
  | 2 => rfl
  | 3 => rfl
  | 4 => rfl
  | 5 => rfl
  | k + 6 => rfl
theorem o4_l2 {m : Mm} {a : Nat} {F : Nat → Int} {A : Nat → Int → Int} (hl : a + 5 < m.length) {i : Int} (h0 : 0 ≤ i) (h1 : i < 32) : lI (ov m a (o4 a F A)) (a + 2) (I i) = some (I (A 2 i)) := lI_c (ov_in (m := m) (a := a) (c := o4 a F A) (off := 2) rfl (by omega)) h0 (by omega) (by omega)
theorem o4_s2 {m : Mm} {a : Nat} {F : Nat → Int} {A : Nat → Int → Int} (hl : a + 5 < m.length) {i v : Int} (h0 : 0 ≤ i) (h1 : i < 32) : sI (ov m a (o4 a F A)) (a + 2) (I i) (I v) = some (ov m a (o4 a F (upN A 2 (upZ (A 2) i v)))) := by
  rw [← o4_w2, ← ov_set]
  exact sI_c (ov_in (m := m) (a := a) (c := o4 a F A) (off := 2) rfl (by omega)) h0 (by omega) (by omega)
theorem o4_w3 {a : Nat} {F : Nat → Int} {A : Nat → Int → Int} {x : Int → Int} : up1 (o4 a F A) 3 (some (eI 32 (cv x))) = o4 a F (upN A 3 x) := by
  funext off
  match off with
  | 0 => rfl
  | 1 => rfl
  | 2 => rfl
  | 3 => rfl
  | 4 => rfl
  | 5 => rfl
  | k + 6 => rfl
theorem o4_l3 {m : Mm} {a : Nat} {F : Nat → Int} {A : Nat → Int → Int} (hl : a + 5 < m.length) {i : Int} (h0 : 0 ≤ i) (h1 : i < 32) : lI (ov m a (o4 a F A)) (a + 3) (I i) = some (I (A 3 i)) := lI_c (ov_in (m := m) (a := a) (c := o4 a F A) (off := 3) rfl (by omega)) h0 (by omega) (by omega)
theorem o4_s3 {m : Mm} {a : Nat} {F : Nat → Int} {A : Nat → Int → Int} (hl : a + 5 < m.length) {i v : Int} (h0 : 0 ≤ i) (h1 : i < 32) : sI (ov m a (o4 a F A)) (a + 3) (I i) (I v) = some (ov m a (o4 a F (upN A 3 (upZ (A 3) i v)))) := by
  rw [← o4_w3, ← ov_set]
  exact sI_c (ov_in (m := m) (a := a) (c := o4 a F A) (off := 3) rfl (by omega)) h0 (by omega) (by omega)
theorem o4_w4 {a : Nat} {F : Nat → Int} {A : Nat → Int → Int} {x : Int → Int} : up1 (o4 a F A) 4 (some (eI 32 (cv x))) = o4 a F (upN A 4 x) := by
  funext off
  match off with
  | 0 => rfl
  | 1 => rfl
  | 2 => rfl
  | 3 => rfl
  | 4 => rfl
  | 5 => rfl
  | k + 6 => rfl
theorem o4_l4 {m : Mm} {a : Nat} {F : Nat → Int} {A : Nat → Int → Int} (hl : a + 5 < m.length) {i : Int} (h0 : 0 ≤ i) (h1 : i < 32) : lI (ov m a (o4 a F A)) (a + 4) (I i) = some (I (A 4 i)) := lI_c (ov_in (m := m) (a := a) (c := o4 a F A) (off := 4) rfl (by omega)) h0 (by omega) (by omega)
theorem o4_s4 {m : Mm} {a : Nat} {F : Nat → Int} {A : Nat → Int → Int} (hl : a + 5 < m.length) {i v : Int} (h0 : 0 ≤ i) (h1 : i < 32) : sI (ov m a (o4 a F A)) (a + 4) (I i) (I v) = some (ov m a (o4 a F (upN A 4 (upZ (A 4) i v)))) := by
  rw [← o4_w4, ← ov_set]
  exact sI_c (ov_in (m := m) (a := a) (c := o4 a F A) (off := 4) rfl (by omega)) h0 (by omega) (by omega)
theorem o4_w5 {a : Nat} {F : Nat → Int} {A : Nat → Int → Int} {x : Int → Int} : up1 (o4 a F A) 5 (some (eI 32 (cv x))) = o4 a F (upN A 5 x) := by
  funext off
  match off with
  | 0 => rfl
  | 1 => rfl
  | 2 => rfl
  | 3 => rfl
  | 4 => rfl
  | 5 => rfl
  | k + 6 => rfl
theorem o4_l5 {m : Mm} {a : Nat} {F : Nat → Int} {A : Nat → Int → Int} (hl : a + 5 < m.length) {i : Int} (h0 : 0 ≤ i) (h1 : i < 32) : lI (ov m a (o4 a F A)) (a + 5) (I i) = some (I (A 5 i)) := lI_c (ov_in (m := m) (a := a) (c := o4 a F A) (off := 5) rfl (by omega)) h0 (by omega) (by omega)
theorem o4_s5 {m : Mm} {a : Nat} {F : Nat → Int} {A : Nat → Int → Int} (hl : a + 5 < m.length) {i v : Int} (h0 : 0 ≤ i) (h1 : i < 32) : sI (ov m a (o4 a F A)) (a + 5) (I i) (I v) = some (ov m a (o4 a F (upN A 5 (upZ (A 5) i v)))) := by
  rw [← o4_w5, ← ov_set]
  exact sI_c (ov_in (m := m) (a := a) (c := o4 a F A) (off := 5) rfl (by omega)) h0 (by omega) (by omega)
-- TwigMatches$Twig: 0 count, 1 tag @1, 2 sign @2, 3 digit @3, 4 edge @4, 5 ordered @5, 6 above @6
def o5 (a : Nat) (F : Nat → Int) (A : Nat → Int → Int) : Nat → Option mE := fun off => match off with
  | 0 => some (eO 5 [.int (I (F 0)), .ref (a + 1), .ref (a + 2), .ref (a + 3), .ref (a + 4), .ref (a + 5), .ref (a + 6)])
  | 1 => some (eI 6 (cv (A 1)))
  | 2 => some (eI 6 (cv (A 2)))
  | 3 => some (eI 6 (cv (A 3)))
  | 4 => some (eI 6 (cv (A 4)))
  | 5 => some (eI 6 (cv (A 5)))
  | 6 => some (eI 6 (cv (A 6)))
  | _ => none
theorem o5_N {a : Nat} {F : Nat → Int} {A : Nat → Int → Int} (off : Nat) (h : o5 a F A off ≠ none) : off ≤ 6 := by
  match off, h with
  | 0, _ => exact Nat.le_of_ble_eq_true rfl
  | 1, _ => exact Nat.le_of_ble_eq_true rfl
  | 2, _ => exact Nat.le_of_ble_eq_true rfl
  | 3, _ => exact Nat.le_of_ble_eq_true rfl
  | 4, _ => exact Nat.le_of_ble_eq_true rfl
  | 5, _ => exact Nat.le_of_ble_eq_true rfl
  | 6, _ => exact Nat.le_of_ble_eq_true rfl
  | k + 7, h => exact absurd rfl h
theorem o5_c0 {a : Nat} {F : Nat → Int} {A : Nat → Int → Int} {m : Mm} (hl : a + 6 < m.length) : (ov m a (o5 a F A))[a]? = some (eO 5 [.int (I (F 0)), .ref (a + 1), .ref (a + 2), .ref (a + 3), .ref (a + 4), .ref (a + 5), .ref (a + 6)]) := ov_in (off := 0) (c := o5 a F A) rfl (by omega)
theorem o5_cO {α : Type} {x : Option α} {m : Mm} {a : Nat} {F : Nat → Int} {A : Nat → Int → Int} (hl : a + 6 < m.length) : cO (ov m a (o5 a F A)) a 5 x = x := cO_c (o5_c0 hl)
theorem a5_c0 {m : Mm} {a : Nat} {F : Nat → Int} {A : Nat → Int → Int} (h : At m a (o5 a F A)) : m[a]? = some (eO 5 [.int (I (F 0)), .ref (a + 1), .ref (a + 2), .ref (a + 3), .ref (a + 4), .ref (a + 5), .ref (a + 6)]) := h 0 _ rfl
theorem a5_cO {α : Type} {x : Option α} {m : Mm} {a : Nat} {F : Nat → Int} {A : Nat → Int → Int} (h : At m a (o5 a F A)) : cO m a 5 x = x := cO_c (a5_c0 h)
theorem a5_g0 {m : Mm} {a : Nat} {F : Nat → Int} {A : Nat → Int → Int} (h : At m a (o5 a F A)) : gI m a 5 0 = some (I (F 0)) := gI_c (a5_c0 h) rfl
theorem a5_g1 {m : Mm} {a : Nat} {F : Nat → Int} {A : Nat → Int → Int} (h : At m a (o5 a F A)) : gR m a 5 1 = some (a + 1) := gR_c (a5_c0 h) rfl
theorem a5_g2 {m : Mm} {a : Nat} {F : Nat → Int} {A : Nat → Int → Int} (h : At m a (o5 a F A)) : gR m a 5 2 = some (a + 2) := gR_c (a5_c0 h) rfl
theorem a5_g3 {m : Mm} {a : Nat} {F : Nat → Int} {A : Nat → Int → Int} (h : At m a (o5 a F A)) : gR m a 5 3 = some (a + 3) := gR_c (a5_c0 h) rfl
theorem a5_g4 {m : Mm} {a : Nat} {F : Nat → Int} {A : Nat → Int → Int} (h : At m a (o5 a F A)) : gR m a 5 4 = some (a + 4) := gR_c (a5_c0 h) rfl
theorem a5_g5 {m : Mm} {a : Nat} {F : Nat → Int} {A : Nat → Int → Int} (h : At m a (o5 a F A)) : gR m a 5 5 = some (a + 5) := gR_c (a5_c0 h) rfl
theorem a5_g6 {m : Mm} {a : Nat} {F : Nat → Int} {A : Nat → Int → Int} (h : At m a (o5 a F A)) : gR m a 5 6 = some (a + 6) := gR_c (a5_c0 h) rfl
theorem a5_l1 {m : Mm} {a : Nat} {F : Nat → Int} {A : Nat → Int → Int} (h : At m a (o5 a F A)) {i : Int} (h0 : 0 ≤ i) (h1 : i < 6) : lI m (a + 1) (I i) = some (I (A 1 i)) := lI_c (h 1 _ rfl) h0 (by omega) (by omega)
theorem a5_l2 {m : Mm} {a : Nat} {F : Nat → Int} {A : Nat → Int → Int} (h : At m a (o5 a F A)) {i : Int} (h0 : 0 ≤ i) (h1 : i < 6) : lI m (a + 2) (I i) = some (I (A 2 i)) := lI_c (h 2 _ rfl) h0 (by omega) (by omega)
theorem a5_l3 {m : Mm} {a : Nat} {F : Nat → Int} {A : Nat → Int → Int} (h : At m a (o5 a F A)) {i : Int} (h0 : 0 ≤ i) (h1 : i < 6) : lI m (a + 3) (I i) = some (I (A 3 i)) := lI_c (h 3 _ rfl) h0 (by omega) (by omega)
theorem a5_l4 {m : Mm} {a : Nat} {F : Nat → Int} {A : Nat → Int → Int} (h : At m a (o5 a F A)) {i : Int} (h0 : 0 ≤ i) (h1 : i < 6) : lI m (a + 4) (I i) = some (I (A 4 i)) := lI_c (h 4 _ rfl) h0 (by omega) (by omega)
theorem a5_l5 {m : Mm} {a : Nat} {F : Nat → Int} {A : Nat → Int → Int} (h : At m a (o5 a F A)) {i : Int} (h0 : 0 ≤ i) (h1 : i < 6) : lI m (a + 5) (I i) = some (I (A 5 i)) := lI_c (h 5 _ rfl) h0 (by omega) (by omega)
theorem a5_l6 {m : Mm} {a : Nat} {F : Nat → Int} {A : Nat → Int → Int} (h : At m a (o5 a F A)) {i : Int} (h0 : 0 ≤ i) (h1 : i < 6) : lI m (a + 6) (I i) = some (I (A 6 i)) := lI_c (h 6 _ rfl) h0 (by omega) (by omega)
theorem o5_At {m : Mm} {a : Nat} {F : Nat → Int} {A : Nat → Int → Int} (hl : a + 6 < m.length) : At (ov m a (o5 a F A)) a (o5 a F A) := At.over (N := 6) (fun off e h => o5_N off (by rw [h]; exact fun q => by cases q)) hl
theorem a5_len {m : Mm} {a : Nat} {F : Nat → Int} {A : Nat → Int → Int} (h : At m a (o5 a F A)) : a + 6 < m.length := (List.getElem?_eq_some_iff.mp (h 6 _ rfl)).1
theorem o5_g0 {m : Mm} {a : Nat} {F : Nat → Int} {A : Nat → Int → Int} (hl : a + 6 < m.length) : gI (ov m a (o5 a F A)) a 5 0 = some (I (F 0)) := gI_c (o5_c0 hl) rfl
theorem o5_u0 {a : Nat} {F : Nat → Int} {A : Nat → Int → Int} {v : Int} : up1 (o5 a F A) 0 (some (eO 5 [.int (I v), .ref (a + 1), .ref (a + 2), .ref (a + 3), .ref (a + 4), .ref (a + 5), .ref (a + 6)])) = o5 a (upN F 0 v) A := by
  funext off
  match off with
  | 0 => rfl
  | 1 => rfl
  | 2 => rfl
  | 3 => rfl
  | 4 => rfl
  | 5 => rfl
  | 6 => rfl
  | k + 7 => rfl
theorem o5_p0 {v : Int} {m : Mm} {a : Nat} {F : Nat → Int} {A : Nat → Int → Int} (hl : a + 6 < m.length) : pI (ov m a (o5 a F A)) a 5 0 (I v) = some (ov m a (o5 a (upN F 0 v) A)) := by
  rw [← o5_u0, ← ov_set]
  exact pV_c (o5_c0 hl) (Nat.le_of_ble_eq_true rfl)
theorem o5_g1 {m : Mm} {a : Nat} {F : Nat → Int} {A : Nat → Int → Int} (hl : a + 6 < m.length) : gR (ov m a (o5 a F A)) a 5 1 = some (a + 1) := gR_c (o5_c0 hl) rfl
theorem o5_g2 {m : Mm} {a : Nat} {F : Nat → Int} {A : Nat → Int → Int} (hl : a + 6 < m.length) : gR (ov m a (o5 a F A)) a 5 2 = some (a + 2) := gR_c (o5_c0 hl) rfl
theorem o5_g3 {m : Mm} {a : Nat} {F : Nat → Int} {A : Nat → Int → Int} (hl : a + 6 < m.length) : gR (ov m a (o5 a F A)) a 5 3 = some (a + 3) := gR_c (o5_c0 hl) rfl
theorem o5_g4 {m : Mm} {a : Nat} {F : Nat → Int} {A : Nat → Int → Int} (hl : a + 6 < m.length) : gR (ov m a (o5 a F A)) a 5 4 = some (a + 4) := gR_c (o5_c0 hl) rfl
theorem o5_g5 {m : Mm} {a : Nat} {F : Nat → Int} {A : Nat → Int → Int} (hl : a + 6 < m.length) : gR (ov m a (o5 a F A)) a 5 5 = some (a + 5) := gR_c (o5_c0 hl) rfl
theorem o5_g6 {m : Mm} {a : Nat} {F : Nat → Int} {A : Nat → Int → Int} (hl : a + 6 < m.length) : gR (ov m a (o5 a F A)) a 5 6 = some (a + 6) := gR_c (o5_c0 hl) rfl
theorem o5_w1 {a : Nat} {F : Nat → Int} {A : Nat → Int → Int} {x : Int → Int} : up1 (o5 a F A) 1 (some (eI 6 (cv x))) = o5 a F (upN A 1 x) := by
  funext off
  match off with
  | 0 => rfl
  | 1 => rfl
  | 2 => rfl
  | 3 => rfl
  | 4 => rfl
  | 5 => rfl
  | 6 => rfl
  | k + 7 => rfl
theorem o5_l1 {m : Mm} {a : Nat} {F : Nat → Int} {A : Nat → Int → Int} (hl : a + 6 < m.length) {i : Int} (h0 : 0 ≤ i) (h1 : i < 6) : lI (ov m a (o5 a F A)) (a + 1) (I i) = some (I (A 1 i)) := lI_c (ov_in (m := m) (a := a) (c := o5 a F A) (off := 1) rfl (by omega)) h0 (by omega) (by omega)
theorem o5_s1 {m : Mm} {a : Nat} {F : Nat → Int} {A : Nat → Int → Int} (hl : a + 6 < m.length) {i v : Int} (h0 : 0 ≤ i) (h1 : i < 6) : sI (ov m a (o5 a F A)) (a + 1) (I i) (I v) = some (ov m a (o5 a F (upN A 1 (upZ (A 1) i v)))) := by
  rw [← o5_w1, ← ov_set]
  exact sI_c (ov_in (m := m) (a := a) (c := o5 a F A) (off := 1) rfl (by omega)) h0 (by omega) (by omega)
theorem o5_w2 {a : Nat} {F : Nat → Int} {A : Nat → Int → Int} {x : Int → Int} : up1 (o5 a F A) 2 (some (eI 6 (cv x))) = o5 a F (upN A 2 x) := by
  funext off
  match off with
  | 0 => rfl
  | 1 => rfl
  | 2 => rfl
  | 3 => rfl
  | 4 => rfl
  | 5 => rfl
  | 6 => rfl
  | k + 7 => rfl
theorem o5_l2 {m : Mm} {a : Nat} {F : Nat → Int} {A : Nat → Int → Int} (hl : a + 6 < m.length) {i : Int} (h0 : 0 ≤ i) (h1 : i < 6) : lI (ov m a (o5 a F A)) (a + 2) (I i) = some (I (A 2 i)) := lI_c (ov_in (m := m) (a := a) (c := o5 a F A) (off := 2) rfl (by omega)) h0 (by omega) (by omega)
theorem o5_s2 {m : Mm} {a : Nat} {F : Nat → Int} {A : Nat → Int → Int} (hl : a + 6 < m.length) {i v : Int} (h0 : 0 ≤ i) (h1 : i < 6) : sI (ov m a (o5 a F A)) (a + 2) (I i) (I v) = some (ov m a (o5 a F (upN A 2 (upZ (A 2) i v)))) := by
  rw [← o5_w2, ← ov_set]
  exact sI_c (ov_in (m := m) (a := a) (c := o5 a F A) (off := 2) rfl (by omega)) h0 (by omega) (by omega)
theorem o5_w3 {a : Nat} {F : Nat → Int} {A : Nat → Int → Int} {x : Int → Int} : up1 (o5 a F A) 3 (some (eI 6 (cv x))) = o5 a F (upN A 3 x) := by
  funext off
  match off with
  | 0 => rfl
  | 1 => rfl
  | 2 => rfl
  | 3 => rfl
  | 4 => rfl
  | 5 => rfl
  | 6 => rfl
  | k + 7 => rfl
theorem o5_l3 {m : Mm} {a : Nat} {F : Nat → Int} {A : Nat → Int → Int} (hl : a + 6 < m.length) {i : Int} (h0 : 0 ≤ i) (h1 : i < 6) : lI (ov m a (o5 a F A)) (a + 3) (I i) = some (I (A 3 i)) := lI_c (ov_in (m := m) (a := a) (c := o5 a F A) (off := 3) rfl (by omega)) h0 (by omega) (by omega)
theorem o5_s3 {m : Mm} {a : Nat} {F : Nat → Int} {A : Nat → Int → Int} (hl : a + 6 < m.length) {i v : Int} (h0 : 0 ≤ i) (h1 : i < 6) : sI (ov m a (o5 a F A)) (a + 3) (I i) (I v) = some (ov m a (o5 a F (upN A 3 (upZ (A 3) i v)))) := by
  rw [← o5_w3, ← ov_set]
  exact sI_c (ov_in (m := m) (a := a) (c := o5 a F A) (off := 3) rfl (by omega)) h0 (by omega) (by omega)
theorem o5_w4 {a : Nat} {F : Nat → Int} {A : Nat → Int → Int} {x : Int → Int} : up1 (o5 a F A) 4 (some (eI 6 (cv x))) = o5 a F (upN A 4 x) := by
  funext off
  match off with
  | 0 => rfl
  | 1 => rfl
  | 2 => rfl
  | 3 => rfl
  | 4 => rfl
  | 5 => rfl
  | 6 => rfl
  | k + 7 => rfl
theorem o5_l4 {m : Mm} {a : Nat} {F : Nat → Int} {A : Nat → Int → Int} (hl : a + 6 < m.length) {i : Int} (h0 : 0 ≤ i) (h1 : i < 6) : lI (ov m a (o5 a F A)) (a + 4) (I i) = some (I (A 4 i)) := lI_c (ov_in (m := m) (a := a) (c := o5 a F A) (off := 4) rfl (by omega)) h0 (by omega) (by omega)
theorem o5_s4 {m : Mm} {a : Nat} {F : Nat → Int} {A : Nat → Int → Int} (hl : a + 6 < m.length) {i v : Int} (h0 : 0 ≤ i) (h1 : i < 6) : sI (ov m a (o5 a F A)) (a + 4) (I i) (I v) = some (ov m a (o5 a F (upN A 4 (upZ (A 4) i v)))) := by
  rw [← o5_w4, ← ov_set]
  exact sI_c (ov_in (m := m) (a := a) (c := o5 a F A) (off := 4) rfl (by omega)) h0 (by omega) (by omega)
theorem o5_w5 {a : Nat} {F : Nat → Int} {A : Nat → Int → Int} {x : Int → Int} : up1 (o5 a F A) 5 (some (eI 6 (cv x))) = o5 a F (upN A 5 x) := by
  funext off
  match off with
  | 0 => rfl
  | 1 => rfl
  | 2 => rfl
  | 3 => rfl
  | 4 => rfl
  | 5 => rfl
  | 6 => rfl
  | k + 7 => rfl
theorem o5_l5 {m : Mm} {a : Nat} {F : Nat → Int} {A : Nat → Int → Int} (hl : a + 6 < m.length) {i : Int} (h0 : 0 ≤ i) (h1 : i < 6) : lI (ov m a (o5 a F A)) (a + 5) (I i) = some (I (A 5 i)) := lI_c (ov_in (m := m) (a := a) (c := o5 a F A) (off := 5) rfl (by omega)) h0 (by omega) (by omega)
theorem o5_s5 {m : Mm} {a : Nat} {F : Nat → Int} {A : Nat → Int → Int} (hl : a + 6 < m.length) {i v : Int} (h0 : 0 ≤ i) (h1 : i < 6) : sI (ov m a (o5 a F A)) (a + 5) (I i) (I v) = some (ov m a (o5 a F (upN A 5 (upZ (A 5) i v)))) := by
  rw [← o5_w5, ← ov_set]
  exact sI_c (ov_in (m := m) (a := a) (c := o5 a F A) (off := 5) rfl (by omega)) h0 (by omega) (by omega)
theorem o5_w6 {a : Nat} {F : Nat → Int} {A : Nat → Int → Int} {x : Int → Int} : up1 (o5 a F A) 6 (some (eI 6 (cv x))) = o5 a F (upN A 6 x) := by
  funext off
  match off with
  | 0 => rfl
  | 1 => rfl
  | 2 => rfl
  | 3 => rfl
  | 4 => rfl
  | 5 => rfl
  | 6 => rfl
  | k + 7 => rfl
theorem o5_l6 {m : Mm} {a : Nat} {F : Nat → Int} {A : Nat → Int → Int} (hl : a + 6 < m.length) {i : Int} (h0 : 0 ≤ i) (h1 : i < 6) : lI (ov m a (o5 a F A)) (a + 6) (I i) = some (I (A 6 i)) := lI_c (ov_in (m := m) (a := a) (c := o5 a F A) (off := 6) rfl (by omega)) h0 (by omega) (by omega)
theorem o5_s6 {m : Mm} {a : Nat} {F : Nat → Int} {A : Nat → Int → Int} (hl : a + 6 < m.length) {i v : Int} (h0 : 0 ≤ i) (h1 : i < 6) : sI (ov m a (o5 a F A)) (a + 6) (I i) (I v) = some (ov m a (o5 a F (upN A 6 (upZ (A 6) i v)))) := by
  rw [← o5_w6, ← ov_set]
  exact sI_c (ov_in (m := m) (a := a) (c := o5 a F A) (off := 6) rfl (by omega)) h0 (by omega) (by omega)
-- TwigMatches$Writer: 0 wanted, 1 written, 2 caught
def o6 (a : Nat) (F : Nat → Int) (A : Nat → Int → Int) : Nat → Option mE := fun off => match off with
  | 0 => some (eO 6 [.int (I (F 0)), .int (I (F 1)), .int (I (F 2))])
  | _ => none
theorem o6_N {a : Nat} {F : Nat → Int} {A : Nat → Int → Int} (off : Nat) (h : o6 a F A off ≠ none) : off ≤ 0 := by
  match off, h with
  | 0, _ => exact Nat.le_of_ble_eq_true rfl
  | k + 1, h => exact absurd rfl h
theorem o6_c0 {a : Nat} {F : Nat → Int} {A : Nat → Int → Int} {m : Mm} (hl : a + 0 < m.length) : (ov m a (o6 a F A))[a]? = some (eO 6 [.int (I (F 0)), .int (I (F 1)), .int (I (F 2))]) := ov_in (off := 0) (c := o6 a F A) rfl (by omega)
theorem o6_cO {α : Type} {x : Option α} {m : Mm} {a : Nat} {F : Nat → Int} {A : Nat → Int → Int} (hl : a + 0 < m.length) : cO (ov m a (o6 a F A)) a 6 x = x := cO_c (o6_c0 hl)
theorem a6_c0 {m : Mm} {a : Nat} {F : Nat → Int} {A : Nat → Int → Int} (h : At m a (o6 a F A)) : m[a]? = some (eO 6 [.int (I (F 0)), .int (I (F 1)), .int (I (F 2))]) := h 0 _ rfl
theorem a6_cO {α : Type} {x : Option α} {m : Mm} {a : Nat} {F : Nat → Int} {A : Nat → Int → Int} (h : At m a (o6 a F A)) : cO m a 6 x = x := cO_c (a6_c0 h)
theorem a6_g0 {m : Mm} {a : Nat} {F : Nat → Int} {A : Nat → Int → Int} (h : At m a (o6 a F A)) : gI m a 6 0 = some (I (F 0)) := gI_c (a6_c0 h) rfl
theorem a6_g1 {m : Mm} {a : Nat} {F : Nat → Int} {A : Nat → Int → Int} (h : At m a (o6 a F A)) : gI m a 6 1 = some (I (F 1)) := gI_c (a6_c0 h) rfl
theorem a6_g2 {m : Mm} {a : Nat} {F : Nat → Int} {A : Nat → Int → Int} (h : At m a (o6 a F A)) : gI m a 6 2 = some (I (F 2)) := gI_c (a6_c0 h) rfl
theorem o6_At {m : Mm} {a : Nat} {F : Nat → Int} {A : Nat → Int → Int} (hl : a + 0 < m.length) : At (ov m a (o6 a F A)) a (o6 a F A) := At.over (N := 0) (fun off e h => o6_N off (by rw [h]; exact fun q => by cases q)) hl
theorem a6_len {m : Mm} {a : Nat} {F : Nat → Int} {A : Nat → Int → Int} (h : At m a (o6 a F A)) : a + 0 < m.length := (List.getElem?_eq_some_iff.mp (h 0 _ rfl)).1
theorem o6_g0 {m : Mm} {a : Nat} {F : Nat → Int} {A : Nat → Int → Int} (hl : a + 0 < m.length) : gI (ov m a (o6 a F A)) a 6 0 = some (I (F 0)) := gI_c (o6_c0 hl) rfl
theorem o6_u0 {a : Nat} {F : Nat → Int} {A : Nat → Int → Int} {v : Int} : up1 (o6 a F A) 0 (some (eO 6 [.int (I v), .int (I (F 1)), .int (I (F 2))])) = o6 a (upN F 0 v) A := by
  funext off
  match off with
  | 0 => rfl
  | k + 1 => rfl
theorem o6_p0 {v : Int} {m : Mm} {a : Nat} {F : Nat → Int} {A : Nat → Int → Int} (hl : a + 0 < m.length) : pI (ov m a (o6 a F A)) a 6 0 (I v) = some (ov m a (o6 a (upN F 0 v) A)) := by
  rw [← o6_u0, ← ov_set]
  exact pV_c (o6_c0 hl) (Nat.le_of_ble_eq_true rfl)
theorem o6_g1 {m : Mm} {a : Nat} {F : Nat → Int} {A : Nat → Int → Int} (hl : a + 0 < m.length) : gI (ov m a (o6 a F A)) a 6 1 = some (I (F 1)) := gI_c (o6_c0 hl) rfl
theorem o6_u1 {a : Nat} {F : Nat → Int} {A : Nat → Int → Int} {v : Int} : up1 (o6 a F A) 0 (some (eO 6 [.int (I (F 0)), .int (I v), .int (I (F 2))])) = o6 a (upN F 1 v) A := by
  funext off
  match off with
  | 0 => rfl
  | k + 1 => rfl
theorem o6_p1 {v : Int} {m : Mm} {a : Nat} {F : Nat → Int} {A : Nat → Int → Int} (hl : a + 0 < m.length) : pI (ov m a (o6 a F A)) a 6 1 (I v) = some (ov m a (o6 a (upN F 1 v) A)) := by
  rw [← o6_u1, ← ov_set]
  exact pV_c (o6_c0 hl) (Nat.le_of_ble_eq_true rfl)
theorem o6_g2 {m : Mm} {a : Nat} {F : Nat → Int} {A : Nat → Int → Int} (hl : a + 0 < m.length) : gI (ov m a (o6 a F A)) a 6 2 = some (I (F 2)) := gI_c (o6_c0 hl) rfl
theorem o6_u2 {a : Nat} {F : Nat → Int} {A : Nat → Int → Int} {v : Int} : up1 (o6 a F A) 0 (some (eO 6 [.int (I (F 0)), .int (I (F 1)), .int (I v)])) = o6 a (upN F 2 v) A := by
  funext off
  match off with
  | 0 => rfl
  | k + 1 => rfl
theorem o6_p2 {v : Int} {m : Mm} {a : Nat} {F : Nat → Int} {A : Nat → Int → Int} (hl : a + 0 < m.length) : pI (ov m a (o6 a F A)) a 6 2 (I v) = some (ov m a (o6 a (upN F 2 v) A)) := by
  rw [← o6_u2, ← ov_set]
  exact pV_c (o6_c0 hl) (Nat.le_of_ble_eq_true rfl)
-- TwigMatches: 0 now, 1 kept, 2 oldestKept, 3 keptCount, 4 text, 5 draftTree, 6 draftTwig, 7 matcher, 8 mapping, 9 writer, 10 badCount, 11 noCount, 12 fullCount
def o7 (a : Nat) (F : Nat → Int) (A : Nat → Int → Int) : Nat → Option mE := fun off => match off with
  | 0 => some (eO 7 [.ref 1, .ref 37, .int (I (F 2)), .int (I (F 3)), .ref 38, .ref 40, .ref 46, .ref 53, .ref 85, .ref 87, .int (I (F 10)), .int (I (F 11)), .int (I (F 12))])
  | _ => none
theorem o7_N {a : Nat} {F : Nat → Int} {A : Nat → Int → Int} (off : Nat) (h : o7 a F A off ≠ none) : off ≤ 0 := by
  match off, h with
  | 0, _ => exact Nat.le_of_ble_eq_true rfl
  | k + 1, h => exact absurd rfl h
theorem o7_c0 {a : Nat} {F : Nat → Int} {A : Nat → Int → Int} {m : Mm} (hl : a + 0 < m.length) : (ov m a (o7 a F A))[a]? = some (eO 7 [.ref 1, .ref 37, .int (I (F 2)), .int (I (F 3)), .ref 38, .ref 40, .ref 46, .ref 53, .ref 85, .ref 87, .int (I (F 10)), .int (I (F 11)), .int (I (F 12))]) := ov_in (off := 0) (c := o7 a F A) rfl (by omega)
theorem o7_cO {α : Type} {x : Option α} {m : Mm} {a : Nat} {F : Nat → Int} {A : Nat → Int → Int} (hl : a + 0 < m.length) : cO (ov m a (o7 a F A)) a 7 x = x := cO_c (o7_c0 hl)
theorem a7_c0 {m : Mm} {a : Nat} {F : Nat → Int} {A : Nat → Int → Int} (h : At m a (o7 a F A)) : m[a]? = some (eO 7 [.ref 1, .ref 37, .int (I (F 2)), .int (I (F 3)), .ref 38, .ref 40, .ref 46, .ref 53, .ref 85, .ref 87, .int (I (F 10)), .int (I (F 11)), .int (I (F 12))]) := h 0 _ rfl
theorem a7_cO {α : Type} {x : Option α} {m : Mm} {a : Nat} {F : Nat → Int} {A : Nat → Int → Int} (h : At m a (o7 a F A)) : cO m a 7 x = x := cO_c (a7_c0 h)
theorem a7_g0 {m : Mm} {a : Nat} {F : Nat → Int} {A : Nat → Int → Int} (h : At m a (o7 a F A)) : gR m a 7 0 = some 1 := gR_c (a7_c0 h) rfl
theorem a7_g1 {m : Mm} {a : Nat} {F : Nat → Int} {A : Nat → Int → Int} (h : At m a (o7 a F A)) : gR m a 7 1 = some 37 := gR_c (a7_c0 h) rfl
theorem a7_g2 {m : Mm} {a : Nat} {F : Nat → Int} {A : Nat → Int → Int} (h : At m a (o7 a F A)) : gI m a 7 2 = some (I (F 2)) := gI_c (a7_c0 h) rfl
theorem a7_g3 {m : Mm} {a : Nat} {F : Nat → Int} {A : Nat → Int → Int} (h : At m a (o7 a F A)) : gI m a 7 3 = some (I (F 3)) := gI_c (a7_c0 h) rfl
theorem a7_g4 {m : Mm} {a : Nat} {F : Nat → Int} {A : Nat → Int → Int} (h : At m a (o7 a F A)) : gR m a 7 4 = some 38 := gR_c (a7_c0 h) rfl
theorem a7_g5 {m : Mm} {a : Nat} {F : Nat → Int} {A : Nat → Int → Int} (h : At m a (o7 a F A)) : gR m a 7 5 = some 40 := gR_c (a7_c0 h) rfl
theorem a7_g6 {m : Mm} {a : Nat} {F : Nat → Int} {A : Nat → Int → Int} (h : At m a (o7 a F A)) : gR m a 7 6 = some 46 := gR_c (a7_c0 h) rfl
theorem a7_g7 {m : Mm} {a : Nat} {F : Nat → Int} {A : Nat → Int → Int} (h : At m a (o7 a F A)) : gR m a 7 7 = some 53 := gR_c (a7_c0 h) rfl
theorem a7_g8 {m : Mm} {a : Nat} {F : Nat → Int} {A : Nat → Int → Int} (h : At m a (o7 a F A)) : gR m a 7 8 = some 85 := gR_c (a7_c0 h) rfl
theorem a7_g9 {m : Mm} {a : Nat} {F : Nat → Int} {A : Nat → Int → Int} (h : At m a (o7 a F A)) : gR m a 7 9 = some 87 := gR_c (a7_c0 h) rfl
theorem a7_g10 {m : Mm} {a : Nat} {F : Nat → Int} {A : Nat → Int → Int} (h : At m a (o7 a F A)) : gI m a 7 10 = some (I (F 10)) := gI_c (a7_c0 h) rfl
theorem a7_g11 {m : Mm} {a : Nat} {F : Nat → Int} {A : Nat → Int → Int} (h : At m a (o7 a F A)) : gI m a 7 11 = some (I (F 11)) := gI_c (a7_c0 h) rfl
theorem a7_g12 {m : Mm} {a : Nat} {F : Nat → Int} {A : Nat → Int → Int} (h : At m a (o7 a F A)) : gI m a 7 12 = some (I (F 12)) := gI_c (a7_c0 h) rfl
theorem o7_At {m : Mm} {a : Nat} {F : Nat → Int} {A : Nat → Int → Int} (hl : a + 0 < m.length) : At (ov m a (o7 a F A)) a (o7 a F A) := At.over (N := 0) (fun off e h => o7_N off (by rw [h]; exact fun q => by cases q)) hl
theorem a7_len {m : Mm} {a : Nat} {F : Nat → Int} {A : Nat → Int → Int} (h : At m a (o7 a F A)) : a + 0 < m.length := (List.getElem?_eq_some_iff.mp (h 0 _ rfl)).1
theorem o7_g0 {m : Mm} {a : Nat} {F : Nat → Int} {A : Nat → Int → Int} (hl : a + 0 < m.length) : gR (ov m a (o7 a F A)) a 7 0 = some 1 := gR_c (o7_c0 hl) rfl
theorem o7_g1 {m : Mm} {a : Nat} {F : Nat → Int} {A : Nat → Int → Int} (hl : a + 0 < m.length) : gR (ov m a (o7 a F A)) a 7 1 = some 37 := gR_c (o7_c0 hl) rfl
theorem o7_g2 {m : Mm} {a : Nat} {F : Nat → Int} {A : Nat → Int → Int} (hl : a + 0 < m.length) : gI (ov m a (o7 a F A)) a 7 2 = some (I (F 2)) := gI_c (o7_c0 hl) rfl
theorem o7_u2 {a : Nat} {F : Nat → Int} {A : Nat → Int → Int} {v : Int} : up1 (o7 a F A) 0 (some (eO 7 [.ref 1, .ref 37, .int (I v), .int (I (F 3)), .ref 38, .ref 40, .ref 46, .ref 53, .ref 85, .ref 87, .int (I (F 10)), .int (I (F 11)), .int (I (F 12))])) = o7 a (upN F 2 v) A := by
  funext off
  match off with
  | 0 => rfl
  | k + 1 => rfl
theorem o7_p2 {v : Int} {m : Mm} {a : Nat} {F : Nat → Int} {A : Nat → Int → Int} (hl : a + 0 < m.length) : pI (ov m a (o7 a F A)) a 7 2 (I v) = some (ov m a (o7 a (upN F 2 v) A)) := by
  rw [← o7_u2, ← ov_set]
  exact pV_c (o7_c0 hl) (Nat.le_of_ble_eq_true rfl)
theorem o7_g3 {m : Mm} {a : Nat} {F : Nat → Int} {A : Nat → Int → Int} (hl : a + 0 < m.length) : gI (ov m a (o7 a F A)) a 7 3 = some (I (F 3)) := gI_c (o7_c0 hl) rfl
theorem o7_u3 {a : Nat} {F : Nat → Int} {A : Nat → Int → Int} {v : Int} : up1 (o7 a F A) 0 (some (eO 7 [.ref 1, .ref 37, .int (I (F 2)), .int (I v), .ref 38, .ref 40, .ref 46, .ref 53, .ref 85, .ref 87, .int (I (F 10)), .int (I (F 11)), .int (I (F 12))])) = o7 a (upN F 3 v) A := by
  funext off
  match off with
  | 0 => rfl
  | k + 1 => rfl
theorem o7_p3 {v : Int} {m : Mm} {a : Nat} {F : Nat → Int} {A : Nat → Int → Int} (hl : a + 0 < m.length) : pI (ov m a (o7 a F A)) a 7 3 (I v) = some (ov m a (o7 a (upN F 3 v) A)) := by
  rw [← o7_u3, ← ov_set]
  exact pV_c (o7_c0 hl) (Nat.le_of_ble_eq_true rfl)
theorem o7_g4 {m : Mm} {a : Nat} {F : Nat → Int} {A : Nat → Int → Int} (hl : a + 0 < m.length) : gR (ov m a (o7 a F A)) a 7 4 = some 38 := gR_c (o7_c0 hl) rfl
theorem o7_g5 {m : Mm} {a : Nat} {F : Nat → Int} {A : Nat → Int → Int} (hl : a + 0 < m.length) : gR (ov m a (o7 a F A)) a 7 5 = some 40 := gR_c (o7_c0 hl) rfl
theorem o7_g6 {m : Mm} {a : Nat} {F : Nat → Int} {A : Nat → Int → Int} (hl : a + 0 < m.length) : gR (ov m a (o7 a F A)) a 7 6 = some 46 := gR_c (o7_c0 hl) rfl
theorem o7_g7 {m : Mm} {a : Nat} {F : Nat → Int} {A : Nat → Int → Int} (hl : a + 0 < m.length) : gR (ov m a (o7 a F A)) a 7 7 = some 53 := gR_c (o7_c0 hl) rfl
theorem o7_g8 {m : Mm} {a : Nat} {F : Nat → Int} {A : Nat → Int → Int} (hl : a + 0 < m.length) : gR (ov m a (o7 a F A)) a 7 8 = some 85 := gR_c (o7_c0 hl) rfl
theorem o7_g9 {m : Mm} {a : Nat} {F : Nat → Int} {A : Nat → Int → Int} (hl : a + 0 < m.length) : gR (ov m a (o7 a F A)) a 7 9 = some 87 := gR_c (o7_c0 hl) rfl
theorem o7_g10 {m : Mm} {a : Nat} {F : Nat → Int} {A : Nat → Int → Int} (hl : a + 0 < m.length) : gI (ov m a (o7 a F A)) a 7 10 = some (I (F 10)) := gI_c (o7_c0 hl) rfl
theorem o7_u10 {a : Nat} {F : Nat → Int} {A : Nat → Int → Int} {v : Int} : up1 (o7 a F A) 0 (some (eO 7 [.ref 1, .ref 37, .int (I (F 2)), .int (I (F 3)), .ref 38, .ref 40, .ref 46, .ref 53, .ref 85, .ref 87, .int (I v), .int (I (F 11)), .int (I (F 12))])) = o7 a (upN F 10 v) A := by
  funext off
  match off with
  | 0 => rfl
  | k + 1 => rfl
theorem o7_p10 {v : Int} {m : Mm} {a : Nat} {F : Nat → Int} {A : Nat → Int → Int} (hl : a + 0 < m.length) : pI (ov m a (o7 a F A)) a 7 10 (I v) = some (ov m a (o7 a (upN F 10 v) A)) := by
  rw [← o7_u10, ← ov_set]
  exact pV_c (o7_c0 hl) (Nat.le_of_ble_eq_true rfl)
theorem o7_g11 {m : Mm} {a : Nat} {F : Nat → Int} {A : Nat → Int → Int} (hl : a + 0 < m.length) : gI (ov m a (o7 a F A)) a 7 11 = some (I (F 11)) := gI_c (o7_c0 hl) rfl
theorem o7_u11 {a : Nat} {F : Nat → Int} {A : Nat → Int → Int} {v : Int} : up1 (o7 a F A) 0 (some (eO 7 [.ref 1, .ref 37, .int (I (F 2)), .int (I (F 3)), .ref 38, .ref 40, .ref 46, .ref 53, .ref 85, .ref 87, .int (I (F 10)), .int (I v), .int (I (F 12))])) = o7 a (upN F 11 v) A := by
  funext off
  match off with
  | 0 => rfl
  | k + 1 => rfl
theorem o7_p11 {v : Int} {m : Mm} {a : Nat} {F : Nat → Int} {A : Nat → Int → Int} (hl : a + 0 < m.length) : pI (ov m a (o7 a F A)) a 7 11 (I v) = some (ov m a (o7 a (upN F 11 v) A)) := by
  rw [← o7_u11, ← ov_set]
  exact pV_c (o7_c0 hl) (Nat.le_of_ble_eq_true rfl)
theorem o7_g12 {m : Mm} {a : Nat} {F : Nat → Int} {A : Nat → Int → Int} (hl : a + 0 < m.length) : gI (ov m a (o7 a F A)) a 7 12 = some (I (F 12)) := gI_c (o7_c0 hl) rfl
theorem o7_u12 {a : Nat} {F : Nat → Int} {A : Nat → Int → Int} {v : Int} : up1 (o7 a F A) 0 (some (eO 7 [.ref 1, .ref 37, .int (I (F 2)), .int (I (F 3)), .ref 38, .ref 40, .ref 46, .ref 53, .ref 85, .ref 87, .int (I (F 10)), .int (I (F 11)), .int (I v)])) = o7 a (upN F 12 v) A := by
  funext off
  match off with
  | 0 => rfl
  | k + 1 => rfl
theorem o7_p12 {v : Int} {m : Mm} {a : Nat} {F : Nat → Int} {A : Nat → Int → Int} (hl : a + 0 < m.length) : pI (ov m a (o7 a F A)) a 7 12 (I v) = some (ov m a (o7 a (upN F 12 v) A)) := by
  rw [← o7_u12, ← ov_set]
  exact pV_c (o7_c0 hl) (Nat.le_of_ble_eq_true rfl)
-- TwigMatchesModel: 0 refused @1, 1 many, 2 tag @2, 3 number @3, 4 level @4, 5 end @5, 6 parent @6, 7 nodes @7, 8 its @8, 9 states, 10 kept @9, 11 moving @10, 12 can @11, 13 may @12, 14 below @13, 15 far @14, 16 next @15, 17 ends @16, 18 told @17, 19 ups @18, 20 upper @19, 21 text @20, 22 length, 23 why, 24 faultAt, 25 readAt, 26 newTag @21, 27 newNumber @22, 28 newLevel @23, 29 newMany, 30 fresh @24, 31 freshMany, 32 shownText @25, 33 shownLength
def o8 (a : Nat) (F : Nat → Int) (A : Nat → Int → Int) : Nat → Option mE := fun off => match off with
  | 0 => some (eO 8 [.ref (a + 1), .int (I (F 1)), .ref (a + 2), .ref (a + 3), .ref (a + 4), .ref (a + 5), .ref (a + 6), .ref (a + 7), .ref (a + 8), .int (I (F 9)), .ref (a + 9), .ref (a + 10), .ref (a + 11), .ref (a + 12), .ref (a + 13), .ref (a + 14), .ref (a + 15), .ref (a + 16), .ref (a + 17), .ref (a + 18), .ref (a + 19), .ref (a + 20), .int (I (F 22)), .int (I (F 23)), .int (I (F 24)), .int (I (F 25)), .ref (a + 21), .ref (a + 22), .ref (a + 23), .int (I (F 29)), .ref (a + 24), .int (I (F 31)), .ref (a + 25), .int (I (F 33))])
  | 1 => some (eI 3 (cv (A 1)))
  | 2 => some (eI 32 (cv (A 2)))
  | 3 => some (eI 32 (cv (A 3)))
  | 4 => some (eI 32 (cv (A 4)))
  | 5 => some (eI 32 (cv (A 5)))
  | 6 => some (eI 32 (cv (A 6)))
  | 7 => some (eI 4 (cv (A 7)))
  | 8 => some (eI 144 (cv (A 8)))
  | 9 => some (eI 1960 (cv (A 9)))
  | 10 => some (eI 96 (cv (A 10)))
  | 11 => some (eI 6 (cv (A 11)))
  | 12 => some (eI 6 (cv (A 12)))
  | 13 => some (eJ 192 (cw (A 13)))
  | 14 => some (eJ 32 (cw (A 14)))
  | 15 => some (eJ 32 (cw (A 15)))
  | 16 => some (eJ 33 (cw (A 16)))
  | 17 => some (eI 6 (cv (A 17)))
  | 18 => some (eJ 32 (cw (A 18)))
  | 19 => some (eJ 32 (cw (A 19)))
  | 20 => some (eI 120 (cv (A 20)))
  | 21 => some (eI 32 (cv (A 21)))
  | 22 => some (eI 32 (cv (A 22)))
  | 23 => some (eI 32 (cv (A 23)))
  | 24 => some (eI 36 (cv (A 24)))
  | 25 => some (eI 256 (cv (A 25)))
  | _ => none
theorem o8_N {a : Nat} {F : Nat → Int} {A : Nat → Int → Int} (off : Nat) (h : o8 a F A off ≠ none) : off ≤ 25 := by
  match off, h with
  | 0, _ => exact Nat.le_of_ble_eq_true rfl
  | 1, _ => exact Nat.le_of_ble_eq_true rfl
  | 2, _ => exact Nat.le_of_ble_eq_true rfl
  | 3, _ => exact Nat.le_of_ble_eq_true rfl
  | 4, _ => exact Nat.le_of_ble_eq_true rfl
  | 5, _ => exact Nat.le_of_ble_eq_true rfl
  | 6, _ => exact Nat.le_of_ble_eq_true rfl
  | 7, _ => exact Nat.le_of_ble_eq_true rfl
  | 8, _ => exact Nat.le_of_ble_eq_true rfl
  | 9, _ => exact Nat.le_of_ble_eq_true rfl
  | 10, _ => exact Nat.le_of_ble_eq_true rfl
  | 11, _ => exact Nat.le_of_ble_eq_true rfl
  | 12, _ => exact Nat.le_of_ble_eq_true rfl
  | 13, _ => exact Nat.le_of_ble_eq_true rfl
  | 14, _ => exact Nat.le_of_ble_eq_true rfl
  | 15, _ => exact Nat.le_of_ble_eq_true rfl
  | 16, _ => exact Nat.le_of_ble_eq_true rfl
  | 17, _ => exact Nat.le_of_ble_eq_true rfl
  | 18, _ => exact Nat.le_of_ble_eq_true rfl
  | 19, _ => exact Nat.le_of_ble_eq_true rfl
  | 20, _ => exact Nat.le_of_ble_eq_true rfl
  | 21, _ => exact Nat.le_of_ble_eq_true rfl
  | 22, _ => exact Nat.le_of_ble_eq_true rfl
  | 23, _ => exact Nat.le_of_ble_eq_true rfl
  | 24, _ => exact Nat.le_of_ble_eq_true rfl
  | 25, _ => exact Nat.le_of_ble_eq_true rfl
  | k + 26, h => exact absurd rfl h
theorem o8_c0 {a : Nat} {F : Nat → Int} {A : Nat → Int → Int} {m : Mm} (hl : a + 25 < m.length) : (ov m a (o8 a F A))[a]? = some (eO 8 [.ref (a + 1), .int (I (F 1)), .ref (a + 2), .ref (a + 3), .ref (a + 4), .ref (a + 5), .ref (a + 6), .ref (a + 7), .ref (a + 8), .int (I (F 9)), .ref (a + 9), .ref (a + 10), .ref (a + 11), .ref (a + 12), .ref (a + 13), .ref (a + 14), .ref (a + 15), .ref (a + 16), .ref (a + 17), .ref (a + 18), .ref (a + 19), .ref (a + 20), .int (I (F 22)), .int (I (F 23)), .int (I (F 24)), .int (I (F 25)), .ref (a + 21), .ref (a + 22), .ref (a + 23), .int (I (F 29)), .ref (a + 24), .int (I (F 31)), .ref (a + 25), .int (I (F 33))]) := ov_in (off := 0) (c := o8 a F A) rfl (by omega)
theorem o8_cO {α : Type} {x : Option α} {m : Mm} {a : Nat} {F : Nat → Int} {A : Nat → Int → Int} (hl : a + 25 < m.length) : cO (ov m a (o8 a F A)) a 8 x = x := cO_c (o8_c0 hl)
theorem a8_c0 {m : Mm} {a : Nat} {F : Nat → Int} {A : Nat → Int → Int} (h : At m a (o8 a F A)) : m[a]? = some (eO 8 [.ref (a + 1), .int (I (F 1)), .ref (a + 2), .ref (a + 3), .ref (a + 4), .ref (a + 5), .ref (a + 6), .ref (a + 7), .ref (a + 8), .int (I (F 9)), .ref (a + 9), .ref (a + 10), .ref (a + 11), .ref (a + 12), .ref (a + 13), .ref (a + 14), .ref (a + 15), .ref (a + 16), .ref (a + 17), .ref (a + 18), .ref (a + 19), .ref (a + 20), .int (I (F 22)), .int (I (F 23)), .int (I (F 24)), .int (I (F 25)), .ref (a + 21), .ref (a + 22), .ref (a + 23), .int (I (F 29)), .ref (a + 24), .int (I (F 31)), .ref (a + 25), .int (I (F 33))]) := h 0 _ rfl
theorem a8_cO {α : Type} {x : Option α} {m : Mm} {a : Nat} {F : Nat → Int} {A : Nat → Int → Int} (h : At m a (o8 a F A)) : cO m a 8 x = x := cO_c (a8_c0 h)
theorem a8_g0 {m : Mm} {a : Nat} {F : Nat → Int} {A : Nat → Int → Int} (h : At m a (o8 a F A)) : gR m a 8 0 = some (a + 1) := gR_c (a8_c0 h) rfl
theorem a8_g1 {m : Mm} {a : Nat} {F : Nat → Int} {A : Nat → Int → Int} (h : At m a (o8 a F A)) : gI m a 8 1 = some (I (F 1)) := gI_c (a8_c0 h) rfl
theorem a8_g2 {m : Mm} {a : Nat} {F : Nat → Int} {A : Nat → Int → Int} (h : At m a (o8 a F A)) : gR m a 8 2 = some (a + 2) := gR_c (a8_c0 h) rfl
theorem a8_g3 {m : Mm} {a : Nat} {F : Nat → Int} {A : Nat → Int → Int} (h : At m a (o8 a F A)) : gR m a 8 3 = some (a + 3) := gR_c (a8_c0 h) rfl
theorem a8_g4 {m : Mm} {a : Nat} {F : Nat → Int} {A : Nat → Int → Int} (h : At m a (o8 a F A)) : gR m a 8 4 = some (a + 4) := gR_c (a8_c0 h) rfl
theorem a8_g5 {m : Mm} {a : Nat} {F : Nat → Int} {A : Nat → Int → Int} (h : At m a (o8 a F A)) : gR m a 8 5 = some (a + 5) := gR_c (a8_c0 h) rfl
theorem a8_g6 {m : Mm} {a : Nat} {F : Nat → Int} {A : Nat → Int → Int} (h : At m a (o8 a F A)) : gR m a 8 6 = some (a + 6) := gR_c (a8_c0 h) rfl
theorem a8_g7 {m : Mm} {a : Nat} {F : Nat → Int} {A : Nat → Int → Int} (h : At m a (o8 a F A)) : gR m a 8 7 = some (a + 7) := gR_c (a8_c0 h) rfl
theorem a8_g8 {m : Mm} {a : Nat} {F : Nat → Int} {A : Nat → Int → Int} (h : At m a (o8 a F A)) : gR m a 8 8 = some (a + 8) := gR_c (a8_c0 h) rfl
theorem a8_g9 {m : Mm} {a : Nat} {F : Nat → Int} {A : Nat → Int → Int} (h : At m a (o8 a F A)) : gI m a 8 9 = some (I (F 9)) := gI_c (a8_c0 h) rfl
theorem a8_g10 {m : Mm} {a : Nat} {F : Nat → Int} {A : Nat → Int → Int} (h : At m a (o8 a F A)) : gR m a 8 10 = some (a + 9) := gR_c (a8_c0 h) rfl
theorem a8_g11 {m : Mm} {a : Nat} {F : Nat → Int} {A : Nat → Int → Int} (h : At m a (o8 a F A)) : gR m a 8 11 = some (a + 10) := gR_c (a8_c0 h) rfl
theorem a8_g12 {m : Mm} {a : Nat} {F : Nat → Int} {A : Nat → Int → Int} (h : At m a (o8 a F A)) : gR m a 8 12 = some (a + 11) := gR_c (a8_c0 h) rfl
theorem a8_g13 {m : Mm} {a : Nat} {F : Nat → Int} {A : Nat → Int → Int} (h : At m a (o8 a F A)) : gR m a 8 13 = some (a + 12) := gR_c (a8_c0 h) rfl
theorem a8_g14 {m : Mm} {a : Nat} {F : Nat → Int} {A : Nat → Int → Int} (h : At m a (o8 a F A)) : gR m a 8 14 = some (a + 13) := gR_c (a8_c0 h) rfl
theorem a8_g15 {m : Mm} {a : Nat} {F : Nat → Int} {A : Nat → Int → Int} (h : At m a (o8 a F A)) : gR m a 8 15 = some (a + 14) := gR_c (a8_c0 h) rfl
theorem a8_g16 {m : Mm} {a : Nat} {F : Nat → Int} {A : Nat → Int → Int} (h : At m a (o8 a F A)) : gR m a 8 16 = some (a + 15) := gR_c (a8_c0 h) rfl
theorem a8_g17 {m : Mm} {a : Nat} {F : Nat → Int} {A : Nat → Int → Int} (h : At m a (o8 a F A)) : gR m a 8 17 = some (a + 16) := gR_c (a8_c0 h) rfl
theorem a8_g18 {m : Mm} {a : Nat} {F : Nat → Int} {A : Nat → Int → Int} (h : At m a (o8 a F A)) : gR m a 8 18 = some (a + 17) := gR_c (a8_c0 h) rfl
theorem a8_g19 {m : Mm} {a : Nat} {F : Nat → Int} {A : Nat → Int → Int} (h : At m a (o8 a F A)) : gR m a 8 19 = some (a + 18) := gR_c (a8_c0 h) rfl
theorem a8_g20 {m : Mm} {a : Nat} {F : Nat → Int} {A : Nat → Int → Int} (h : At m a (o8 a F A)) : gR m a 8 20 = some (a + 19) := gR_c (a8_c0 h) rfl
theorem a8_g21 {m : Mm} {a : Nat} {F : Nat → Int} {A : Nat → Int → Int} (h : At m a (o8 a F A)) : gR m a 8 21 = some (a + 20) := gR_c (a8_c0 h) rfl
theorem a8_g22 {m : Mm} {a : Nat} {F : Nat → Int} {A : Nat → Int → Int} (h : At m a (o8 a F A)) : gI m a 8 22 = some (I (F 22)) := gI_c (a8_c0 h) rfl
theorem a8_g23 {m : Mm} {a : Nat} {F : Nat → Int} {A : Nat → Int → Int} (h : At m a (o8 a F A)) : gI m a 8 23 = some (I (F 23)) := gI_c (a8_c0 h) rfl
theorem a8_g24 {m : Mm} {a : Nat} {F : Nat → Int} {A : Nat → Int → Int} (h : At m a (o8 a F A)) : gI m a 8 24 = some (I (F 24)) := gI_c (a8_c0 h) rfl
theorem a8_g25 {m : Mm} {a : Nat} {F : Nat → Int} {A : Nat → Int → Int} (h : At m a (o8 a F A)) : gI m a 8 25 = some (I (F 25)) := gI_c (a8_c0 h) rfl
theorem a8_g26 {m : Mm} {a : Nat} {F : Nat → Int} {A : Nat → Int → Int} (h : At m a (o8 a F A)) : gR m a 8 26 = some (a + 21) := gR_c (a8_c0 h) rfl
theorem a8_g27 {m : Mm} {a : Nat} {F : Nat → Int} {A : Nat → Int → Int} (h : At m a (o8 a F A)) : gR m a 8 27 = some (a + 22) := gR_c (a8_c0 h) rfl
theorem a8_g28 {m : Mm} {a : Nat} {F : Nat → Int} {A : Nat → Int → Int} (h : At m a (o8 a F A)) : gR m a 8 28 = some (a + 23) := gR_c (a8_c0 h) rfl
theorem a8_g29 {m : Mm} {a : Nat} {F : Nat → Int} {A : Nat → Int → Int} (h : At m a (o8 a F A)) : gI m a 8 29 = some (I (F 29)) := gI_c (a8_c0 h) rfl
theorem a8_g30 {m : Mm} {a : Nat} {F : Nat → Int} {A : Nat → Int → Int} (h : At m a (o8 a F A)) : gR m a 8 30 = some (a + 24) := gR_c (a8_c0 h) rfl
theorem a8_g31 {m : Mm} {a : Nat} {F : Nat → Int} {A : Nat → Int → Int} (h : At m a (o8 a F A)) : gI m a 8 31 = some (I (F 31)) := gI_c (a8_c0 h) rfl
theorem a8_g32 {m : Mm} {a : Nat} {F : Nat → Int} {A : Nat → Int → Int} (h : At m a (o8 a F A)) : gR m a 8 32 = some (a + 25) := gR_c (a8_c0 h) rfl
theorem a8_g33 {m : Mm} {a : Nat} {F : Nat → Int} {A : Nat → Int → Int} (h : At m a (o8 a F A)) : gI m a 8 33 = some (I (F 33)) := gI_c (a8_c0 h) rfl
theorem a8_l1 {m : Mm} {a : Nat} {F : Nat → Int} {A : Nat → Int → Int} (h : At m a (o8 a F A)) {i : Int} (h0 : 0 ≤ i) (h1 : i < 3) : lI m (a + 1) (I i) = some (I (A 1 i)) := lI_c (h 1 _ rfl) h0 (by omega) (by omega)
theorem a8_l2 {m : Mm} {a : Nat} {F : Nat → Int} {A : Nat → Int → Int} (h : At m a (o8 a F A)) {i : Int} (h0 : 0 ≤ i) (h1 : i < 32) : lI m (a + 2) (I i) = some (I (A 2 i)) := lI_c (h 2 _ rfl) h0 (by omega) (by omega)
theorem a8_l3 {m : Mm} {a : Nat} {F : Nat → Int} {A : Nat → Int → Int} (h : At m a (o8 a F A)) {i : Int} (h0 : 0 ≤ i) (h1 : i < 32) : lI m (a + 3) (I i) = some (I (A 3 i)) := lI_c (h 3 _ rfl) h0 (by omega) (by omega)
theorem a8_l4 {m : Mm} {a : Nat} {F : Nat → Int} {A : Nat → Int → Int} (h : At m a (o8 a F A)) {i : Int} (h0 : 0 ≤ i) (h1 : i < 32) : lI m (a + 4) (I i) = some (I (A 4 i)) := lI_c (h 4 _ rfl) h0 (by omega) (by omega)
theorem a8_l5 {m : Mm} {a : Nat} {F : Nat → Int} {A : Nat → Int → Int} (h : At m a (o8 a F A)) {i : Int} (h0 : 0 ≤ i) (h1 : i < 32) : lI m (a + 5) (I i) = some (I (A 5 i)) := lI_c (h 5 _ rfl) h0 (by omega) (by omega)
theorem a8_l6 {m : Mm} {a : Nat} {F : Nat → Int} {A : Nat → Int → Int} (h : At m a (o8 a F A)) {i : Int} (h0 : 0 ≤ i) (h1 : i < 32) : lI m (a + 6) (I i) = some (I (A 6 i)) := lI_c (h 6 _ rfl) h0 (by omega) (by omega)
theorem a8_l7 {m : Mm} {a : Nat} {F : Nat → Int} {A : Nat → Int → Int} (h : At m a (o8 a F A)) {i : Int} (h0 : 0 ≤ i) (h1 : i < 4) : lI m (a + 7) (I i) = some (I (A 7 i)) := lI_c (h 7 _ rfl) h0 (by omega) (by omega)
theorem a8_l8 {m : Mm} {a : Nat} {F : Nat → Int} {A : Nat → Int → Int} (h : At m a (o8 a F A)) {i : Int} (h0 : 0 ≤ i) (h1 : i < 144) : lI m (a + 8) (I i) = some (I (A 8 i)) := lI_c (h 8 _ rfl) h0 (by omega) (by omega)
theorem a8_l9 {m : Mm} {a : Nat} {F : Nat → Int} {A : Nat → Int → Int} (h : At m a (o8 a F A)) {i : Int} (h0 : 0 ≤ i) (h1 : i < 1960) : lI m (a + 9) (I i) = some (I (A 9 i)) := lI_c (h 9 _ rfl) h0 (by omega) (by omega)
theorem a8_l10 {m : Mm} {a : Nat} {F : Nat → Int} {A : Nat → Int → Int} (h : At m a (o8 a F A)) {i : Int} (h0 : 0 ≤ i) (h1 : i < 96) : lI m (a + 10) (I i) = some (I (A 10 i)) := lI_c (h 10 _ rfl) h0 (by omega) (by omega)
theorem a8_l11 {m : Mm} {a : Nat} {F : Nat → Int} {A : Nat → Int → Int} (h : At m a (o8 a F A)) {i : Int} (h0 : 0 ≤ i) (h1 : i < 6) : lI m (a + 11) (I i) = some (I (A 11 i)) := lI_c (h 11 _ rfl) h0 (by omega) (by omega)
theorem a8_l12 {m : Mm} {a : Nat} {F : Nat → Int} {A : Nat → Int → Int} (h : At m a (o8 a F A)) {i : Int} (h0 : 0 ≤ i) (h1 : i < 6) : lI m (a + 12) (I i) = some (I (A 12 i)) := lI_c (h 12 _ rfl) h0 (by omega) (by omega)
theorem a8_l13 {m : Mm} {a : Nat} {F : Nat → Int} {A : Nat → Int → Int} (h : At m a (o8 a F A)) {i : Int} (h0 : 0 ≤ i) (h1 : i < 192) : lJ m (a + 13) (I i) = some (J (A 13 i)) := lJ_c (h 13 _ rfl) h0 (by omega) (by omega)
theorem a8_l14 {m : Mm} {a : Nat} {F : Nat → Int} {A : Nat → Int → Int} (h : At m a (o8 a F A)) {i : Int} (h0 : 0 ≤ i) (h1 : i < 32) : lJ m (a + 14) (I i) = some (J (A 14 i)) := lJ_c (h 14 _ rfl) h0 (by omega) (by omega)
theorem a8_l15 {m : Mm} {a : Nat} {F : Nat → Int} {A : Nat → Int → Int} (h : At m a (o8 a F A)) {i : Int} (h0 : 0 ≤ i) (h1 : i < 32) : lJ m (a + 15) (I i) = some (J (A 15 i)) := lJ_c (h 15 _ rfl) h0 (by omega) (by omega)
theorem a8_l16 {m : Mm} {a : Nat} {F : Nat → Int} {A : Nat → Int → Int} (h : At m a (o8 a F A)) {i : Int} (h0 : 0 ≤ i) (h1 : i < 33) : lJ m (a + 16) (I i) = some (J (A 16 i)) := lJ_c (h 16 _ rfl) h0 (by omega) (by omega)
theorem a8_l17 {m : Mm} {a : Nat} {F : Nat → Int} {A : Nat → Int → Int} (h : At m a (o8 a F A)) {i : Int} (h0 : 0 ≤ i) (h1 : i < 6) : lI m (a + 17) (I i) = some (I (A 17 i)) := lI_c (h 17 _ rfl) h0 (by omega) (by omega)
theorem a8_l18 {m : Mm} {a : Nat} {F : Nat → Int} {A : Nat → Int → Int} (h : At m a (o8 a F A)) {i : Int} (h0 : 0 ≤ i) (h1 : i < 32) : lJ m (a + 18) (I i) = some (J (A 18 i)) := lJ_c (h 18 _ rfl) h0 (by omega) (by omega)
theorem a8_l19 {m : Mm} {a : Nat} {F : Nat → Int} {A : Nat → Int → Int} (h : At m a (o8 a F A)) {i : Int} (h0 : 0 ≤ i) (h1 : i < 32) : lJ m (a + 19) (I i) = some (J (A 19 i)) := lJ_c (h 19 _ rfl) h0 (by omega) (by omega)
theorem a8_l20 {m : Mm} {a : Nat} {F : Nat → Int} {A : Nat → Int → Int} (h : At m a (o8 a F A)) {i : Int} (h0 : 0 ≤ i) (h1 : i < 120) : lI m (a + 20) (I i) = some (I (A 20 i)) := lI_c (h 20 _ rfl) h0 (by omega) (by omega)
theorem a8_l21 {m : Mm} {a : Nat} {F : Nat → Int} {A : Nat → Int → Int} (h : At m a (o8 a F A)) {i : Int} (h0 : 0 ≤ i) (h1 : i < 32) : lI m (a + 21) (I i) = some (I (A 21 i)) := lI_c (h 21 _ rfl) h0 (by omega) (by omega)
theorem a8_l22 {m : Mm} {a : Nat} {F : Nat → Int} {A : Nat → Int → Int} (h : At m a (o8 a F A)) {i : Int} (h0 : 0 ≤ i) (h1 : i < 32) : lI m (a + 22) (I i) = some (I (A 22 i)) := lI_c (h 22 _ rfl) h0 (by omega) (by omega)
theorem a8_l23 {m : Mm} {a : Nat} {F : Nat → Int} {A : Nat → Int → Int} (h : At m a (o8 a F A)) {i : Int} (h0 : 0 ≤ i) (h1 : i < 32) : lI m (a + 23) (I i) = some (I (A 23 i)) := lI_c (h 23 _ rfl) h0 (by omega) (by omega)
theorem a8_l24 {m : Mm} {a : Nat} {F : Nat → Int} {A : Nat → Int → Int} (h : At m a (o8 a F A)) {i : Int} (h0 : 0 ≤ i) (h1 : i < 36) : lI m (a + 24) (I i) = some (I (A 24 i)) := lI_c (h 24 _ rfl) h0 (by omega) (by omega)
theorem a8_l25 {m : Mm} {a : Nat} {F : Nat → Int} {A : Nat → Int → Int} (h : At m a (o8 a F A)) {i : Int} (h0 : 0 ≤ i) (h1 : i < 256) : lI m (a + 25) (I i) = some (I (A 25 i)) := lI_c (h 25 _ rfl) h0 (by omega) (by omega)
theorem o8_At {m : Mm} {a : Nat} {F : Nat → Int} {A : Nat → Int → Int} (hl : a + 25 < m.length) : At (ov m a (o8 a F A)) a (o8 a F A) := At.over (N := 25) (fun off e h => o8_N off (by rw [h]; exact fun q => by cases q)) hl
theorem a8_len {m : Mm} {a : Nat} {F : Nat → Int} {A : Nat → Int → Int} (h : At m a (o8 a F A)) : a + 25 < m.length := (List.getElem?_eq_some_iff.mp (h 25 _ rfl)).1
theorem o8_g0 {m : Mm} {a : Nat} {F : Nat → Int} {A : Nat → Int → Int} (hl : a + 25 < m.length) : gR (ov m a (o8 a F A)) a 8 0 = some (a + 1) := gR_c (o8_c0 hl) rfl
theorem o8_g1 {m : Mm} {a : Nat} {F : Nat → Int} {A : Nat → Int → Int} (hl : a + 25 < m.length) : gI (ov m a (o8 a F A)) a 8 1 = some (I (F 1)) := gI_c (o8_c0 hl) rfl
theorem o8_u1 {a : Nat} {F : Nat → Int} {A : Nat → Int → Int} {v : Int} : up1 (o8 a F A) 0 (some (eO 8 [.ref (a + 1), .int (I v), .ref (a + 2), .ref (a + 3), .ref (a + 4), .ref (a + 5), .ref (a + 6), .ref (a + 7), .ref (a + 8), .int (I (F 9)), .ref (a + 9), .ref (a + 10), .ref (a + 11), .ref (a + 12), .ref (a + 13), .ref (a + 14), .ref (a + 15), .ref (a + 16), .ref (a + 17), .ref (a + 18), .ref (a + 19), .ref (a + 20), .int (I (F 22)), .int (I (F 23)), .int (I (F 24)), .int (I (F 25)), .ref (a + 21), .ref (a + 22), .ref (a + 23), .int (I (F 29)), .ref (a + 24), .int (I (F 31)), .ref (a + 25), .int (I (F 33))])) = o8 a (upN F 1 v) A := by
  funext off
  match off with
  | 0 => rfl
  | 1 => rfl
  | 2 => rfl
  | 3 => rfl
  | 4 => rfl
  | 5 => rfl
  | 6 => rfl
  | 7 => rfl
  | 8 => rfl
  | 9 => rfl
  | 10 => rfl
  | 11 => rfl
  | 12 => rfl
  | 13 => rfl
  | 14 => rfl
  | 15 => rfl
  | 16 => rfl
  | 17 => rfl
  | 18 => rfl
  | 19 => rfl
  | 20 => rfl
  | 21 => rfl
  | 22 => rfl
  | 23 => rfl
  | 24 => rfl
  | 25 => rfl
  | k + 26 => rfl
theorem o8_p1 {v : Int} {m : Mm} {a : Nat} {F : Nat → Int} {A : Nat → Int → Int} (hl : a + 25 < m.length) : pI (ov m a (o8 a F A)) a 8 1 (I v) = some (ov m a (o8 a (upN F 1 v) A)) := by
  rw [← o8_u1, ← ov_set]
  exact pV_c (o8_c0 hl) (Nat.le_of_ble_eq_true rfl)
theorem o8_g2 {m : Mm} {a : Nat} {F : Nat → Int} {A : Nat → Int → Int} (hl : a + 25 < m.length) : gR (ov m a (o8 a F A)) a 8 2 = some (a + 2) := gR_c (o8_c0 hl) rfl
theorem o8_g3 {m : Mm} {a : Nat} {F : Nat → Int} {A : Nat → Int → Int} (hl : a + 25 < m.length) : gR (ov m a (o8 a F A)) a 8 3 = some (a + 3) := gR_c (o8_c0 hl) rfl
theorem o8_g4 {m : Mm} {a : Nat} {F : Nat → Int} {A : Nat → Int → Int} (hl : a + 25 < m.length) : gR (ov m a (o8 a F A)) a 8 4 = some (a + 4) := gR_c (o8_c0 hl) rfl
theorem o8_g5 {m : Mm} {a : Nat} {F : Nat → Int} {A : Nat → Int → Int} (hl : a + 25 < m.length) : gR (ov m a (o8 a F A)) a 8 5 = some (a + 5) := gR_c (o8_c0 hl) rfl
theorem o8_g6 {m : Mm} {a : Nat} {F : Nat → Int} {A : Nat → Int → Int} (hl : a + 25 < m.length) : gR (ov m a (o8 a F A)) a 8 6 = some (a + 6) := gR_c (o8_c0 hl) rfl
theorem o8_g7 {m : Mm} {a : Nat} {F : Nat → Int} {A : Nat → Int → Int} (hl : a + 25 < m.length) : gR (ov m a (o8 a F A)) a 8 7 = some (a + 7) := gR_c (o8_c0 hl) rfl
theorem o8_g8 {m : Mm} {a : Nat} {F : Nat → Int} {A : Nat → Int → Int} (hl : a + 25 < m.length) : gR (ov m a (o8 a F A)) a 8 8 = some (a + 8) := gR_c (o8_c0 hl) rfl
theorem o8_g9 {m : Mm} {a : Nat} {F : Nat → Int} {A : Nat → Int → Int} (hl : a + 25 < m.length) : gI (ov m a (o8 a F A)) a 8 9 = some (I (F 9)) := gI_c (o8_c0 hl) rfl
theorem o8_u9 {a : Nat} {F : Nat → Int} {A : Nat → Int → Int} {v : Int} : up1 (o8 a F A) 0 (some (eO 8 [.ref (a + 1), .int (I (F 1)), .ref (a + 2), .ref (a + 3), .ref (a + 4), .ref (a + 5), .ref (a + 6), .ref (a + 7), .ref (a + 8), .int (I v), .ref (a + 9), .ref (a + 10), .ref (a + 11), .ref (a + 12), .ref (a + 13), .ref (a + 14), .ref (a + 15), .ref (a + 16), .ref (a + 17), .ref (a + 18), .ref (a + 19), .ref (a + 20), .int (I (F 22)), .int (I (F 23)), .int (I (F 24)), .int (I (F 25)), .ref (a + 21), .ref (a + 22), .ref (a + 23), .int (I (F 29)), .ref (a + 24), .int (I (F 31)), .ref (a + 25), .int (I (F 33))])) = o8 a (upN F 9 v) A := by
  funext off
  match off with
  | 0 => rfl
  | 1 => rfl
  | 2 => rfl
  | 3 => rfl
  | 4 => rfl
  | 5 => rfl
  | 6 => rfl
  | 7 => rfl
  | 8 => rfl
  | 9 => rfl
  | 10 => rfl
  | 11 => rfl
  | 12 => rfl
  | 13 => rfl
  | 14 => rfl
  | 15 => rfl
  | 16 => rfl
  | 17 => rfl
  | 18 => rfl
  | 19 => rfl
  | 20 => rfl
  | 21 => rfl
  | 22 => rfl
  | 23 => rfl
  | 24 => rfl
  | 25 => rfl
  | k + 26 => rfl
theorem o8_p9 {v : Int} {m : Mm} {a : Nat} {F : Nat → Int} {A : Nat → Int → Int} (hl : a + 25 < m.length) : pI (ov m a (o8 a F A)) a 8 9 (I v) = some (ov m a (o8 a (upN F 9 v) A)) := by
  rw [← o8_u9, ← ov_set]
  exact pV_c (o8_c0 hl) (Nat.le_of_ble_eq_true rfl)
theorem o8_g10 {m : Mm} {a : Nat} {F : Nat → Int} {A : Nat → Int → Int} (hl : a + 25 < m.length) : gR (ov m a (o8 a F A)) a 8 10 = some (a + 9) := gR_c (o8_c0 hl) rfl
theorem o8_g11 {m : Mm} {a : Nat} {F : Nat → Int} {A : Nat → Int → Int} (hl : a + 25 < m.length) : gR (ov m a (o8 a F A)) a 8 11 = some (a + 10) := gR_c (o8_c0 hl) rfl
theorem o8_g12 {m : Mm} {a : Nat} {F : Nat → Int} {A : Nat → Int → Int} (hl : a + 25 < m.length) : gR (ov m a (o8 a F A)) a 8 12 = some (a + 11) := gR_c (o8_c0 hl) rfl
theorem o8_g13 {m : Mm} {a : Nat} {F : Nat → Int} {A : Nat → Int → Int} (hl : a + 25 < m.length) : gR (ov m a (o8 a F A)) a 8 13 = some (a + 12) := gR_c (o8_c0 hl) rfl
theorem o8_g14 {m : Mm} {a : Nat} {F : Nat → Int} {A : Nat → Int → Int} (hl : a + 25 < m.length) : gR (ov m a (o8 a F A)) a 8 14 = some (a + 13) := gR_c (o8_c0 hl) rfl
theorem o8_g15 {m : Mm} {a : Nat} {F : Nat → Int} {A : Nat → Int → Int} (hl : a + 25 < m.length) : gR (ov m a (o8 a F A)) a 8 15 = some (a + 14) := gR_c (o8_c0 hl) rfl
theorem o8_g16 {m : Mm} {a : Nat} {F : Nat → Int} {A : Nat → Int → Int} (hl : a + 25 < m.length) : gR (ov m a (o8 a F A)) a 8 16 = some (a + 15) := gR_c (o8_c0 hl) rfl
theorem o8_g17 {m : Mm} {a : Nat} {F : Nat → Int} {A : Nat → Int → Int} (hl : a + 25 < m.length) : gR (ov m a (o8 a F A)) a 8 17 = some (a + 16) := gR_c (o8_c0 hl) rfl
theorem o8_g18 {m : Mm} {a : Nat} {F : Nat → Int} {A : Nat → Int → Int} (hl : a + 25 < m.length) : gR (ov m a (o8 a F A)) a 8 18 = some (a + 17) := gR_c (o8_c0 hl) rfl
theorem o8_g19 {m : Mm} {a : Nat} {F : Nat → Int} {A : Nat → Int → Int} (hl : a + 25 < m.length) : gR (ov m a (o8 a F A)) a 8 19 = some (a + 18) := gR_c (o8_c0 hl) rfl
theorem o8_g20 {m : Mm} {a : Nat} {F : Nat → Int} {A : Nat → Int → Int} (hl : a + 25 < m.length) : gR (ov m a (o8 a F A)) a 8 20 = some (a + 19) := gR_c (o8_c0 hl) rfl
theorem o8_g21 {m : Mm} {a : Nat} {F : Nat → Int} {A : Nat → Int → Int} (hl : a + 25 < m.length) : gR (ov m a (o8 a F A)) a 8 21 = some (a + 20) := gR_c (o8_c0 hl) rfl
theorem o8_g22 {m : Mm} {a : Nat} {F : Nat → Int} {A : Nat → Int → Int} (hl : a + 25 < m.length) : gI (ov m a (o8 a F A)) a 8 22 = some (I (F 22)) := gI_c (o8_c0 hl) rfl
theorem o8_u22 {a : Nat} {F : Nat → Int} {A : Nat → Int → Int} {v : Int} : up1 (o8 a F A) 0 (some (eO 8 [.ref (a + 1), .int (I (F 1)), .ref (a + 2), .ref (a + 3), .ref (a + 4), .ref (a + 5), .ref (a + 6), .ref (a + 7), .ref (a + 8), .int (I (F 9)), .ref (a + 9), .ref (a + 10), .ref (a + 11), .ref (a + 12), .ref (a + 13), .ref (a + 14), .ref (a + 15), .ref (a + 16), .ref (a + 17), .ref (a + 18), .ref (a + 19), .ref (a + 20), .int (I v), .int (I (F 23)), .int (I (F 24)), .int (I (F 25)), .ref (a + 21), .ref (a + 22), .ref (a + 23), .int (I (F 29)), .ref (a + 24), .int (I (F 31)), .ref (a + 25), .int (I (F 33))])) = o8 a (upN F 22 v) A := by
  funext off
  match off with
  | 0 => rfl
  | 1 => rfl
  | 2 => rfl
  | 3 => rfl
  | 4 => rfl
  | 5 => rfl
  | 6 => rfl
  | 7 => rfl
  | 8 => rfl
  | 9 => rfl
  | 10 => rfl
  | 11 => rfl
  | 12 => rfl
  | 13 => rfl
  | 14 => rfl
  | 15 => rfl
  | 16 => rfl
  | 17 => rfl
  | 18 => rfl
  | 19 => rfl
  | 20 => rfl
  | 21 => rfl
  | 22 => rfl
  | 23 => rfl
  | 24 => rfl
  | 25 => rfl
  | k + 26 => rfl
theorem o8_p22 {v : Int} {m : Mm} {a : Nat} {F : Nat → Int} {A : Nat → Int → Int} (hl : a + 25 < m.length) : pI (ov m a (o8 a F A)) a 8 22 (I v) = some (ov m a (o8 a (upN F 22 v) A)) := by
  rw [← o8_u22, ← ov_set]
  exact pV_c (o8_c0 hl) (Nat.le_of_ble_eq_true rfl)
theorem o8_g23 {m : Mm} {a : Nat} {F : Nat → Int} {A : Nat → Int → Int} (hl : a + 25 < m.length) : gI (ov m a (o8 a F A)) a 8 23 = some (I (F 23)) := gI_c (o8_c0 hl) rfl
theorem o8_u23 {a : Nat} {F : Nat → Int} {A : Nat → Int → Int} {v : Int} : up1 (o8 a F A) 0 (some (eO 8 [.ref (a + 1), .int (I (F 1)), .ref (a + 2), .ref (a + 3), .ref (a + 4), .ref (a + 5), .ref (a + 6), .ref (a + 7), .ref (a + 8), .int (I (F 9)), .ref (a + 9), .ref (a + 10), .ref (a + 11), .ref (a + 12), .ref (a + 13), .ref (a + 14), .ref (a + 15), .ref (a + 16), .ref (a + 17), .ref (a + 18), .ref (a + 19), .ref (a + 20), .int (I (F 22)), .int (I v), .int (I (F 24)), .int (I (F 25)), .ref (a + 21), .ref (a + 22), .ref (a + 23), .int (I (F 29)), .ref (a + 24), .int (I (F 31)), .ref (a + 25), .int (I (F 33))])) = o8 a (upN F 23 v) A := by
  funext off
  match off with
  | 0 => rfl
  | 1 => rfl
  | 2 => rfl
  | 3 => rfl
  | 4 => rfl
  | 5 => rfl
  | 6 => rfl
  | 7 => rfl
  | 8 => rfl
  | 9 => rfl
  | 10 => rfl
  | 11 => rfl
  | 12 => rfl
  | 13 => rfl
  | 14 => rfl
  | 15 => rfl
  | 16 => rfl
  | 17 => rfl
  | 18 => rfl
  | 19 => rfl
  | 20 => rfl
  | 21 => rfl
  | 22 => rfl
  | 23 => rfl
  | 24 => rfl
  | 25 => rfl
  | k + 26 => rfl
theorem o8_p23 {v : Int} {m : Mm} {a : Nat} {F : Nat → Int} {A : Nat → Int → Int} (hl : a + 25 < m.length) : pI (ov m a (o8 a F A)) a 8 23 (I v) = some (ov m a (o8 a (upN F 23 v) A)) := by
  rw [← o8_u23, ← ov_set]
  exact pV_c (o8_c0 hl) (Nat.le_of_ble_eq_true rfl)
theorem o8_g24 {m : Mm} {a : Nat} {F : Nat → Int} {A : Nat → Int → Int} (hl : a + 25 < m.length) : gI (ov m a (o8 a F A)) a 8 24 = some (I (F 24)) := gI_c (o8_c0 hl) rfl
theorem o8_u24 {a : Nat} {F : Nat → Int} {A : Nat → Int → Int} {v : Int} : up1 (o8 a F A) 0 (some (eO 8 [.ref (a + 1), .int (I (F 1)), .ref (a + 2), .ref (a + 3), .ref (a + 4), .ref (a + 5), .ref (a + 6), .ref (a + 7), .ref (a + 8), .int (I (F 9)), .ref (a + 9), .ref (a + 10), .ref (a + 11), .ref (a + 12), .ref (a + 13), .ref (a + 14), .ref (a + 15), .ref (a + 16), .ref (a + 17), .ref (a + 18), .ref (a + 19), .ref (a + 20), .int (I (F 22)), .int (I (F 23)), .int (I v), .int (I (F 25)), .ref (a + 21), .ref (a + 22), .ref (a + 23), .int (I (F 29)), .ref (a + 24), .int (I (F 31)), .ref (a + 25), .int (I (F 33))])) = o8 a (upN F 24 v) A := by
  funext off
  match off with
  | 0 => rfl
  | 1 => rfl
  | 2 => rfl
  | 3 => rfl
  | 4 => rfl
  | 5 => rfl
  | 6 => rfl
  | 7 => rfl
  | 8 => rfl
  | 9 => rfl
  | 10 => rfl
  | 11 => rfl
  | 12 => rfl
  | 13 => rfl
  | 14 => rfl
  | 15 => rfl
  | 16 => rfl
  | 17 => rfl
  | 18 => rfl
  | 19 => rfl
  | 20 => rfl
  | 21 => rfl
  | 22 => rfl
  | 23 => rfl
  | 24 => rfl
  | 25 => rfl
  | k + 26 => rfl
theorem o8_p24 {v : Int} {m : Mm} {a : Nat} {F : Nat → Int} {A : Nat → Int → Int} (hl : a + 25 < m.length) : pI (ov m a (o8 a F A)) a 8 24 (I v) = some (ov m a (o8 a (upN F 24 v) A)) := by
  rw [← o8_u24, ← ov_set]
  exact pV_c (o8_c0 hl) (Nat.le_of_ble_eq_true rfl)
theorem o8_g25 {m : Mm} {a : Nat} {F : Nat → Int} {A : Nat → Int → Int} (hl : a + 25 < m.length) : gI (ov m a (o8 a F A)) a 8 25 = some (I (F 25)) := gI_c (o8_c0 hl) rfl
theorem o8_u25 {a : Nat} {F : Nat → Int} {A : Nat → Int → Int} {v : Int} : up1 (o8 a F A) 0 (some (eO 8 [.ref (a + 1), .int (I (F 1)), .ref (a + 2), .ref (a + 3), .ref (a + 4), .ref (a + 5), .ref (a + 6), .ref (a + 7), .ref (a + 8), .int (I (F 9)), .ref (a + 9), .ref (a + 10), .ref (a + 11), .ref (a + 12), .ref (a + 13), .ref (a + 14), .ref (a + 15), .ref (a + 16), .ref (a + 17), .ref (a + 18), .ref (a + 19), .ref (a + 20), .int (I (F 22)), .int (I (F 23)), .int (I (F 24)), .int (I v), .ref (a + 21), .ref (a + 22), .ref (a + 23), .int (I (F 29)), .ref (a + 24), .int (I (F 31)), .ref (a + 25), .int (I (F 33))])) = o8 a (upN F 25 v) A := by
  funext off
  match off with
  | 0 => rfl
  | 1 => rfl
  | 2 => rfl
  | 3 => rfl
  | 4 => rfl
  | 5 => rfl
  | 6 => rfl
  | 7 => rfl
  | 8 => rfl
  | 9 => rfl
  | 10 => rfl
  | 11 => rfl
  | 12 => rfl
  | 13 => rfl
  | 14 => rfl
  | 15 => rfl
  | 16 => rfl
  | 17 => rfl
  | 18 => rfl
  | 19 => rfl
  | 20 => rfl
  | 21 => rfl
  | 22 => rfl
  | 23 => rfl
  | 24 => rfl
  | 25 => rfl
  | k + 26 => rfl
theorem o8_p25 {v : Int} {m : Mm} {a : Nat} {F : Nat → Int} {A : Nat → Int → Int} (hl : a + 25 < m.length) : pI (ov m a (o8 a F A)) a 8 25 (I v) = some (ov m a (o8 a (upN F 25 v) A)) := by
  rw [← o8_u25, ← ov_set]
  exact pV_c (o8_c0 hl) (Nat.le_of_ble_eq_true rfl)
theorem o8_g26 {m : Mm} {a : Nat} {F : Nat → Int} {A : Nat → Int → Int} (hl : a + 25 < m.length) : gR (ov m a (o8 a F A)) a 8 26 = some (a + 21) := gR_c (o8_c0 hl) rfl
theorem o8_g27 {m : Mm} {a : Nat} {F : Nat → Int} {A : Nat → Int → Int} (hl : a + 25 < m.length) : gR (ov m a (o8 a F A)) a 8 27 = some (a + 22) := gR_c (o8_c0 hl) rfl
theorem o8_g28 {m : Mm} {a : Nat} {F : Nat → Int} {A : Nat → Int → Int} (hl : a + 25 < m.length) : gR (ov m a (o8 a F A)) a 8 28 = some (a + 23) := gR_c (o8_c0 hl) rfl
theorem o8_g29 {m : Mm} {a : Nat} {F : Nat → Int} {A : Nat → Int → Int} (hl : a + 25 < m.length) : gI (ov m a (o8 a F A)) a 8 29 = some (I (F 29)) := gI_c (o8_c0 hl) rfl
theorem o8_u29 {a : Nat} {F : Nat → Int} {A : Nat → Int → Int} {v : Int} : up1 (o8 a F A) 0 (some (eO 8 [.ref (a + 1), .int (I (F 1)), .ref (a + 2), .ref (a + 3), .ref (a + 4), .ref (a + 5), .ref (a + 6), .ref (a + 7), .ref (a + 8), .int (I (F 9)), .ref (a + 9), .ref (a + 10), .ref (a + 11), .ref (a + 12), .ref (a + 13), .ref (a + 14), .ref (a + 15), .ref (a + 16), .ref (a + 17), .ref (a + 18), .ref (a + 19), .ref (a + 20), .int (I (F 22)), .int (I (F 23)), .int (I (F 24)), .int (I (F 25)), .ref (a + 21), .ref (a + 22), .ref (a + 23), .int (I v), .ref (a + 24), .int (I (F 31)), .ref (a + 25), .int (I (F 33))])) = o8 a (upN F 29 v) A := by
  funext off
  match off with
  | 0 => rfl
  | 1 => rfl
  | 2 => rfl
  | 3 => rfl
  | 4 => rfl
  | 5 => rfl
  | 6 => rfl
  | 7 => rfl
  | 8 => rfl
  | 9 => rfl
  | 10 => rfl
  | 11 => rfl
  | 12 => rfl
  | 13 => rfl
  | 14 => rfl
  | 15 => rfl
  | 16 => rfl
  | 17 => rfl
  | 18 => rfl
  | 19 => rfl
  | 20 => rfl
  | 21 => rfl
  | 22 => rfl
  | 23 => rfl
  | 24 => rfl
  | 25 => rfl
  | k + 26 => rfl
theorem o8_p29 {v : Int} {m : Mm} {a : Nat} {F : Nat → Int} {A : Nat → Int → Int} (hl : a + 25 < m.length) : pI (ov m a (o8 a F A)) a 8 29 (I v) = some (ov m a (o8 a (upN F 29 v) A)) := by
  rw [← o8_u29, ← ov_set]
  exact pV_c (o8_c0 hl) (Nat.le_of_ble_eq_true rfl)
theorem o8_g30 {m : Mm} {a : Nat} {F : Nat → Int} {A : Nat → Int → Int} (hl : a + 25 < m.length) : gR (ov m a (o8 a F A)) a 8 30 = some (a + 24) := gR_c (o8_c0 hl) rfl
theorem o8_g31 {m : Mm} {a : Nat} {F : Nat → Int} {A : Nat → Int → Int} (hl : a + 25 < m.length) : gI (ov m a (o8 a F A)) a 8 31 = some (I (F 31)) := gI_c (o8_c0 hl) rfl
theorem o8_u31 {a : Nat} {F : Nat → Int} {A : Nat → Int → Int} {v : Int} : up1 (o8 a F A) 0 (some (eO 8 [.ref (a + 1), .int (I (F 1)), .ref (a + 2), .ref (a + 3), .ref (a + 4), .ref (a + 5), .ref (a + 6), .ref (a + 7), .ref (a + 8), .int (I (F 9)), .ref (a + 9), .ref (a + 10), .ref (a + 11), .ref (a + 12), .ref (a + 13), .ref (a + 14), .ref (a + 15), .ref (a + 16), .ref (a + 17), .ref (a + 18), .ref (a + 19), .ref (a + 20), .int (I (F 22)), .int (I (F 23)), .int (I (F 24)), .int (I (F 25)), .ref (a + 21), .ref (a + 22), .ref (a + 23), .int (I (F 29)), .ref (a + 24), .int (I v), .ref (a + 25), .int (I (F 33))])) = o8 a (upN F 31 v) A := by
  funext off
  match off with
  | 0 => rfl
  | 1 => rfl
  | 2 => rfl
  | 3 => rfl
  | 4 => rfl
  | 5 => rfl
  | 6 => rfl
  | 7 => rfl
  | 8 => rfl
  | 9 => rfl
  | 10 => rfl
  | 11 => rfl
  | 12 => rfl
  | 13 => rfl
  | 14 => rfl
  | 15 => rfl
  | 16 => rfl
  | 17 => rfl
  | 18 => rfl
  | 19 => rfl
  | 20 => rfl
  | 21 => rfl
  | 22 => rfl
  | 23 => rfl
  | 24 => rfl
  | 25 => rfl
  | k + 26 => rfl
theorem o8_p31 {v : Int} {m : Mm} {a : Nat} {F : Nat → Int} {A : Nat → Int → Int} (hl : a + 25 < m.length) : pI (ov m a (o8 a F A)) a 8 31 (I v) = some (ov m a (o8 a (upN F 31 v) A)) := by
  rw [← o8_u31, ← ov_set]
  exact pV_c (o8_c0 hl) (Nat.le_of_ble_eq_true rfl)
theorem o8_g32 {m : Mm} {a : Nat} {F : Nat → Int} {A : Nat → Int → Int} (hl : a + 25 < m.length) : gR (ov m a (o8 a F A)) a 8 32 = some (a + 25) := gR_c (o8_c0 hl) rfl
theorem o8_g33 {m : Mm} {a : Nat} {F : Nat → Int} {A : Nat → Int → Int} (hl : a + 25 < m.length) : gI (ov m a (o8 a F A)) a 8 33 = some (I (F 33)) := gI_c (o8_c0 hl) rfl
theorem o8_u33 {a : Nat} {F : Nat → Int} {A : Nat → Int → Int} {v : Int} : up1 (o8 a F A) 0 (some (eO 8 [.ref (a + 1), .int (I (F 1)), .ref (a + 2), .ref (a + 3), .ref (a + 4), .ref (a + 5), .ref (a + 6), .ref (a + 7), .ref (a + 8), .int (I (F 9)), .ref (a + 9), .ref (a + 10), .ref (a + 11), .ref (a + 12), .ref (a + 13), .ref (a + 14), .ref (a + 15), .ref (a + 16), .ref (a + 17), .ref (a + 18), .ref (a + 19), .ref (a + 20), .int (I (F 22)), .int (I (F 23)), .int (I (F 24)), .int (I (F 25)), .ref (a + 21), .ref (a + 22), .ref (a + 23), .int (I (F 29)), .ref (a + 24), .int (I (F 31)), .ref (a + 25), .int (I v)])) = o8 a (upN F 33 v) A := by
  funext off
  match off with
  | 0 => rfl
  | 1 => rfl
  | 2 => rfl
  | 3 => rfl
  | 4 => rfl
  | 5 => rfl
  | 6 => rfl
  | 7 => rfl
  | 8 => rfl
  | 9 => rfl
  | 10 => rfl
  | 11 => rfl
  | 12 => rfl
  | 13 => rfl
  | 14 => rfl
  | 15 => rfl
  | 16 => rfl
  | 17 => rfl
  | 18 => rfl
  | 19 => rfl
  | 20 => rfl
  | 21 => rfl
  | 22 => rfl
  | 23 => rfl
  | 24 => rfl
  | 25 => rfl
  | k + 26 => rfl
theorem o8_p33 {v : Int} {m : Mm} {a : Nat} {F : Nat → Int} {A : Nat → Int → Int} (hl : a + 25 < m.length) : pI (ov m a (o8 a F A)) a 8 33 (I v) = some (ov m a (o8 a (upN F 33 v) A)) := by
  rw [← o8_u33, ← ov_set]
  exact pV_c (o8_c0 hl) (Nat.le_of_ble_eq_true rfl)
theorem o8_w1 {a : Nat} {F : Nat → Int} {A : Nat → Int → Int} {x : Int → Int} : up1 (o8 a F A) 1 (some (eI 3 (cv x))) = o8 a F (upN A 1 x) := by
  funext off
  match off with
  | 0 => rfl
  | 1 => rfl
  | 2 => rfl
  | 3 => rfl
  | 4 => rfl
  | 5 => rfl
  | 6 => rfl
  | 7 => rfl
  | 8 => rfl
  | 9 => rfl
  | 10 => rfl
  | 11 => rfl
  | 12 => rfl
  | 13 => rfl
  | 14 => rfl
  | 15 => rfl
  | 16 => rfl
  | 17 => rfl
  | 18 => rfl
  | 19 => rfl
  | 20 => rfl
  | 21 => rfl
  | 22 => rfl
  | 23 => rfl
  | 24 => rfl
  | 25 => rfl
  | k + 26 => rfl
theorem o8_l1 {m : Mm} {a : Nat} {F : Nat → Int} {A : Nat → Int → Int} (hl : a + 25 < m.length) {i : Int} (h0 : 0 ≤ i) (h1 : i < 3) : lI (ov m a (o8 a F A)) (a + 1) (I i) = some (I (A 1 i)) := lI_c (ov_in (m := m) (a := a) (c := o8 a F A) (off := 1) rfl (by omega)) h0 (by omega) (by omega)
theorem o8_s1 {m : Mm} {a : Nat} {F : Nat → Int} {A : Nat → Int → Int} (hl : a + 25 < m.length) {i v : Int} (h0 : 0 ≤ i) (h1 : i < 3) : sI (ov m a (o8 a F A)) (a + 1) (I i) (I v) = some (ov m a (o8 a F (upN A 1 (upZ (A 1) i v)))) := by
  rw [← o8_w1, ← ov_set]
  exact sI_c (ov_in (m := m) (a := a) (c := o8 a F A) (off := 1) rfl (by omega)) h0 (by omega) (by omega)
theorem o8_w2 {a : Nat} {F : Nat → Int} {A : Nat → Int → Int} {x : Int → Int} : up1 (o8 a F A) 2 (some (eI 32 (cv x))) = o8 a F (upN A 2 x) := by
  funext off
  match off with
  | 0 => rfl
  | 1 => rfl
  | 2 => rfl
  | 3 => rfl
  | 4 => rfl
  | 5 => rfl
  | 6 => rfl
  | 7 => rfl
  | 8 => rfl
  | 9 => rfl
  | 10 => rfl
  | 11 => rfl
  | 12 => rfl
  | 13 => rfl
  | 14 => rfl
  | 15 => rfl
  | 16 => rfl
  | 17 => rfl
  | 18 => rfl
  | 19 => rfl
  | 20 => rfl
  | 21 => rfl
  | 22 => rfl
  | 23 => rfl
  | 24 => rfl
  | 25 => rfl
  | k + 26 => rfl
theorem o8_l2 {m : Mm} {a : Nat} {F : Nat → Int} {A : Nat → Int → Int} (hl : a + 25 < m.length) {i : Int} (h0 : 0 ≤ i) (h1 : i < 32) : lI (ov m a (o8 a F A)) (a + 2) (I i) = some (I (A 2 i)) := lI_c (ov_in (m := m) (a := a) (c := o8 a F A) (off := 2) rfl (by omega)) h0 (by omega) (by omega)
theorem o8_s2 {m : Mm} {a : Nat} {F : Nat → Int} {A : Nat → Int → Int} (hl : a + 25 < m.length) {i v : Int} (h0 : 0 ≤ i) (h1 : i < 32) : sI (ov m a (o8 a F A)) (a + 2) (I i) (I v) = some (ov m a (o8 a F (upN A 2 (upZ (A 2) i v)))) := by
  rw [← o8_w2, ← ov_set]
  exact sI_c (ov_in (m := m) (a := a) (c := o8 a F A) (off := 2) rfl (by omega)) h0 (by omega) (by omega)
theorem o8_w3 {a : Nat} {F : Nat → Int} {A : Nat → Int → Int} {x : Int → Int} : up1 (o8 a F A) 3 (some (eI 32 (cv x))) = o8 a F (upN A 3 x) := by
  funext off
  match off with
  | 0 => rfl
  | 1 => rfl
  | 2 => rfl
  | 3 => rfl
  | 4 => rfl
  | 5 => rfl
  | 6 => rfl
  | 7 => rfl
  | 8 => rfl
  | 9 => rfl
  | 10 => rfl
  | 11 => rfl
  | 12 => rfl
  | 13 => rfl
  | 14 => rfl
  | 15 => rfl
  | 16 => rfl
  | 17 => rfl
  | 18 => rfl
  | 19 => rfl
  | 20 => rfl
  | 21 => rfl
  | 22 => rfl
  | 23 => rfl
  | 24 => rfl
  | 25 => rfl
  | k + 26 => rfl
theorem o8_l3 {m : Mm} {a : Nat} {F : Nat → Int} {A : Nat → Int → Int} (hl : a + 25 < m.length) {i : Int} (h0 : 0 ≤ i) (h1 : i < 32) : lI (ov m a (o8 a F A)) (a + 3) (I i) = some (I (A 3 i)) := lI_c (ov_in (m := m) (a := a) (c := o8 a F A) (off := 3) rfl (by omega)) h0 (by omega) (by omega)
theorem o8_s3 {m : Mm} {a : Nat} {F : Nat → Int} {A : Nat → Int → Int} (hl : a + 25 < m.length) {i v : Int} (h0 : 0 ≤ i) (h1 : i < 32) : sI (ov m a (o8 a F A)) (a + 3) (I i) (I v) = some (ov m a (o8 a F (upN A 3 (upZ (A 3) i v)))) := by
  rw [← o8_w3, ← ov_set]
  exact sI_c (ov_in (m := m) (a := a) (c := o8 a F A) (off := 3) rfl (by omega)) h0 (by omega) (by omega)
theorem o8_w4 {a : Nat} {F : Nat → Int} {A : Nat → Int → Int} {x : Int → Int} : up1 (o8 a F A) 4 (some (eI 32 (cv x))) = o8 a F (upN A 4 x) := by
  funext off
  match off with
  | 0 => rfl
  | 1 => rfl
  | 2 => rfl
  | 3 => rfl
  | 4 => rfl
  | 5 => rfl
  | 6 => rfl
  | 7 => rfl
  | 8 => rfl
  | 9 => rfl
  | 10 => rfl
  | 11 => rfl
  | 12 => rfl
  | 13 => rfl
  | 14 => rfl
  | 15 => rfl
  | 16 => rfl
  | 17 => rfl
  | 18 => rfl
  | 19 => rfl
  | 20 => rfl
  | 21 => rfl
  | 22 => rfl
  | 23 => rfl
  | 24 => rfl
  | 25 => rfl
  | k + 26 => rfl
theorem o8_l4 {m : Mm} {a : Nat} {F : Nat → Int} {A : Nat → Int → Int} (hl : a + 25 < m.length) {i : Int} (h0 : 0 ≤ i) (h1 : i < 32) : lI (ov m a (o8 a F A)) (a + 4) (I i) = some (I (A 4 i)) := lI_c (ov_in (m := m) (a := a) (c := o8 a F A) (off := 4) rfl (by omega)) h0 (by omega) (by omega)
theorem o8_s4 {m : Mm} {a : Nat} {F : Nat → Int} {A : Nat → Int → Int} (hl : a + 25 < m.length) {i v : Int} (h0 : 0 ≤ i) (h1 : i < 32) : sI (ov m a (o8 a F A)) (a + 4) (I i) (I v) = some (ov m a (o8 a F (upN A 4 (upZ (A 4) i v)))) := by
  rw [← o8_w4, ← ov_set]
  exact sI_c (ov_in (m := m) (a := a) (c := o8 a F A) (off := 4) rfl (by omega)) h0 (by omega) (by omega)
theorem o8_w5 {a : Nat} {F : Nat → Int} {A : Nat → Int → Int} {x : Int → Int} : up1 (o8 a F A) 5 (some (eI 32 (cv x))) = o8 a F (upN A 5 x) := by
  funext off
  match off with
  | 0 => rfl
  | 1 => rfl
  | 2 => rfl
  | 3 => rfl
  | 4 => rfl
  | 5 => rfl
  | 6 => rfl
  | 7 => rfl
  | 8 => rfl
  | 9 => rfl
  | 10 => rfl
  | 11 => rfl
  | 12 => rfl
  | 13 => rfl
  | 14 => rfl
  | 15 => rfl
  | 16 => rfl
  | 17 => rfl
  | 18 => rfl
  | 19 => rfl
  | 20 => rfl
  | 21 => rfl
  | 22 => rfl
  | 23 => rfl
  | 24 => rfl
  | 25 => rfl
  | k + 26 => rfl
theorem o8_l5 {m : Mm} {a : Nat} {F : Nat → Int} {A : Nat → Int → Int} (hl : a + 25 < m.length) {i : Int} (h0 : 0 ≤ i) (h1 : i < 32) : lI (ov m a (o8 a F A)) (a + 5) (I i) = some (I (A 5 i)) := lI_c (ov_in (m := m) (a := a) (c := o8 a F A) (off := 5) rfl (by omega)) h0 (by omega) (by omega)
theorem o8_s5 {m : Mm} {a : Nat} {F : Nat → Int} {A : Nat → Int → Int} (hl : a + 25 < m.length) {i v : Int} (h0 : 0 ≤ i) (h1 : i < 32) : sI (ov m a (o8 a F A)) (a + 5) (I i) (I v) = some (ov m a (o8 a F (upN A 5 (upZ (A 5) i v)))) := by
  rw [← o8_w5, ← ov_set]
  exact sI_c (ov_in (m := m) (a := a) (c := o8 a F A) (off := 5) rfl (by omega)) h0 (by omega) (by omega)
theorem o8_w6 {a : Nat} {F : Nat → Int} {A : Nat → Int → Int} {x : Int → Int} : up1 (o8 a F A) 6 (some (eI 32 (cv x))) = o8 a F (upN A 6 x) := by
  funext off
  match off with
  | 0 => rfl
  | 1 => rfl
  | 2 => rfl
  | 3 => rfl
  | 4 => rfl
  | 5 => rfl
  | 6 => rfl
  | 7 => rfl
  | 8 => rfl
  | 9 => rfl
  | 10 => rfl
  | 11 => rfl
  | 12 => rfl
  | 13 => rfl
  | 14 => rfl
  | 15 => rfl
  | 16 => rfl
  | 17 => rfl
  | 18 => rfl
  | 19 => rfl
  | 20 => rfl
  | 21 => rfl
  | 22 => rfl
  | 23 => rfl
  | 24 => rfl
  | 25 => rfl
  | k + 26 => rfl
theorem o8_l6 {m : Mm} {a : Nat} {F : Nat → Int} {A : Nat → Int → Int} (hl : a + 25 < m.length) {i : Int} (h0 : 0 ≤ i) (h1 : i < 32) : lI (ov m a (o8 a F A)) (a + 6) (I i) = some (I (A 6 i)) := lI_c (ov_in (m := m) (a := a) (c := o8 a F A) (off := 6) rfl (by omega)) h0 (by omega) (by omega)
theorem o8_s6 {m : Mm} {a : Nat} {F : Nat → Int} {A : Nat → Int → Int} (hl : a + 25 < m.length) {i v : Int} (h0 : 0 ≤ i) (h1 : i < 32) : sI (ov m a (o8 a F A)) (a + 6) (I i) (I v) = some (ov m a (o8 a F (upN A 6 (upZ (A 6) i v)))) := by
  rw [← o8_w6, ← ov_set]
  exact sI_c (ov_in (m := m) (a := a) (c := o8 a F A) (off := 6) rfl (by omega)) h0 (by omega) (by omega)
theorem o8_w7 {a : Nat} {F : Nat → Int} {A : Nat → Int → Int} {x : Int → Int} : up1 (o8 a F A) 7 (some (eI 4 (cv x))) = o8 a F (upN A 7 x) := by
  funext off
  match off with
  | 0 => rfl
  | 1 => rfl
  | 2 => rfl
  | 3 => rfl
  | 4 => rfl
  | 5 => rfl
  | 6 => rfl
  | 7 => rfl
  | 8 => rfl
  | 9 => rfl
  | 10 => rfl
  | 11 => rfl
  | 12 => rfl
  | 13 => rfl
  | 14 => rfl
  | 15 => rfl
  | 16 => rfl
  | 17 => rfl
  | 18 => rfl
  | 19 => rfl
  | 20 => rfl
  | 21 => rfl
  | 22 => rfl
  | 23 => rfl
  | 24 => rfl
  | 25 => rfl
  | k + 26 => rfl
theorem o8_l7 {m : Mm} {a : Nat} {F : Nat → Int} {A : Nat → Int → Int} (hl : a + 25 < m.length) {i : Int} (h0 : 0 ≤ i) (h1 : i < 4) : lI (ov m a (o8 a F A)) (a + 7) (I i) = some (I (A 7 i)) := lI_c (ov_in (m := m) (a := a) (c := o8 a F A) (off := 7) rfl (by omega)) h0 (by omega) (by omega)
theorem o8_s7 {m : Mm} {a : Nat} {F : Nat → Int} {A : Nat → Int → Int} (hl : a + 25 < m.length) {i v : Int} (h0 : 0 ≤ i) (h1 : i < 4) : sI (ov m a (o8 a F A)) (a + 7) (I i) (I v) = some (ov m a (o8 a F (upN A 7 (upZ (A 7) i v)))) := by
  rw [← o8_w7, ← ov_set]
  exact sI_c (ov_in (m := m) (a := a) (c := o8 a F A) (off := 7) rfl (by omega)) h0 (by omega) (by omega)
theorem o8_w8 {a : Nat} {F : Nat → Int} {A : Nat → Int → Int} {x : Int → Int} : up1 (o8 a F A) 8 (some (eI 144 (cv x))) = o8 a F (upN A 8 x) := by
  funext off
  match off with
  | 0 => rfl
  | 1 => rfl
  | 2 => rfl
  | 3 => rfl
  | 4 => rfl
  | 5 => rfl
  | 6 => rfl
  | 7 => rfl
  | 8 => rfl
  | 9 => rfl
  | 10 => rfl
  | 11 => rfl
  | 12 => rfl
  | 13 => rfl
  | 14 => rfl
  | 15 => rfl
  | 16 => rfl
  | 17 => rfl
  | 18 => rfl
  | 19 => rfl
  | 20 => rfl
  | 21 => rfl
  | 22 => rfl
  | 23 => rfl
  | 24 => rfl
  | 25 => rfl
  | k + 26 => rfl
theorem o8_l8 {m : Mm} {a : Nat} {F : Nat → Int} {A : Nat → Int → Int} (hl : a + 25 < m.length) {i : Int} (h0 : 0 ≤ i) (h1 : i < 144) : lI (ov m a (o8 a F A)) (a + 8) (I i) = some (I (A 8 i)) := lI_c (ov_in (m := m) (a := a) (c := o8 a F A) (off := 8) rfl (by omega)) h0 (by omega) (by omega)
theorem o8_s8 {m : Mm} {a : Nat} {F : Nat → Int} {A : Nat → Int → Int} (hl : a + 25 < m.length) {i v : Int} (h0 : 0 ≤ i) (h1 : i < 144) : sI (ov m a (o8 a F A)) (a + 8) (I i) (I v) = some (ov m a (o8 a F (upN A 8 (upZ (A 8) i v)))) := by
  rw [← o8_w8, ← ov_set]
  exact sI_c (ov_in (m := m) (a := a) (c := o8 a F A) (off := 8) rfl (by omega)) h0 (by omega) (by omega)
theorem o8_w9 {a : Nat} {F : Nat → Int} {A : Nat → Int → Int} {x : Int → Int} : up1 (o8 a F A) 9 (some (eI 1960 (cv x))) = o8 a F (upN A 9 x) := by
  funext off
  match off with
  | 0 => rfl
  | 1 => rfl
  | 2 => rfl
  | 3 => rfl
  | 4 => rfl
  | 5 => rfl
  | 6 => rfl
  | 7 => rfl
  | 8 => rfl
  | 9 => rfl
  | 10 => rfl
  | 11 => rfl
  | 12 => rfl
  | 13 => rfl
  | 14 => rfl
  | 15 => rfl
  | 16 => rfl
  | 17 => rfl
  | 18 => rfl
  | 19 => rfl
  | 20 => rfl
  | 21 => rfl
  | 22 => rfl
  | 23 => rfl
  | 24 => rfl
  | 25 => rfl
  | k + 26 => rfl
theorem o8_l9 {m : Mm} {a : Nat} {F : Nat → Int} {A : Nat → Int → Int} (hl : a + 25 < m.length) {i : Int} (h0 : 0 ≤ i) (h1 : i < 1960) : lI (ov m a (o8 a F A)) (a + 9) (I i) = some (I (A 9 i)) := lI_c (ov_in (m := m) (a := a) (c := o8 a F A) (off := 9) rfl (by omega)) h0 (by omega) (by omega)
theorem o8_s9 {m : Mm} {a : Nat} {F : Nat → Int} {A : Nat → Int → Int} (hl : a + 25 < m.length) {i v : Int} (h0 : 0 ≤ i) (h1 : i < 1960) : sI (ov m a (o8 a F A)) (a + 9) (I i) (I v) = some (ov m a (o8 a F (upN A 9 (upZ (A 9) i v)))) := by
  rw [← o8_w9, ← ov_set]
  exact sI_c (ov_in (m := m) (a := a) (c := o8 a F A) (off := 9) rfl (by omega)) h0 (by omega) (by omega)
theorem o8_w10 {a : Nat} {F : Nat → Int} {A : Nat → Int → Int} {x : Int → Int} : up1 (o8 a F A) 10 (some (eI 96 (cv x))) = o8 a F (upN A 10 x) := by
  funext off
  match off with
  | 0 => rfl
  | 1 => rfl
  | 2 => rfl
  | 3 => rfl
  | 4 => rfl
  | 5 => rfl
  | 6 => rfl
  | 7 => rfl
  | 8 => rfl
  | 9 => rfl
  | 10 => rfl
  | 11 => rfl
  | 12 => rfl
  | 13 => rfl
  | 14 => rfl
  | 15 => rfl
  | 16 => rfl
  | 17 => rfl
  | 18 => rfl
  | 19 => rfl
  | 20 => rfl
  | 21 => rfl
  | 22 => rfl
  | 23 => rfl
  | 24 => rfl
  | 25 => rfl
  | k + 26 => rfl
theorem o8_l10 {m : Mm} {a : Nat} {F : Nat → Int} {A : Nat → Int → Int} (hl : a + 25 < m.length) {i : Int} (h0 : 0 ≤ i) (h1 : i < 96) : lI (ov m a (o8 a F A)) (a + 10) (I i) = some (I (A 10 i)) := lI_c (ov_in (m := m) (a := a) (c := o8 a F A) (off := 10) rfl (by omega)) h0 (by omega) (by omega)
theorem o8_s10 {m : Mm} {a : Nat} {F : Nat → Int} {A : Nat → Int → Int} (hl : a + 25 < m.length) {i v : Int} (h0 : 0 ≤ i) (h1 : i < 96) : sI (ov m a (o8 a F A)) (a + 10) (I i) (I v) = some (ov m a (o8 a F (upN A 10 (upZ (A 10) i v)))) := by
  rw [← o8_w10, ← ov_set]
  exact sI_c (ov_in (m := m) (a := a) (c := o8 a F A) (off := 10) rfl (by omega)) h0 (by omega) (by omega)
theorem o8_w11 {a : Nat} {F : Nat → Int} {A : Nat → Int → Int} {x : Int → Int} : up1 (o8 a F A) 11 (some (eI 6 (cv x))) = o8 a F (upN A 11 x) := by
  funext off
  match off with
  | 0 => rfl
  | 1 => rfl
  | 2 => rfl
  | 3 => rfl
  | 4 => rfl
  | 5 => rfl
  | 6 => rfl
  | 7 => rfl
  | 8 => rfl
  | 9 => rfl
  | 10 => rfl
  | 11 => rfl
  | 12 => rfl
  | 13 => rfl
  | 14 => rfl
  | 15 => rfl
  | 16 => rfl
  | 17 => rfl
  | 18 => rfl
  | 19 => rfl
  | 20 => rfl
  | 21 => rfl
  | 22 => rfl
  | 23 => rfl
  | 24 => rfl
  | 25 => rfl
  | k + 26 => rfl
theorem o8_l11 {m : Mm} {a : Nat} {F : Nat → Int} {A : Nat → Int → Int} (hl : a + 25 < m.length) {i : Int} (h0 : 0 ≤ i) (h1 : i < 6) : lI (ov m a (o8 a F A)) (a + 11) (I i) = some (I (A 11 i)) := lI_c (ov_in (m := m) (a := a) (c := o8 a F A) (off := 11) rfl (by omega)) h0 (by omega) (by omega)
theorem o8_s11 {m : Mm} {a : Nat} {F : Nat → Int} {A : Nat → Int → Int} (hl : a + 25 < m.length) {i v : Int} (h0 : 0 ≤ i) (h1 : i < 6) : sI (ov m a (o8 a F A)) (a + 11) (I i) (I v) = some (ov m a (o8 a F (upN A 11 (upZ (A 11) i v)))) := by
  rw [← o8_w11, ← ov_set]
  exact sI_c (ov_in (m := m) (a := a) (c := o8 a F A) (off := 11) rfl (by omega)) h0 (by omega) (by omega)
theorem o8_w12 {a : Nat} {F : Nat → Int} {A : Nat → Int → Int} {x : Int → Int} : up1 (o8 a F A) 12 (some (eI 6 (cv x))) = o8 a F (upN A 12 x) := by
  funext off
  match off with
  | 0 => rfl
  | 1 => rfl
  | 2 => rfl
  | 3 => rfl
  | 4 => rfl
  | 5 => rfl
  | 6 => rfl
  | 7 => rfl
  | 8 => rfl
  | 9 => rfl
  | 10 => rfl
  | 11 => rfl
  | 12 => rfl
  | 13 => rfl
  | 14 => rfl
  | 15 => rfl
  | 16 => rfl
  | 17 => rfl
  | 18 => rfl
  | 19 => rfl
  | 20 => rfl
  | 21 => rfl
  | 22 => rfl
  | 23 => rfl
  | 24 => rfl
  | 25 => rfl
  | k + 26 => rfl
theorem o8_l12 {m : Mm} {a : Nat} {F : Nat → Int} {A : Nat → Int → Int} (hl : a + 25 < m.length) {i : Int} (h0 : 0 ≤ i) (h1 : i < 6) : lI (ov m a (o8 a F A)) (a + 12) (I i) = some (I (A 12 i)) := lI_c (ov_in (m := m) (a := a) (c := o8 a F A) (off := 12) rfl (by omega)) h0 (by omega) (by omega)
theorem o8_s12 {m : Mm} {a : Nat} {F : Nat → Int} {A : Nat → Int → Int} (hl : a + 25 < m.length) {i v : Int} (h0 : 0 ≤ i) (h1 : i < 6) : sI (ov m a (o8 a F A)) (a + 12) (I i) (I v) = some (ov m a (o8 a F (upN A 12 (upZ (A 12) i v)))) := by
  rw [← o8_w12, ← ov_set]
  exact sI_c (ov_in (m := m) (a := a) (c := o8 a F A) (off := 12) rfl (by omega)) h0 (by omega) (by omega)
theorem o8_w13 {a : Nat} {F : Nat → Int} {A : Nat → Int → Int} {x : Int → Int} : up1 (o8 a F A) 13 (some (eJ 192 (cw x))) = o8 a F (upN A 13 x) := by
  funext off
  match off with
  | 0 => rfl
  | 1 => rfl
  | 2 => rfl
  | 3 => rfl
  | 4 => rfl
  | 5 => rfl
  | 6 => rfl
  | 7 => rfl
  | 8 => rfl
  | 9 => rfl
  | 10 => rfl
  | 11 => rfl
  | 12 => rfl
  | 13 => rfl
  | 14 => rfl
  | 15 => rfl
  | 16 => rfl
  | 17 => rfl
  | 18 => rfl
  | 19 => rfl
  | 20 => rfl
  | 21 => rfl
  | 22 => rfl
  | 23 => rfl
  | 24 => rfl
  | 25 => rfl
  | k + 26 => rfl
theorem o8_l13 {m : Mm} {a : Nat} {F : Nat → Int} {A : Nat → Int → Int} (hl : a + 25 < m.length) {i : Int} (h0 : 0 ≤ i) (h1 : i < 192) : lJ (ov m a (o8 a F A)) (a + 13) (I i) = some (J (A 13 i)) := lJ_c (ov_in (m := m) (a := a) (c := o8 a F A) (off := 13) rfl (by omega)) h0 (by omega) (by omega)
theorem o8_s13 {m : Mm} {a : Nat} {F : Nat → Int} {A : Nat → Int → Int} (hl : a + 25 < m.length) {i v : Int} (h0 : 0 ≤ i) (h1 : i < 192) : sJ (ov m a (o8 a F A)) (a + 13) (I i) (J v) = some (ov m a (o8 a F (upN A 13 (upZ (A 13) i v)))) := by
  rw [← o8_w13, ← ov_set]
  exact sJ_c (ov_in (m := m) (a := a) (c := o8 a F A) (off := 13) rfl (by omega)) h0 (by omega) (by omega)
theorem o8_w14 {a : Nat} {F : Nat → Int} {A : Nat → Int → Int} {x : Int → Int} : up1 (o8 a F A) 14 (some (eJ 32 (cw x))) = o8 a F (upN A 14 x) := by
  funext off
  match off with
  | 0 => rfl
  | 1 => rfl
  | 2 => rfl
  | 3 => rfl
  | 4 => rfl
  | 5 => rfl
  | 6 => rfl
  | 7 => rfl
  | 8 => rfl
  | 9 => rfl
  | 10 => rfl
  | 11 => rfl
  | 12 => rfl
  | 13 => rfl
  | 14 => rfl
  | 15 => rfl
  | 16 => rfl
  | 17 => rfl
  | 18 => rfl
  | 19 => rfl
  | 20 => rfl
  | 21 => rfl
  | 22 => rfl
  | 23 => rfl
  | 24 => rfl
  | 25 => rfl
  | k + 26 => rfl
theorem o8_l14 {m : Mm} {a : Nat} {F : Nat → Int} {A : Nat → Int → Int} (hl : a + 25 < m.length) {i : Int} (h0 : 0 ≤ i) (h1 : i < 32) : lJ (ov m a (o8 a F A)) (a + 14) (I i) = some (J (A 14 i)) := lJ_c (ov_in (m := m) (a := a) (c := o8 a F A) (off := 14) rfl (by omega)) h0 (by omega) (by omega)
theorem o8_s14 {m : Mm} {a : Nat} {F : Nat → Int} {A : Nat → Int → Int} (hl : a + 25 < m.length) {i v : Int} (h0 : 0 ≤ i) (h1 : i < 32) : sJ (ov m a (o8 a F A)) (a + 14) (I i) (J v) = some (ov m a (o8 a F (upN A 14 (upZ (A 14) i v)))) := by
  rw [← o8_w14, ← ov_set]
  exact sJ_c (ov_in (m := m) (a := a) (c := o8 a F A) (off := 14) rfl (by omega)) h0 (by omega) (by omega)
theorem o8_w15 {a : Nat} {F : Nat → Int} {A : Nat → Int → Int} {x : Int → Int} : up1 (o8 a F A) 15 (some (eJ 32 (cw x))) = o8 a F (upN A 15 x) := by
  funext off
  match off with
  | 0 => rfl
  | 1 => rfl
  | 2 => rfl
  | 3 => rfl
  | 4 => rfl
  | 5 => rfl
  | 6 => rfl
  | 7 => rfl
  | 8 => rfl
  | 9 => rfl
  | 10 => rfl
  | 11 => rfl
  | 12 => rfl
  | 13 => rfl
  | 14 => rfl
  | 15 => rfl
  | 16 => rfl
  | 17 => rfl
  | 18 => rfl
  | 19 => rfl
  | 20 => rfl
  | 21 => rfl
  | 22 => rfl
  | 23 => rfl
  | 24 => rfl
  | 25 => rfl
  | k + 26 => rfl
theorem o8_l15 {m : Mm} {a : Nat} {F : Nat → Int} {A : Nat → Int → Int} (hl : a + 25 < m.length) {i : Int} (h0 : 0 ≤ i) (h1 : i < 32) : lJ (ov m a (o8 a F A)) (a + 15) (I i) = some (J (A 15 i)) := lJ_c (ov_in (m := m) (a := a) (c := o8 a F A) (off := 15) rfl (by omega)) h0 (by omega) (by omega)
theorem o8_s15 {m : Mm} {a : Nat} {F : Nat → Int} {A : Nat → Int → Int} (hl : a + 25 < m.length) {i v : Int} (h0 : 0 ≤ i) (h1 : i < 32) : sJ (ov m a (o8 a F A)) (a + 15) (I i) (J v) = some (ov m a (o8 a F (upN A 15 (upZ (A 15) i v)))) := by
  rw [← o8_w15, ← ov_set]
  exact sJ_c (ov_in (m := m) (a := a) (c := o8 a F A) (off := 15) rfl (by omega)) h0 (by omega) (by omega)
theorem o8_w16 {a : Nat} {F : Nat → Int} {A : Nat → Int → Int} {x : Int → Int} : up1 (o8 a F A) 16 (some (eJ 33 (cw x))) = o8 a F (upN A 16 x) := by
  funext off
  match off with
  | 0 => rfl
  | 1 => rfl
  | 2 => rfl
  | 3 => rfl
  | 4 => rfl
  | 5 => rfl
  | 6 => rfl
  | 7 => rfl
  | 8 => rfl
  | 9 => rfl
  | 10 => rfl
  | 11 => rfl
  | 12 => rfl
  | 13 => rfl
  | 14 => rfl
  | 15 => rfl
  | 16 => rfl
  | 17 => rfl
  | 18 => rfl
  | 19 => rfl
  | 20 => rfl
  | 21 => rfl
  | 22 => rfl
  | 23 => rfl
  | 24 => rfl
  | 25 => rfl
  | k + 26 => rfl
theorem o8_l16 {m : Mm} {a : Nat} {F : Nat → Int} {A : Nat → Int → Int} (hl : a + 25 < m.length) {i : Int} (h0 : 0 ≤ i) (h1 : i < 33) : lJ (ov m a (o8 a F A)) (a + 16) (I i) = some (J (A 16 i)) := lJ_c (ov_in (m := m) (a := a) (c := o8 a F A) (off := 16) rfl (by omega)) h0 (by omega) (by omega)
theorem o8_s16 {m : Mm} {a : Nat} {F : Nat → Int} {A : Nat → Int → Int} (hl : a + 25 < m.length) {i v : Int} (h0 : 0 ≤ i) (h1 : i < 33) : sJ (ov m a (o8 a F A)) (a + 16) (I i) (J v) = some (ov m a (o8 a F (upN A 16 (upZ (A 16) i v)))) := by
  rw [← o8_w16, ← ov_set]
  exact sJ_c (ov_in (m := m) (a := a) (c := o8 a F A) (off := 16) rfl (by omega)) h0 (by omega) (by omega)
theorem o8_w17 {a : Nat} {F : Nat → Int} {A : Nat → Int → Int} {x : Int → Int} : up1 (o8 a F A) 17 (some (eI 6 (cv x))) = o8 a F (upN A 17 x) := by
  funext off
  match off with
  | 0 => rfl
  | 1 => rfl
  | 2 => rfl
  | 3 => rfl
  | 4 => rfl
  | 5 => rfl
  | 6 => rfl
  | 7 => rfl
  | 8 => rfl
  | 9 => rfl
  | 10 => rfl
  | 11 => rfl
  | 12 => rfl
  | 13 => rfl
  | 14 => rfl
  | 15 => rfl
  | 16 => rfl
  | 17 => rfl
  | 18 => rfl
  | 19 => rfl
  | 20 => rfl
  | 21 => rfl
  | 22 => rfl
  | 23 => rfl
  | 24 => rfl
  | 25 => rfl
  | k + 26 => rfl
theorem o8_l17 {m : Mm} {a : Nat} {F : Nat → Int} {A : Nat → Int → Int} (hl : a + 25 < m.length) {i : Int} (h0 : 0 ≤ i) (h1 : i < 6) : lI (ov m a (o8 a F A)) (a + 17) (I i) = some (I (A 17 i)) := lI_c (ov_in (m := m) (a := a) (c := o8 a F A) (off := 17) rfl (by omega)) h0 (by omega) (by omega)
theorem o8_s17 {m : Mm} {a : Nat} {F : Nat → Int} {A : Nat → Int → Int} (hl : a + 25 < m.length) {i v : Int} (h0 : 0 ≤ i) (h1 : i < 6) : sI (ov m a (o8 a F A)) (a + 17) (I i) (I v) = some (ov m a (o8 a F (upN A 17 (upZ (A 17) i v)))) := by
  rw [← o8_w17, ← ov_set]
  exact sI_c (ov_in (m := m) (a := a) (c := o8 a F A) (off := 17) rfl (by omega)) h0 (by omega) (by omega)
theorem o8_w18 {a : Nat} {F : Nat → Int} {A : Nat → Int → Int} {x : Int → Int} : up1 (o8 a F A) 18 (some (eJ 32 (cw x))) = o8 a F (upN A 18 x) := by
  funext off
  match off with
  | 0 => rfl
  | 1 => rfl
  | 2 => rfl
  | 3 => rfl
  | 4 => rfl
  | 5 => rfl
  | 6 => rfl
  | 7 => rfl
  | 8 => rfl
  | 9 => rfl
  | 10 => rfl
  | 11 => rfl
  | 12 => rfl
  | 13 => rfl
  | 14 => rfl
  | 15 => rfl
  | 16 => rfl
  | 17 => rfl
  | 18 => rfl
  | 19 => rfl
  | 20 => rfl
  | 21 => rfl
  | 22 => rfl
  | 23 => rfl
  | 24 => rfl
  | 25 => rfl
  | k + 26 => rfl
theorem o8_l18 {m : Mm} {a : Nat} {F : Nat → Int} {A : Nat → Int → Int} (hl : a + 25 < m.length) {i : Int} (h0 : 0 ≤ i) (h1 : i < 32) : lJ (ov m a (o8 a F A)) (a + 18) (I i) = some (J (A 18 i)) := lJ_c (ov_in (m := m) (a := a) (c := o8 a F A) (off := 18) rfl (by omega)) h0 (by omega) (by omega)
theorem o8_s18 {m : Mm} {a : Nat} {F : Nat → Int} {A : Nat → Int → Int} (hl : a + 25 < m.length) {i v : Int} (h0 : 0 ≤ i) (h1 : i < 32) : sJ (ov m a (o8 a F A)) (a + 18) (I i) (J v) = some (ov m a (o8 a F (upN A 18 (upZ (A 18) i v)))) := by
  rw [← o8_w18, ← ov_set]
  exact sJ_c (ov_in (m := m) (a := a) (c := o8 a F A) (off := 18) rfl (by omega)) h0 (by omega) (by omega)
theorem o8_w19 {a : Nat} {F : Nat → Int} {A : Nat → Int → Int} {x : Int → Int} : up1 (o8 a F A) 19 (some (eJ 32 (cw x))) = o8 a F (upN A 19 x) := by
  funext off
  match off with
  | 0 => rfl
  | 1 => rfl
  | 2 => rfl
  | 3 => rfl
  | 4 => rfl
  | 5 => rfl
  | 6 => rfl
  | 7 => rfl
  | 8 => rfl
  | 9 => rfl
  | 10 => rfl
  | 11 => rfl
  | 12 => rfl
  | 13 => rfl
  | 14 => rfl
  | 15 => rfl
  | 16 => rfl
  | 17 => rfl
  | 18 => rfl
  | 19 => rfl
  | 20 => rfl
  | 21 => rfl
  | 22 => rfl
  | 23 => rfl
  | 24 => rfl
  | 25 => rfl
  | k + 26 => rfl
theorem o8_l19 {m : Mm} {a : Nat} {F : Nat → Int} {A : Nat → Int → Int} (hl : a + 25 < m.length) {i : Int} (h0 : 0 ≤ i) (h1 : i < 32) : lJ (ov m a (o8 a F A)) (a + 19) (I i) = some (J (A 19 i)) := lJ_c (ov_in (m := m) (a := a) (c := o8 a F A) (off := 19) rfl (by omega)) h0 (by omega) (by omega)
theorem o8_s19 {m : Mm} {a : Nat} {F : Nat → Int} {A : Nat → Int → Int} (hl : a + 25 < m.length) {i v : Int} (h0 : 0 ≤ i) (h1 : i < 32) : sJ (ov m a (o8 a F A)) (a + 19) (I i) (J v) = some (ov m a (o8 a F (upN A 19 (upZ (A 19) i v)))) := by
  rw [← o8_w19, ← ov_set]
  exact sJ_c (ov_in (m := m) (a := a) (c := o8 a F A) (off := 19) rfl (by omega)) h0 (by omega) (by omega)
theorem o8_w20 {a : Nat} {F : Nat → Int} {A : Nat → Int → Int} {x : Int → Int} : up1 (o8 a F A) 20 (some (eI 120 (cv x))) = o8 a F (upN A 20 x) := by
  funext off
  match off with
  | 0 => rfl
  | 1 => rfl
  | 2 => rfl
  | 3 => rfl
  | 4 => rfl
  | 5 => rfl
  | 6 => rfl
  | 7 => rfl
  | 8 => rfl
  | 9 => rfl
  | 10 => rfl
  | 11 => rfl
  | 12 => rfl
  | 13 => rfl
  | 14 => rfl
  | 15 => rfl
  | 16 => rfl
  | 17 => rfl
  | 18 => rfl
  | 19 => rfl
  | 20 => rfl
  | 21 => rfl
  | 22 => rfl
  | 23 => rfl
  | 24 => rfl
  | 25 => rfl
  | k + 26 => rfl
theorem o8_l20 {m : Mm} {a : Nat} {F : Nat → Int} {A : Nat → Int → Int} (hl : a + 25 < m.length) {i : Int} (h0 : 0 ≤ i) (h1 : i < 120) : lI (ov m a (o8 a F A)) (a + 20) (I i) = some (I (A 20 i)) := lI_c (ov_in (m := m) (a := a) (c := o8 a F A) (off := 20) rfl (by omega)) h0 (by omega) (by omega)
theorem o8_s20 {m : Mm} {a : Nat} {F : Nat → Int} {A : Nat → Int → Int} (hl : a + 25 < m.length) {i v : Int} (h0 : 0 ≤ i) (h1 : i < 120) : sI (ov m a (o8 a F A)) (a + 20) (I i) (I v) = some (ov m a (o8 a F (upN A 20 (upZ (A 20) i v)))) := by
  rw [← o8_w20, ← ov_set]
  exact sI_c (ov_in (m := m) (a := a) (c := o8 a F A) (off := 20) rfl (by omega)) h0 (by omega) (by omega)
theorem o8_w21 {a : Nat} {F : Nat → Int} {A : Nat → Int → Int} {x : Int → Int} : up1 (o8 a F A) 21 (some (eI 32 (cv x))) = o8 a F (upN A 21 x) := by
  funext off
  match off with
  | 0 => rfl
  | 1 => rfl
  | 2 => rfl
  | 3 => rfl
  | 4 => rfl
  | 5 => rfl
  | 6 => rfl
  | 7 => rfl
  | 8 => rfl
  | 9 => rfl
  | 10 => rfl
  | 11 => rfl
  | 12 => rfl
  | 13 => rfl
  | 14 => rfl
  | 15 => rfl
  | 16 => rfl
  | 17 => rfl
  | 18 => rfl
  | 19 => rfl
  | 20 => rfl
  | 21 => rfl
  | 22 => rfl
  | 23 => rfl
  | 24 => rfl
  | 25 => rfl
  | k + 26 => rfl
theorem o8_l21 {m : Mm} {a : Nat} {F : Nat → Int} {A : Nat → Int → Int} (hl : a + 25 < m.length) {i : Int} (h0 : 0 ≤ i) (h1 : i < 32) : lI (ov m a (o8 a F A)) (a + 21) (I i) = some (I (A 21 i)) := lI_c (ov_in (m := m) (a := a) (c := o8 a F A) (off := 21) rfl (by omega)) h0 (by omega) (by omega)
theorem o8_s21 {m : Mm} {a : Nat} {F : Nat → Int} {A : Nat → Int → Int} (hl : a + 25 < m.length) {i v : Int} (h0 : 0 ≤ i) (h1 : i < 32) : sI (ov m a (o8 a F A)) (a + 21) (I i) (I v) = some (ov m a (o8 a F (upN A 21 (upZ (A 21) i v)))) := by
  rw [← o8_w21, ← ov_set]
  exact sI_c (ov_in (m := m) (a := a) (c := o8 a F A) (off := 21) rfl (by omega)) h0 (by omega) (by omega)
theorem o8_w22 {a : Nat} {F : Nat → Int} {A : Nat → Int → Int} {x : Int → Int} : up1 (o8 a F A) 22 (some (eI 32 (cv x))) = o8 a F (upN A 22 x) := by
  funext off
  match off with
  | 0 => rfl
  | 1 => rfl
  | 2 => rfl
  | 3 => rfl
  | 4 => rfl
  | 5 => rfl
  | 6 => rfl
  | 7 => rfl
  | 8 => rfl
  | 9 => rfl
  | 10 => rfl
  | 11 => rfl
  | 12 => rfl
  | 13 => rfl
  | 14 => rfl
  | 15 => rfl
  | 16 => rfl
  | 17 => rfl
  | 18 => rfl
  | 19 => rfl
  | 20 => rfl
  | 21 => rfl
  | 22 => rfl
  | 23 => rfl
  | 24 => rfl
  | 25 => rfl
  | k + 26 => rfl
theorem o8_l22 {m : Mm} {a : Nat} {F : Nat → Int} {A : Nat → Int → Int} (hl : a + 25 < m.length) {i : Int} (h0 : 0 ≤ i) (h1 : i < 32) : lI (ov m a (o8 a F A)) (a + 22) (I i) = some (I (A 22 i)) := lI_c (ov_in (m := m) (a := a) (c := o8 a F A) (off := 22) rfl (by omega)) h0 (by omega) (by omega)
theorem o8_s22 {m : Mm} {a : Nat} {F : Nat → Int} {A : Nat → Int → Int} (hl : a + 25 < m.length) {i v : Int} (h0 : 0 ≤ i) (h1 : i < 32) : sI (ov m a (o8 a F A)) (a + 22) (I i) (I v) = some (ov m a (o8 a F (upN A 22 (upZ (A 22) i v)))) := by
  rw [← o8_w22, ← ov_set]
  exact sI_c (ov_in (m := m) (a := a) (c := o8 a F A) (off := 22) rfl (by omega)) h0 (by omega) (by omega)
theorem o8_w23 {a : Nat} {F : Nat → Int} {A : Nat → Int → Int} {x : Int → Int} : up1 (o8 a F A) 23 (some (eI 32 (cv x))) = o8 a F (upN A 23 x) := by
  funext off
  match off with
  | 0 => rfl
  | 1 => rfl
  | 2 => rfl
  | 3 => rfl
  | 4 => rfl
  | 5 => rfl
  | 6 => rfl
  | 7 => rfl
  | 8 => rfl
  | 9 => rfl
  | 10 => rfl
  | 11 => rfl
  | 12 => rfl
  | 13 => rfl
  | 14 => rfl
  | 15 => rfl
  | 16 => rfl
  | 17 => rfl
  | 18 => rfl
  | 19 => rfl
  | 20 => rfl
  | 21 => rfl
  | 22 => rfl
  | 23 => rfl
  | 24 => rfl
  | 25 => rfl
  | k + 26 => rfl
theorem o8_l23 {m : Mm} {a : Nat} {F : Nat → Int} {A : Nat → Int → Int} (hl : a + 25 < m.length) {i : Int} (h0 : 0 ≤ i) (h1 : i < 32) : lI (ov m a (o8 a F A)) (a + 23) (I i) = some (I (A 23 i)) := lI_c (ov_in (m := m) (a := a) (c := o8 a F A) (off := 23) rfl (by omega)) h0 (by omega) (by omega)
theorem o8_s23 {m : Mm} {a : Nat} {F : Nat → Int} {A : Nat → Int → Int} (hl : a + 25 < m.length) {i v : Int} (h0 : 0 ≤ i) (h1 : i < 32) : sI (ov m a (o8 a F A)) (a + 23) (I i) (I v) = some (ov m a (o8 a F (upN A 23 (upZ (A 23) i v)))) := by
  rw [← o8_w23, ← ov_set]
  exact sI_c (ov_in (m := m) (a := a) (c := o8 a F A) (off := 23) rfl (by omega)) h0 (by omega) (by omega)
theorem o8_w24 {a : Nat} {F : Nat → Int} {A : Nat → Int → Int} {x : Int → Int} : up1 (o8 a F A) 24 (some (eI 36 (cv x))) = o8 a F (upN A 24 x) := by
  funext off
  match off with
  | 0 => rfl
  | 1 => rfl
  | 2 => rfl
  | 3 => rfl
  | 4 => rfl
  | 5 => rfl
  | 6 => rfl
  | 7 => rfl
  | 8 => rfl
  | 9 => rfl
  | 10 => rfl
  | 11 => rfl
  | 12 => rfl
  | 13 => rfl
  | 14 => rfl
  | 15 => rfl
  | 16 => rfl
  | 17 => rfl
  | 18 => rfl
  | 19 => rfl
  | 20 => rfl
  | 21 => rfl
  | 22 => rfl
  | 23 => rfl
  | 24 => rfl
  | 25 => rfl
  | k + 26 => rfl
theorem o8_l24 {m : Mm} {a : Nat} {F : Nat → Int} {A : Nat → Int → Int} (hl : a + 25 < m.length) {i : Int} (h0 : 0 ≤ i) (h1 : i < 36) : lI (ov m a (o8 a F A)) (a + 24) (I i) = some (I (A 24 i)) := lI_c (ov_in (m := m) (a := a) (c := o8 a F A) (off := 24) rfl (by omega)) h0 (by omega) (by omega)
theorem o8_s24 {m : Mm} {a : Nat} {F : Nat → Int} {A : Nat → Int → Int} (hl : a + 25 < m.length) {i v : Int} (h0 : 0 ≤ i) (h1 : i < 36) : sI (ov m a (o8 a F A)) (a + 24) (I i) (I v) = some (ov m a (o8 a F (upN A 24 (upZ (A 24) i v)))) := by
  rw [← o8_w24, ← ov_set]
  exact sI_c (ov_in (m := m) (a := a) (c := o8 a F A) (off := 24) rfl (by omega)) h0 (by omega) (by omega)
theorem o8_w25 {a : Nat} {F : Nat → Int} {A : Nat → Int → Int} {x : Int → Int} : up1 (o8 a F A) 25 (some (eI 256 (cv x))) = o8 a F (upN A 25 x) := by
  funext off
  match off with
  | 0 => rfl
  | 1 => rfl
  | 2 => rfl
  | 3 => rfl
  | 4 => rfl
  | 5 => rfl
  | 6 => rfl
  | 7 => rfl
  | 8 => rfl
  | 9 => rfl
  | 10 => rfl
  | 11 => rfl
  | 12 => rfl
  | 13 => rfl
  | 14 => rfl
  | 15 => rfl
  | 16 => rfl
  | 17 => rfl
  | 18 => rfl
  | 19 => rfl
  | 20 => rfl
  | 21 => rfl
  | 22 => rfl
  | 23 => rfl
  | 24 => rfl
  | 25 => rfl
  | k + 26 => rfl
theorem o8_l25 {m : Mm} {a : Nat} {F : Nat → Int} {A : Nat → Int → Int} (hl : a + 25 < m.length) {i : Int} (h0 : 0 ≤ i) (h1 : i < 256) : lI (ov m a (o8 a F A)) (a + 25) (I i) = some (I (A 25 i)) := lI_c (ov_in (m := m) (a := a) (c := o8 a F A) (off := 25) rfl (by omega)) h0 (by omega) (by omega)
theorem o8_s25 {m : Mm} {a : Nat} {F : Nat → Int} {A : Nat → Int → Int} (hl : a + 25 < m.length) {i v : Int} (h0 : 0 ≤ i) (h1 : i < 256) : sI (ov m a (o8 a F A)) (a + 25) (I i) (I v) = some (ov m a (o8 a F (upN A 25 (upZ (A 25) i v)))) := by
  rw [← o8_w25, ← ov_set]
  exact sI_c (ov_in (m := m) (a := a) (c := o8 a F A) (off := 25) rfl (by omega)) h0 (by omega) (by omega)
