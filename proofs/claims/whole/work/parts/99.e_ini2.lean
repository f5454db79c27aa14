/-! ===== the first state ===== -/
/-- the cells from a on look so -/
def Bk (m : Mm) (a : Nat) (tb : List sE) : Prop := ∀ j s, tb[j]? = some s → ∃ e, m[a + j]? = some e ∧ sh e = s
theorem Bk.app {m : Mm} {a : Nat} {x y : List sE} (h : Bk m a (x ++ y)) : Bk m a x ∧ Bk m (a + x.length) y := by
  refine ⟨fun j s hj => h j s ?_, fun j s hj => ?_⟩
  · rw [List.getElem?_append_left (List.getElem?_eq_some_iff.mp hj).1]; exact hj
  · have := h (x.length + j) s (by rw [List.getElem?_append_right (by omega), show x.length + j - x.length = j by omega]; exact hj)
    rwa [← Nat.add_assoc] at this
def gA (m : Mm) (a : Nat) : Nat → Int → Int := fun off k => match m[a + off]? with
  | some (.inl (_, f)) => (f k.toNat).toInt
  | some (.inr (.inl (_, f))) => (f k.toNat).toInt
  | _ => 0
section INI
variable {m : Mm} {a : Nat} {tb : List sE}
theorem sh_I {e : mE} {n : Nat} {x : List Int} (h : sh e = (0, n, x, [])) : ∃ f, e = eI n f ∧ x = [(f 0).toInt, (f 1).toInt, (f 2).toInt, (f 3).toInt] := by
  rcases e with ⟨n', f⟩ | ⟨n', f⟩ | ⟨k, n', f⟩ | ⟨c, fs⟩
  · obtain ⟨-, h1⟩ := Prod.mk.inj h
    obtain ⟨h2, h3⟩ := Prod.mk.inj h1
    obtain ⟨h4, -⟩ := Prod.mk.inj h3
    exact ⟨f, by rw [← h2], h4.symm⟩
  · obtain ⟨h1, -⟩ := Prod.mk.inj h; omega
  · obtain ⟨h1, -⟩ := Prod.mk.inj h; omega
  · obtain ⟨h1, -⟩ := Prod.mk.inj h; omega
theorem sh_J {e : mE} {n : Nat} (h : sh e = (1, n, [], [])) : ∃ f, e = eJ n f := by
  rcases e with ⟨n', f⟩ | ⟨n', f⟩ | ⟨k, n', f⟩ | ⟨c, fs⟩
  · obtain ⟨h1, -⟩ := Prod.mk.inj h; omega
  · obtain ⟨-, h1⟩ := Prod.mk.inj h
    obtain ⟨h2, -⟩ := Prod.mk.inj h1
    exact ⟨f, by rw [← h2]⟩
  · obtain ⟨h1, -⟩ := Prod.mk.inj h; omega
  · obtain ⟨h1, -⟩ := Prod.mk.inj h; omega
theorem sh_R {e : mE} {n k : Nat} {l : List (Nat × Int)} (h : sh e = tR k n l) : ∃ f, e = eR k n f ∧ (List.range n).map (fun i => match f i with
    | some v => ((2 : Nat), (v : Int))
    | none => (0, 0)) = l := by
  rcases e with ⟨n', f⟩ | ⟨n', f⟩ | ⟨k', n', f⟩ | ⟨c, fs⟩
  · obtain ⟨h1, -⟩ := Prod.mk.inj h; omega
  · obtain ⟨h1, -⟩ := Prod.mk.inj h; omega
  · obtain ⟨-, h1⟩ := Prod.mk.inj h
    obtain ⟨h2, h3⟩ := Prod.mk.inj h1
    obtain ⟨h4, h5⟩ := Prod.mk.inj h3
    have h6 := (List.cons.inj h4).1
    have h7 : k' = k := by omega
    subst h2; subst h7
    exact ⟨f, rfl, h5⟩
  · obtain ⟨h1, -⟩ := Prod.mk.inj h; omega
theorem dV_sV {v : Value} (h : (sV v).1 ≠ 9) : dV (sV v) = v := by
  cases v
  all_goals first
    | rfl
    | (exact absurd rfl h)
    | (unfold sV dV; simp [I_self])
theorem sh_O {e : mE} {c : Nat} {l : List (Nat × Int)} (h : sh e = tO c l) (hl : ∀ t ∈ l, t.1 ≠ 9) : e = eO c (l.map dV) := by
  rcases e with ⟨n', f⟩ | ⟨n', f⟩ | ⟨k, n', f⟩ | ⟨c', fs⟩
  · obtain ⟨h1, -⟩ := Prod.mk.inj h; omega
  · obtain ⟨h1, -⟩ := Prod.mk.inj h; omega
  · obtain ⟨h1, -⟩ := Prod.mk.inj h; omega
  · obtain ⟨-, h1⟩ := Prod.mk.inj h
    obtain ⟨h2, h3⟩ := Prod.mk.inj h1
    obtain ⟨-, h5⟩ := Prod.mk.inj h3
    have h6 : l.map dV = fs := by
      rw [← h5, List.map_map]
      conv => rhs; rw [← List.map_id fs]
      refine List.map_congr_left (fun v hv => dV_sV (hl _ ?_))
      rw [← h5]
      exact List.mem_map_of_mem hv
    rw [h6, ← h2]
theorem Bk.I (h : Bk m a tb) {j n : Nat} {x : Int} (ht : tb[j]? = some (zR n x)) : m[a + j]? = some (eI n (cv (gA m a j))) ∧ gA m a j 0 = x ∧ gA m a j 1 = 0 ∧ gA m a j 2 = 0 ∧ gA m a j 3 = 0 := by
  obtain ⟨e, h1, h2⟩ := h j _ ht
  obtain ⟨f, rfl, h3⟩ := sh_I h2
  have hg : gA m a j = fun k => (f k.toNat).toInt := by unfold gA; rw [h1]
  obtain ⟨x0, h4⟩ := List.cons.inj h3
  obtain ⟨x1, h5⟩ := List.cons.inj h4
  obtain ⟨x2, h6⟩ := List.cons.inj h5
  obtain ⟨x3, -⟩ := List.cons.inj h6
  rw [hg, ← cv_ex f]
  exact ⟨h1, x0.symm, x1.symm, x2.symm, x3.symm⟩
theorem Bk.J (h : Bk m a tb) {j n : Nat} (ht : tb[j]? = some (zJ n)) : m[a + j]? = some (eJ n (cw (gA m a j))) := by
  obtain ⟨e, h1, h2⟩ := h j _ ht
  obtain ⟨f, rfl⟩ := sh_J h2
  have hg : gA m a j = fun k => (f k.toNat).toInt := by unfold gA; rw [h1]
  rw [hg, ← cw_ex f]
  exact h1
theorem Bk.O (h : Bk m a tb) {j c : Nat} {l : List (Nat × Int)} (ht : tb[j]? = some (tO c l)) (hl : ∀ t ∈ l, t.1 ≠ 9) : m[a + j]? = some (eO c (l.map dV)) := by
  obtain ⟨e, h1, h2⟩ := h j _ ht
  rw [sh_O h2 hl] at h1
  exact h1
theorem rng_at {n i : Nat} {f : Nat → Option Nat} {l : List (Nat × Int)} (h : (List.range n).map (fun i => match f i with
    | some v => ((2 : Nat), (v : Int))
    | none => (0, 0)) = l) (hi : i < n) {v : Nat} (hl : l[i]? = some (2, (v : Int))) : f i = some v := by
  rw [← h, List.getElem?_map, List.getElem?_range hi] at hl
  have h1 := Option.some.inj hl
  dsimp only at h1
  cases hf : f i with
  | none => rw [hf] at h1; cases h1
  | some w =>
    rw [hf] at h1
    have h2 : (w : Int) = (v : Int) := (Prod.mk.inj h1).2
    rw [show w = v by omega]
theorem Bk.R4 (h : Bk m a tb) (hN : N4 m) {j b : Nat} (ht : tb[j]? = some (tR 4 6 [(2, ((b + 1 : Nat) : Int)), (2, ((b + 2 : Nat) : Int)), (2, ((b + 3 : Nat) : Int)), (2, ((b + 4 : Nat) : Int)), (2, ((b + 5 : Nat) : Int)), (2, ((b + 6 : Nat) : Int))])) : m[a + j]? = some (eR 4 6 (fun i => if i < 6 then some (b + 1 + i) else none)) := by
  obtain ⟨e, h1, h2⟩ := h j _ ht
  obtain ⟨f, rfl, h3⟩ := sh_R h2
  rw [h1]
  congr 2
  congr 1
  congr 1
  congr 1
  funext i
  by_cases z : i < 6
  · rw [if_pos z]
    have hc : i = 0 ∨ i = 1 ∨ i = 2 ∨ i = 3 ∨ i = 4 ∨ i = 5 := by omega
    rcases hc with rfl | rfl | rfl | rfl | rfl | rfl <;> exact rng_at h3 (by omega) rfl
  · rw [if_neg z]
    exact hN _ _ _ h1 i (by omega)
/-- a tree -/
def t4g (a x y3 y4 : Int) : List sE := [tO 4 [(1, x), (2, a + 1), (2, a + 2), (2, a + 3), (2, a + 4), (2, a + 5)], zR 32 0, zR 32 0, zR 32 y3, zR 32 y4, zR 32 0]
theorem Q4 {x y3 y4 : Int} (h : Bk m a (t4g a x y3 y4)) : At m a (o4 a (fun _ => x) (gA m a)) ∧ gA m a 1 0 = 0 ∧ gA m a 2 0 = 0 ∧ gA m a 3 0 = y3 ∧ gA m a 4 0 = y4 ∧ gA m a 5 0 = 0 := by
  have c0 := h.O (j := 0) rfl (by intro t ht; simp at ht; rcases ht with rfl | rfl | rfl | rfl | rfl | rfl <;> simp)
  have c1 := h.I (j := 1) rfl
  have c2 := h.I (j := 2) rfl
  have c3 := h.I (j := 3) rfl
  have c4 := h.I (j := 4) rfl
  have c5 := h.I (j := 5) rfl
  refine ⟨fun off e he => ?_, c1.2.1, c2.2.1, c3.2.1, c4.2.1, c5.2.1⟩
  have hn := o4_N off (by rw [he]; simp)
  have hc : off = 0 ∨ off = 1 ∨ off = 2 ∨ off = 3 ∨ off = 4 ∨ off = 5 := by omega
  rcases hc with rfl | rfl | rfl | rfl | rfl | rfl
  · obtain rfl := Option.some.inj he
    rw [c0]
    rfl
  · obtain rfl := Option.some.inj he; exact c1.1
  · obtain rfl := Option.some.inj he; exact c2.1
  · obtain rfl := Option.some.inj he; exact c3.1
  · obtain rfl := Option.some.inj he; exact c4.1
  · obtain rfl := Option.some.inj he; exact c5.1
theorem Q5 (h : Bk m a (t5 a)) : At m a (o5 a (fun _ => 0) (gA m a)) := by
  have c0 := h.O (j := 0) rfl (by intro t ht; simp at ht; rcases ht with rfl | rfl | rfl | rfl | rfl | rfl | rfl <;> simp)
  have c1 := h.I (j := 1) rfl
  have c2 := h.I (j := 2) rfl
  have c3 := h.I (j := 3) rfl
  have c4 := h.I (j := 4) rfl
  have c5 := h.I (j := 5) rfl
  have c6 := h.I (j := 6) rfl
  intro off e he
  have hn := o5_N off (by rw [he]; simp)
  have hc : off = 0 ∨ off = 1 ∨ off = 2 ∨ off = 3 ∨ off = 4 ∨ off = 5 ∨ off = 6 := by omega
  rcases hc with rfl | rfl | rfl | rfl | rfl | rfl | rfl
  · obtain rfl := Option.some.inj he
    rw [c0]
    rfl
  · obtain rfl := Option.some.inj he; exact c1.1
  · obtain rfl := Option.some.inj he; exact c2.1
  · obtain rfl := Option.some.inj he; exact c3.1
  · obtain rfl := Option.some.inj he; exact c4.1
  · obtain rfl := Option.some.inj he; exact c5.1
  · obtain rfl := Option.some.inj he; exact c6.1
end INI
