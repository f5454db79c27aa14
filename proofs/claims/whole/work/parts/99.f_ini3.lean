/-! ===== the first state: class and reference (rows written by a program) ===== -/
section IN3
variable {m : Mm} {a : Nat}
theorem Q2 {x y3 y4 : Int} (h : Bk m a ([tO 2 [(2, (a : Int) + 1), (2, (a : Int) + 7)]] ++ t4g ((a : Int) + 1) x y3 y4 ++ t2w a)) : SX m a ∧ Bk m (a + 1) (t4g ((a + 1 : Nat) : Int) x y3 y4) ∧ ∀ i, i < 4 → At m (a + 8 + 7 * i) (o5 (a + 8 + 7 * i) (fun _ => 0) (gA m (a + 8 + 7 * i))) := by
  have h1 := h.app.1.app
  have h2 : Bk m (a + 7) (t2w a) := h.app.2
  have h3 := h2.app
  have h4 := h3.1.app
  have h5 := h4.1.app
  have h6 := h5.1.app
  have c0 := h1.1.O (j := 0) rfl (by intro t ht; simp at ht; rcases ht with rfl | rfl <;> simp)
  obtain ⟨e, g1, g2⟩ := h6.1 0 _ rfl
  obtain ⟨f, rfl, g3⟩ := sh_R g2
  refine ⟨⟨?_, f, g1, fun i hi => ?_⟩, h1.2, fun i hi => ?_⟩
  · rw [Nat.add_zero] at c0
    rw [c0]
    rfl
  · have hc : i = 0 ∨ i = 1 ∨ i = 2 ∨ i = 3 := by omega
    rcases hc with rfl | rfl | rfl | rfl <;> exact rng_at g3 (by omega) rfl
  · have hc : i = 0 ∨ i = 1 ∨ i = 2 ∨ i = 3 := by omega
    rcases hc with rfl | rfl | rfl | rfl
    · exact Q5 (a := a + 8) h6.2
    · exact Q5 (a := a + 15) h5.2
    · exact Q5 (a := a + 22) h4.2
    · exact Q5 (a := a + 29) h3.2
theorem Q2y (h : Bk m a (t2 a)) : SY m a := by
  obtain ⟨q1, q2, q3⟩ := Q2 (x := 0) (y3 := 0) (y4 := 0) h
  exact ⟨q1, ⟨_, _, (Q4 q2).1⟩, fun i hi => ⟨_, _, q3 i hi⟩⟩
theorem Q1 (h : Bk m 53 (t1 53)) (hN : N4 m) : At m 53 (o1 53 (fun k => if k = 0 then 2 else 46) (gA m 53)) := by
  have c0 := h.O (j := 0) rfl (by intro t ht; simp at ht; rcases ht with rfl | rfl | rfl | rfl | rfl | rfl | rfl | rfl | rfl <;> simp)
  have c1 := (h.I (j := 1) rfl).1
  have c2 := h.R4 hN (j := 2) (b := 55) rfl
  have c3 := h.J (j := 3) rfl
  have c4 := h.J (j := 4) rfl
  have c5 := h.J (j := 5) rfl
  have c6 := h.J (j := 6) rfl
  have c7 := h.J (j := 7) rfl
  have c8 := h.J (j := 8) rfl
  have c9 := h.R4 hN (j := 9) (b := 62) rfl
  have c10 := h.J (j := 10) rfl
  have c11 := h.J (j := 11) rfl
  have c12 := h.J (j := 12) rfl
  have c13 := h.J (j := 13) rfl
  have c14 := h.J (j := 14) rfl
  have c15 := h.J (j := 15) rfl
  have c16 := h.R4 hN (j := 16) (b := 69) rfl
  have c17 := h.J (j := 17) rfl
  have c18 := h.J (j := 18) rfl
  have c19 := h.J (j := 19) rfl
  have c20 := h.J (j := 20) rfl
  have c21 := h.J (j := 21) rfl
  have c22 := h.J (j := 22) rfl
  have c23 := h.R4 hN (j := 23) (b := 76) rfl
  have c24 := h.J (j := 24) rfl
  have c25 := h.J (j := 25) rfl
  have c26 := h.J (j := 26) rfl
  have c27 := h.J (j := 27) rfl
  have c28 := h.J (j := 28) rfl
  have c29 := h.J (j := 29) rfl
  have c30 := (h.I (j := 30) rfl).1
  have c31 := h.J (j := 31) rfl
  intro off e he
  have hn := o1_N off (by rw [he]; simp)
  have hc : off = 0 ∨ off = 1 ∨ off = 2 ∨ off = 3 ∨ off = 4 ∨ off = 5 ∨ off = 6 ∨ off = 7 ∨ off = 8 ∨ off = 9 ∨ off = 10 ∨ off = 11 ∨ off = 12 ∨ off = 13 ∨ off = 14 ∨ off = 15 ∨ off = 16 ∨ off = 17 ∨ off = 18 ∨ off = 19 ∨ off = 20 ∨ off = 21 ∨ off = 22 ∨ off = 23 ∨ off = 24 ∨ off = 25 ∨ off = 26 ∨ off = 27 ∨ off = 28 ∨ off = 29 ∨ off = 30 ∨ off = 31 := by omega
  rcases hc with rfl | rfl | rfl | rfl | rfl | rfl | rfl | rfl | rfl | rfl | rfl | rfl | rfl | rfl | rfl | rfl | rfl | rfl | rfl | rfl | rfl | rfl | rfl | rfl | rfl | rfl | rfl | rfl | rfl | rfl | rfl | rfl
  · obtain rfl := Option.some.inj he
    rw [c0]
    rfl
  · obtain rfl := Option.some.inj he; exact c1
  · obtain rfl := Option.some.inj he; exact c2
  · obtain rfl := Option.some.inj he; exact c3
  · obtain rfl := Option.some.inj he; exact c4
  · obtain rfl := Option.some.inj he; exact c5
  · obtain rfl := Option.some.inj he; exact c6
  · obtain rfl := Option.some.inj he; exact c7
  · obtain rfl := Option.some.inj he; exact c8
  · obtain rfl := Option.some.inj he; exact c9
  · obtain rfl := Option.some.inj he; exact c10
  · obtain rfl := Option.some.inj he; exact c11
  · obtain rfl := Option.some.inj he; exact c12
  · obtain rfl := Option.some.inj he; exact c13
  · obtain rfl := Option.some.inj he; exact c14
  · obtain rfl := Option.some.inj he; exact c15
  · obtain rfl := Option.some.inj he; exact c16
  · obtain rfl := Option.some.inj he; exact c17
  · obtain rfl := Option.some.inj he; exact c18
  · obtain rfl := Option.some.inj he; exact c19
  · obtain rfl := Option.some.inj he; exact c20
  · obtain rfl := Option.some.inj he; exact c21
  · obtain rfl := Option.some.inj he; exact c22
  · obtain rfl := Option.some.inj he; exact c23
  · obtain rfl := Option.some.inj he; exact c24
  · obtain rfl := Option.some.inj he; exact c25
  · obtain rfl := Option.some.inj he; exact c26
  · obtain rfl := Option.some.inj he; exact c27
  · obtain rfl := Option.some.inj he; exact c28
  · obtain rfl := Option.some.inj he; exact c29
  · obtain rfl := Option.some.inj he; exact c30
  · obtain rfl := Option.some.inj he; exact c31
theorem Q8 (h : Bk m 376 t8) : At m 376 (o8 376 (fun k => if k = 1 then 1 else 0) (gA m 376)) ∧ (gA m 376 1 0 = 0 ∧ gA m 376 1 1 = 0 ∧ gA m 376 1 2 = 0) ∧ gA m 376 2 0 = 0 ∧ gA m 376 3 0 = 0 ∧ gA m 376 4 0 = 1 ∧ gA m 376 5 0 = 1 ∧ gA m 376 6 0 = -1 ∧ gA m 376 7 0 = 0 ∧ gA m 376 7 1 = 0 ∧ gA m 376 7 2 = 0 ∧ gA m 376 7 3 = 0 := by
  have c0 := h.O (j := 0) rfl (by intro t ht; simp at ht; rcases ht with rfl | rfl | rfl | rfl | rfl | rfl | rfl | rfl | rfl | rfl | rfl | rfl | rfl | rfl | rfl | rfl | rfl | rfl | rfl | rfl | rfl | rfl | rfl | rfl | rfl | rfl | rfl | rfl | rfl | rfl | rfl | rfl | rfl | rfl <;> simp)
  have d1 := h.I (j := 1) rfl
  have c1 := d1.1
  have d2 := h.I (j := 2) rfl
  have c2 := d2.1
  have d3 := h.I (j := 3) rfl
  have c3 := d3.1
  have d4 := h.I (j := 4) rfl
  have c4 := d4.1
  have d5 := h.I (j := 5) rfl
  have c5 := d5.1
  have d6 := h.I (j := 6) rfl
  have c6 := d6.1
  have d7 := h.I (j := 7) rfl
  have c7 := d7.1
  have d8 := h.I (j := 8) rfl
  have c8 := d8.1
  have d9 := h.I (j := 9) rfl
  have c9 := d9.1
  have d10 := h.I (j := 10) rfl
  have c10 := d10.1
  have d11 := h.I (j := 11) rfl
  have c11 := d11.1
  have d12 := h.I (j := 12) rfl
  have c12 := d12.1
  have c13 := h.J (j := 13) rfl
  have c14 := h.J (j := 14) rfl
  have c15 := h.J (j := 15) rfl
  have c16 := h.J (j := 16) rfl
  have d17 := h.I (j := 17) rfl
  have c17 := d17.1
  have c18 := h.J (j := 18) rfl
  have c19 := h.J (j := 19) rfl
  have d20 := h.I (j := 20) rfl
  have c20 := d20.1
  have d21 := h.I (j := 21) rfl
  have c21 := d21.1
  have d22 := h.I (j := 22) rfl
  have c22 := d22.1
  have d23 := h.I (j := 23) rfl
  have c23 := d23.1
  have d24 := h.I (j := 24) rfl
  have c24 := d24.1
  have d25 := h.I (j := 25) rfl
  have c25 := d25.1
  refine ⟨fun off e he => ?_, ⟨d1.2.1, d1.2.2.1, d1.2.2.2.1⟩, d2.2.1, d3.2.1, d4.2.1, d5.2.1, d6.2.1, d7.2⟩
  have hn := o8_N off (by rw [he]; simp)
  have hc : off = 0 ∨ off = 1 ∨ off = 2 ∨ off = 3 ∨ off = 4 ∨ off = 5 ∨ off = 6 ∨ off = 7 ∨ off = 8 ∨ off = 9 ∨ off = 10 ∨ off = 11 ∨ off = 12 ∨ off = 13 ∨ off = 14 ∨ off = 15 ∨ off = 16 ∨ off = 17 ∨ off = 18 ∨ off = 19 ∨ off = 20 ∨ off = 21 ∨ off = 22 ∨ off = 23 ∨ off = 24 ∨ off = 25 := by omega
  rcases hc with rfl | rfl | rfl | rfl | rfl | rfl | rfl | rfl | rfl | rfl | rfl | rfl | rfl | rfl | rfl | rfl | rfl | rfl | rfl | rfl | rfl | rfl | rfl | rfl | rfl | rfl
  · obtain rfl := Option.some.inj he
    rw [c0]
    rfl
  · obtain rfl := Option.some.inj he; exact c1
  · obtain rfl := Option.some.inj he; exact c2
  · obtain rfl := Option.some.inj he; exact c3
  · obtain rfl := Option.some.inj he; exact c4
  · obtain rfl := Option.some.inj he; exact c5
  · obtain rfl := Option.some.inj he; exact c6
  · obtain rfl := Option.some.inj he; exact c7
  · obtain rfl := Option.some.inj he; exact c8
  · obtain rfl := Option.some.inj he; exact c9
  · obtain rfl := Option.some.inj he; exact c10
  · obtain rfl := Option.some.inj he; exact c11
  · obtain rfl := Option.some.inj he; exact c12
  · obtain rfl := Option.some.inj he; exact c13
  · obtain rfl := Option.some.inj he; exact c14
  · obtain rfl := Option.some.inj he; exact c15
  · obtain rfl := Option.some.inj he; exact c16
  · obtain rfl := Option.some.inj he; exact c17
  · obtain rfl := Option.some.inj he; exact c18
  · obtain rfl := Option.some.inj he; exact c19
  · obtain rfl := Option.some.inj he; exact c20
  · obtain rfl := Option.some.inj he; exact c21
  · obtain rfl := Option.some.inj he; exact c22
  · obtain rfl := Option.some.inj he; exact c23
  · obtain rfl := Option.some.inj he; exact c24
  · obtain rfl := Option.some.inj he; exact c25
end IN3
