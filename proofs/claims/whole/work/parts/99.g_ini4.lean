/-! ===== the first state: both hold it ===== -/
def S0 : TS := (1, z0, z0, fun _ => 1, fun _ => 0, fun _ _ _ => 0)
def X0 : FS := (S0, 0, fun _ => S0, 0, z0, 0, 0, 0, 0)
theorem w0 : WL 1 (fun _ => 1) := ⟨by omega, by omega, rfl, fun k k0 k1 => by omega, fun k k0 k1 => by show (1 : Int) ≤ 10; omega⟩
theorem pr0 : prF (fun _ => 1) 0 = -1 := by have := prF_spec (fun _ => 1) (Int.le_refl 0); omega
theorem en0 : enF 1 (fun _ => 1) 0 = 1 := by have := enF_spec (n := 1) (fun _ => 1) (e := 0) (by omega); omega
theorem ww0 {nd : Int → Int → Int} : WW 0 nd := ⟨by omega, by omega, fun q q0 q1 => by omega⟩
theorem l4 {a : Int} : (t4 a).length = 6 := rfl
theorem l5 {a : Int} : (t5 a).length = 7 := rfl
theorem l2w {a : Int} : (t2w a).length = 29 := rfl
theorem l2 {a : Int} : (t2 a).length = 36 := rfl
theorem l2' {a : Int} : (t2' a).length = 36 := rfl
theorem l1 {a : Int} : (t1 a).length = 32 := rfl
theorem l7 : t7.length = 376 := by
  unfold t7
  simp only [List.length_append, l2, l2', l4, l5, l1, List.length_cons, List.length_nil]
theorem l8 : t8.length = 26 := rfl
theorem first {m : Mm} (hm : m.map sh = t7 ++ t8) (hN : N4 m) : CI m X0 ∧ At m 376 (o8 376 (fun k => if k = 1 then 1 else 0) (gA m 376)) ∧ MB (fun k => if k = 1 then 1 else 0) (gA m 376) X0 := by
  have hlen : m.length = 402 := by
    have := congrArg List.length hm
    rw [List.length_map, List.length_append, l7, l8] at this
    exact this
  have hB : Bk m 0 (t7 ++ t8) := by
    intro j s hj
    rw [← hm, List.getElem?_map] at hj
    rw [Nat.zero_add]
    cases he : m[j]? with
    | none => rw [he] at hj; cases hj
    | some e =>
      rw [he] at hj
      exact ⟨e, rfl, Option.some.inj hj⟩
  have h8 : Bk m 376 t8 := by
    have := hB.app.2
    rwa [l7, Nat.zero_add] at this
  have b0 : Bk m 0 t7 := hB.app.1
  unfold t7 at b0
  have e1 := b0.app
  have e2 := e1.1.app
  have e3 := e2.1.app
  have e4 := e3.1.app
  have e5 := e4.1.app
  have e6 := e5.1.app
  have e7' := e6.1.app
  have e8' := e7'.1.app
  have e9 := e8'.1.app
  have e10 := e9.1.app
  have e11 := e10.1.app
  have e12 := e11.1.app
  have e13 := e12.1.app
  have e14 := e13.1.app
  have e15 := e14.1.app
  have e16 := e15.1.app
  have k340 := e1.2
  have k304 := e2.2
  have k268 := e3.2
  have k232 := e4.2
  have k196 := e5.2
  have k160 := e6.2
  have k124 := e7'.2
  have k88 := e8'.2
  have k87 := e9.2
  have k85 := e10.2
  have k53 := e11.2
  have k46 := e12.2
  have k40 := e13.2
  have k38 := e14.2
  have k37 := e15.2
  have k1 := e16.2
  have kz := e16.1
  clear e1 e2 e3 e4 e5 e6 e7' e8' e9 e10 e11 e12 e13 e14 e15 e16 b0 hB
  simp only [List.length_append, l2, l2', l4, l5, l1, List.length_cons, List.length_nil, Nat.zero_add, Nat.reduceAdd] at k340 k304 k268 k232 k196 k160 k124 k88 k87 k85 k53 k46 k40 k38 k37 k1
  -- the cells
  have c7 := kz.O (j := 0) rfl (by intro t ht; simp at ht; rcases ht with rfl | rfl | rfl | rfl | rfl | rfl | rfl | rfl | rfl | rfl | rfl | rfl | rfl <;> simp)
  obtain ⟨q1, q2, q3⟩ := Q2 (a := 1) (x := 1) (y3 := 1) (y4 := -1) k1
  obtain ⟨p0, p1, p2, p3, p4, p5⟩ := Q4 q2
  obtain ⟨er, r1, r2⟩ := k37 0 _ rfl
  obtain ⟨fr, rfl, r3⟩ := sh_R r2
  have c38 := k38.O (j := 0) rfl (by intro t ht; simp at ht; rcases ht with rfl | rfl | rfl <;> simp)
  have c39 := k38.I (j := 1) rfl
  have c85 := k85.O (j := 0) rfl (by intro t ht; simp at ht; rcases ht with rfl; simp)
  have c86 := k85.I (j := 1) rfl
  have c87 := k87.O (j := 0) rfl (by intro t ht; simp at ht; rcases ht with rfl | rfl | rfl <;> simp)
  obtain ⟨u1, u2, u3, u4, u5, u6, u7, u8⟩ := Q8 h8
  refine ⟨⟨by omega, ?_, ?_, ?_, ?_⟩, u1, ?_⟩
  · refine ⟨fun _ => 0, fun _ _ => 0, ?_, by show (0 : Int) ≤ 0; omega, by show (0 : Int) < 8; omega, rfl, by show (0 : Int) ≤ 0; omega, by show (0 : Int) ≤ 8; omega, rfl, rfl, rfl, ⟨fr, r1, fun i hi => ?_⟩, fun i hi => ?_, fun j j0 j1 => ?_⟩
    · intro off e he
      have hn := o7_N off (by rw [he]; simp)
      obtain rfl : off = 0 := by omega
      obtain rfl := Option.some.inj he
      rw [c7]
      rfl
    · have hc : i = 0 ∨ i = 1 ∨ i = 2 ∨ i = 3 ∨ i = 4 ∨ i = 5 ∨ i = 6 ∨ i = 7 := by omega
      rcases hc with rfl | rfl | rfl | rfl | rfl | rfl | rfl | rfl <;> exact rng_at r3 (by omega) rfl
    · have hc : i = 0 ∨ i = 1 ∨ i = 2 ∨ i = 3 ∨ i = 4 ∨ i = 5 ∨ i = 6 ∨ i = 7 := by omega
      rcases hc with rfl | rfl | rfl | rfl | rfl | rfl | rfl | rfl
      · exact Q2y (a := 88) k88
      · exact Q2y (a := 124) k124
      · exact Q2y (a := 160) k160
      · exact Q2y (a := 196) k196
      · exact Q2y (a := 232) k232
      · exact Q2y (a := 268) k268
      · exact Q2y (a := 304) k304
      · exact Q2y (a := 340) k340
    · have j1' : j < 0 := j1
      omega
  · refine ⟨q1, ⟨_, _, p0, rfl, w0, fun k k0 k1 => ?_⟩, fun i hi => ⟨_, _, q3 i hi, rfl, ww0, fun q q0 q1' => ?_⟩⟩
    · have kz : k = 0 := by have : k < 1 := k1; omega
      subst kz
      show gA m 2 1 0 = 0 ∧ gA m 2 2 0 = 0 ∧ gA m 2 3 0 = 1 ∧ gA m 2 4 0 = prF (fun _ => 1) 0 ∧ gA m 2 5 0 = enF 1 (fun _ => 1) 0 - 1 ∧ (0 : Int) ≤ 0 ∧ (0 : Int) ≤ 5 ∧ (0 : Int) ≤ 0 ∧ (0 : Int) ≤ 9
      rw [pr0, en0]
      exact ⟨p1, p2, p3, p4, by rw [p5]; rfl, by omega, by omega, by omega, by omega⟩
    · have : q < 0 := q1'
      omega
  · refine ⟨fun _ => 0, gA m 38, ?_, rfl, by show (0 : Int) ≤ 0; omega, by show (0 : Int) ≤ 120; omega, rfl, fun k k0 k1 => ?_⟩
    · intro off e he
      have hn := o3_N off (by rw [he]; simp)
      have hc : off = 0 ∨ off = 1 := by omega
      rcases hc with rfl | rfl
      · obtain rfl := Option.some.inj he
        rw [c38]
        rfl
      · obtain rfl := Option.some.inj he; exact c39.1
    · have : k < 0 := k1
      omega
  · refine ⟨⟨_, _, (Q4 (x := 0) (y3 := 0) (y4 := 0) k40).1⟩, ⟨_, _, Q5 k46⟩, ⟨_, _, Q1 k53 hN, rfl⟩, ⟨fun _ => 0, gA m 85, ?_⟩, ⟨fun k => if k = 2 then -1 else 0, fun _ _ => 0, ?_⟩⟩
    · intro off e he
      have hn := o0_N off (by rw [he]; simp)
      have hc : off = 0 ∨ off = 1 := by omega
      rcases hc with rfl | rfl
      · obtain rfl := Option.some.inj he
        rw [c85]
        rfl
      · obtain rfl := Option.some.inj he; exact c86.1
    · intro off e he
      have hn := o6_N off (by rw [he]; simp)
      obtain rfl : off = 0 := by omega
      obtain rfl := Option.some.inj he
      rw [c87]
      rfl
  · refine ⟨⟨rfl, w0, fun k k0 k1 => ?_⟩, fun i i0 i1 => ⟨?_, ww0, fun q w q0 q1 => ?_⟩, ⟨rfl, by show (0 : Int) ≤ 0; omega, by show (0 : Int) ≤ 8; omega, fun j j0 j1 => ?_⟩, ⟨rfl, by show (0 : Int) ≤ 0; omega, by show (0 : Int) ≤ 120; omega, rfl, fun k k0 k1 => ?_⟩, u2.1, u2.2.1, u2.2.2⟩
    · have kz : k = 0 := by have : k < 1 := k1; omega
      subst kz
      show gA m 376 2 0 = 0 ∧ gA m 376 3 0 = 0 ∧ gA m 376 4 0 = 1 ∧ gA m 376 5 0 = enF 1 (fun _ => 1) 0 ∧ gA m 376 6 0 = prF (fun _ => 1) 0 ∧ (0 : Int) ≤ 0 ∧ (0 : Int) ≤ 5 ∧ (0 : Int) ≤ 0 ∧ (0 : Int) ≤ 9
      rw [pr0, en0]
      exact ⟨u3, u4, u5, u6, u7, by omega, by omega, by omega, by omega⟩
    · show gA m 376 7 i = 0
      have hc : i = 0 ∨ i = 1 ∨ i = 2 ∨ i = 3 := by omega
      rcases hc with rfl | rfl | rfl | rfl
      · exact u8.1
      · exact u8.2.1
      · exact u8.2.2.1
      · exact u8.2.2.2
    · have : q < 0 := q1
      omega
    · have : j < 0 := j1
      omega
    · have : k < 0 := k1
      omega
