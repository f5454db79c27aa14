/-! ===== rows of rows are as they were made (written by k4gen.py) ===== -/
def N4 (m : Mm) : Prop := ∀ (k n : Nat) (f : Nat → Option Nat), m[k]? = some (eR 4 n f) → ∀ i, n ≤ i → f i = none
theorem k_nw {m m' : Mm} {e : mE} (he : ∀ n f, e ≠ eR 4 n f) (h0 : N4 m) (h : nw m e = some m') : N4 m' := by
  obtain rfl := Option.some.inj h
  intro k n f hk
  by_cases z : k < m.length
  · rw [List.getElem?_append_left z] at hk; exact h0 k n f hk
  · rw [List.getElem?_append_right (by omega)] at hk
    by_cases y : k - m.length = 0
    · rw [y] at hk
      exact absurd (Option.some.inj hk) (he n f)
    · rw [List.getElem?_eq_none (l := [e]) (by show 1 ≤ _; omega)] at hk
      cases hk
theorem k_nM {m m' : Mm} {n0 k0 : Nat} (h0 : N4 m) (h : nM m n0 k0 = some m') : N4 m' := by
  obtain rfl := Option.some.inj h
  intro k n f hk
  by_cases z : k < m.length
  · rw [List.getElem?_append_left z] at hk; exact h0 k n f hk
  · rw [List.getElem?_append_right (by omega)] at hk
    by_cases y : k - m.length = 0
    · rw [y] at hk
      have := Option.some.inj hk
      cases this
      intro i hi
      exact if_neg (by omega)
    · obtain ⟨j, hj⟩ : ∃ j, k - m.length = j + 1 := ⟨k - m.length - 1, by omega⟩
      rw [hj, List.getElem?_cons_succ, List.getElem?_replicate] at hk
      split at hk
      · cases hk
      · cases hk
theorem k_set {m : Mm} {a : Nat} {e : mE} (he : ∀ n f, e ≠ eR 4 n f) (h0 : N4 m) : N4 (m.set a e) := by
  intro k n f hk
  by_cases z : a = k
  · rw [List.getElem?_set, if_pos z] at hk
    split at hk
    · exact absurd (Option.some.inj hk) (he n f)
    · cases hk
  · rw [List.getElem?_set_ne z] at hk
    exact h0 k n f hk
theorem k_pV {m m' : Mm} {a c k : Nat} {v : Value} (h0 : N4 m) (h : pV m a c k v = some m') : N4 m' := by
  unfold pV at h
  split at h
  · split at h
    · obtain rfl := Option.some.inj h
      exact k_set (fun _ _ z => by cases z) h0
    · cases h
  · cases h
theorem k_sI {m m' : Mm} {a : Nat} {i x : Int32} (h0 : N4 m) (h : sI m a i x = some m') : N4 m' := by
  unfold sI at h
  split at h
  · split at h
    · cases h
    · obtain rfl := Option.some.inj h
      exact k_set (fun _ _ z => by cases z) h0
  · cases h
theorem k_sR {m m' : Mm} {a k x : Nat} {i : Int32} (hk : k ≠ 4) (h0 : N4 m) (h : sR m a k i x = some m') : N4 m' := by
  unfold sR at h
  split at h
  · split at h
    · split at h
      · cases h
      · obtain rfl := Option.some.inj h
        exact k_set (fun _ _ z => by cases z; exact hk rfl) h0
    · cases h
  · cases h
theorem k_whl {σ : Type} {f : σ → Option (σ ⊕ Mm)} (π : σ → Mm) (hf : ∀ s x, N4 (π s) → f s = some x → (∀ s', x = .inl s' → N4 (π s')) ∧ ∀ r, x = .inr r → N4 r) : ∀ (n : Nat) (s : σ) (r : Mm), N4 (π s) → whl n f s = some r → N4 r := by
  intro n
  induction n with
  | zero => intro s r h0 h; cases h
  | succ n ih =>
    intro s r h0 h
    unfold whl at h
    split at h
    · cases h
    · rename_i s' hs
      exact ih s' r ((hf s _ h0 hs).1 s' rfl) h
    · rename_i r' hs
      obtain rfl := Option.some.inj h
      exact (hf s _ h0 hs).2 _ rfl

theorem k_X4_init {m m9 : Mm} {x0 : Nat} (h0 : N4 m) (h : f_X4_init m x0 = some m9) : N4 m9 := by
  unfold f_X4_init at h
  obtain ⟨m1, g_m1, h⟩ := ob h
  have k_m1 := k_pV h0 g_m1
  obtain ⟨m3, g_m3, h⟩ := ob h
  have k_m3 := k_nw (fun _ _ z => by cases z) k_m1 g_m3
  obtain ⟨m5, g_m5, h⟩ := ob h
  have k_m5 := k_pV k_m3 g_m5
  obtain ⟨m7, g_m7, h⟩ := ob h
  have k_m7 := k_nw (fun _ _ z => by cases z) k_m5 g_m7
  obtain ⟨m9, g_m9, h⟩ := ob h
  have k_m9 := k_pV k_m7 g_m9
  obtain ⟨m11, g_m11, h⟩ := ob h
  have k_m11 := k_nw (fun _ _ z => by cases z) k_m9 g_m11
  obtain ⟨m13, g_m13, h⟩ := ob h
  have k_m13 := k_pV k_m11 g_m13
  obtain ⟨m15, g_m15, h⟩ := ob h
  have k_m15 := k_nw (fun _ _ z => by cases z) k_m13 g_m15
  obtain ⟨m17, g_m17, h⟩ := ob h
  have k_m17 := k_pV k_m15 g_m17
  obtain ⟨m19, g_m19, h⟩ := ob h
  have k_m19 := k_nw (fun _ _ z => by cases z) k_m17 g_m19
  obtain ⟨m21, g_m21, h⟩ := ob h
  have k_m21 := k_pV k_m19 g_m21
  obtain rfl := Option.some.inj h
  exact k_m21
theorem k_X5_init {m m9 : Mm} {x0 : Nat} (h0 : N4 m) (h : f_X5_init m x0 = some m9) : N4 m9 := by
  unfold f_X5_init at h
  obtain ⟨m1, g_m1, h⟩ := ob h
  have k_m1 := k_pV h0 g_m1
  obtain ⟨m3, g_m3, h⟩ := ob h
  have k_m3 := k_nw (fun _ _ z => by cases z) k_m1 g_m3
  obtain ⟨m5, g_m5, h⟩ := ob h
  have k_m5 := k_pV k_m3 g_m5
  obtain ⟨m7, g_m7, h⟩ := ob h
  have k_m7 := k_nw (fun _ _ z => by cases z) k_m5 g_m7
  obtain ⟨m9, g_m9, h⟩ := ob h
  have k_m9 := k_pV k_m7 g_m9
  obtain ⟨m11, g_m11, h⟩ := ob h
  have k_m11 := k_nw (fun _ _ z => by cases z) k_m9 g_m11
  obtain ⟨m13, g_m13, h⟩ := ob h
  have k_m13 := k_pV k_m11 g_m13
  obtain ⟨m15, g_m15, h⟩ := ob h
  have k_m15 := k_nw (fun _ _ z => by cases z) k_m13 g_m15
  obtain ⟨m17, g_m17, h⟩ := ob h
  have k_m17 := k_pV k_m15 g_m17
  obtain ⟨m19, g_m19, h⟩ := ob h
  have k_m19 := k_nw (fun _ _ z => by cases z) k_m17 g_m19
  obtain ⟨m21, g_m21, h⟩ := ob h
  have k_m21 := k_pV k_m19 g_m21
  obtain ⟨m23, g_m23, h⟩ := ob h
  have k_m23 := k_nw (fun _ _ z => by cases z) k_m21 g_m23
  obtain ⟨m25, g_m25, h⟩ := ob h
  have k_m25 := k_pV k_m23 g_m25
  obtain rfl := Option.some.inj h
  exact k_m25
theorem k_X2_init {m m9 : Mm} {x0 : Nat} (h0 : N4 m) (h : f_X2_init m x0 = some m9) : N4 m9 := by
  unfold f_X2_init at h
  obtain ⟨m1, g_m1, h⟩ := ob h
  have k_m1 := k_nw (fun _ _ z => by cases z) h0 g_m1
  obtain ⟨m4, g_m4, h⟩ := ob h
  have k_m4 := k_X4_init k_m1 g_m4
  obtain ⟨m5, g_m5, h⟩ := ob h
  have k_m5 := k_pV k_m4 g_m5
  obtain ⟨m7, g_m7, h⟩ := ob h
  have k_m7 := k_nw (fun _ _ z => by cases z) k_m5 g_m7
  obtain ⟨m9, g_m9, h⟩ := ob h
  have k_m9 := k_pV k_m7 g_m9
  obtain ⟨v11, -, h⟩ := ob h
  obtain ⟨m13, g_m13, h⟩ := ob h
  have k_m13 := k_nw (fun _ _ z => by cases z) k_m9 g_m13
  obtain ⟨m16, g_m16, h⟩ := ob h
  have k_m16 := k_X5_init k_m13 g_m16
  obtain ⟨-, -, h⟩ := obO h
  obtain ⟨m19, g_m19, h⟩ := ob h
  have k_m19 := k_sR (by decide) k_m16 g_m19
  obtain ⟨v21, -, h⟩ := ob h
  obtain ⟨m23, g_m23, h⟩ := ob h
  have k_m23 := k_nw (fun _ _ z => by cases z) k_m19 g_m23
  obtain ⟨m26, g_m26, h⟩ := ob h
  have k_m26 := k_X5_init k_m23 g_m26
  obtain ⟨-, -, h⟩ := obO h
  obtain ⟨m29, g_m29, h⟩ := ob h
  have k_m29 := k_sR (by decide) k_m26 g_m29
  obtain ⟨v31, -, h⟩ := ob h
  obtain ⟨m33, g_m33, h⟩ := ob h
  have k_m33 := k_nw (fun _ _ z => by cases z) k_m29 g_m33
  obtain ⟨m36, g_m36, h⟩ := ob h
  have k_m36 := k_X5_init k_m33 g_m36
  obtain ⟨-, -, h⟩ := obO h
  obtain ⟨m39, g_m39, h⟩ := ob h
  have k_m39 := k_sR (by decide) k_m36 g_m39
  obtain ⟨v41, -, h⟩ := ob h
  obtain ⟨m43, g_m43, h⟩ := ob h
  have k_m43 := k_nw (fun _ _ z => by cases z) k_m39 g_m43
  obtain ⟨m46, g_m46, h⟩ := ob h
  have k_m46 := k_X5_init k_m43 g_m46
  obtain ⟨-, -, h⟩ := obO h
  obtain ⟨m49, g_m49, h⟩ := ob h
  have k_m49 := k_sR (by decide) k_m46 g_m49
  obtain rfl := Option.some.inj h
  exact k_m49
theorem k_X3_init {m m9 : Mm} {x0 : Nat} (h0 : N4 m) (h : f_X3_init m x0 = some m9) : N4 m9 := by
  unfold f_X3_init at h
  obtain ⟨m1, g_m1, h⟩ := ob h
  have k_m1 := k_nw (fun _ _ z => by cases z) h0 g_m1
  obtain ⟨m3, g_m3, h⟩ := ob h
  have k_m3 := k_pV k_m1 g_m3
  obtain ⟨m5, g_m5, h⟩ := ob h
  have k_m5 := k_pV k_m3 g_m5
  obtain ⟨m7, g_m7, h⟩ := ob h
  have k_m7 := k_pV k_m5 g_m7
  obtain rfl := Option.some.inj h
  exact k_m7
theorem k_X6_init {m m9 : Mm} {x0 : Nat} (h0 : N4 m) (h : f_X6_init m x0 = some m9) : N4 m9 := by
  unfold f_X6_init at h
  obtain ⟨m1, g_m1, h⟩ := ob h
  have k_m1 := k_pV h0 g_m1
  obtain ⟨m3, g_m3, h⟩ := ob h
  have k_m3 := k_pV k_m1 g_m3
  obtain ⟨m5, g_m5, h⟩ := ob h
  have k_m5 := k_pV k_m3 g_m5
  obtain rfl := Option.some.inj h
  exact k_m5
theorem k_X0_init {m m9 : Mm} {x0 : Nat} (h0 : N4 m) (h : f_X0_init m x0 = some m9) : N4 m9 := by
  unfold f_X0_init at h
  obtain ⟨m1, g_m1, h⟩ := ob h
  have k_m1 := k_nw (fun _ _ z => by cases z) h0 g_m1
  obtain ⟨m3, g_m3, h⟩ := ob h
  have k_m3 := k_pV k_m1 g_m3
  obtain rfl := Option.some.inj h
  exact k_m3
theorem k_X1_init {m m9 : Mm} {x0 : Nat} {x1 : Nat} {x2 : Nat} (h0 : N4 m) (h : f_X1_init m x0 x1 x2 = some m9) : N4 m9 := by
  unfold f_X1_init at h
  obtain ⟨m1, g_m1, h⟩ := ob h
  have k_m1 := k_nw (fun _ _ z => by cases z) h0 g_m1
  obtain ⟨m3, g_m3, h⟩ := ob h
  have k_m3 := k_pV k_m1 g_m3
  obtain ⟨m5, g_m5, h⟩ := ob h
  have k_m5 := k_nM k_m3 g_m5
  obtain ⟨m7, g_m7, h⟩ := ob h
  have k_m7 := k_pV k_m5 g_m7
  obtain ⟨m9, g_m9, h⟩ := ob h
  have k_m9 := k_nM k_m7 g_m9
  obtain ⟨m11, g_m11, h⟩ := ob h
  have k_m11 := k_pV k_m9 g_m11
  obtain ⟨m13, g_m13, h⟩ := ob h
  have k_m13 := k_nM k_m11 g_m13
  obtain ⟨m15, g_m15, h⟩ := ob h
  have k_m15 := k_pV k_m13 g_m15
  obtain ⟨m17, g_m17, h⟩ := ob h
  have k_m17 := k_nM k_m15 g_m17
  obtain ⟨m19, g_m19, h⟩ := ob h
  have k_m19 := k_pV k_m17 g_m19
  obtain ⟨m21, g_m21, h⟩ := ob h
  have k_m21 := k_nw (fun _ _ z => by cases z) k_m19 g_m21
  obtain ⟨m23, g_m23, h⟩ := ob h
  have k_m23 := k_pV k_m21 g_m23
  obtain ⟨m25, g_m25, h⟩ := ob h
  have k_m25 := k_nw (fun _ _ z => by cases z) k_m23 g_m25
  obtain ⟨m27, g_m27, h⟩ := ob h
  have k_m27 := k_pV k_m25 g_m27
  obtain ⟨m29, g_m29, h⟩ := ob h
  have k_m29 := k_pV k_m27 g_m29
  obtain ⟨m31, g_m31, h⟩ := ob h
  have k_m31 := k_pV k_m29 g_m31
  obtain rfl := Option.some.inj h
  exact k_m31
theorem k_X4_put {m m9 : Mm} {x0 : Nat} {x1 : Int32} {x2 : Int32} {x3 : Int32} {x4 : Int32} (h0 : N4 m) (h : f_X4_put m x0 x1 x2 x3 x4 = some m9) : N4 m9 := by
  unfold f_X4_put at h
  obtain ⟨v1, -, h⟩ := ob h
  obtain ⟨m3, g_m3, h⟩ := ob h
  have k_m3 := k_sI h0 g_m3
  obtain ⟨v5, -, h⟩ := ob h
  obtain ⟨m7, g_m7, h⟩ := ob h
  have k_m7 := k_sI k_m3 g_m7
  obtain ⟨v9, -, h⟩ := ob h
  obtain ⟨m11, g_m11, h⟩ := ob h
  have k_m11 := k_sI k_m7 g_m11
  obtain rfl := Option.some.inj h
  exact k_m11
theorem k_X4_append {m m9 : Mm} {x0 : Nat} {x1 x2 : Int32} (h0 : N4 m) (h : f_X4_append m x0 x1 x2 = some m9) : N4 m9 := by
  unfold f_X4_append at h
  obtain ⟨v1, -, h⟩ := ob h
  split at h
  · obtain rfl := Option.some.inj h; exact h0
  · obtain ⟨v4, -, h⟩ := ob h
    obtain ⟨-, -, h⟩ := obO h
    obtain ⟨m9', g, h⟩ := ob h
    have k1 := k_X4_put h0 g
    obtain ⟨v10, -, h⟩ := ob h
    obtain ⟨m12, g2, h⟩ := ob h
    have k2 := k_pV k1 g2
    obtain rfl := Option.some.inj h
    exact k2
theorem k_X4_link {m m9 : Mm} {x0 : Nat} (h0 : N4 m) (h : f_X4_link m x0 = some m9) : N4 m9 := by
  unfold f_X4_link at h
  obtain ⟨e2, g1, h⟩ := ob h
  have k1 : N4 e2 := by
    refine k_whl (fun t : Int32 × Mm => t.2) (fun s x hs hx => ?_) FU _ e2 h0 g1
    unfold f_X4_link_L2 at hx
    obtain ⟨v1, -, hx⟩ := ob hx
    split at hx
    · obtain rfl := Option.some.inj hx
      exact ⟨fun s' z => (by cases z), fun r z => (by cases z; exact hs)⟩
    · obtain ⟨e5, -, hx⟩ := ob hx
      obtain ⟨v18, -, hx⟩ := ob hx
      obtain ⟨m20, g20, hx⟩ := ob hx
      obtain ⟨v22, -, hx⟩ := ob hx
      obtain ⟨m24, g24, hx⟩ := ob hx
      have k24 := k_sI (k_sI hs g20) g24
      obtain rfl := Option.some.inj hx
      exact ⟨fun s' z => (by obtain rfl := Sum.inl.inj z; exact k24), fun r z => (by cases z)⟩
  obtain ⟨v31, -, h⟩ := ob h
  obtain ⟨e34, g2, h⟩ := ob h
  obtain rfl := Option.some.inj h
  refine k_whl (fun t : Int32 × Mm => t.2) (fun s x hs hx => ?_) FU _ _ k1 g2
  unfold f_X4_link_L66 at hx
  split at hx
  · obtain rfl := Option.some.inj hx
    exact ⟨fun s' z => (by cases z), fun r z => (by cases z; exact hs)⟩
  · obtain ⟨v2, -, hx⟩ := ob hx
    obtain ⟨v4, -, hx⟩ := ob hx
    split at hx
    · obtain rfl := Option.some.inj hx
      exact ⟨fun s' z => (by obtain rfl := Sum.inl.inj z; exact hs), fun r z => (by cases z)⟩
    · obtain ⟨v7, -, hx⟩ := ob hx
      obtain ⟨v9, -, hx⟩ := ob hx
      obtain ⟨v11, -, hx⟩ := ob hx
      obtain ⟨v13, -, hx⟩ := ob hx
      obtain ⟨v15, -, hx⟩ := ob hx
      obtain ⟨v17, -, hx⟩ := ob hx
      obtain ⟨v19, -, hx⟩ := ob hx
      obtain ⟨v21, -, hx⟩ := ob hx
      obtain ⟨v23, -, hx⟩ := ob hx
      obtain ⟨m25, g25, hx⟩ := ob hx
      have k25 := k_sI hs g25
      obtain rfl := Option.some.inj hx
      exact ⟨fun s' z => (by obtain rfl := Sum.inl.inj z; exact k25), fun r z => (by cases z)⟩

theorem k_X7_init {m m9 : Mm} {x0 : Nat} (h0 : N4 m) (h : f_X7_init m x0 = some m9) : N4 m9 := by
  unfold f_X7_init at h
  obtain ⟨m1, g_m1, h⟩ := ob h
  have k_m1 := k_nw (fun _ _ z => by cases z) h0 g_m1
  obtain ⟨m4, g_m4, h⟩ := ob h
  have k_m4 := k_X2_init k_m1 g_m4
  obtain ⟨m5, g_m5, h⟩ := ob h
  have k_m5 := k_pV k_m4 g_m5
  obtain ⟨m7, g_m7, h⟩ := ob h
  have k_m7 := k_nw (fun _ _ z => by cases z) k_m5 g_m7
  obtain ⟨m9, g_m9, h⟩ := ob h
  have k_m9 := k_pV k_m7 g_m9
  obtain ⟨m11, g_m11, h⟩ := ob h
  have k_m11 := k_pV k_m9 g_m11
  obtain ⟨m13, g_m13, h⟩ := ob h
  have k_m13 := k_pV k_m11 g_m13
  obtain ⟨m15, g_m15, h⟩ := ob h
  have k_m15 := k_nw (fun _ _ z => by cases z) k_m13 g_m15
  obtain ⟨m18, g_m18, h⟩ := ob h
  have k_m18 := k_X3_init k_m15 g_m18
  obtain ⟨m19, g_m19, h⟩ := ob h
  have k_m19 := k_pV k_m18 g_m19
  obtain ⟨m21, g_m21, h⟩ := ob h
  have k_m21 := k_nw (fun _ _ z => by cases z) k_m19 g_m21
  obtain ⟨m24, g_m24, h⟩ := ob h
  have k_m24 := k_X4_init k_m21 g_m24
  obtain ⟨m25, g_m25, h⟩ := ob h
  have k_m25 := k_pV k_m24 g_m25
  obtain ⟨m27, g_m27, h⟩ := ob h
  have k_m27 := k_nw (fun _ _ z => by cases z) k_m25 g_m27
  obtain ⟨m30, g_m30, h⟩ := ob h
  have k_m30 := k_X5_init k_m27 g_m30
  obtain ⟨m31, g_m31, h⟩ := ob h
  have k_m31 := k_pV k_m30 g_m31
  obtain ⟨m33, g_m33, h⟩ := ob h
  have k_m33 := k_nw (fun _ _ z => by cases z) k_m31 g_m33
  obtain ⟨v35, -, h⟩ := ob h
  obtain ⟨v37, -, h⟩ := ob h
  obtain ⟨v39, -, h⟩ := ob h
  obtain ⟨m42, g_m42, h⟩ := ob h
  have k_m42 := k_X1_init k_m33 g_m42
  obtain ⟨m43, g_m43, h⟩ := ob h
  have k_m43 := k_pV k_m42 g_m43
  obtain ⟨m45, g_m45, h⟩ := ob h
  have k_m45 := k_nw (fun _ _ z => by cases z) k_m43 g_m45
  obtain ⟨m48, g_m48, h⟩ := ob h
  have k_m48 := k_X0_init k_m45 g_m48
  obtain ⟨m49, g_m49, h⟩ := ob h
  have k_m49 := k_pV k_m48 g_m49
  obtain ⟨m51, g_m51, h⟩ := ob h
  have k_m51 := k_nw (fun _ _ z => by cases z) k_m49 g_m51
  obtain ⟨m54, g_m54, h⟩ := ob h
  have k_m54 := k_X6_init k_m51 g_m54
  obtain ⟨m55, g_m55, h⟩ := ob h
  have k_m55 := k_pV k_m54 g_m55
  obtain ⟨m57, g_m57, h⟩ := ob h
  have k_m57 := k_pV k_m55 g_m57
  obtain ⟨m59, g_m59, h⟩ := ob h
  have k_m59 := k_pV k_m57 g_m59
  obtain ⟨m61, g_m61, h⟩ := ob h
  have k_m61 := k_pV k_m59 g_m61
  obtain ⟨v63, -, h⟩ := ob h
  obtain ⟨m65, g_m65, h⟩ := ob h
  have k_m65 := k_nw (fun _ _ z => by cases z) k_m61 g_m65
  obtain ⟨m68, g_m68, h⟩ := ob h
  have k_m68 := k_X2_init k_m65 g_m68
  obtain ⟨-, -, h⟩ := obO h
  obtain ⟨m71, g_m71, h⟩ := ob h
  have k_m71 := k_sR (by decide) k_m68 g_m71
  obtain ⟨v73, -, h⟩ := ob h
  obtain ⟨m75, g_m75, h⟩ := ob h
  have k_m75 := k_nw (fun _ _ z => by cases z) k_m71 g_m75
  obtain ⟨m78, g_m78, h⟩ := ob h
  have k_m78 := k_X2_init k_m75 g_m78
  obtain ⟨-, -, h⟩ := obO h
  obtain ⟨m81, g_m81, h⟩ := ob h
  have k_m81 := k_sR (by decide) k_m78 g_m81
  obtain ⟨v83, -, h⟩ := ob h
  obtain ⟨m85, g_m85, h⟩ := ob h
  have k_m85 := k_nw (fun _ _ z => by cases z) k_m81 g_m85
  obtain ⟨m88, g_m88, h⟩ := ob h
  have k_m88 := k_X2_init k_m85 g_m88
  obtain ⟨-, -, h⟩ := obO h
  obtain ⟨m91, g_m91, h⟩ := ob h
  have k_m91 := k_sR (by decide) k_m88 g_m91
  obtain ⟨v93, -, h⟩ := ob h
  obtain ⟨m95, g_m95, h⟩ := ob h
  have k_m95 := k_nw (fun _ _ z => by cases z) k_m91 g_m95
  obtain ⟨m98, g_m98, h⟩ := ob h
  have k_m98 := k_X2_init k_m95 g_m98
  obtain ⟨-, -, h⟩ := obO h
  obtain ⟨m101, g_m101, h⟩ := ob h
  have k_m101 := k_sR (by decide) k_m98 g_m101
  obtain ⟨v103, -, h⟩ := ob h
  obtain ⟨m105, g_m105, h⟩ := ob h
  have k_m105 := k_nw (fun _ _ z => by cases z) k_m101 g_m105
  obtain ⟨m108, g_m108, h⟩ := ob h
  have k_m108 := k_X2_init k_m105 g_m108
  obtain ⟨-, -, h⟩ := obO h
  obtain ⟨m111, g_m111, h⟩ := ob h
  have k_m111 := k_sR (by decide) k_m108 g_m111
  obtain ⟨v113, -, h⟩ := ob h
  obtain ⟨m115, g_m115, h⟩ := ob h
  have k_m115 := k_nw (fun _ _ z => by cases z) k_m111 g_m115
  obtain ⟨m118, g_m118, h⟩ := ob h
  have k_m118 := k_X2_init k_m115 g_m118
  obtain ⟨-, -, h⟩ := obO h
  obtain ⟨m121, g_m121, h⟩ := ob h
  have k_m121 := k_sR (by decide) k_m118 g_m121
  obtain ⟨v123, -, h⟩ := ob h
  obtain ⟨m125, g_m125, h⟩ := ob h
  have k_m125 := k_nw (fun _ _ z => by cases z) k_m121 g_m125
  obtain ⟨m128, g_m128, h⟩ := ob h
  have k_m128 := k_X2_init k_m125 g_m128
  obtain ⟨-, -, h⟩ := obO h
  obtain ⟨m131, g_m131, h⟩ := ob h
  have k_m131 := k_sR (by decide) k_m128 g_m131
  obtain ⟨v133, -, h⟩ := ob h
  obtain ⟨m135, g_m135, h⟩ := ob h
  have k_m135 := k_nw (fun _ _ z => by cases z) k_m131 g_m135
  obtain ⟨m138, g_m138, h⟩ := ob h
  have k_m138 := k_X2_init k_m135 g_m138
  obtain ⟨-, -, h⟩ := obO h
  obtain ⟨m141, g_m141, h⟩ := ob h
  have k_m141 := k_sR (by decide) k_m138 g_m141
  obtain ⟨v143, -, h⟩ := ob h
  obtain ⟨v145, -, h⟩ := ob h
  obtain ⟨-, -, h⟩ := obO h
  obtain ⟨m150, g_m150, h⟩ := ob h
  have k_m150 := k_X4_append k_m141 g_m150
  obtain ⟨v151, -, h⟩ := ob h
  obtain ⟨v153, -, h⟩ := ob h
  obtain ⟨-, -, h⟩ := obO h
  obtain ⟨m158, g_m158, h⟩ := ob h
  have k_m158 := k_X4_link k_m150 g_m158
  obtain rfl := Option.some.inj h
  exact k_m158
theorem k_X8_init {m m9 : Mm} {x0 : Nat} (h0 : N4 m) (h : f_X8_init m x0 = some m9) : N4 m9 := by
  unfold f_X8_init at h
  obtain ⟨m1, g_m1, h⟩ := ob h
  have k_m1 := k_nw (fun _ _ z => by cases z) h0 g_m1
  obtain ⟨m3, g_m3, h⟩ := ob h
  have k_m3 := k_pV k_m1 g_m3
  obtain ⟨m5, g_m5, h⟩ := ob h
  have k_m5 := k_pV k_m3 g_m5
  obtain ⟨m7, g_m7, h⟩ := ob h
  have k_m7 := k_nw (fun _ _ z => by cases z) k_m5 g_m7
  obtain ⟨m9, g_m9, h⟩ := ob h
  have k_m9 := k_pV k_m7 g_m9
  obtain ⟨m11, g_m11, h⟩ := ob h
  have k_m11 := k_nw (fun _ _ z => by cases z) k_m9 g_m11
  obtain ⟨m13, g_m13, h⟩ := ob h
  have k_m13 := k_pV k_m11 g_m13
  obtain ⟨m15, g_m15, h⟩ := ob h
  have k_m15 := k_nw (fun _ _ z => by cases z) k_m13 g_m15
  obtain ⟨m17, g_m17, h⟩ := ob h
  have k_m17 := k_sI k_m15 g_m17
  obtain ⟨m19, g_m19, h⟩ := ob h
  have k_m19 := k_sI k_m17 g_m19
  obtain ⟨m21, g_m21, h⟩ := ob h
  have k_m21 := k_sI k_m19 g_m21
  obtain ⟨m23, g_m23, h⟩ := ob h
  have k_m23 := k_sI k_m21 g_m23
  obtain ⟨m25, g_m25, h⟩ := ob h
  have k_m25 := k_sI k_m23 g_m25
  obtain ⟨m27, g_m27, h⟩ := ob h
  have k_m27 := k_sI k_m25 g_m27
  obtain ⟨m29, g_m29, h⟩ := ob h
  have k_m29 := k_sI k_m27 g_m29
  obtain ⟨m31, g_m31, h⟩ := ob h
  have k_m31 := k_sI k_m29 g_m31
  obtain ⟨m33, g_m33, h⟩ := ob h
  have k_m33 := k_sI k_m31 g_m33
  obtain ⟨m35, g_m35, h⟩ := ob h
  have k_m35 := k_sI k_m33 g_m35
  obtain ⟨m37, g_m37, h⟩ := ob h
  have k_m37 := k_sI k_m35 g_m37
  obtain ⟨m39, g_m39, h⟩ := ob h
  have k_m39 := k_sI k_m37 g_m39
  obtain ⟨m41, g_m41, h⟩ := ob h
  have k_m41 := k_sI k_m39 g_m41
  obtain ⟨m43, g_m43, h⟩ := ob h
  have k_m43 := k_sI k_m41 g_m43
  obtain ⟨m45, g_m45, h⟩ := ob h
  have k_m45 := k_sI k_m43 g_m45
  obtain ⟨m47, g_m47, h⟩ := ob h
  have k_m47 := k_sI k_m45 g_m47
  obtain ⟨m49, g_m49, h⟩ := ob h
  have k_m49 := k_sI k_m47 g_m49
  obtain ⟨m51, g_m51, h⟩ := ob h
  have k_m51 := k_sI k_m49 g_m51
  obtain ⟨m53, g_m53, h⟩ := ob h
  have k_m53 := k_sI k_m51 g_m53
  obtain ⟨m55, g_m55, h⟩ := ob h
  have k_m55 := k_sI k_m53 g_m55
  obtain ⟨m57, g_m57, h⟩ := ob h
  have k_m57 := k_sI k_m55 g_m57
  obtain ⟨m59, g_m59, h⟩ := ob h
  have k_m59 := k_sI k_m57 g_m59
  obtain ⟨m61, g_m61, h⟩ := ob h
  have k_m61 := k_sI k_m59 g_m61
  obtain ⟨m63, g_m63, h⟩ := ob h
  have k_m63 := k_sI k_m61 g_m63
  obtain ⟨m65, g_m65, h⟩ := ob h
  have k_m65 := k_sI k_m63 g_m65
  obtain ⟨m67, g_m67, h⟩ := ob h
  have k_m67 := k_sI k_m65 g_m67
  obtain ⟨m69, g_m69, h⟩ := ob h
  have k_m69 := k_sI k_m67 g_m69
  obtain ⟨m71, g_m71, h⟩ := ob h
  have k_m71 := k_sI k_m69 g_m71
  obtain ⟨m73, g_m73, h⟩ := ob h
  have k_m73 := k_sI k_m71 g_m73
  obtain ⟨m75, g_m75, h⟩ := ob h
  have k_m75 := k_sI k_m73 g_m75
  obtain ⟨m77, g_m77, h⟩ := ob h
  have k_m77 := k_sI k_m75 g_m77
  obtain ⟨m79, g_m79, h⟩ := ob h
  have k_m79 := k_sI k_m77 g_m79
  obtain ⟨m81, g_m81, h⟩ := ob h
  have k_m81 := k_pV k_m79 g_m81
  obtain ⟨m83, g_m83, h⟩ := ob h
  have k_m83 := k_nw (fun _ _ z => by cases z) k_m81 g_m83
  obtain ⟨m85, g_m85, h⟩ := ob h
  have k_m85 := k_sI k_m83 g_m85
  obtain ⟨m87, g_m87, h⟩ := ob h
  have k_m87 := k_sI k_m85 g_m87
  obtain ⟨m89, g_m89, h⟩ := ob h
  have k_m89 := k_sI k_m87 g_m89
  obtain ⟨m91, g_m91, h⟩ := ob h
  have k_m91 := k_sI k_m89 g_m91
  obtain ⟨m93, g_m93, h⟩ := ob h
  have k_m93 := k_sI k_m91 g_m93
  obtain ⟨m95, g_m95, h⟩ := ob h
  have k_m95 := k_sI k_m93 g_m95
  obtain ⟨m97, g_m97, h⟩ := ob h
  have k_m97 := k_sI k_m95 g_m97
  obtain ⟨m99, g_m99, h⟩ := ob h
  have k_m99 := k_sI k_m97 g_m99
  obtain ⟨m101, g_m101, h⟩ := ob h
  have k_m101 := k_sI k_m99 g_m101
  obtain ⟨m103, g_m103, h⟩ := ob h
  have k_m103 := k_sI k_m101 g_m103
  obtain ⟨m105, g_m105, h⟩ := ob h
  have k_m105 := k_sI k_m103 g_m105
  obtain ⟨m107, g_m107, h⟩ := ob h
  have k_m107 := k_sI k_m105 g_m107
  obtain ⟨m109, g_m109, h⟩ := ob h
  have k_m109 := k_sI k_m107 g_m109
  obtain ⟨m111, g_m111, h⟩ := ob h
  have k_m111 := k_sI k_m109 g_m111
  obtain ⟨m113, g_m113, h⟩ := ob h
  have k_m113 := k_sI k_m111 g_m113
  obtain ⟨m115, g_m115, h⟩ := ob h
  have k_m115 := k_sI k_m113 g_m115
  obtain ⟨m117, g_m117, h⟩ := ob h
  have k_m117 := k_sI k_m115 g_m117
  obtain ⟨m119, g_m119, h⟩ := ob h
  have k_m119 := k_sI k_m117 g_m119
  obtain ⟨m121, g_m121, h⟩ := ob h
  have k_m121 := k_sI k_m119 g_m121
  obtain ⟨m123, g_m123, h⟩ := ob h
  have k_m123 := k_sI k_m121 g_m123
  obtain ⟨m125, g_m125, h⟩ := ob h
  have k_m125 := k_sI k_m123 g_m125
  obtain ⟨m127, g_m127, h⟩ := ob h
  have k_m127 := k_sI k_m125 g_m127
  obtain ⟨m129, g_m129, h⟩ := ob h
  have k_m129 := k_sI k_m127 g_m129
  obtain ⟨m131, g_m131, h⟩ := ob h
  have k_m131 := k_sI k_m129 g_m131
  obtain ⟨m133, g_m133, h⟩ := ob h
  have k_m133 := k_sI k_m131 g_m133
  obtain ⟨m135, g_m135, h⟩ := ob h
  have k_m135 := k_sI k_m133 g_m135
  obtain ⟨m137, g_m137, h⟩ := ob h
  have k_m137 := k_sI k_m135 g_m137
  obtain ⟨m139, g_m139, h⟩ := ob h
  have k_m139 := k_sI k_m137 g_m139
  obtain ⟨m141, g_m141, h⟩ := ob h
  have k_m141 := k_sI k_m139 g_m141
  obtain ⟨m143, g_m143, h⟩ := ob h
  have k_m143 := k_sI k_m141 g_m143
  obtain ⟨m145, g_m145, h⟩ := ob h
  have k_m145 := k_sI k_m143 g_m145
  obtain ⟨m147, g_m147, h⟩ := ob h
  have k_m147 := k_sI k_m145 g_m147
  obtain ⟨m149, g_m149, h⟩ := ob h
  have k_m149 := k_pV k_m147 g_m149
  obtain ⟨m151, g_m151, h⟩ := ob h
  have k_m151 := k_nw (fun _ _ z => by cases z) k_m149 g_m151
  obtain ⟨m153, g_m153, h⟩ := ob h
  have k_m153 := k_sI k_m151 g_m153
  obtain ⟨m155, g_m155, h⟩ := ob h
  have k_m155 := k_sI k_m153 g_m155
  obtain ⟨m157, g_m157, h⟩ := ob h
  have k_m157 := k_sI k_m155 g_m157
  obtain ⟨m159, g_m159, h⟩ := ob h
  have k_m159 := k_sI k_m157 g_m159
  obtain ⟨m161, g_m161, h⟩ := ob h
  have k_m161 := k_sI k_m159 g_m161
  obtain ⟨m163, g_m163, h⟩ := ob h
  have k_m163 := k_sI k_m161 g_m163
  obtain ⟨m165, g_m165, h⟩ := ob h
  have k_m165 := k_sI k_m163 g_m165
  obtain ⟨m167, g_m167, h⟩ := ob h
  have k_m167 := k_sI k_m165 g_m167
  obtain ⟨m169, g_m169, h⟩ := ob h
  have k_m169 := k_sI k_m167 g_m169
  obtain ⟨m171, g_m171, h⟩ := ob h
  have k_m171 := k_sI k_m169 g_m171
  obtain ⟨m173, g_m173, h⟩ := ob h
  have k_m173 := k_sI k_m171 g_m173
  obtain ⟨m175, g_m175, h⟩ := ob h
  have k_m175 := k_sI k_m173 g_m175
  obtain ⟨m177, g_m177, h⟩ := ob h
  have k_m177 := k_sI k_m175 g_m177
  obtain ⟨m179, g_m179, h⟩ := ob h
  have k_m179 := k_sI k_m177 g_m179
  obtain ⟨m181, g_m181, h⟩ := ob h
  have k_m181 := k_sI k_m179 g_m181
  obtain ⟨m183, g_m183, h⟩ := ob h
  have k_m183 := k_sI k_m181 g_m183
  obtain ⟨m185, g_m185, h⟩ := ob h
  have k_m185 := k_sI k_m183 g_m185
  obtain ⟨m187, g_m187, h⟩ := ob h
  have k_m187 := k_sI k_m185 g_m187
  obtain ⟨m189, g_m189, h⟩ := ob h
  have k_m189 := k_sI k_m187 g_m189
  obtain ⟨m191, g_m191, h⟩ := ob h
  have k_m191 := k_sI k_m189 g_m191
  obtain ⟨m193, g_m193, h⟩ := ob h
  have k_m193 := k_sI k_m191 g_m193
  obtain ⟨m195, g_m195, h⟩ := ob h
  have k_m195 := k_sI k_m193 g_m195
  obtain ⟨m197, g_m197, h⟩ := ob h
  have k_m197 := k_sI k_m195 g_m197
  obtain ⟨m199, g_m199, h⟩ := ob h
  have k_m199 := k_sI k_m197 g_m199
  obtain ⟨m201, g_m201, h⟩ := ob h
  have k_m201 := k_sI k_m199 g_m201
  obtain ⟨m203, g_m203, h⟩ := ob h
  have k_m203 := k_sI k_m201 g_m203
  obtain ⟨m205, g_m205, h⟩ := ob h
  have k_m205 := k_sI k_m203 g_m205
  obtain ⟨m207, g_m207, h⟩ := ob h
  have k_m207 := k_sI k_m205 g_m207
  obtain ⟨m209, g_m209, h⟩ := ob h
  have k_m209 := k_sI k_m207 g_m209
  obtain ⟨m211, g_m211, h⟩ := ob h
  have k_m211 := k_sI k_m209 g_m211
  obtain ⟨m213, g_m213, h⟩ := ob h
  have k_m213 := k_sI k_m211 g_m213
  obtain ⟨m215, g_m215, h⟩ := ob h
  have k_m215 := k_sI k_m213 g_m215
  obtain ⟨m217, g_m217, h⟩ := ob h
  have k_m217 := k_pV k_m215 g_m217
  obtain ⟨m219, g_m219, h⟩ := ob h
  have k_m219 := k_nw (fun _ _ z => by cases z) k_m217 g_m219
  obtain ⟨m221, g_m221, h⟩ := ob h
  have k_m221 := k_pV k_m219 g_m221
  obtain ⟨m223, g_m223, h⟩ := ob h
  have k_m223 := k_nw (fun _ _ z => by cases z) k_m221 g_m223
  obtain ⟨m225, g_m225, h⟩ := ob h
  have k_m225 := k_pV k_m223 g_m225
  obtain ⟨m227, g_m227, h⟩ := ob h
  have k_m227 := k_nw (fun _ _ z => by cases z) k_m225 g_m227
  obtain ⟨m229, g_m229, h⟩ := ob h
  have k_m229 := k_pV k_m227 g_m229
  obtain ⟨m231, g_m231, h⟩ := ob h
  have k_m231 := k_nw (fun _ _ z => by cases z) k_m229 g_m231
  obtain ⟨m233, g_m233, h⟩ := ob h
  have k_m233 := k_pV k_m231 g_m233
  obtain ⟨m235, g_m235, h⟩ := ob h
  have k_m235 := k_nw (fun _ _ z => by cases z) k_m233 g_m235
  obtain ⟨m237, g_m237, h⟩ := ob h
  have k_m237 := k_pV k_m235 g_m237
  obtain ⟨m239, g_m239, h⟩ := ob h
  have k_m239 := k_nw (fun _ _ z => by cases z) k_m237 g_m239
  obtain ⟨m241, g_m241, h⟩ := ob h
  have k_m241 := k_pV k_m239 g_m241
  obtain ⟨m243, g_m243, h⟩ := ob h
  have k_m243 := k_nw (fun _ _ z => by cases z) k_m241 g_m243
  obtain ⟨m245, g_m245, h⟩ := ob h
  have k_m245 := k_pV k_m243 g_m245
  obtain ⟨m247, g_m247, h⟩ := ob h
  have k_m247 := k_nw (fun _ _ z => by cases z) k_m245 g_m247
  obtain ⟨m249, g_m249, h⟩ := ob h
  have k_m249 := k_pV k_m247 g_m249
  obtain ⟨m251, g_m251, h⟩ := ob h
  have k_m251 := k_nw (fun _ _ z => by cases z) k_m249 g_m251
  obtain ⟨m253, g_m253, h⟩ := ob h
  have k_m253 := k_pV k_m251 g_m253
  obtain ⟨m255, g_m255, h⟩ := ob h
  have k_m255 := k_nw (fun _ _ z => by cases z) k_m253 g_m255
  obtain ⟨m257, g_m257, h⟩ := ob h
  have k_m257 := k_pV k_m255 g_m257
  obtain ⟨m259, g_m259, h⟩ := ob h
  have k_m259 := k_nw (fun _ _ z => by cases z) k_m257 g_m259
  obtain ⟨m261, g_m261, h⟩ := ob h
  have k_m261 := k_pV k_m259 g_m261
  obtain ⟨m263, g_m263, h⟩ := ob h
  have k_m263 := k_nw (fun _ _ z => by cases z) k_m261 g_m263
  obtain ⟨m265, g_m265, h⟩ := ob h
  have k_m265 := k_pV k_m263 g_m265
  obtain ⟨m267, g_m267, h⟩ := ob h
  have k_m267 := k_nw (fun _ _ z => by cases z) k_m265 g_m267
  obtain ⟨m269, g_m269, h⟩ := ob h
  have k_m269 := k_pV k_m267 g_m269
  obtain ⟨m271, g_m271, h⟩ := ob h
  have k_m271 := k_nw (fun _ _ z => by cases z) k_m269 g_m271
  obtain ⟨m273, g_m273, h⟩ := ob h
  have k_m273 := k_pV k_m271 g_m273
  obtain ⟨m275, g_m275, h⟩ := ob h
  have k_m275 := k_nw (fun _ _ z => by cases z) k_m273 g_m275
  obtain ⟨m277, g_m277, h⟩ := ob h
  have k_m277 := k_pV k_m275 g_m277
  obtain ⟨m279, g_m279, h⟩ := ob h
  have k_m279 := k_nw (fun _ _ z => by cases z) k_m277 g_m279
  obtain ⟨m281, g_m281, h⟩ := ob h
  have k_m281 := k_pV k_m279 g_m281
  obtain ⟨m283, g_m283, h⟩ := ob h
  have k_m283 := k_nw (fun _ _ z => by cases z) k_m281 g_m283
  obtain ⟨m285, g_m285, h⟩ := ob h
  have k_m285 := k_pV k_m283 g_m285
  obtain ⟨m287, g_m287, h⟩ := ob h
  have k_m287 := k_nw (fun _ _ z => by cases z) k_m285 g_m287
  obtain ⟨m289, g_m289, h⟩ := ob h
  have k_m289 := k_pV k_m287 g_m289
  obtain ⟨m291, g_m291, h⟩ := ob h
  have k_m291 := k_nw (fun _ _ z => by cases z) k_m289 g_m291
  obtain ⟨m293, g_m293, h⟩ := ob h
  have k_m293 := k_pV k_m291 g_m293
  obtain rfl := Option.some.inj h
  exact k_m293
theorem ini_N4 {a : Nat} {m : Mm} (h : ini = some (a, m)) : N4 m := by
  unfold ini at h
  obtain ⟨m4, g4, h⟩ := ob h
  obtain ⟨m5, g5, h⟩ := ob h
  obtain ⟨m8, g8, h⟩ := ob h
  have k0 : N4 [e7] := by
    intro k n f hk
    by_cases z : k = 0
    · rw [z] at hk; cases hk
    · rw [List.getElem?_eq_none (by show 1 ≤ _; omega)] at hk; cases hk
  have k8 := k_X8_init (k_nw (fun _ _ z => by cases z) (k_X7_init k0 g4) g5) g8
  obtain ⟨-, rfl⟩ := Prod.mk.inj (Option.some.inj h)
  exact k8
