/-! ===== the law, and the claim ===== -/
theorem pure_main {L : Nat} {xs : Nat → Int32} (hL : L ≤ 2560) : f_L_law L xs [] = some () := by
  obtain ⟨m, hi, hm⟩ := ini_ex
  have hN := ini_N4 hi
  unfold ini at hi
  obtain ⟨m4, g4, hi⟩ := ob hi
  obtain ⟨m5, g5, hi⟩ := ob hi
  obtain ⟨m8, g8, hi⟩ := ob hi
  obtain ⟨h376, rfl⟩ := Prod.mk.inj (Option.some.inj hi)
  obtain ⟨hci, hat, hmb⟩ := first hm hN
  have hC0 : CP m8 X0 := ⟨hci, _, _, hat, hmb⟩
  clear hci hat hmb hm hN hi
  unfold f_L_law
  refine Ok.eq (Ok.bind (P := fun m1 => m1 = [e7]) ⟨[e7], rfl, rfl⟩ ?_)
  rintro _ rfl
  refine Ok.bind (P := fun m1 => m1 = m4) ⟨m4, g4, rfl⟩ ?_
  rintro _ rfl
  refine Ok.bind (P := fun m1 => m1 = m5) ⟨m5, g5, rfl⟩ ?_
  rintro _ rfl
  refine Ok.bind (P := fun m1 => m1 = m8) ⟨m8, g8, rfl⟩ ?_
  rintro _ rfl
  rw [h376]
  refine Ok.bind (P := fun _ => True) ?_ (fun _ _ => Ok.pure rfl)
  refine Ok.whl (fun j s => ∃ k m X, s = (I k, m) ∧ 0 ≤ k ∧ k ≤ (L : Int) + 5 ∧ j = ((L : Int) + 5 - k).toNat ∧ CP m X) _ (j := ((L : Int) + 5 - 0).toNat) ?_ ⟨0, _, X0, rfl, by omega, by omega, rfl, hC0⟩ (FU_lt (by omega))
  rintro j s ⟨k, m, X, rfl, k0, k1, rfl, hC⟩
  dsimp only
  by_cases d : (L : Int) - 5 < k
  · have hLI : Int32.ofNat L = I (L : Int) := (Int32.ofInt_eq_ofNat).symm
    have hcond : Int32.ofNat L - (5 : Int32) < I k := by
      rw [hLI, L5, I_sub, I_lt (by omega) (by omega) (by omega) (by omega)]
      exact d
    unfold f_L_law_L18
    rw [if_pos hcond]
    exact Ok.pure (Or.inr ⟨_, rfl, trivial⟩)
  · refine (law_step hC k0 (by omega) hL).mono ?_
    rintro x ⟨m2, X', rfl, hC'⟩
    exact Or.inl ⟨_, ((L : Int) + 5 - (k + 5)).toNat, rfl, ⟨k + 5, m2, X', rfl, by omega, by omega, rfl, hC'⟩, by omega⟩
theorem whole_start {p : Program} {e : Env} {s : State} {m : MethodId} {below : List Frame} {meth : Method} {c : Code} (l : Launch) (hflags : l.flags = flags0) {b L : Nat} {xs : Nat → Int32} (hL : L ≤ 2560) (C0 : lw_At p s m meth c b L xs) : W p l e room_1 s m #[Value.ref b] below meth c s.heap [] 0 0 (lw_Z below #[Value.ref b] s) (entryFrame m ([Value.ref b] : List Value).toArray 4) := whole_of l (pure_main hL) C0
