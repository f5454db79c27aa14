/-! ===== the reference: shown ===== -/
/-- the reference has shown l -/
def SH (m : Mm) (a : Nat) (F : Nat → Int) (A : Nat → Int → Int) (l : List Int) (M : Mm) : Prop := ∃ v R, M = ov m a (o8 a (upN F 33 v) (upN A 25 R)) ∧ v = l.length ∧ ∀ j : Int, 0 ≤ j → j < (l.length : Int) → R j = lk l j
theorem lk_in {l : List Int} {c j : Int} (h0 : 0 ≤ j) (h1 : j < (l.length : Int)) : lk (l ++ [c]) j = lk l j := by
  rw [lk_app h0, if_neg (by omega)]
section MSH
variable {m M : Mm} {a : Nat} {F : Nat → Int} {A : Nat → Int → Int} {X : FS} {l : List Int}
theorem M_shows (hl : a + 25 < m.length) (h : SH m a F A l M) (hn : l.length < 256) {c : Int} : Ok (f_X8_shows M a (I c)) (SH m a F A (l ++ [c])) := by
  obtain ⟨v, R, rfl, hv, hR⟩ := h
  unfold f_X8_shows
  simp (disch := omega) only [o8_g32, o8_g33, upN_at, o8_s25, upN_upN, L0, L1, L2, L3, L4, L5, L6, L7, L8, L9, L10, L11, L12, L13, L14, L15, L16, L17, L18, L19, L20, L21, L22, L23, L24, L25, L26, L27, L31, L32, L33, L36, L40, L41, L42, L47, L48, L57, L58, L59, L60, L61, L62, L65, L97, L101, L102, L103, L120, L126, L127, L144, L245, L1023, L1715, I_add, I_sub, I_mul, I_neg, I_lt, I_le, I_eq, o8_p33, Option.bind_some]
  refine Ok.pure ⟨_, _, rfl, ?_, fun j j0 j1 => ?_⟩
  · rw [hv, List.length_append]; rfl
  · have j1' : j < (l.length : Int) + 1 := by rw [List.length_append] at j1; exact j1
    by_cases z : j = v
    · rw [z, upZ_at, lk_app (by omega), if_pos hv.symm]
    · rw [upZ_ne z, hR j j0 (by omega), lk_in j0 (by omega)]
theorem SH.At (h : SH m a F A l M) (hl : a + 25 < m.length) : ∃ v R, At M a (o8 a (upN F 33 v) (upN A 25 R)) := by
  obtain ⟨v, R, rfl, -⟩ := h
  exact ⟨v, R, o8_At hl⟩
theorem SH.cO (h : SH m a F A l M) (hl : a + 25 < m.length) {α : Type} {x : Option α} : cO M a 8 x = x := by
  obtain ⟨v, R, rfl, -⟩ := h
  exact o8_cO hl
theorem M_reps (hl : a + 25 < m.length) {f : Int32 × Mm → Option ((Int32 × Mm) ⊕ Mm)} {b x : Int} (hf : ∀ s, f s = if s.1 ≤ I b then some (.inr s.2) else Jvm.Pilot.@@N@@.cO s.2 a 8 ((f_X8_shows s.2 a (41 : Int32)).bind fun m5 => some (.inl (s.1 + (-1), m5)))) (h : SH m a F A l M) (hb : b = 0 ∨ b = 1) (hx : -20 ≤ x ∧ x ≤ 20) (hn : l.length ≤ 200) : Ok (whl FU f (I x, M)) (SH m a F A (l ++ List.replicate (x - b).toNat 41)) := by
  refine Ok.whl (fun j s => ∃ y M', s = (I y, M') ∧ -20 ≤ y ∧ y ≤ x ∧ (b ≤ y ∨ y = x) ∧ j = (y + 20).toNat ∧ SH m a F A (l ++ List.replicate ((x - b).toNat - (y - b).toNat) 41) M') _ (j := (x + 20).toNat) ?_ ⟨x, M, rfl, by omega, by omega, Or.inr rfl, rfl, by rw [Nat.sub_self, List.replicate_zero, List.append_nil]; exact h⟩ (FU_lt (by omega))
  rintro j s ⟨y, M', rfl, y0, y1, y2, rfl, h'⟩
  rw [hf]
  dsimp only
  by_cases d1 : y ≤ b
  · simp (disch := omega) only [I_add, I_sub, I_mul, I_neg, I_lt, I_le, I_eq, if_pos d1]
    rw [show (y - b).toNat = 0 by omega, Nat.sub_zero] at h'
    exact Ok.pure (Or.inr ⟨_, rfl, h'⟩)
  · simp (disch := omega) only [L0, L1, L2, L3, L4, L5, L6, L7, L8, L9, L10, L11, L12, L13, L14, L15, L16, L17, L18, L19, L20, L21, L22, L23, L24, L25, L26, L27, L31, L32, L33, L36, L40, L41, L42, L47, L48, L57, L58, L59, L60, L61, L62, L65, L97, L101, L102, L103, L120, L126, L127, L144, L245, L1023, L1715, I_add, I_sub, I_mul, I_neg, I_lt, I_le, I_eq, if_neg d1, h'.cO hl]
    refine Ok.bind (M_shows hl h' (by rw [List.length_append, List.length_replicate]; omega)) ?_
    intro m5 h5
    refine Ok.pure (Or.inl ⟨_, (y + -1 + 20).toNat, rfl, ⟨y + -1, m5, rfl, by omega, by omega, Or.inl (by omega), rfl, ?_⟩, by omega⟩)
    rw [List.append_assoc, ← List.replicate_succ', show (x - b).toNat - (y - b).toNat + 1 = (x - b).toNat - (y + -1 - b).toNat by omega] at h5
    exact h5
theorem prn_two {a b : Int} : prn a b = List.replicate (a - b).toNat 41 ++ (if a < b then [40] else []) := by
  unfold prn
  by_cases z : a < b
  · rw [if_pos z, if_pos z, show (a - b).toNat = 0 by omega]; rfl
  · rw [if_neg z, if_neg z, List.append_nil]
theorem M_showsTree (hl : a + 25 < m.length) (h : MB F A X) : Ok (f_X8_showsTree (ov m a (o8 a F A)) a) (SH m a F A (shT (tn (fS X)) (ttg (fS X)) (tvl (fS X)) (tlv (fS X)))) := by
  have hF := h.1.1
  have hw := h.1.2.1
  have hn1 := hw.1
  have hn2 := hw.2.1
  unfold f_X8_showsTree
  simp (disch := omega) only [L0, L1, L2, L3, L4, L5, L6, L7, L8, L9, L10, L11, L12, L13, L14, L15, L16, L17, L18, L19, L20, L21, L22, L23, L24, L25, L26, L27, L31, L32, L33, L36, L40, L41, L42, L47, L48, L57, L58, L59, L60, L61, L62, L65, L97, L101, L102, L103, L120, L126, L127, L144, L245, L1023, L1715, o8_p33, Option.bind_some]
  have f1 : ∀ v, upN F 33 v 1 = tn (fS X) := fun v => by rw [upN_ne (by omega)]; exact hF
  have rw2 : ∀ R : Int → Int, ∀ e, 0 ≤ e → e < tn (fS X) → upN A 25 R 2 e = ttg (fS X) e ∧ upN A 25 R 3 e = tvl (fS X) e ∧ upN A 25 R 4 e = tlv (fS X) e := fun R e e0 e1 => by
    rw [upN_ne (by omega), upN_ne (by omega), upN_ne (by omega)]
    obtain ⟨r1, r2, r3, -⟩ := h.1.2.2 e e0 e1
    exact ⟨r1, r2, r3⟩
  refine Ok.bind (P := SH m a F A (sT (ttg (fS X)) (tvl (fS X)) (tlv (fS X)) (tn (fS X)).toNat)) ?_ ?_
  · refine Ok.whl (fun j s => ∃ e M, s = (I e, M) ∧ 0 ≤ e ∧ e ≤ tn (fS X) ∧ j = (tn (fS X) - e).toNat ∧ SH m a F A (sT (ttg (fS X)) (tvl (fS X)) (tlv (fS X)) e.toNat) M) _ (j := (tn (fS X) - 0).toNat) ?_ ⟨0, _, rfl, by omega, by omega, rfl, ⟨0, A 25, by rw [upN_self], rfl, fun j j0 j1 => by have hz : ((sT (ttg (fS X)) (tvl (fS X)) (tlv (fS X)) (0 : Int).toNat).length : Int) = 0 := rfl; omega⟩⟩ (FU_lt (by omega))
    rintro j s ⟨e, M, rfl, e0, e1, rfl, hs⟩
    dsimp only
    unfold f_X8_showsTree_L7
    obtain ⟨v, R, hat⟩ := hs.At hl
    by_cases d1 : tn (fS X) ≤ e
    · simp (disch := omega) only [a8_g1 hat, f1, I_add, I_sub, I_mul, I_neg, I_lt, I_le, I_eq, if_pos d1, Option.bind_some]
      rw [show e = tn (fS X) by omega] at hs
      exact Ok.pure (Or.inr ⟨_, rfl, hs⟩)
    · obtain ⟨r1, r2, r3⟩ := rw2 R e e0 (by omega)
      have hge := hw.ge e0 (show e < tn (fS X) by omega)
      obtain ⟨-, -, -, -, -, g1, g2, g3, g4⟩ := h.1.2.2 e e0 (by omega)
      have hstep := sT_step (n := tn (fS X)) (tg := ttg (fS X)) (vl := tvl (fS X)) (lv := tlv (fS X)) e e0 (by omega)
      have hgl := gpT_len (tg := ttg (fS X)) (vl := tvl (fS X)) hw e0 (show e ≤ tn (fS X) by omega)
      have hgl2 := hgl
      rw [List.length_append] at hgl2
      simp (disch := omega) only [a8_g1 hat, f1, I_add, I_sub, I_mul, I_neg, I_lt, I_le, I_eq, if_neg d1, L0, L1, L2, L3, L4, L5, L6, L7, L8, L9, L10, L11, L12, L13, L14, L15, L16, L17, L18, L19, L20, L21, L22, L23, L24, L25, L26, L27, L31, L32, L33, L36, L40, L41, L42, L47, L48, L57, L58, L59, L60, L61, L62, L65, L97, L101, L102, L103, L120, L126, L127, L144, L245, L1023, L1715, Option.bind_some]
      -- what closes, and what opens
      refine Ok.bind (P := fun u => u = I (if e = 0 then 0 else tlv (fS X) (e - 1) - tlv (fS X) e)) ?_ ?_
      · by_cases z : e = 0
        · rw [if_pos z]
          simp (disch := omega) only [if_pos (show e ≤ 0 by omega)]
          exact Ok.pure rfl
        · obtain ⟨-, -, r3'⟩ := rw2 R (e - 1) (by omega) (by omega)
          rw [if_neg z]
          simp (disch := omega) only [if_neg (show ¬ e ≤ 0 by omega), a8_g4 hat, a8_l4 hat, r3, r3', I_add, I_sub, I_mul, I_neg, I_lt, I_le, I_eq, Option.bind_some]
          exact Ok.pure rfl
      rintro _ rfl
      refine Ok.bind (P := SH m a F A (sT (ttg (fS X)) (tvl (fS X)) (tlv (fS X)) e.toNat ++ List.replicate ((if e = 0 then 0 else tlv (fS X) (e - 1) - tlv (fS X) e) - 0).toNat 41)) (M_reps hl (fun s => rfl) hs (Or.inl rfl) ?_ (by omega)) ?_
      · by_cases z : e = 0
        · rw [if_pos z]; omega
        · rw [if_neg z]; have := hw.ge (show 0 ≤ e - 1 by omega) (by omega); omega
      intro M1 h1
      obtain ⟨v1, R1, hat1⟩ := h1.At hl
      refine Ok.bind (P := SH m a F A (sT (ttg (fS X)) (tvl (fS X)) (tlv (fS X)) e.toNat ++ gpT (tn (fS X)) (tlv (fS X)) e)) ?_ ?_
      · unfold gpT
        by_cases z : e = 0
        · rw [if_pos z] at h1 ⊢
          simp (disch := omega) only [if_pos (show e ≤ 0 by omega)]
          exact Ok.pure h1
        · rw [if_neg z] at h1
          rw [if_neg z, if_pos (show e < tn (fS X) by omega), prn_two]
          obtain ⟨-, -, r3a⟩ := rw2 R1 (e - 1) (by omega) (by omega)
          obtain ⟨-, -, r3b⟩ := rw2 R1 e e0 (by omega)
          have hge' := hw.ge (show 0 ≤ e - 1 by omega) (show e - 1 < tn (fS X) by omega)
          rw [Int.sub_zero] at h1
          by_cases y : tlv (fS X) (e - 1) < tlv (fS X) e
          · rw [if_pos y, ← List.append_assoc]
            simp (disch := omega) only [if_neg (show ¬ e ≤ 0 by omega), a8_g4 hat1, a8_l4 hat1, r3a, r3b, I_add, I_sub, I_mul, I_neg, I_lt, I_le, I_eq, if_neg (show ¬ tlv (fS X) e ≤ tlv (fS X) (e - 1) by omega), h1.cO hl, Option.bind_some]
            exact Ok.bind (M_shows hl h1 (by rw [List.length_append, List.length_replicate]; omega)) (fun m' h' => Ok.pure h')
          · rw [if_neg y, List.append_nil]
            simp (disch := omega) only [if_neg (show ¬ e ≤ 0 by omega), a8_g4 hat1, a8_l4 hat1, r3a, r3b, I_add, I_sub, I_mul, I_neg, I_lt, I_le, I_eq, if_pos (show tlv (fS X) e ≤ tlv (fS X) (e - 1) by omega), Option.bind_some]
            exact Ok.pure h1
      intro M2 h2
      obtain ⟨v2, R2, hat2⟩ := h2.At hl
      obtain ⟨p1, -, -⟩ := rw2 R2 e e0 (by omega)
      simp (disch := omega) only [a8_g2 hat2, a8_l2 hat2, p1, I_add, I_sub, I_mul, I_neg, I_lt, I_le, I_eq, h2.cO hl, Option.bind_some]
      refine Ok.bind (M_shows hl h2 (by omega)) ?_
      intro M3 h3
      obtain ⟨v3, R3, hat3⟩ := h3.At hl
      obtain ⟨-, p2, -⟩ := rw2 R3 e e0 (by omega)
      simp (disch := omega) only [a8_g3 hat3, a8_l3 hat3, p2, I_add, I_sub, I_mul, I_neg, I_lt, I_le, I_eq, h3.cO hl, Option.bind_some]
      unfold nmT at hstep
      by_cases z : tvl (fS X) e = 0
      · rw [if_pos z] at hstep
        simp (disch := omega) only [if_pos (show tvl (fS X) e ≤ 0 by omega)]
        exact Ok.pure (Or.inl ⟨_, (tn (fS X) - (e + 1)).toNat, rfl, ⟨e + 1, M3, rfl, by omega, by omega, rfl, by rw [hstep]; exact h3⟩, by omega⟩)
      · rw [if_neg z] at hstep
        simp (disch := omega) only [if_neg (show ¬ tvl (fS X) e ≤ 0 by omega)]
        refine Ok.bind (M_shows hl h3 (by rw [List.length_append]; show _ + 1 < _; omega)) ?_
        intro M4 h4
        refine Ok.pure (Or.inl ⟨_, (tn (fS X) - (e + 1)).toNat, rfl, ⟨e + 1, M4, rfl, by omega, by omega, rfl, ?_⟩, by omega⟩)
        rw [hstep]
        rw [List.append_assoc] at h4
        exact h4
  · intro M hs
    obtain ⟨v, R, hat⟩ := hs.At hl
    obtain ⟨-, -, r3⟩ := rw2 R (tn (fS X) - 1) (by omega) (by omega)
    have hge := hw.ge (show 0 ≤ tn (fS X) - 1 by omega) (by omega)
    have hlen := sT_len (tg := ttg (fS X)) (vl := tvl (fS X)) hw (tn (fS X)).toNat (by omega) (by omega)
    rw [show (((tn (fS X)).toNat : Nat) : Int) = tn (fS X) by omega] at hlen
    simp (disch := omega) only [a8_g4 hat, a8_g1 hat, f1, I_add, I_sub, I_mul, I_neg, I_lt, I_le, I_eq, a8_l4 hat, r3, Option.bind_some]
    refine Ok.bind (M_reps (b := 1) hl (fun s => rfl) hs (Or.inr rfl) (by omega) (by omega)) ?_
    intro M1 h1
    refine Ok.pure ?_
    unfold shT prn
    rw [if_neg (by omega)]
    exact h1
end MSH
