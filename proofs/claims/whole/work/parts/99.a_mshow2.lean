/-! ===== the reference: shown, of twigs; the call ===== -/
section MS2
variable {m M : Mm} {a : Nat} {F : Nat → Int} {A : Nat → Int → Int} {X : FS} {S : TS}
theorem N_depth (h : At M a (o8 a F A)) (hM : MW A S) {i q : Int} (i0 : 0 ≤ i) (i1 : i < 4) (q0 : 0 ≤ q) (q1 : q < tqn S i) : f_X8_depth M a (I i) (I q) = some (I (lw (tnd S i) q)) := by
  obtain ⟨-, hw, -⟩ := hM i i0 i1
  have h6 := hw.2.1
  unfold f_X8_depth
  refine Ok.eq (Ok.bind (P := fun r => r = I (lw (tnd S i) q)) ?_ (fun r hr => Ok.pure hr))
  refine Ok.whl (fun j s => ∃ c n, s = (I n, I c) ∧ -1 ≤ c ∧ c < tqn S i ∧ j = (c + 1).toNat ∧ n + lw (tnd S i) c = lw (tnd S i) q) _ (j := (q + 1).toNat) ?_ ⟨q, 0, rfl, by omega, by omega, rfl, by omega⟩ (FU_lt (by omega))
  rintro j s ⟨c, n, rfl, c0, c1, rfl, hn⟩
  dsimp only
  unfold f_X8_depth_L5
  by_cases d1 : c = -1
  · rw [d1, lw_m _ (by omega)] at hn
    simp (disch := omega) only [L0, L1, L2, L3, L4, L5, L6, L7, L8, L9, L10, L11, L12, L13, L14, L15, L16, L17, L18, L19, L20, L21, L22, L23, L24, L25, L26, L27, L31, L32, L33, L36, L40, L41, L42, L47, L48, L57, L58, L59, L60, L61, L62, L65, L97, L101, L102, L103, L120, L126, L127, L144, L245, L1023, L1715, I_add, I_sub, I_mul, I_neg, I_lt, I_le, I_eq, if_pos d1]
    exact Ok.pure (Or.inr ⟨_, rfl, by rw [← hn, Int.add_zero]⟩)
  · have hab := hw.ab (show 0 ≤ c by omega) c1
    have hle := lw_eq hw (show 0 ≤ c by omega) c1
    simp (disch := omega) only [L0, L1, L2, L3, L4, L5, L6, L7, L8, L9, L10, L11, L12, L13, L14, L15, L16, L17, L18, L19, L20, L21, L22, L23, L24, L25, L26, L27, L31, L32, L33, L36, L40, L41, L42, L47, L48, L57, L58, L59, L60, L61, L62, L65, L97, L101, L102, L103, L120, L126, L127, L144, L245, L1023, L1715, I_add, I_sub, I_mul, I_neg, I_lt, I_le, I_eq, if_neg d1, a8_cO h, N_of h hM, Option.bind_some]
    exact Ok.pure (Or.inl ⟨_, (tnd S i c 5 + 1).toNat, rfl, ⟨tnd S i c 5, n + 1, rfl, by omega, by omega, rfl, by omega⟩, by omega⟩)
theorem N_cell {i q w : Int} : f_X8_cell M (I i) (I q) (I w) = some (I (36 * i + 6 * q + w)) := by
  unfold f_X8_cell
  simp (disch := omega) only [L0, L1, L2, L3, L4, L5, L6, L7, L8, L9, L10, L11, L12, L13, L14, L15, L16, L17, L18, L19, L20, L21, L22, L23, L24, L25, L26, L27, L31, L32, L33, L36, L40, L41, L42, L47, L48, L57, L58, L59, L60, L61, L62, L65, L97, L101, L102, L103, L120, L126, L127, L144, L245, L1023, L1715, I_add, I_sub, I_mul, I_neg, I_lt, I_le, I_eq, Option.bind_some]
theorem sg_tst {t : Int} (h : 0 < t ∧ t ≤ 3) : (if t = 1 then (61 : Int) else if t = 2 then 60 else 62) = sgF t := by
  have hc : t = 1 ∨ t = 2 ∨ t = 3 := by omega
  rcases hc with rfl | rfl | rfl <;> rfl
theorem lw_up {Q : Int} {nd : Int → Int → Int} (hw : WW Q nd) {q : Int} (q0 : 0 < q) (q1 : q < Q) : nd q 5 = q - 1 ↔ lw nd (q - 1) < lw nd q := by
  have hab := hw.ab (show 0 ≤ q by omega) q1
  have he := lw_eq hw (show 0 ≤ q by omega) q1
  constructor
  · intro z; rw [z] at he; omega
  · intro z
    by_cases y : nd q 5 = q - 1
    · exact y
    · have := lw_in hw q0 q1 (q - 1) (by omega) (by omega)
      omega
theorem M_showsTwig (hl : a + 25 < m.length) (h : MB F A X) {i : Int} (i0 : 0 ≤ i) (i1 : i < 4) (hQ : 1 ≤ tqn (fS X) i) : Ok (f_X8_showsTwig (ov m a (o8 a F A)) a (I i)) (SH m a F A (shW (tqn (fS X) i) (tnd (fS X) i))) := by
  obtain ⟨ex7, hww, -⟩ := h.2.1 i i0 i1
  have hwl := lw_wl hww hQ
  have h6 := hww.2.1
  have hMW : ∀ R : Int → Int, MW (upN A 25 R) (fS X) := fun R => by unfold MW; rw [upN_ne (by omega), upN_ne (by omega)]; exact h.2.1
  have r7 : ∀ R : Int → Int, upN A 25 R 7 i = tqn (fS X) i := fun R => by rw [upN_ne (by omega)]; exact ex7
  unfold f_X8_showsTwig
  simp (disch := omega) only [L0, L1, L2, L3, L4, L5, L6, L7, L8, L9, L10, L11, L12, L13, L14, L15, L16, L17, L18, L19, L20, L21, L22, L23, L24, L25, L26, L27, L31, L32, L33, L36, L40, L41, L42, L47, L48, L57, L58, L59, L60, L61, L62, L65, L97, L101, L102, L103, L120, L126, L127, L144, L245, L1023, L1715, o8_p33, Option.bind_some]
  refine Ok.bind (P := SH m a F A (sW (tnd (fS X) i) (tqn (fS X) i).toNat)) ?_ ?_
  · refine Ok.whl (fun j s => ∃ q M, s = (I q, M) ∧ 0 ≤ q ∧ q ≤ tqn (fS X) i ∧ j = (tqn (fS X) i - q).toNat ∧ SH m a F A (sW (tnd (fS X) i) q.toNat) M) _ (j := (tqn (fS X) i - 0).toNat) ?_ ⟨0, _, rfl, by omega, by omega, rfl, ⟨0, A 25, by rw [upN_self], rfl, fun j j0 j1 => by have hz : ((sW (tnd (fS X) i) (0 : Int).toNat).length : Int) = 0 := rfl; omega⟩⟩ (FU_lt (by omega))
    rintro j s ⟨q, M, rfl, q0, q1, rfl, hs⟩
    dsimp only
    unfold f_X8_showsTwig_L7
    obtain ⟨v, R, hat⟩ := hs.At hl
    by_cases d1 : tqn (fS X) i ≤ q
    · simp (disch := omega) only [a8_g7 hat, a8_l7 hat, r7, I_add, I_sub, I_mul, I_neg, I_lt, I_le, I_eq, if_pos d1, Option.bind_some]
      rw [show q = tqn (fS X) i by omega] at hs
      exact Ok.pure (Or.inr ⟨_, rfl, hs⟩)
    · have hge := hwl.ge q0 (show q < tqn (fS X) i by omega)
      obtain ⟨t0, t1, t2, t3, t4, t5, t6, t7⟩ := hww.2.2 q q0 (by omega)
      have hstep := sW_step (nd := tnd (fS X) i) q q0 (show q < tqn (fS X) i by omega)
      have hgl := gpW_len hwl q0 (show q ≤ tqn (fS X) i by omega)
      have hgl2 := hgl
      rw [List.length_append] at hgl2
      simp (disch := omega) only [a8_g7 hat, a8_l7 hat, r7, I_add, I_sub, I_mul, I_neg, I_lt, I_le, I_eq, if_neg d1, L0, L1, L2, L3, L4, L5, L6, L7, L8, L9, L10, L11, L12, L13, L14, L15, L16, L17, L18, L19, L20, L21, L22, L23, L24, L25, L26, L27, L31, L32, L33, L36, L40, L41, L42, L47, L48, L57, L58, L59, L60, L61, L62, L65, L97, L101, L102, L103, L120, L126, L127, L144, L245, L1023, L1715, hs.cO hl, Option.bind_some]
      refine Ok.bind (P := fun u => u = I (if q = 0 then 0 else lw (tnd (fS X) i) (q - 1) - lw (tnd (fS X) i) q)) ?_ ?_
      · by_cases z : q = 0
        · rw [if_pos z]
          simp (disch := omega) only [if_pos (show q ≤ 0 by omega)]
          exact Ok.pure rfl
        · rw [if_neg z]
          simp (disch := omega) only [if_neg (show ¬ q ≤ 0 by omega), N_depth hat (hMW R), I_add, I_sub, I_mul, I_neg, I_lt, I_le, I_eq, Option.bind_some]
          exact Ok.pure rfl
      rintro _ rfl
      refine Ok.bind (P := SH m a F A (sW (tnd (fS X) i) q.toNat ++ List.replicate ((if q = 0 then 0 else lw (tnd (fS X) i) (q - 1) - lw (tnd (fS X) i) q) - 0).toNat 41)) (M_reps hl (fun s => rfl) hs (Or.inl rfl) ?_ (by omega)) ?_
      · by_cases z : q = 0
        · rw [if_pos z]; omega
        · rw [if_neg z]; have := hwl.ge (show 0 ≤ q - 1 by omega) (by omega); omega
      intro M1 h1
      obtain ⟨v1, R1, hat1⟩ := h1.At hl
      refine Ok.bind (P := SH m a F A (sW (tnd (fS X) i) q.toNat ++ gpW (tqn (fS X) i) (tnd (fS X) i) q)) ?_ ?_
      · unfold gpW
        by_cases z : q = 0
        · rw [if_pos z] at h1 ⊢
          simp (disch := omega) only [if_pos (show q ≤ 0 by omega)]
          exact Ok.pure h1
        · rw [if_neg z] at h1
          rw [if_neg z, if_pos (show q < tqn (fS X) i by omega), prn_two]
          have hup := lw_up hww (show 0 < q by omega) (show q < tqn (fS X) i by omega)
          have hge' := hwl.ge (show 0 ≤ q - 1 by omega) (show q - 1 < tqn (fS X) i by omega)
          rw [Int.sub_zero] at h1
          by_cases y : lw (tnd (fS X) i) (q - 1) < lw (tnd (fS X) i) q
          · have hy := hup.mpr y
            rw [if_pos y, ← List.append_assoc]
            simp (disch := omega) only [if_neg (show ¬ q ≤ 0 by omega), N_of hat1 (hMW R1), I_add, I_sub, I_mul, I_neg, I_lt, I_le, I_eq, if_pos hy, h1.cO hl, Option.bind_some]
            exact Ok.bind (M_shows hl h1 (by rw [List.length_append, List.length_replicate]; omega)) (fun m' h' => Ok.pure h')
          · have hy : ¬ tnd (fS X) i q 5 = q - 1 := fun t => y (hup.mp t)
            rw [if_neg y, List.append_nil]
            simp (disch := omega) only [if_neg (show ¬ q ≤ 0 by omega), N_of hat1 (hMW R1), I_add, I_sub, I_mul, I_neg, I_lt, I_le, I_eq, if_neg hy, h1.cO hl, Option.bind_some]
            exact Ok.pure h1
      intro M2 h2
      obtain ⟨v2, R2, hat2⟩ := h2.At hl
      obtain ⟨ls, hls⟩ : ∃ ls, ls = sW (tnd (fS X) i) q.toNat ++ gpW (tqn (fS X) i) (tnd (fS X) i) q := ⟨_, rfl⟩
      rw [← hls] at h2 hgl
      simp (disch := omega) only [h2.cO hl, N_ord hat2 (hMW R2), Option.bind_some]
      -- the ;
      refine Ok.bind (P := SH m a F A (ls ++ (if tnd (fS X) i q 4 = 0 then [] else [59]))) ?_ ?_
      · by_cases z : tnd (fS X) i q 4 = 0
        · simp (disch := omega) only [I_add, I_sub, I_mul, I_neg, I_lt, I_le, I_eq, if_pos z, List.append_nil]
          exact Ok.pure h2
        · simp (disch := omega) only [I_add, I_sub, I_mul, I_neg, I_lt, I_le, I_eq, if_neg z]
          exact Ok.bind (M_shows hl h2 (by omega)) (fun m' h' => Ok.pure h')
      intro M3 h3
      obtain ⟨v3, R3, hat3⟩ := h3.At hl
      have l2 : (ls ++ (if tnd (fS X) i q 4 = 0 then ([] : List Int) else [59])).length ≤ ls.length + 1 := by
        rw [List.length_append]; split <;> simp
      obtain ⟨ls2, hls2⟩ : ∃ ls2, ls2 = ls ++ (if tnd (fS X) i q 4 = 0 then ([] : List Int) else [59]) := ⟨_, rfl⟩
      rw [← hls2] at h3 l2
      -- the edge
      refine Ok.bind (P := SH m a F A (ls2 ++ (if tnd (fS X) i q 3 = 0 then [] else [if tnd (fS X) i q 3 = 1 then 47 else 126]))) ?_ ?_
      · by_cases z : q = 0
        · have z3 : tnd (fS X) i q 3 = 0 := (t6 z).1
          simp (disch := omega) only [if_pos (show q ≤ 0 by omega), if_pos z3, List.append_nil]
          exact Ok.pure h3
        · have z3 : ¬ tnd (fS X) i q 3 = 0 := by have := (t7 (by omega)).1; omega
          by_cases y : tnd (fS X) i q 3 = 1
          · simp (disch := omega) only [if_neg (show ¬ q ≤ 0 by omega), if_neg z3, h3.cO hl, N_joint hat3 (hMW R3), I_add, I_sub, I_mul, I_neg, I_lt, I_le, I_eq, if_pos y, Option.bind_some]
            exact Ok.bind (M_shows hl h3 (by omega)) (fun m' h' => Ok.pure h')
          · simp (disch := omega) only [if_neg (show ¬ q ≤ 0 by omega), if_neg z3, h3.cO hl, N_joint hat3 (hMW R3), I_add, I_sub, I_mul, I_neg, I_lt, I_le, I_eq, if_neg y, Option.bind_some]
            exact Ok.bind (M_shows hl h3 (by omega)) (fun m' h' => Ok.pure h')
      intro M4 h4
      obtain ⟨v4, R4, hat4⟩ := h4.At hl
      have l3 : (ls2 ++ (if tnd (fS X) i q 3 = 0 then ([] : List Int) else [if tnd (fS X) i q 3 = 1 then 47 else 126])).length ≤ ls.length + 2 := by
        rw [List.length_append]; split <;> simp <;> omega
      obtain ⟨ls3, hls3⟩ : ∃ ls3, ls3 = ls2 ++ (if tnd (fS X) i q 3 = 0 then ([] : List Int) else [if tnd (fS X) i q 3 = 1 then 47 else 126]) := ⟨_, rfl⟩
      rw [← hls3] at h4 l3
      simp (disch := omega) only [h4.cO hl, N_tag hat4 (hMW R4), Option.bind_some]
      -- the name
      refine Ok.bind (P := fun v => v = I (if tnd (fS X) i q 0 = 6 then 42 else 97 + tnd (fS X) i q 0)) ?_ ?_
      · by_cases z : tnd (fS X) i q 0 = 6
        · simp (disch := omega) only [I_add, I_sub, I_mul, I_neg, I_lt, I_le, I_eq, if_pos z]
          exact Ok.pure rfl
        · simp (disch := omega) only [I_add, I_sub, I_mul, I_neg, I_lt, I_le, I_eq, if_neg z]
          exact Ok.pure rfl
      rintro _ rfl
      refine Ok.bind (M_shows hl h4 (by omega)) ?_
      intro M5 h5
      obtain ⟨v5, R5, hat5⟩ := h5.At hl
      have l4 : (ls3 ++ [if tnd (fS X) i q 0 = 6 then 42 else 97 + tnd (fS X) i q 0]).length ≤ ls.length + 3 := by
        rw [List.length_append]; show _ + 1 ≤ _; omega
      obtain ⟨ls4, hls4⟩ : ∃ ls4, ls4 = ls3 ++ [if tnd (fS X) i q 0 = 6 then 42 else 97 + tnd (fS X) i q 0] := ⟨_, rfl⟩
      rw [← hls4] at h5 l4
      simp (disch := omega) only [a8_g8 hat5, N_cell, N_its hat5 (hMW R5), Option.bind_some]
      have hst : sW (tnd (fS X) i) (q + 1).toNat = ls4 ++ (if tnd (fS X) i q 1 = 0 then [] else [sgF (tnd (fS X) i q 1), 48 + tnd (fS X) i q 2]) := by
        rw [hstep, hls4, hls3, hls2, hls]
        unfold nmW
        simp only [List.append_assoc]
      by_cases z : tnd (fS X) i q 1 = 0
      · rw [if_pos z, List.append_nil] at hst
        simp (disch := omega) only [I_add, I_sub, I_mul, I_neg, I_lt, I_le, I_eq, if_pos (show tnd (fS X) i q 1 ≤ 0 by omega)]
        exact Ok.pure (Or.inl ⟨_, (tqn (fS X) i - (q + 1)).toNat, rfl, ⟨q + 1, M5, rfl, by omega, by omega, rfl, by rw [hst]; exact h5⟩, by omega⟩)
      · rw [if_neg z] at hst
        simp (disch := omega) only [I_add, I_sub, I_mul, I_neg, I_lt, I_le, I_eq, if_neg (show ¬ tnd (fS X) i q 1 ≤ 0 by omega), h5.cO hl]
        refine Ok.bind (P := fun v => v = I (sgF (tnd (fS X) i q 1))) ?_ ?_
        · rw [← sg_tst (show 0 < tnd (fS X) i q 1 ∧ tnd (fS X) i q 1 ≤ 3 by omega)]
          by_cases y1 : tnd (fS X) i q 1 = 1
          · simp (disch := omega) only [if_pos y1]
            exact Ok.pure rfl
          · by_cases y2 : tnd (fS X) i q 1 = 2
            · simp (disch := omega) only [if_neg y1, if_pos y2]
              exact Ok.pure rfl
            · simp (disch := omega) only [if_neg y1, if_neg y2]
              exact Ok.pure rfl
        rintro _ rfl
        refine Ok.bind (M_shows hl h5 (by omega)) ?_
        intro M6 h6'
        obtain ⟨v6, R6, hat6⟩ := h6'.At hl
        simp (disch := omega) only [a8_g8 hat6, N_cell, N_its hat6 (hMW R6), I_add, I_sub, I_mul, I_neg, I_lt, I_le, I_eq, h6'.cO hl, Option.bind_some]
        refine Ok.bind (M_shows hl h6' (by rw [List.length_append]; show _ + 1 < _; omega)) ?_
        intro M7 h7
        refine Ok.pure (Or.inl ⟨_, (tqn (fS X) i - (q + 1)).toNat, rfl, ⟨q + 1, M7, rfl, by omega, by omega, rfl, ?_⟩, by omega⟩)
        rw [hst]
        rw [List.append_assoc] at h7
        exact h7
  · intro M hs
    obtain ⟨v, R, hat⟩ := hs.At hl
    have hge := hwl.ge (show 0 ≤ tqn (fS X) i - 1 by omega) (by omega)
    have hlen := sW_len hwl (tqn (fS X) i).toNat (by omega) (by omega)
    rw [show (((tqn (fS X) i).toNat : Nat) : Int) = tqn (fS X) i by omega] at hlen
    simp (disch := omega) only [a8_g7 hat, a8_l7 hat, r7, I_add, I_sub, I_mul, I_neg, I_lt, I_le, I_eq, hs.cO hl, N_depth hat (hMW R), Option.bind_some]
    refine Ok.bind (M_reps (b := 1) hl (fun s => rfl) hs (Or.inr rfl) (by omega) (by omega)) ?_
    intro M1 h1
    refine Ok.pure ?_
    unfold shW prn
    rw [if_neg (by omega)]
    exact h1
theorem M_shown (hl : a + 25 < m.length) (h : MB F A X) {i k : Int} (h1 : -2147483648 ≤ i) (h2 : i < 2147483648) (h3 : -2147483648 ≤ k) (h4 : k < 2147483648) : Ok (f_X8_shown (ov m a (o8 a F A)) a (I i) (I k)) (fun t => t.1 = I (rShown X i k).1 ∧ MP m a t.2 (rShown X i k).2) := by
  have hin : f_X8_in (ov m a (o8 a F A)) (I i) (I (-1)) (I 3) = some (I (ind (-1 ≤ i ∧ i ≤ 3))) := D_in h1 h2 (by omega) (by omega) (by omega) (by omega)
  -- the answer, once all is shown
  have ans : ∀ l M, SH m a F A l M → l.length < 256 → 0 ≤ k → Ok ((gI M a 8 33).bind fun v11 => (if v11 ≤ I k then some (I (-1), M) else (gR M a 8 32).bind fun v14 => (lI M v14 (I k)).bind fun v16 => some (v16, M))) (fun t => t.1 = I (lk l k) ∧ MP m a t.2 X) := by
    rintro l M ⟨v, R, rfl, hv, hR⟩ hn k0
    by_cases z : v ≤ k
    · simp (disch := omega) only [o8_g33, upN_at, I_add, I_sub, I_mul, I_neg, I_lt, I_le, I_eq, if_pos z, Option.bind_some]
      exact Ok.pure ⟨by rw [lk_out (by omega)], _, _, rfl, h.congr (fun i hi => upN_ne (by omega)) (fun i hi => upN_ne (by omega))⟩
    · have := hR k k0 (by omega)
      simp (disch := omega) only [o8_g33, upN_at, I_add, I_sub, I_mul, I_neg, I_lt, I_le, I_eq, if_neg z, o8_g32, o8_l25, this, Option.bind_some]
      exact Ok.pure ⟨rfl, _, _, rfl, h.congr (fun i hi => upN_ne (by omega)) (fun i hi => upN_ne (by omega))⟩
  unfold f_X8_shown f_X8_shown_J37
  by_cases c1 : i = -1
  · by_cases c2 : 0 ≤ k
    · have hr : rShown X i k = (lk (shT (tn (fS X)) (ttg (fS X)) (tvl (fS X)) (tlv (fS X))) k, X) := by unfold rShown; rw [if_pos c1, if_pos c2]
      rw [hr]
      simp (disch := omega) only [L0, L1, L2, L3, L4, L5, L6, L7, L8, L9, L10, L11, L12, L13, L14, L15, L16, L17, L18, L19, L20, L21, L22, L23, L24, L25, L26, L27, L31, L32, L33, L36, L40, L41, L42, L47, L48, L57, L58, L59, L60, L61, L62, L65, L97, L101, L102, L103, L120, L126, L127, L144, L245, L1023, L1715, I_add, I_sub, I_mul, I_neg, I_lt, I_le, I_eq, Option.bind_some, if_pos, if_neg, if_true, if_false, ite_true, ite_false, hin, ind_t (show -1 ≤ i ∧ i ≤ 3 by omega), o8_cO]
      refine Ok.bind (P := SH m a F A (shT (tn (fS X)) (ttg (fS X)) (tvl (fS X)) (tlv (fS X)))) (Ok.bind (M_showsTree hl h) (fun _ h => Ok.pure h)) ?_
      intro M hs
      have hlen := gpT_len (tg := ttg (fS X)) (vl := tvl (fS X)) h.1.2.1 (show 0 ≤ tn (fS X) by have := h.1.2.1.1; omega) (Int.le_refl _)
      have hn1 := h.1.2.1.1
      have hn2 := h.1.2.1.2.1
      unfold gpT at hlen
      rw [if_neg (by omega), if_neg (by omega)] at hlen
      exact ans _ M hs (by unfold shT; omega) c2
    · have hr : rShown X i k = (-2, incB X (-2)) := by unfold rShown; rw [if_pos c1, if_neg c2]
      rw [hr]
      simp (disch := omega) only [L0, L1, L2, L3, L4, L5, L6, L7, L8, L9, L10, L11, L12, L13, L14, L15, L16, L17, L18, L19, L20, L21, L22, L23, L24, L25, L26, L27, L31, L32, L33, L36, L40, L41, L42, L47, L48, L57, L58, L59, L60, L61, L62, L65, L97, L101, L102, L103, L120, L126, L127, L144, L245, L1023, L1715, I_add, I_sub, I_mul, I_neg, I_lt, I_le, I_eq, Option.bind_some, if_pos, if_neg, if_true, if_false, ite_true, ite_false, hin, ind_t (show -1 ≤ i ∧ i ≤ 3 by omega), o8_cO]
      exact M_badR hl h
  · by_cases c3 : 0 ≤ i ∧ i < 4
    · by_cases c2 : 0 ≤ k
      · obtain ⟨ex7, hww, -⟩ := h.2.1 i c3.1 c3.2
        have h60 := hww.1
        have h6 := hww.2.1
        by_cases c4 : tqn (fS X) i = 0
        · have hr : rShown X i k = (-3, incB X (-3)) := by unfold rShown; rw [if_neg c1, if_pos ⟨c3, c2⟩, if_pos c4]
          rw [hr]
          simp (disch := omega) only [L0, L1, L2, L3, L4, L5, L6, L7, L8, L9, L10, L11, L12, L13, L14, L15, L16, L17, L18, L19, L20, L21, L22, L23, L24, L25, L26, L27, L31, L32, L33, L36, L40, L41, L42, L47, L48, L57, L58, L59, L60, L61, L62, L65, L97, L101, L102, L103, L120, L126, L127, L144, L245, L1023, L1715, I_add, I_sub, I_mul, I_neg, I_lt, I_le, I_eq, Option.bind_some, if_pos, if_neg, if_true, if_false, ite_true, ite_false, hin, ind_t (show -1 ≤ i ∧ i ≤ 3 by omega), o8_cO, o8_g7, o8_l7, ex7]
          exact M_noR hl h
        · have hr : rShown X i k = (lk (shW (tqn (fS X) i) (tnd (fS X) i)) k, X) := by unfold rShown; rw [if_neg c1, if_pos ⟨c3, c2⟩, if_neg c4]
          rw [hr]
          simp (disch := omega) only [L0, L1, L2, L3, L4, L5, L6, L7, L8, L9, L10, L11, L12, L13, L14, L15, L16, L17, L18, L19, L20, L21, L22, L23, L24, L25, L26, L27, L31, L32, L33, L36, L40, L41, L42, L47, L48, L57, L58, L59, L60, L61, L62, L65, L97, L101, L102, L103, L120, L126, L127, L144, L245, L1023, L1715, I_add, I_sub, I_mul, I_neg, I_lt, I_le, I_eq, Option.bind_some, if_pos, if_neg, if_true, if_false, ite_true, ite_false, hin, ind_t (show -1 ≤ i ∧ i ≤ 3 by omega), o8_cO, o8_g7, o8_l7, ex7]
          refine Ok.bind (P := SH m a F A (shW (tqn (fS X) i) (tnd (fS X) i))) (Ok.bind (M_showsTwig hl h c3.1 c3.2 (by omega)) (fun _ h => Ok.pure h)) ?_
          intro M hs
          have hlen := gpW_len (lw_wl hww (show 1 ≤ tqn (fS X) i by omega)) h60 (Int.le_refl _)
          unfold gpW at hlen
          rw [if_neg (by omega), if_neg (by omega)] at hlen
          exact ans _ M hs (by unfold shW; omega) c2
      · have hr : rShown X i k = (-2, incB X (-2)) := by unfold rShown; rw [if_neg c1, if_neg (fun t => c2 t.2)]
        rw [hr]
        simp (disch := omega) only [L0, L1, L2, L3, L4, L5, L6, L7, L8, L9, L10, L11, L12, L13, L14, L15, L16, L17, L18, L19, L20, L21, L22, L23, L24, L25, L26, L27, L31, L32, L33, L36, L40, L41, L42, L47, L48, L57, L58, L59, L60, L61, L62, L65, L97, L101, L102, L103, L120, L126, L127, L144, L245, L1023, L1715, I_add, I_sub, I_mul, I_neg, I_lt, I_le, I_eq, Option.bind_some, if_pos, if_neg, if_true, if_false, ite_true, ite_false, hin, ind_t (show -1 ≤ i ∧ i ≤ 3 by omega), o8_cO]
        exact M_badR hl h
    · have hr : rShown X i k = (-2, incB X (-2)) := by unfold rShown; rw [if_neg c1, if_neg (fun t => c3 t.1)]
      rw [hr]
      simp (disch := omega) only [L0, L1, L2, L3, L4, L5, L6, L7, L8, L9, L10, L11, L12, L13, L14, L15, L16, L17, L18, L19, L20, L21, L22, L23, L24, L25, L26, L27, L31, L32, L33, L36, L40, L41, L42, L47, L48, L57, L58, L59, L60, L61, L62, L65, L97, L101, L102, L103, L120, L126, L127, L144, L245, L1023, L1715, I_add, I_sub, I_mul, I_neg, I_lt, I_le, I_eq, Option.bind_some, if_pos, if_neg, if_true, if_false, ite_true, ite_false, hin, ind_f (show ¬ (-1 ≤ i ∧ i ≤ 3) by omega), o8_cO]
      exact M_badR hl h
end MS2
