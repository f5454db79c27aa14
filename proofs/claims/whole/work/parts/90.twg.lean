/-! ===== twigs: how a text is read ===== -/
def nrow (t e o p : Int) : Int → Int := fun w => if w = 0 then t else if w = 3 then e else if w = 4 then o else if w = 5 then p else 0
abbrev wh (st : Int) : Prop := st = 3 ∨ st = 4 ∨ st = 5
abbrev nmC (c : Int) : Prop := (97 ≤ c ∧ c < 103) ∨ c = 42
abbrev sgC (c : Int) : Prop := c = 61 ∨ c = 60 ∨ c = 62
abbrev tgC (c : Int) : Int := if c = 42 then 6 else c - 97
abbrev ttC (c : Int) : Int := if c = 61 then 1 else if c = 60 then 2 else 3
section TWG
variable (L : Int) (T : Int → Int)
def tRun : Nat → Int → Int → Int → Int → Int → Int → (Int → Int → Int) → (Int × Int) ⊕ (Int × (Int → Int → Int))
  | 0, _, st, op, _, _, n, nd => if wh st ∧ op = -1 then .inr (n, nd) else .inl (L, 1)
  | f + 1, k, st, op, ed, od, n, nd => if st = 0 ∧ nmC (T k) then (if 6 ≤ n then .inl (k, 2) else tRun f (k + 1) 3 op ed 0 (n + 1) (upZ nd n (nrow (tgC (T k)) ed od op))) else if st = 3 ∧ sgC (T k) then tRun f (k + 1) 2 op ed od n (upZ nd (n - 1) (upZ (nd (n - 1)) 1 (ttC (T k)))) else if st = 2 ∧ (48 ≤ T k ∧ T k < 58) then tRun f (k + 1) 4 op ed od n (upZ nd (n - 1) (upZ (nd (n - 1)) 2 (T k - 48))) else if T k = 40 ∧ (st = 3 ∨ st = 4) then tRun f (k + 1) 1 (n - 1) ed od n nd else if (T k = 47 ∨ T k = 126) ∧ op ≠ -1 ∧ (st = 1 ∨ wh st) then tRun f (k + 1) 0 op (if T k = 47 then 1 else 2) od n nd else if T k = 59 ∧ op ≠ -1 ∧ wh st then tRun f (k + 1) 1 op ed 1 n nd else if T k = 41 ∧ op ≠ -1 ∧ wh st then tRun f (k + 1) 5 (nd op 5) ed od n nd else .inl (k, 1)
def tAt (k st op ed od n : Int) (nd : Int → Int → Int) : (Int × Int) ⊕ (Int × (Int → Int → Int)) := tRun L T (L - k).toNat k st op ed od n nd
end TWG
section TWG2
variable {L : Int} {T : Int → Int} {k st op ed od n : Int} {nd : Int → Int → Int}
theorem tAt_s (h : k < L) : tAt L T k st op ed od n nd = if st = 0 ∧ nmC (T k) then (if 6 ≤ n then .inl (k, 2) else tAt L T (k + 1) 3 op ed 0 (n + 1) (upZ nd n (nrow (tgC (T k)) ed od op))) else if st = 3 ∧ sgC (T k) then tAt L T (k + 1) 2 op ed od n (upZ nd (n - 1) (upZ (nd (n - 1)) 1 (ttC (T k)))) else if st = 2 ∧ (48 ≤ T k ∧ T k < 58) then tAt L T (k + 1) 4 op ed od n (upZ nd (n - 1) (upZ (nd (n - 1)) 2 (T k - 48))) else if T k = 40 ∧ (st = 3 ∨ st = 4) then tAt L T (k + 1) 1 (n - 1) ed od n nd else if (T k = 47 ∨ T k = 126) ∧ op ≠ -1 ∧ (st = 1 ∨ wh st) then tAt L T (k + 1) 0 op (if T k = 47 then 1 else 2) od n nd else if T k = 59 ∧ op ≠ -1 ∧ wh st then tAt L T (k + 1) 1 op ed 1 n nd else if T k = 41 ∧ op ≠ -1 ∧ wh st then tAt L T (k + 1) 5 (nd op 5) ed od n nd else .inl (k, 1) := by
  unfold tAt
  obtain ⟨f, hf⟩ : ∃ f : Nat, (L - k).toNat = f + 1 := ⟨(L - k).toNat - 1, by omega⟩
  rw [hf, show (L - (k + 1)).toNat = f by omega]
  rfl
theorem tAt_e (h : L ≤ k) : tAt L T k st op ed od n nd = if wh st ∧ op = -1 then .inr (n, nd) else .inl (L, 1) := by
  unfold tAt
  rw [show (L - k).toNat = 0 by omega]
  rfl
theorem t_many (h : k < L) (c : nmC (T k)) (s : st = 0) (hn : 6 ≤ n) : tAt L T k st op ed od n nd = .inl (k, 2) := by rw [tAt_s h, if_pos ⟨s, c⟩, if_pos hn]
theorem t_let (h : k < L) (c : nmC (T k)) (s : st = 0) (hn : n < 6) : tAt L T k st op ed od n nd = tAt L T (k + 1) 3 op ed 0 (n + 1) (upZ nd n (nrow (tgC (T k)) ed od op)) := by rw [tAt_s h, if_pos ⟨s, c⟩, if_neg (by omega)]
theorem t_sign (h : k < L) (c : sgC (T k)) (s : st = 3) : tAt L T k st op ed od n nd = tAt L T (k + 1) 2 op ed od n (upZ nd (n - 1) (upZ (nd (n - 1)) 1 (ttC (T k)))) := by rw [tAt_s h, if_neg (by omega), if_pos ⟨s, c⟩]
theorem t_dig (h : k < L) (c : 48 ≤ T k ∧ T k < 58) (s : st = 2) : tAt L T k st op ed od n nd = tAt L T (k + 1) 4 op ed od n (upZ nd (n - 1) (upZ (nd (n - 1)) 2 (T k - 48))) := by rw [tAt_s h, if_neg (by omega), if_neg (by omega), if_pos ⟨s, c⟩]
theorem t_par (h : k < L) (c : T k = 40) (s : st = 3 ∨ st = 4) : tAt L T k st op ed od n nd = tAt L T (k + 1) 1 (n - 1) ed od n nd := by rw [tAt_s h, if_neg (by omega), if_neg (by omega), if_neg (by omega), if_pos ⟨c, s⟩]
theorem t_edge (h : k < L) (c : T k = 47 ∨ T k = 126) (o : op ≠ -1) (s : st = 1 ∨ wh st) : tAt L T k st op ed od n nd = tAt L T (k + 1) 0 op (if T k = 47 then 1 else 2) od n nd := by rw [tAt_s h, if_neg (by omega), if_neg (by omega), if_neg (by omega), if_neg (by omega), if_pos ⟨c, o, s⟩]
theorem t_semi (h : k < L) (c : T k = 59) (o : op ≠ -1) (s : wh st) : tAt L T k st op ed od n nd = tAt L T (k + 1) 1 op ed 1 n nd := by rw [tAt_s h, if_neg (by omega), if_neg (by omega), if_neg (by omega), if_neg (by omega), if_neg (by omega), if_pos ⟨c, o, s⟩]
theorem t_close (h : k < L) (c : T k = 41) (o : op ≠ -1) (s : wh st) : tAt L T k st op ed od n nd = tAt L T (k + 1) 5 (nd op 5) ed od n nd := by rw [tAt_s h, if_neg (by omega), if_neg (by omega), if_neg (by omega), if_neg (by omega), if_neg (by omega), if_neg (by omega), if_pos ⟨c, o, s⟩]
theorem t_bad (h : k < L) (c1 : ¬ (st = 0 ∧ nmC (T k))) (c2 : ¬ (st = 3 ∧ sgC (T k))) (c3 : ¬ (st = 2 ∧ (48 ≤ T k ∧ T k < 58))) (c4 : ¬ (T k = 40 ∧ (st = 3 ∨ st = 4))) (c5 : ¬ ((T k = 47 ∨ T k = 126) ∧ op ≠ -1 ∧ (st = 1 ∨ wh st))) (c6 : ¬ (T k = 59 ∧ op ≠ -1 ∧ wh st)) (c7 : ¬ (T k = 41 ∧ op ≠ -1 ∧ wh st)) : tAt L T k st op ed od n nd = .inl (k, 1) := by rw [tAt_s h, if_neg c1, if_neg c2, if_neg c3, if_neg c4, if_neg c5, if_neg c6, if_neg c7]
/-- what has been read is the front of a twig -/
def TI (st op ed od n : Int) (nd : Int → Int → Int) : Prop := (n = 0 ∧ st = 0 ∧ op = -1 ∧ ed = 0 ∧ od = 0) ∨ (1 ≤ n ∧ WW n nd ∧ (-1 ≤ op ∧ op < n) ∧ (∀ j, op < j → j < n → 0 ≤ op → op ≤ nd j 5) ∧ (od = 0 ∨ od = 1) ∧ (0 ≤ ed ∧ ed ≤ 2) ∧ (0 ≤ st ∧ st ≤ 5) ∧ (st = 0 → 1 ≤ ed ∧ 0 ≤ op) ∧ (st = 1 → 0 ≤ op) ∧ (od = 1 → op < n - 1) ∧ (2 ≤ st → op < n - 1 ∨ op = -1) ∧ (2 ≤ st → od = 0))
theorem TI.bd (h : TI st op ed od n nd) : 0 ≤ n ∧ n ≤ 6 ∧ -1 ≤ op ∧ op < 6 ∧ 0 ≤ ed ∧ ed ≤ 2 ∧ 0 ≤ od ∧ od ≤ 1 ∧ 0 ≤ st ∧ st ≤ 5 ∧ (st ≠ 0 → 1 ≤ n) ∧ (op ≠ -1 → op < n) := by
  rcases h with ⟨h1, h2, h3, h4, h5⟩ | ⟨h1, h2, h3, h4, h5, h6, h7, h8, h9, h10, h11, h12⟩
  · omega
  · have := h2.2.1
    omega
theorem nr0 {t e o p : Int} : nrow t e o p 0 = t := rfl
theorem nr1 {t e o p : Int} : nrow t e o p 1 = 0 := rfl
theorem nr2 {t e o p : Int} : nrow t e o p 2 = 0 := rfl
theorem nr3 {t e o p : Int} : nrow t e o p 3 = e := rfl
theorem nr4 {t e o p : Int} : nrow t e o p 4 = o := rfl
theorem nr5 {t e o p : Int} : nrow t e o p 5 = p := rfl
theorem TI.ltr (h : TI st op ed od n nd) {c : Int} (hc : nmC c) (s : st = 0) (hn : n < 6) : TI 3 op ed 0 (n + 1) (upZ nd n (nrow (tgC c) ed od op)) := by
  have htg : 0 ≤ tgC c ∧ tgC c ≤ 6 := by
    unfold tgC
    by_cases z : c = 42
    · rw [if_pos z]; omega
    · rw [if_neg z]; unfold nmC at hc; omega
  refine Or.inr ?_
  rcases h with ⟨h1, h2, h3, h4, h5⟩ | ⟨h1, h2, h3, h4, h5, h6, h7, h8, h9, h10, h11, h12⟩
  · subst h1
    refine ⟨by omega, ⟨by omega, by omega, fun q q0 q1 => ?_⟩, by omega, fun j j0 j1 j2 => by omega, by omega, by omega, by omega, fun z => by omega, fun z => by omega, fun z => by omega, fun _ => by omega, fun _ => rfl⟩
    rw [show q = 0 by omega, upZ_at, nr0, nr1, nr2, nr3, nr4, nr5]
    exact ⟨by omega, by omega, by omega, by omega, by omega, by omega, fun _ => by omega, fun z => by omega⟩
  · have g8 := h8 s
    refine ⟨by omega, ⟨by omega, by omega, fun q q0 q1 => ?_⟩, by omega, fun j j0 j1 j2 => ?_, by omega, by omega, by omega, fun z => by omega, fun z => by omega, fun z => by omega, fun _ => by omega, fun _ => rfl⟩
    · by_cases z : q = n
      · subst z
        rw [upZ_at, nr0, nr1, nr2, nr3, nr4, nr5]
        refine ⟨by omega, by omega, by omega, by omega, by omega, by omega, fun z => by omega, fun _ => ⟨by omega, by omega, fun j j0 j1 => ?_, fun z => by omega⟩⟩
        rw [upZ_ne (by omega)]
        exact h4 j j0 j1 (by omega)
      · rw [upZ_ne z]
        obtain ⟨a1, a2, a3, a4, a5, a6, a7, a8⟩ := h2.2.2 q q0 (by omega)
        refine ⟨a1, a2, a3, a4, a5, a6, a7, fun y => ?_⟩
        obtain ⟨b1, b2, b3, b4⟩ := a8 y
        refine ⟨b1, b2, fun j j0 j1 => ?_, b4⟩
        rw [upZ_ne (by omega)]
        exact b3 j j0 j1
    · by_cases z : j = n
      · rw [z, upZ_at, nr5]; omega
      · rw [upZ_ne z]; exact h4 j j0 (by omega) j2
/-- a change of a test alone -/
theorem WW.tst (h : WW n nd) {q w v : Int} (hw : (w = 1 ∧ 0 ≤ v ∧ v ≤ 3) ∨ (w = 2 ∧ 0 ≤ v ∧ v ≤ 9)) : WW n (upZ nd q (upZ (nd q) w v)) := by
  refine ⟨h.1, h.2.1, fun r r0 r1 => ?_⟩
  have hsame : ∀ r w', w' ≠ w → upZ nd q (upZ (nd q) w v) r w' = nd r w' := by
    intro r w' hw'
    by_cases z : r = q
    · rw [z, upZ_at, upZ_ne hw']
    · rw [upZ_ne z]
  obtain ⟨a1, a2, a3, a4, a5, a6, a7, a8⟩ := h.2.2 r r0 r1
  have hb : (0 ≤ upZ nd q (upZ (nd q) w v) r 1 ∧ upZ nd q (upZ (nd q) w v) r 1 ≤ 3) ∧ (0 ≤ upZ nd q (upZ (nd q) w v) r 2 ∧ upZ nd q (upZ (nd q) w v) r 2 ≤ 9) := by
    by_cases z : r = q
    · rw [z] at a2 a3 ⊢
      rw [upZ_at]
      rcases hw with ⟨rfl, y1, y2⟩ | ⟨rfl, y1, y2⟩
      · rw [upZ_at, upZ_ne (by omega)]; exact ⟨⟨y1, y2⟩, a3⟩
      · rw [upZ_at, upZ_ne (by omega)]; exact ⟨a2, ⟨y1, y2⟩⟩
    · rw [upZ_ne z]; exact ⟨a2, a3⟩
  rw [hsame r 0 (by omega), hsame r 3 (by omega), hsame r 4 (by omega), hsame r 5 (by omega)]
  refine ⟨a1, hb.1, hb.2, a4, a5, a6, a7, fun y => ?_⟩
  obtain ⟨b1, b2, b3, b4⟩ := a8 y
  refine ⟨b1, b2, fun j j0 j1 => ?_, b4⟩
  rw [hsame j 5 (by omega)]
  exact b3 j j0 j1
theorem tst5 {q w v r : Int} (hw : w = 1 ∨ w = 2) : upZ nd q (upZ (nd q) w v) r 5 = nd r 5 := by
  by_cases z : r = q
  · rw [z, upZ_at, upZ_ne (by omega)]
  · rw [upZ_ne z]
theorem TI.sign (h : TI st op ed od n nd) {c : Int} (hc : sgC c) (s : st = 3) : TI 2 op ed od n (upZ nd (n - 1) (upZ (nd (n - 1)) 1 (ttC c))) := by
  rcases h with ⟨h1, h2, h3, h4, h5⟩ | ⟨h1, h2, h3, h4, h5, h6, h7, h8, h9, h10, h11, h12⟩
  · omega
  · refine Or.inr ⟨h1, h2.tst (Or.inl ⟨rfl, ?_⟩), h3, fun j j0 j1 j2 => by rw [tst5 (Or.inl rfl)]; exact h4 j j0 j1 j2, h5, h6, by omega, fun z => by omega, fun z => by omega, h10, fun _ => h11 (by omega), fun _ => h12 (by omega)⟩
    unfold ttC
    split
    · omega
    · split <;> omega
theorem TI.dig (h : TI st op ed od n nd) {c : Int} (hc : 48 ≤ c ∧ c < 58) (s : st = 2) : TI 4 op ed od n (upZ nd (n - 1) (upZ (nd (n - 1)) 2 (c - 48))) := by
  rcases h with ⟨h1, h2, h3, h4, h5⟩ | ⟨h1, h2, h3, h4, h5, h6, h7, h8, h9, h10, h11, h12⟩
  · omega
  · exact Or.inr ⟨h1, h2.tst (Or.inr ⟨rfl, by omega⟩), h3, fun j j0 j1 j2 => by rw [tst5 (Or.inr rfl)]; exact h4 j j0 j1 j2, h5, h6, by omega, fun z => by omega, fun z => by omega, h10, fun _ => h11 (by omega), fun _ => h12 (by omega)⟩
theorem TI.par (h : TI st op ed od n nd) (s : st = 3 ∨ st = 4) : TI 1 (n - 1) ed od n nd := by
  rcases h with ⟨h1, h2, h3, h4, h5⟩ | ⟨h1, h2, h3, h4, h5, h6, h7, h8, h9, h10, h11, h12⟩
  · omega
  · have := h12 (by omega)
    exact Or.inr ⟨h1, h2, by omega, fun j j0 j1 j2 => by omega, h5, h6, by omega, fun z => by omega, fun _ => by omega, fun z => by omega, fun z => by omega, fun z => by omega⟩
theorem TI.edge (h : TI st op ed od n nd) {v : Int} (hv : v = 1 ∨ v = 2) (o : op ≠ -1) (s : st = 1 ∨ wh st) : TI 0 op v od n nd := by
  rcases h with ⟨h1, h2, h3, h4, h5⟩ | ⟨h1, h2, h3, h4, h5, h6, h7, h8, h9, h10, h11, h12⟩
  · omega
  · exact Or.inr ⟨h1, h2, h3, h4, h5, by omega, by omega, fun _ => by omega, fun z => by omega, h10, fun z => by omega, fun z => by omega⟩
theorem TI.semi (h : TI st op ed od n nd) (o : op ≠ -1) (s : wh st) : TI 1 op ed 1 n nd := by
  rcases h with ⟨h1, h2, h3, h4, h5⟩ | ⟨h1, h2, h3, h4, h5, h6, h7, h8, h9, h10, h11, h12⟩
  · omega
  · have := h11 (by omega)
    exact Or.inr ⟨h1, h2, h3, h4, by omega, h6, by omega, fun z => by omega, fun _ => by omega, fun _ => by omega, fun z => by omega, fun z => by omega⟩
theorem TI.cls (h : TI st op ed od n nd) (o : op ≠ -1) (s : wh st) : TI 5 (nd op 5) ed od n nd := by
  rcases h with ⟨h1, h2, h3, h4, h5⟩ | ⟨h1, h2, h3, h4, h5, h6, h7, h8, h9, h10, h11, h12⟩
  · omega
  · have ha := h2.ab (show 0 ≤ op by omega) h3.2
    refine Or.inr ⟨h1, h2, by omega, fun j j0 j1 j2 => ?_, h5, h6, by omega, fun z => by omega, fun z => by omega, fun z => by have := h12 (by omega); omega, fun _ => by omega, fun _ => h12 (by omega)⟩
    by_cases z : j < op
    · exact ((h2.2.2 op (by omega) h3.2).2.2.2.2.2.2.2 (by omega)).2.2.1 j j0 z
    · by_cases y : j = op
      · rw [y]; exact Int.le_refl _
      · have := h4 j (by omega) j1 (by omega)
        omega
end TWG2
