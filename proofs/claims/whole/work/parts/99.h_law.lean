/-! ===== the law: one call of both (cases written by lawstep.py) ===== -/
/-- both hold the same state -/
def CP (m : Mm) (X : FS) : Prop := CI m X ∧ ∃ F A, At m 376 (o8 376 F A) ∧ MB F A X
theorem lX_at {xs : Nat → Int32} {L : Nat} {i : Int} (h0 : 0 ≤ i) (h1 : i < L) (h2 : i < 2147483648) : lX xs L (I i) = some (xs i.toNat) := by
  unfold lX
  rw [I_clamp h0 h2, if_neg]
  rintro (z | z)
  · rw [show (0 : Int32) = I 0 from rfl, I_lt (by omega) (by omega) (by omega) (by omega)] at z
    omega
  · omega
abbrev LPo (z : Int32) (x : (Int32 × Mm) ⊕ Mm) : Prop := ∃ m2 X', x = .inl (z, m2) ∧ CP m2 X'
theorem pair {m : Mm} {X : FS} (hC : CP m X) {α : Type} [DecidableEq α] {cl : Option (α × Mm)} {rf : Mm → Option (α × Mm)} {P : α → FS → Prop} {z : Int32} (h1 : Ok cl (fun t => ∃ X', CI t.2 X' ∧ Fr m t.2 0 376 ∧ P t.1 X')) (h2 : ∀ m1 F A r X', 376 + 25 < m1.length → MB F A X → P r X' → Ok (rf (ov m1 376 (o8 376 F A))) (fun u => u.1 = r ∧ MP m1 376 u.2 X')) : Ok (cO m 0 7 (cl.bind fun t => cO t.2 376 8 ((rf t.2).bind fun u => if t.1 = u.1 then some (.inl (z, u.2)) else none))) (LPo z) := by
  obtain ⟨hci, F, A, hat, hmb⟩ := hC
  rw [hci.self]
  refine Ok.bind h1 ?_
  rintro ⟨r, m1⟩ ⟨X', q1, q2, q3⟩
  dsimp only at q1 q2 q3 ⊢
  have hat1 : At m1 376 (o8 376 F A) := hat.fr (fun off h => o8_N off h) q2 (by omega)
  have hl1 := a8_len hat1
  rw [a8_cO hat1]
  have h3 := h2 m1 F A r X' hl1 hmb q3
  rw [hat1.ov] at h3
  refine Ok.bind h3 ?_
  rintro ⟨r', m2⟩ ⟨p1, F', A', p2, p3⟩
  dsimp only at p1 p2 ⊢
  rw [if_pos p1.symm]
  subst p2
  have hf : Fr m1 (ov m1 376 (o8 376 F' A')) 376 402 := Fr.ov (N := 25) (fun off h => o8_N off h)
  exact Ok.pure ⟨_, X', rfl, q1.other hf, F', A', o8_At hl1, p3⟩
section LAW
variable {m : Mm} {X : FS} {z : Int32}
theorem L_drops (hC : CP m X) {a0 : Int32} : Ok (cO m 0 7 ((f_X7_drops m 0 a0).bind fun t => cO t.2 376 8 ((f_X8_drops t.2 376 a0).bind fun u => if t.1 = u.1 then some (.inl (z, u.2)) else none))) (LPo z) := by
  obtain ⟨x0, rfl, y0, w0⟩ := I_ex a0
  refine pair hC (rf := fun M => f_X8_drops M 376 (I x0)) (P := fun r X' => r = I (rDrops X x0).1 ∧ X' = (rDrops X x0).2) ((C_drops hC.1 y0 w0).mono (fun t ht => ⟨_, ht.2.1, ht.2.2, ht.1, rfl⟩)) ?_
  rintro m1 F A r X' hl hmb ⟨rfl, rfl⟩
  exact M_drops hl hmb y0 w0
theorem L_sets (hC : CP m X) {a0 : Int32} {a1 : Int32} {a2 : Int32} : Ok (cO m 0 7 ((f_X7_sets m 0 a0 a1 a2).bind fun t => cO t.2 376 8 ((f_X8_sets t.2 376 a0 a1 a2).bind fun u => if t.1 = u.1 then some (.inl (z, u.2)) else none))) (LPo z) := by
  obtain ⟨x0, rfl, y0, w0⟩ := I_ex a0
  obtain ⟨x1, rfl, y1, w1⟩ := I_ex a1
  obtain ⟨x2, rfl, y2, w2⟩ := I_ex a2
  refine pair hC (rf := fun M => f_X8_sets M 376 (I x0) (I x1) (I x2)) (P := fun r X' => r = I (rSets X x0 x1 x2).1 ∧ X' = (rSets X x0 x1 x2).2) ((C_sets hC.1 y0 w0 y1 w1 y2 w2).mono (fun t ht => ⟨_, ht.2.1, ht.2.2, ht.1, rfl⟩)) ?_
  rintro m1 F A r X' hl hmb ⟨rfl, rfl⟩
  exact M_sets hl hmb y0 w0 y1 w1 y2 w2
theorem L_element (hC : CP m X) {a0 : Int32} {a1 : Int32} : Ok (cO m 0 7 ((f_X7_element m 0 a0 a1).bind fun t => cO t.2 376 8 ((f_X8_element t.2 376 a0 a1).bind fun u => if t.1 = u.1 then some (.inl (z, u.2)) else none))) (LPo z) := by
  obtain ⟨x0, rfl, y0, w0⟩ := I_ex a0
  obtain ⟨x1, rfl, y1, w1⟩ := I_ex a1
  refine pair hC (rf := fun M => f_X8_element M 376 (I x0) (I x1)) (P := fun r X' => r = I (rElem X x0 x1).1 ∧ X' = (rElem X x0 x1).2) ((C_element hC.1 y0 w0 y1 w1).mono (fun t ht => ⟨_, ht.2.1, ht.2.2, ht.1, rfl⟩)) ?_
  rintro m1 F A r X' hl hmb ⟨rfl, rfl⟩
  exact M_element hl hmb y0 w0 y1 w1
theorem L_node (hC : CP m X) {a0 : Int32} {a1 : Int32} {a2 : Int32} : Ok (cO m 0 7 ((f_X7_node m 0 a0 a1 a2).bind fun t => cO t.2 376 8 ((f_X8_node t.2 376 a0 a1 a2).bind fun u => if t.1 = u.1 then some (.inl (z, u.2)) else none))) (LPo z) := by
  obtain ⟨x0, rfl, y0, w0⟩ := I_ex a0
  obtain ⟨x1, rfl, y1, w1⟩ := I_ex a1
  obtain ⟨x2, rfl, y2, w2⟩ := I_ex a2
  refine pair hC (rf := fun M => f_X8_node M 376 (I x0) (I x1) (I x2)) (P := fun r X' => r = (rNode X x0 x1 x2).1 ∧ X' = (rNode X x0 x1 x2).2) ((C_node hC.1 y0 w0 y1 w1 y2 w2).mono (fun t ht => ⟨_, ht.2.1, ht.2.2, ht.1, rfl⟩)) ?_
  rintro m1 F A r X' hl hmb ⟨rfl, rfl⟩
  exact M_node hl hmb y0 w0 y1 w1 y2 w2
theorem L_forgets (hC : CP m X) {a0 : Int32} : Ok (cO m 0 7 ((f_X7_forgets m 0 a0).bind fun t => cO t.2 376 8 ((f_X8_forgets t.2 376 a0).bind fun u => if t.1 = u.1 then some (.inl (z, u.2)) else none))) (LPo z) := by
  obtain ⟨x0, rfl, y0, w0⟩ := I_ex a0
  refine pair hC (rf := fun M => f_X8_forgets M 376 (I x0)) (P := fun r X' => r = I (rForgets X x0).1 ∧ X' = (rForgets X x0).2) ((C_forgets hC.1 y0 w0).mono (fun t ht => ⟨_, ht.2.1, ht.2.2, ht.1, rfl⟩)) ?_
  rintro m1 F A r X' hl hmb ⟨rfl, rfl⟩
  exact M_forgets hl hmb y0 w0
theorem L_nodes (hC : CP m X) {a0 : Int32} : Ok (cO m 0 7 ((f_X7_nodes m 0 a0).bind fun t => cO t.2 376 8 ((f_X8_nodes t.2 376 a0).bind fun u => if t.1 = u.1 then some (.inl (z, u.2)) else none))) (LPo z) := by
  obtain ⟨x0, rfl, y0, w0⟩ := I_ex a0
  refine pair hC (rf := fun M => f_X8_nodes M 376 (I x0)) (P := fun r X' => r = I (rNodes X x0).1 ∧ X' = (rNodes X x0).2) ((C_nodes hC.1 y0 w0).mono (fun t ht => ⟨_, ht.2.1, ht.2.2, ht.1, rfl⟩)) ?_
  rintro m1 F A r X' hl hmb ⟨rfl, rfl⟩
  exact M_nodes hl hmb y0 w0
theorem L_matches (hC : CP m X) {a0 : Int32} : Ok (cO m 0 7 ((f_X7_matches m 0 a0).bind fun t => cO t.2 376 8 ((f_X8_matches t.2 376 a0).bind fun u => if t.1 = u.1 then some (.inl (z, u.2)) else none))) (LPo z) := by
  obtain ⟨x0, rfl, y0, w0⟩ := I_ex a0
  refine pair hC (rf := fun M => f_X8_matches M 376 (I x0)) (P := fun r X' => r = J (rMatches X x0).1 ∧ X' = (rMatches X x0).2) ((C_matches hC.1 y0 w0).mono (fun t ht => ⟨_, ht.2.1, ht.2.2, ht.1, rfl⟩)) ?_
  rintro m1 F A r X' hl hmb ⟨rfl, rfl⟩
  exact M_matches hl hmb y0 w0
theorem L_fits (hC : CP m X) {a0 : Int32} {a1 : Int32} : Ok (cO m 0 7 ((f_X7_fits m 0 a0 a1).bind fun t => cO t.2 376 8 ((f_X8_fits t.2 376 a0 a1).bind fun u => if t.1 = u.1 then some (.inl (z, u.2)) else none))) (LPo z) := by
  obtain ⟨x0, rfl, y0, w0⟩ := I_ex a0
  obtain ⟨x1, rfl, y1, w1⟩ := I_ex a1
  refine pair hC (rf := fun M => f_X8_fits M 376 (I x0) (I x1)) (P := fun r X' => r = (rFits X x0 x1).1 ∧ X' = (rFits X x0 x1).2) ((C_fits hC.1 y0 w0 y1 w1).mono (fun t ht => ⟨_, ht.2.1, ht.2.2, ht.1, rfl⟩)) ?_
  rintro m1 F A r X' hl hmb ⟨rfl, rfl⟩
  exact M_fits hl hmb y0 w0 y1 w1
theorem L_part (hC : CP m X) {a0 : Int32} {a1 : Int32} {a2 : Int32} : Ok (cO m 0 7 ((f_X7_part m 0 a0 a1 a2).bind fun t => cO t.2 376 8 ((f_X8_part t.2 376 a0 a1 a2).bind fun u => if t.1 = u.1 then some (.inl (z, u.2)) else none))) (LPo z) := by
  obtain ⟨x0, rfl, y0, w0⟩ := I_ex a0
  obtain ⟨x1, rfl, y1, w1⟩ := I_ex a1
  obtain ⟨x2, rfl, y2, w2⟩ := I_ex a2
  refine pair hC (rf := fun M => f_X8_part M 376 (I x0) (I x1) (I x2)) (P := fun r X' => r = J (rPart X x0 x1 x2).1 ∧ X' = (rPart X x0 x1 x2).2) ((C_part hC.1 y0 w0 y1 w1 y2 w2).mono (fun t ht => ⟨_, ht.2.1, ht.2.2, ht.1, rfl⟩)) ?_
  rintro m1 F A r X' hl hmb ⟨rfl, rfl⟩
  exact M_part hl hmb y0 w0 y1 w1 y2 w2
theorem L_less (hC : CP m X) {a0 : Int32} {a1 : Int32} : Ok (cO m 0 7 ((f_X7_less m 0 a0 a1).bind fun t => cO t.2 376 8 ((f_X8_less t.2 376 a0 a1).bind fun u => if t.1 = u.1 then some (.inl (z, u.2)) else none))) (LPo z) := by
  obtain ⟨x0, rfl, y0, w0⟩ := I_ex a0
  obtain ⟨x1, rfl, y1, w1⟩ := I_ex a1
  refine pair hC (rf := fun M => f_X8_less M 376 (I x0) (I x1)) (P := fun r X' => r = J (rLess X x0 x1).1 ∧ X' = (rLess X x0 x1).2) ((C_less hC.1 y0 w0 y1 w1).mono (fun t ht => ⟨_, ht.2.1, ht.2.2, ht.1, rfl⟩)) ?_
  rintro m1 F A r X' hl hmb ⟨rfl, rfl⟩
  exact M_less hl hmb y0 w0 y1 w1
theorem L_type (hC : CP m X) {a0 : Int32} : Ok (cO m 0 7 ((f_X7_type m 0 a0).bind fun t => cO t.2 376 8 ((f_X8_type t.2 376 a0).bind fun u => if t.1 = u.1 then some (.inl (z, u.2)) else none))) (LPo z) := by
  obtain ⟨x0, rfl, y0, w0⟩ := I_ex a0
  refine pair hC (rf := fun M => f_X8_type M 376 (I x0)) (P := fun r X' => r = I (rType X x0).1 ∧ X' = (rType X x0).2) ((C_type hC.1 y0 w0).mono (fun t ht => ⟨_, ht.2.1, ht.2.2, ht.1, rfl⟩)) ?_
  rintro m1 F A r X' hl hmb ⟨rfl, rfl⟩
  exact M_type hl hmb y0 w0
theorem L_clear (hC : CP m X)  : Ok (cO m 0 7 ((f_X7_clear m 0).bind fun t => cO t.2 376 8 ((f_X8_clear t.2 376).bind fun u => if t.1 = u.1 then some (.inl (z, u.2)) else none))) (LPo z) := by
  refine pair hC (rf := fun M => f_X8_clear M 376) (P := fun r X' => r = I (rClear X).1 ∧ X' = (rClear X).2) ((C_clear hC.1).mono (fun t ht => ⟨_, ht.2.1, ht.2.2, ht.1, rfl⟩)) ?_
  rintro m1 F A r X' hl hmb ⟨rfl, rfl⟩
  exact M_clear hl hmb
theorem L_builds (hC : CP m X)  : Ok (cO m 0 7 ((f_X7_builds m 0).bind fun t => cO t.2 376 8 ((f_X8_builds t.2 376).bind fun u => if t.1 = u.1 then some (.inl (z, u.2)) else none))) (LPo z) := by
  refine pair hC (rf := fun M => f_X8_builds M 376) (P := fun r X' => r = I (rBuilds X).1 ∧ X' = (rBuilds X).2) ((C_builds hC.1).mono (fun t ht => ⟨_, ht.2.1, ht.2.2, ht.1, rfl⟩)) ?_
  rintro m1 F A r X' hl hmb ⟨rfl, rfl⟩
  exact M_builds hl hmb
theorem L_twigs (hC : CP m X) {a0 : Int32} : Ok (cO m 0 7 ((f_X7_twigs m 0 a0).bind fun t => cO t.2 376 8 ((f_X8_twigs t.2 376 a0).bind fun u => if t.1 = u.1 then some (.inl (z, u.2)) else none))) (LPo z) := by
  obtain ⟨x0, rfl, y0, w0⟩ := I_ex a0
  refine pair hC (rf := fun M => f_X8_twigs M 376 (I x0)) (P := fun r X' => r = I (rTwigs X x0).1 ∧ X' = (rTwigs X x0).2) ((C_twigs hC.1 y0 w0).mono (fun t ht => ⟨_, ht.2.1, ht.2.2, ht.1, rfl⟩)) ?_
  rintro m1 F A r X' hl hmb ⟨rfl, rfl⟩
  exact M_twigs hl hmb y0 w0
theorem L_shown (hC : CP m X) {a0 : Int32} {a1 : Int32} : Ok (cO m 0 7 ((f_X7_shown m 0 a0 a1).bind fun t => cO t.2 376 8 ((f_X8_shown t.2 376 a0 a1).bind fun u => if t.1 = u.1 then some (.inl (z, u.2)) else none))) (LPo z) := by
  obtain ⟨x0, rfl, y0, w0⟩ := I_ex a0
  obtain ⟨x1, rfl, y1, w1⟩ := I_ex a1
  refine pair hC (rf := fun M => f_X8_shown M 376 (I x0) (I x1)) (P := fun r X' => r = I (rShown X x0 x1).1 ∧ X' = (rShown X x0 x1).2) ((C_shown hC.1 y0 w0 y1 w1).mono (fun t ht => ⟨_, ht.2.1, ht.2.2, ht.1, rfl⟩)) ?_
  rintro m1 F A r X' hl hmb ⟨rfl, rfl⟩
  exact M_shown hl hmb y0 w0 y1 w1
theorem L_back (hC : CP m X)  : Ok (cO m 0 7 ((f_X7_back m 0).bind fun t => cO t.2 376 8 ((f_X8_back t.2 376).bind fun u => if t.1 = u.1 then some (.inl (z, u.2)) else none))) (LPo z) := by
  refine pair hC (rf := fun M => f_X8_back M 376) (P := fun r X' => r = I (rBack X).1 ∧ X' = (rBack X).2) ((C_back hC.1).mono (fun t ht => ⟨_, ht.2.1, ht.2.2, ht.1, rfl⟩)) ?_
  rintro m1 F A r X' hl hmb ⟨rfl, rfl⟩
  exact M_back hl hmb
theorem L_told (hC : CP m X) {a0 : Int32} : Ok (cO m 0 7 ((f_X7_told m 0 a0).bind fun t => cO t.2 376 8 ((f_X8_told t.2 376 a0).bind fun u => if t.1 = u.1 then some (.inl (z, u.2)) else none))) (LPo z) := by
  obtain ⟨x0, rfl, y0, w0⟩ := I_ex a0
  refine pair hC (rf := fun M => f_X8_told M 376 (I x0)) (P := fun r X' => r = (rTold X x0).1 ∧ X' = (rTold X x0).2) ((C_told hC.1 y0 w0).mono (fun t ht => ⟨_, ht.2.1, ht.2.2, ht.1, rfl⟩)) ?_
  rintro m1 F A r X' hl hmb ⟨rfl, rfl⟩
  exact M_told hl hmb y0 w0
theorem L_adds (hC : CP m X) {a0 : Int32} {a1 : Int32} {a2 : Int32} {a3 : Int32} : Ok (cO m 0 7 ((f_X7_adds m 0 a0 a1 a2 a3).bind fun t => cO t.2 376 8 ((f_X8_adds t.2 376 a0 a1 a2 a3).bind fun u => if t.1 = u.1 then some (.inl (z, u.2)) else none))) (LPo z) := by
  obtain ⟨x0, rfl, y0, w0⟩ := I_ex a0
  obtain ⟨x1, rfl, y1, w1⟩ := I_ex a1
  obtain ⟨x2, rfl, y2, w2⟩ := I_ex a2
  obtain ⟨x3, rfl, y3, w3⟩ := I_ex a3
  refine pair hC (rf := fun M => f_X8_adds M 376 (I x0) (I x1) (I x2) (I x3)) (P := fun r X' => ∃ r', r = I r' ∧ SAdds X x0 x1 x2 x3 r' X') ((C_adds hC.1 y0 w0 y1 w1 y2 w2 y3 w3).mono (fun t ⟨r, X', t1, t2, t3, t4⟩ => ⟨X', t2, t3, r, t1, t4⟩)) ?_
  rintro m1 F A r X' hl hmb ⟨r', rfl, hs⟩
  refine (M_adds hl hmb y0 w0 y1 w1 y2 w2 y3 w3).mono ?_
  rintro u ⟨r2, X2, u1, u2, u3⟩
  obtain ⟨rfl, rfl⟩ := SAdds_uniq hs u3
  exact ⟨u1, u2⟩
theorem L_moves (hC : CP m X) {a0 : Int32} {a1 : Int32} {a2 : Int32} : Ok (cO m 0 7 ((f_X7_moves m 0 a0 a1 a2).bind fun t => cO t.2 376 8 ((f_X8_moves t.2 376 a0 a1 a2).bind fun u => if t.1 = u.1 then some (.inl (z, u.2)) else none))) (LPo z) := by
  obtain ⟨x0, rfl, y0, w0⟩ := I_ex a0
  obtain ⟨x1, rfl, y1, w1⟩ := I_ex a1
  obtain ⟨x2, rfl, y2, w2⟩ := I_ex a2
  refine pair hC (rf := fun M => f_X8_moves M 376 (I x0) (I x1) (I x2)) (P := fun r X' => ∃ r', r = I r' ∧ SMoves X x0 x1 x2 r' X') ((C_moves hC.1 y0 w0 y1 w1 y2 w2).mono (fun t ⟨r, X', t1, t2, t3, t4⟩ => ⟨X', t2, t3, r, t1, t4⟩)) ?_
  rintro m1 F A r X' hl hmb ⟨r', rfl, hs⟩
  refine (M_moves hl hmb y0 w0 y1 w1 y2 w2).mono ?_
  rintro u ⟨r2, X2, u1, u2, u3⟩
  obtain ⟨rfl, rfl⟩ := SMoves_uniq hs u3
  exact ⟨u1, u2⟩
theorem L_folds (hC : CP m X) {a0 : Int32} {a1 : Int32} : Ok (cO m 0 7 ((f_X7_folds m 0 a0 a1).bind fun t => cO t.2 376 8 ((f_X8_folds t.2 376 a0 a1).bind fun u => if t.1 = u.1 then some (.inl (z, u.2)) else none))) (LPo z) := by
  obtain ⟨x0, rfl, y0, w0⟩ := I_ex a0
  obtain ⟨x1, rfl, y1, w1⟩ := I_ex a1
  refine pair hC (rf := fun M => f_X8_folds M 376 (I x0) (I x1)) (P := fun r X' => SFolds X x0 x1 r X') (C_folds hC.1 y0 w0 y1 w1) ?_
  intro m1 F A r X' hl hmb hs
  refine (M_folds hl hmb y0 w0 y1 w1).mono ?_
  rintro u ⟨X2, u1, u2⟩
  obtain ⟨h1, rfl⟩ := SFolds_uniq hs u2
  exact ⟨h1.symm, u1⟩
theorem L_spare (hC : CP m X) {a0 : Int32} {a1 : Int32} : Ok (cO m 0 7 ((f_X7_spare m 0 a0 a1).bind fun t => cO t.2 376 8 ((f_X8_spare t.2 376 a0 a1).bind fun u => if t.1 = u.1 then some (.inl (z, u.2)) else none))) (LPo z) := by
  obtain ⟨x0, rfl, y0, w0⟩ := I_ex a0
  obtain ⟨x1, rfl, y1, w1⟩ := I_ex a1
  refine pair hC (rf := fun M => f_X8_spare M 376 (I x0) (I x1)) (P := fun r X' => SSpare X x0 x1 r X') (C_spare hC.1 y0 w0 y1 w1) ?_
  intro m1 F A r X' hl hmb hs
  refine (M_spare hl hmb y0 w0 y1 w1).mono ?_
  rintro u ⟨X2, u1, u2⟩
  obtain ⟨h1, rfl⟩ := SSpare_uniq hs u2
  exact ⟨h1.symm, u1⟩
theorem L_match (hC : CP m X) {a0 : Int32} {a1 : Int64} {a2 : Int32} : Ok (cO m 0 7 ((f_X7_match m 0 a0 a1 a2).bind fun t => cO t.2 376 8 ((f_X8_match t.2 376 a0 a1 a2).bind fun u => if t.1 = u.1 then some (.inl (z, u.2)) else none))) (LPo z) := by
  obtain ⟨x0, rfl, y0, w0⟩ := I_ex a0
  obtain ⟨x1, rfl, y1, w1⟩ := J_ex a1
  obtain ⟨x2, rfl, y2, w2⟩ := I_ex a2
  refine pair hC (rf := fun M => f_X8_match M 376 (I x0) (J x1) (I x2)) (P := fun r X' => SMatch X x0 x1 x2 r X') (C_match hC.1 y0 w0 y2 w2 y1 w1) ?_
  intro m1 F A r X' hl hmb hs
  refine (M_match hl hmb y0 w0 y2 w2 y1 w1).mono ?_
  rintro u ⟨X2, u1, u2⟩
  obtain ⟨h1, rfl⟩ := SMatch_uniq (fun i0 i1 => (hmb.2.1 x0 i0 i1).2.1) hs u2
  exact ⟨h1.symm, u1⟩
theorem L_place (hC : CP m X) {a0 : Int32} {a1 : Int64} : Ok (cO m 0 7 ((f_X7_place m 0 a0 a1).bind fun t => cO t.2 376 8 ((f_X8_place t.2 376 a0 a1).bind fun u => if t.1 = u.1 then some (.inl (z, u.2)) else none))) (LPo z) := by
  obtain ⟨x0, rfl, y0, w0⟩ := I_ex a0
  obtain ⟨x1, rfl, y1, w1⟩ := J_ex a1
  refine pair hC (rf := fun M => f_X8_place M 376 (I x0) (J x1)) (P := fun r X' => SPlace X x0 x1 r X') (C_place hC.1 y0 w0 y1 w1) ?_
  intro m1 F A r X' hl hmb hs
  refine (M_place hl hmb y0 w0 y1 w1).mono ?_
  rintro u ⟨X2, u1, u2⟩
  obtain ⟨h1, rfl⟩ := SPlace_uniq (fun i0 i1 => (hmb.2.1 x0 i0 i1).2.1) hs u2
  exact ⟨h1.symm, u1⟩
theorem L_found (hC : CP m X) {a0 : Int32} {a1 : Int32} : Ok (cO m 0 7 ((f_X7_found m 0 a0 a1).bind fun t => cO t.2 376 8 ((f_X8_found t.2 376 a0 a1).bind fun u => if t.1 = u.1 then some (.inl (z, u.2)) else none))) (LPo z) := by
  obtain ⟨x0, rfl, y0, w0⟩ := I_ex a0
  obtain ⟨x1, rfl, y1, w1⟩ := I_ex a1
  refine pair hC (rf := fun M => f_X8_found M 376 (I x0) (I x1)) (P := fun r X' => SFound X x0 x1 r X') (C_found hC.1 y0 w0 y1 w1) ?_
  intro m1 F A r X' hl hmb hs
  exact M_found hl hmb y0 w0 y1 w1 hs
theorem L_ways (hC : CP m X) {a0 : Int32} {a1 : Int32} {a2 : Int32} : Ok (cO m 0 7 ((f_X7_ways m 0 a0 a1 a2).bind fun t => cO t.2 376 8 ((f_X8_ways t.2 376 a0 a1 a2).bind fun u => if t.1 = u.1 then some (.inl (z, u.2)) else none))) (LPo z) := by
  obtain ⟨x0, rfl, y0, w0⟩ := I_ex a0
  obtain ⟨x1, rfl, y1, w1⟩ := I_ex a1
  obtain ⟨x2, rfl, y2, w2⟩ := I_ex a2
  refine pair hC (rf := fun M => f_X8_ways M 376 (I x0) (I x1) (I x2)) (P := fun r X' => SWays X x0 x1 x2 r X') (C_ways hC.1 y0 w0 y1 w1 y2 w2) ?_
  intro m1 F A r X' hl hmb hs
  exact M_ways hl hmb y0 w0 y1 w1 y2 w2 hs
theorem L_digest (hC : CP m X)  : Ok (cO m 0 7 ((f_X7_digest m 0).bind fun t => cO t.2 376 8 ((f_X8_digest t.2 376).bind fun u => if t.1 = u.1 then some (.inl (z, u.2)) else none))) (LPo z) := by
  refine pair hC (rf := fun M => f_X8_digest M 376) (P := fun r X' => r = J (dgX X) ∧ X' = X) ((C_digest hC.1).mono (fun t ht => ⟨_, ht.2.1, ht.2.2, ht.1, rfl⟩)) ?_
  rintro m1 F A r X' hl hmb ⟨rfl, rfl⟩
  exact M_digest hl hmb
theorem L_size (hC : CP m X) : Ok (cO m 0 7 ((f_X7_size m 0).bind fun v => cO m 376 8 ((f_X8_size m 376).bind fun w => if v = w then some (.inl (z, m)) else none))) (LPo z) := by
  obtain ⟨hci, F, A, hat, hmb⟩ := id hC
  have h2 := M_size (m := m) (a := 376) (a8_len hat) hmb
  rw [hat.ov] at h2
  rw [hci.self, C_size hci]
  show Ok (cO m 376 8 ((f_X8_size m 376).bind fun w => if I (tn (fS X)) = w then some (.inl (z, m)) else none)) (LPo z)
  rw [a8_cO hat, h2]
  show Ok (if I (tn (fS X)) = I (tn (fS X)) then some (.inl (z, m)) else none) (LPo z)
  rw [if_pos rfl]
  exact Ok.pure ⟨m, X, rfl, hC⟩
theorem L_why (hC : CP m X) : Ok (cO m 0 7 ((f_X7_why m 0).bind fun v => cO m 376 8 ((f_X8_why m 376).bind fun w => if v = w then some (.inl (z, m)) else none))) (LPo z) := by
  obtain ⟨hci, F, A, hat, hmb⟩ := id hC
  have h2 := M_why (m := m) (a := 376) (a8_len hat) hmb
  rw [hat.ov] at h2
  rw [hci.self, C_why hci]
  show Ok (cO m 376 8 ((f_X8_why m 376).bind fun w => if I (fwy X) = w then some (.inl (z, m)) else none)) (LPo z)
  rw [a8_cO hat, h2]
  show Ok (if I (fwy X) = I (fwy X) then some (.inl (z, m)) else none) (LPo z)
  rw [if_pos rfl]
  exact Ok.pure ⟨m, X, rfl, hC⟩
theorem law_step {L : Nat} {xs : Nat → Int32} (hC : CP m X) {k : Int} (k0 : 0 ≤ k) (hk : k + 5 ≤ L) (hL : L ≤ 2560) : Ok (f_L_law_L18 L xs m 0 376 (I k)) (LPo (I (k + 5))) := by
  have hLI : Int32.ofNat L = I (L : Int) := (Int32.ofInt_eq_ofNat).symm
  have hx0 : lX xs L (I k) = some (xs k.toNat) := lX_at k0 (by omega) (by omega)
  have hx1 : lX xs L (I k + (1 : Int32)) = some (xs (k + 1).toNat) := by rw [L1, I_add]; exact lX_at (by omega) (by omega) (by omega)
  have hx2 : lX xs L (I k + (2 : Int32)) = some (xs (k + 2).toNat) := by rw [L2, I_add]; exact lX_at (by omega) (by omega) (by omega)
  have hx3 : lX xs L (I k + (3 : Int32)) = some (xs (k + 3).toNat) := by rw [L3, I_add]; exact lX_at (by omega) (by omega) (by omega)
  have hx4 : lX xs L (I k + (4 : Int32)) = some (xs (k + 4).toNat) := by rw [L4, I_add]; exact lX_at (by omega) (by omega) (by omega)
  have h5 : I k + 5 = I (k + 5) := by rw [L5, I_add]
  have hcond : ¬ (Int32.ofNat L - (5 : Int32) < I k) := by
    rw [hLI, L5, I_sub, I_lt (by omega) (by omega) (by omega) (by omega)]
    omega
  unfold f_L_law_L18
  rw [if_neg hcond, hx0, bsm]
  by_cases d0 : (xs k.toNat &&& (31 : Int32)) = (0 : Int32)
  · rw [if_pos d0]
    simp only [hx1, hx2, hx3, hx4, h5, bsm]
    exact L_adds hC
  rw [if_neg d0]
  by_cases d1 : (xs k.toNat &&& (31 : Int32)) = (1 : Int32)
  · rw [if_pos d1]
    simp only [hx1, hx2, hx3, hx4, h5, bsm]
    exact L_drops hC
  rw [if_neg d1]
  by_cases d2 : (xs k.toNat &&& (31 : Int32)) = (2 : Int32)
  · rw [if_pos d2]
    simp only [hx1, hx2, hx3, hx4, h5, bsm]
    exact L_sets hC
  rw [if_neg d2]
  by_cases d3 : (xs k.toNat &&& (31 : Int32)) = (3 : Int32)
  · rw [if_pos d3]
    simp only [hx1, hx2, hx3, hx4, h5, bsm]
    exact L_moves hC
  rw [if_neg d3]
  by_cases d4 : (xs k.toNat &&& (31 : Int32)) = (4 : Int32)
  · rw [if_pos d4]
    simp only [hx1, hx2, hx3, hx4, h5, bsm]
    exact L_element hC
  rw [if_neg d4]
  by_cases d5 : (xs k.toNat &&& (31 : Int32)) = (5 : Int32)
  · rw [if_pos d5]
    simp only [hx1, hx2, hx3, hx4, h5, bsm]
    exact L_size hC
  rw [if_neg d5]
  by_cases d6 : (xs k.toNat &&& (31 : Int32)) = (6 : Int32)
  · rw [if_pos d6]
    simp only [hx1, hx2, hx3, hx4, h5, bsm]
    exact L_node hC
  rw [if_neg d6]
  by_cases d7 : (xs k.toNat &&& (31 : Int32)) = (7 : Int32)
  · rw [if_pos d7]
    simp only [hx1, hx2, hx3, hx4, h5, bsm]
    exact L_forgets hC
  rw [if_neg d7]
  by_cases d8 : (xs k.toNat &&& (31 : Int32)) = (8 : Int32)
  · rw [if_pos d8]
    simp only [hx1, hx2, hx3, hx4, h5, bsm]
    exact L_nodes hC
  rw [if_neg d8]
  by_cases d9 : (xs k.toNat &&& (31 : Int32)) = (9 : Int32)
  · rw [if_pos d9]
    simp only [hx1, hx2, hx3, hx4, h5, bsm]
    exact L_folds hC
  rw [if_neg d9]
  by_cases d10 : (xs k.toNat &&& (31 : Int32)) = (10 : Int32)
  · rw [if_pos d10]
    simp only [hx1, hx2, hx3, hx4, h5, bsm]
    exact L_spare hC
  rw [if_neg d10]
  by_cases d11 : (xs k.toNat &&& (31 : Int32)) = (11 : Int32)
  · rw [if_pos d11]
    simp only [hx1, hx2, hx3, hx4, h5, bsm]
    exact L_matches hC
  rw [if_neg d11]
  by_cases d12 : (xs k.toNat &&& (31 : Int32)) = (12 : Int32)
  · rw [if_pos d12]
    simp only [hx1, hx2, hx3, hx4, h5, bsm]
    exact L_match hC
  rw [if_neg d12]
  by_cases d13 : (xs k.toNat &&& (31 : Int32)) = (13 : Int32)
  · rw [if_pos d13]
    simp only [hx1, hx2, hx3, hx4, h5, bsm]
    exact L_place hC
  rw [if_neg d13]
  by_cases d14 : (xs k.toNat &&& (31 : Int32)) = (14 : Int32)
  · rw [if_pos d14]
    simp only [hx1, hx2, hx3, hx4, h5, bsm]
    exact L_fits hC
  rw [if_neg d14]
  by_cases d15 : (xs k.toNat &&& (31 : Int32)) = (15 : Int32)
  · rw [if_pos d15]
    simp only [hx1, hx2, hx3, hx4, h5, bsm]
    exact L_found hC
  rw [if_neg d15]
  by_cases d16 : (xs k.toNat &&& (31 : Int32)) = (16 : Int32)
  · rw [if_pos d16]
    simp only [hx1, hx2, hx3, hx4, h5, bsm]
    exact L_part hC
  rw [if_neg d16]
  by_cases d17 : (xs k.toNat &&& (31 : Int32)) = (17 : Int32)
  · rw [if_pos d17]
    simp only [hx1, hx2, hx3, hx4, h5, bsm]
    exact L_ways hC
  rw [if_neg d17]
  by_cases d18 : (xs k.toNat &&& (31 : Int32)) = (18 : Int32)
  · rw [if_pos d18]
    simp only [hx1, hx2, hx3, hx4, h5, bsm]
    exact L_less hC
  rw [if_neg d18]
  by_cases d19 : (xs k.toNat &&& (31 : Int32)) = (19 : Int32)
  · rw [if_pos d19]
    simp only [hx1, hx2, hx3, hx4, h5, bsm]
    exact L_type hC
  rw [if_neg d19]
  by_cases d20 : (xs k.toNat &&& (31 : Int32)) = (20 : Int32)
  · rw [if_pos d20]
    simp only [hx1, hx2, hx3, hx4, h5, bsm]
    exact L_clear hC
  rw [if_neg d20]
  by_cases d21 : (xs k.toNat &&& (31 : Int32)) = (21 : Int32)
  · rw [if_pos d21]
    simp only [hx1, hx2, hx3, hx4, h5, bsm]
    exact L_builds hC
  rw [if_neg d21]
  by_cases d22 : (xs k.toNat &&& (31 : Int32)) = (22 : Int32)
  · rw [if_pos d22]
    simp only [hx1, hx2, hx3, hx4, h5, bsm]
    exact L_twigs hC
  rw [if_neg d22]
  by_cases d23 : (xs k.toNat &&& (31 : Int32)) = (23 : Int32)
  · rw [if_pos d23]
    simp only [hx1, hx2, hx3, hx4, h5, bsm]
    exact L_why hC
  rw [if_neg d23]
  by_cases d24 : (xs k.toNat &&& (31 : Int32)) = (24 : Int32)
  · rw [if_pos d24]
    simp only [hx1, hx2, hx3, hx4, h5, bsm]
    exact L_shown hC
  rw [if_neg d24]
  by_cases d25 : (xs k.toNat &&& (31 : Int32)) = (25 : Int32)
  · rw [if_pos d25]
    simp only [hx1, hx2, hx3, hx4, h5, bsm]
    exact L_back hC
  rw [if_neg d25]
  by_cases d26 : (xs k.toNat &&& (31 : Int32)) = (26 : Int32)
  · rw [if_pos d26]
    simp only [hx1, hx2, hx3, hx4, h5, bsm]
    exact L_told hC
  rw [if_neg d26]
  by_cases d27 : (xs k.toNat &&& (31 : Int32)) = (27 : Int32)
  · rw [if_pos d27]
    simp only [hx1, hx2, hx3, hx4, h5, bsm]
    exact L_digest hC
  rw [if_neg d27]
  rw [h5]
  exact Ok.pure ⟨m, X, rfl, hC⟩
end LAW
