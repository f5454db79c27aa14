/-! ===== the class's matcher: its rows, the tree and the twig that it looks at ===== -/
section MR
variable {m : Mm} {a : Nat} {F : Nat → Int} {A : Nat → Int → Int}
theorem lt6 {q : Int} (h0 : 0 ≤ q) (h1 : q < 6) : ∃ k : Nat, q = k ∧ (k = 0 ∨ k = 1 ∨ k = 2 ∨ k = 3 ∨ k = 4 ∨ k = 5) := ⟨q.toNat, by omega, by omega⟩
theorem r_lW (hl : a + 31 < m.length) {q e : Int} (q0 : 0 ≤ q) (q1 : q < 6) (e0 : 0 ≤ e) (e1 : e < 32) : lJ (ov m a (o1 a F A)) (a + 2 + 1 + q.toNat) (I e) = some (J (A (3 + q.toNat) e)) := by
  obtain ⟨k, rfl, rfl | rfl | rfl | rfl | rfl | rfl⟩ := lt6 q0 q1
  · exact o1_l3 hl e0 e1
  · exact o1_l4 hl e0 e1
  · exact o1_l5 hl e0 e1
  · exact o1_l6 hl e0 e1
  · exact o1_l7 hl e0 e1
  · exact o1_l8 hl e0 e1
theorem r_sW (hl : a + 31 < m.length) {q e v : Int} (q0 : 0 ≤ q) (q1 : q < 6) (e0 : 0 ≤ e) (e1 : e < 32) : sJ (ov m a (o1 a F A)) (a + 2 + 1 + q.toNat) (I e) (J v) = some (ov m a (o1 a F (upN A (3 + q.toNat) (upZ (A (3 + q.toNat)) e v)))) := by
  obtain ⟨k, rfl, rfl | rfl | rfl | rfl | rfl | rfl⟩ := lt6 q0 q1
  · exact o1_s3 hl e0 e1
  · exact o1_s4 hl e0 e1
  · exact o1_s5 hl e0 e1
  · exact o1_s6 hl e0 e1
  · exact o1_s7 hl e0 e1
  · exact o1_s8 hl e0 e1
theorem r_lT (hl : a + 31 < m.length) {q e : Int} (q0 : 0 ≤ q) (q1 : q < 6) (e0 : 0 ≤ e) (e1 : e < 33) : lJ (ov m a (o1 a F A)) (a + 9 + 1 + q.toNat) (I e) = some (J (A (10 + q.toNat) e)) := by
  obtain ⟨k, rfl, rfl | rfl | rfl | rfl | rfl | rfl⟩ := lt6 q0 q1
  · exact o1_l10 hl e0 e1
  · exact o1_l11 hl e0 e1
  · exact o1_l12 hl e0 e1
  · exact o1_l13 hl e0 e1
  · exact o1_l14 hl e0 e1
  · exact o1_l15 hl e0 e1
theorem r_sT (hl : a + 31 < m.length) {q e v : Int} (q0 : 0 ≤ q) (q1 : q < 6) (e0 : 0 ≤ e) (e1 : e < 33) : sJ (ov m a (o1 a F A)) (a + 9 + 1 + q.toNat) (I e) (J v) = some (ov m a (o1 a F (upN A (10 + q.toNat) (upZ (A (10 + q.toNat)) e v)))) := by
  obtain ⟨k, rfl, rfl | rfl | rfl | rfl | rfl | rfl⟩ := lt6 q0 q1
  · exact o1_s10 hl e0 e1
  · exact o1_s11 hl e0 e1
  · exact o1_s12 hl e0 e1
  · exact o1_s13 hl e0 e1
  · exact o1_s14 hl e0 e1
  · exact o1_s15 hl e0 e1
theorem r_lH (hl : a + 31 < m.length) {q e : Int} (q0 : 0 ≤ q) (q1 : q < 6) (e0 : 0 ≤ e) (e1 : e < 33) : lJ (ov m a (o1 a F A)) (a + 16 + 1 + q.toNat) (I e) = some (J (A (17 + q.toNat) e)) := by
  obtain ⟨k, rfl, rfl | rfl | rfl | rfl | rfl | rfl⟩ := lt6 q0 q1
  · exact o1_l17 hl e0 e1
  · exact o1_l18 hl e0 e1
  · exact o1_l19 hl e0 e1
  · exact o1_l20 hl e0 e1
  · exact o1_l21 hl e0 e1
  · exact o1_l22 hl e0 e1
theorem r_sH (hl : a + 31 < m.length) {q e v : Int} (q0 : 0 ≤ q) (q1 : q < 6) (e0 : 0 ≤ e) (e1 : e < 33) : sJ (ov m a (o1 a F A)) (a + 16 + 1 + q.toNat) (I e) (J v) = some (ov m a (o1 a F (upN A (17 + q.toNat) (upZ (A (17 + q.toNat)) e v)))) := by
  obtain ⟨k, rfl, rfl | rfl | rfl | rfl | rfl | rfl⟩ := lt6 q0 q1
  · exact o1_s17 hl e0 e1
  · exact o1_s18 hl e0 e1
  · exact o1_s19 hl e0 e1
  · exact o1_s20 hl e0 e1
  · exact o1_s21 hl e0 e1
  · exact o1_s22 hl e0 e1
theorem r_lP (hl : a + 31 < m.length) {q e : Int} (q0 : 0 ≤ q) (q1 : q < 6) (e0 : 0 ≤ e) (e1 : e < 32) : lJ (ov m a (o1 a F A)) (a + 23 + 1 + q.toNat) (I e) = some (J (A (24 + q.toNat) e)) := by
  obtain ⟨k, rfl, rfl | rfl | rfl | rfl | rfl | rfl⟩ := lt6 q0 q1
  · exact o1_l24 hl e0 e1
  · exact o1_l25 hl e0 e1
  · exact o1_l26 hl e0 e1
  · exact o1_l27 hl e0 e1
  · exact o1_l28 hl e0 e1
  · exact o1_l29 hl e0 e1
theorem r_sP (hl : a + 31 < m.length) {q e v : Int} (q0 : 0 ≤ q) (q1 : q < 6) (e0 : 0 ≤ e) (e1 : e < 32) : sJ (ov m a (o1 a F A)) (a + 23 + 1 + q.toNat) (I e) (J v) = some (ov m a (o1 a F (upN A (24 + q.toNat) (upZ (A (24 + q.toNat)) e v)))) := by
  obtain ⟨k, rfl, rfl | rfl | rfl | rfl | rfl | rfl⟩ := lt6 q0 q1
  · exact o1_s24 hl e0 e1
  · exact o1_s25 hl e0 e1
  · exact o1_s26 hl e0 e1
  · exact o1_s27 hl e0 e1
  · exact o1_s28 hl e0 e1
  · exact o1_s29 hl e0 e1
end MR
/-- the matcher at 53 looks at the tree at 2 and at the twig at w -/
def KX (m : Mm) (F : Nat → Int) (w : Nat) (n : Int) (tg vl lv : Int → Int) (Q : Int) (nd : Int → Int → Int) : Prop := 53 + 31 < m.length ∧ F 0 = 2 ∧ F 1 = w ∧ w + 6 < 53 ∧ (∃ Ft At', At m 2 (o4 2 Ft At') ∧ TR Ft At' n tg vl lv) ∧ ∃ Fw Aw, At m w (o5 w Fw Aw) ∧ WR Fw Aw Q nd
section KXS
variable {m : Mm} {F : Nat → Int} {A : Nat → Int → Int} {w : Nat} {n : Int} {tg vl lv : Int → Int} {Q : Int} {nd : Int → Int → Int}
theorem KX.g0 (K : KX m F w n tg vl lv Q nd) : gR (ov m 53 (o1 53 F A)) 53 1 0 = some 2 := by rw [o1_g0 K.1, K.2.1]; rfl
theorem KX.g1 (K : KX m F w n tg vl lv Q nd) : gR (ov m 53 (o1 53 F A)) 53 1 1 = some w := by rw [o1_g1 K.1, K.2.2.1]; rfl
theorem KX.T (K : KX m F w n tg vl lv Q nd) : ∃ Ft At', (∀ A, At (ov m 53 (o1 53 F A)) 2 (o4 2 Ft At')) ∧ TR Ft At' n tg vl lv := by
  obtain ⟨k1, k2, k3, k4, ⟨Ft, At', h1, h2⟩, -⟩ := K
  exact ⟨Ft, At', fun A => h1.keep (fun off h => o1_N off h) (fun off h => o4_N off h) (by omega), h2⟩
theorem KX.W (K : KX m F w n tg vl lv Q nd) : ∃ Fw Aw, (∀ A, At (ov m 53 (o1 53 F A)) w (o5 w Fw Aw)) ∧ WR Fw Aw Q nd := by
  obtain ⟨k1, k2, k3, k4, -, Fw, Aw, h1, h2⟩ := K
  exact ⟨Fw, Aw, fun A => h1.keep (fun off h => o1_N off h) (fun off h => o5_N off h) (by omega), h2⟩
end KXS
