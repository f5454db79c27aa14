/-! ===== a twig's shape: depths, ends, next and previous branches ===== -/
theorem Ok.eq {α : Type} {x : Option α} {v : α} (h : Ok x (fun r => r = v)) : x = some v := by
  obtain ⟨a, h1, rfl⟩ := h
  exact h1
def dpN (ab : Int → Int) : Nat → Int → Int
  | 0, _ => 0
  | k + 1, q => if q < 0 then 0 else dpN ab k (ab q) + 1
theorem dpN_st {ab : Int → Int} {Q : Int} (h : ∀ q, 0 ≤ q → q < Q → -1 ≤ ab q ∧ ab q < q) : ∀ (k k' : Nat) (q : Int), -1 ≤ q → q < Q → q + 1 ≤ k → q + 1 ≤ k' → dpN ab k q = dpN ab k' q := by
  intro k
  induction k with
  | zero =>
    intro k' q q0 q1 h1 h2
    cases k' with
    | zero => rfl
    | succ k' => unfold dpN; rw [if_pos (by omega)]
  | succ k ih =>
    intro k' q q0 q1 h1 h2
    cases k' with
    | zero => unfold dpN; rw [if_pos (by omega)]
    | succ k' =>
      unfold dpN
      by_cases c : q < 0
      · rw [if_pos c, if_pos c]
      · have := h q (by omega) q1
        rw [if_neg c, if_neg c, ih k' (ab q) (by omega) (by omega) (by omega) (by omega)]
/-- how deep a node lies -/
def lw (nd : Int → Int → Int) (q : Int) : Int := dpN (fun q => nd q 5) (q + 1).toNat q
theorem WW.ab {Q : Int} {nd : Int → Int → Int} (h : WW Q nd) {q : Int} (h0 : 0 ≤ q) (h1 : q < Q) : -1 ≤ nd q 5 ∧ nd q 5 < q := (h.2.2 q h0 h1).2.2.2.2.2.1
theorem lw_m (nd : Int → Int → Int) {q : Int} (h : q < 0) : lw nd q = 0 := by
  unfold lw
  rw [show (q + 1).toNat = 0 by omega]
  rfl
theorem lw_eq {Q : Int} {nd : Int → Int → Int} (h : WW Q nd) {q : Int} (h0 : 0 ≤ q) (h1 : q < Q) : lw nd q = lw nd (nd q 5) + 1 := by
  have hab := h.ab h0 h1
  unfold lw
  rw [show (q + 1).toNat = q.toNat + 1 by omega]
  conv => lhs; unfold dpN
  rw [if_neg (by omega)]
  rw [dpN_st (fun q q0 q1 => h.ab q0 q1) q.toNat (nd q 5 + 1).toNat (nd q 5) (by omega) (by omega) (by omega) (by omega)]
theorem lw_in {Q : Int} {nd : Int → Int → Int} (h : WW Q nd) {q : Int} (h0 : 0 < q) (h1 : q < Q) : ∀ j, nd q 5 < j → j < q → lw nd (nd q 5) < lw nd j := by
  have hab := h.ab (show 0 ≤ q by omega) h1
  obtain ⟨-, b0, b1, -⟩ := (h.2.2 q (by omega) h1).2.2.2.2.2.2.2 h0
  have key : ∀ k : Nat, ∀ j : Int, j.toNat ≤ k → nd q 5 < j → j < q → lw nd (nd q 5) < lw nd j := by
    intro k
    induction k with
    | zero => intro j hj j0 j1; omega
    | succ k ih =>
      intro j hj j0 j1
      have h2 := b1 j j0 j1
      have h3 := h.ab (show 0 ≤ j by omega) (by omega)
      rw [lw_eq h (show 0 ≤ j by omega) (by omega)]
      by_cases c : nd j 5 = nd q 5
      · rw [c]; omega
      · have := ih (nd j 5) (by omega) (by omega) (by omega); omega
  exact fun j j0 j1 => key j.toNat j (Nat.le_refl _) j0 j1
theorem lw_pr {Q : Int} {nd : Int → Int → Int} (h : WW Q nd) {q : Int} (h0 : 0 ≤ q) (h1 : q < Q) : prF (lw nd) q = nd q 5 := by
  have hab := h.ab h0 h1
  have he := lw_eq h h0 h1
  refine prF_uniq h0 hab.1 hab.2 (fun _ => by omega) (fun j j0 j1 j2 => ?_)
  have := lw_in h (q := q) (by omega) h1 j j0 j1
  omega
theorem lw_wl {Q : Int} {nd : Int → Int → Int} (h : WW Q nd) (hQ : 1 ≤ Q) : WL Q (lw nd) := by
  have h6 := h.2.1
  have h00 : nd 0 5 = -1 := by have := h.ab (q := 0) (by omega) (by omega); omega
  have l0 : lw nd 0 = 1 := by rw [lw_eq h (by omega) (by omega), h00, lw_m nd (by omega)]; rfl
  have hle : ∀ k : Nat, ∀ q : Int, q.toNat ≤ k → 0 ≤ q → q < Q → 1 ≤ lw nd q ∧ lw nd q ≤ q + 1 := by
    intro k
    induction k with
    | zero => intro q q0 q1 q2; obtain rfl : q = 0 := by omega
              omega
    | succ k ih =>
      intro q q0 q1 q2
      by_cases c : q = 0
      · subst c; omega
      · have hab := h.ab q1 q2
        obtain ⟨-, b0, -, -⟩ := (h.2.2 q (by omega) q2).2.2.2.2.2.2.2 (by omega)
        have := ih (nd q 5) (by omega) b0 (by omega)
        rw [lw_eq h q1 q2]; omega
  refine ⟨hQ, by omega, l0, fun k k0 k1 => ?_, fun k k0 k1 => by have := (hle k.toNat k (Nat.le_refl _) k0 k1).2; omega⟩
  have hab := h.ab (show 0 ≤ k by omega) k1
  obtain ⟨-, b0, -, -⟩ := (h.2.2 k (by omega) k1).2.2.2.2.2.2.2 k0
  have h1 := (hle (nd k 5).toNat (nd k 5) (Nat.le_refl _) b0 (by omega)).1
  have he := lw_eq h (show 0 ≤ k by omega) k1
  refine ⟨by omega, ?_⟩
  by_cases c : nd k 5 = k - 1
  · rw [c] at he; omega
  · have := lw_in h k0 k1 (k - 1) (by omega) (by omega)
    omega
/-- the node behind all below q -/
def eW (Q : Int) (nd : Int → Int → Int) (q : Int) : Int := enF Q (lw nd) q
theorem eW_in {Q : Int} {nd : Int → Int → Int} {q : Int} (h1 : q < Q) : q < eW Q nd q ∧ eW Q nd q ≤ Q := by
  obtain ⟨r1, r2, -, -⟩ := enF_spec (lw nd) h1
  exact ⟨r1, r2⟩
/-- below q lie the nodes whose 'of' is q or behind it -/
theorem eW_ab {Q : Int} {nd : Int → Int → Int} (h : WW Q nd) {q : Int} (h0 : 0 ≤ q) (h1 : q < Q) : (∀ k, q < k → k < eW Q nd q → q ≤ nd k 5) ∧ (eW Q nd q < Q → nd (eW Q nd q) 5 < q) := by
  obtain ⟨r1, r2, r3, r4⟩ := enF_spec (lw nd) h1
  constructor
  · intro k k0 k1
    unfold eW at k1
    have hp := lw_pr h (show 0 ≤ k by omega) (by omega)
    obtain ⟨g1, g2, g3, g4⟩ := prF_spec (lw nd) (show 0 ≤ k by omega)
    rw [hp] at g1 g2 g3 g4
    by_cases c : q ≤ nd k 5
    · exact c
    · have := g4 q (by omega) k0 h0
      have := r4 k k0 k1
      omega
  · intro k1
    unfold eW at *
    have h2 := r3 k1
    have hp := lw_pr h (show 0 ≤ enF Q (lw nd) q by omega) k1
    obtain ⟨g1, g2, g3, g4⟩ := prF_spec (lw nd) (show 0 ≤ enF Q (lw nd) q by omega)
    rw [hp] at g1 g2 g3 g4
    by_cases c : nd (enF Q (lw nd) q) 5 < q
    · exact c
    · exfalso
      have h3 := g3 (by omega)
      by_cases z : nd (enF Q (lw nd) q) 5 = q
      · rw [z] at h3; omega
      · have := r4 _ (by omega) g2; omega
theorem eW_uniq {Q : Int} {nd : Int → Int → Int} (h : WW Q nd) {q r : Int} (h0 : 0 ≤ q) (h1 : q < Q) (h2 : q < r) (h3 : r ≤ Q) (h4 : ∀ k, q < k → k < r → q ≤ nd k 5) (h5 : r < Q → nd r 5 < q) : eW Q nd q = r := by
  obtain ⟨a1, a2⟩ := eW_ab h h0 h1
  obtain ⟨b1, b2⟩ := eW_in (nd := nd) h1
  by_cases c1 : eW Q nd q < r
  · have := h4 _ b1 c1; have := a2 (by omega); omega
  · by_cases c2 : r < eW Q nd q
    · have := a1 r h2 c2; have := h5 (by omega); omega
    · omega
/-- the next branch of the same node -/
def nxF (Q : Int) (nd : Int → Int → Int) (q : Int) : Int := if 0 < q ∧ eW Q nd q < eW Q nd (nd q 5) then eW Q nd q else -1
theorem eW_nest {Q : Int} {nd : Int → Int → Int} (h : WW Q nd) {q : Int} (h0 : 0 < q) (h1 : q < Q) : q < eW Q nd (nd q 5) ∧ eW Q nd q ≤ eW Q nd (nd q 5) := by
  have hab := h.ab (show 0 ≤ q by omega) h1
  obtain ⟨-, b0, -, -⟩ := (h.2.2 q (by omega) h1).2.2.2.2.2.2.2 h0
  have hw := lw_wl h (show 1 ≤ Q by omega)
  have hi := (pr_iff hw b0 (by omega) (show 0 ≤ q by omega) h1).mp (lw_pr h (by omega) h1)
  exact ⟨hi.2.1, en_le (by omega) hi.1 hi.2.1⟩
theorem nx_some {Q : Int} {nd : Int → Int → Int} (h : WW Q nd) {q : Int} (h0 : 0 ≤ q) (h1 : q < Q) (hn : nxF Q nd q ≠ -1) : 0 < q ∧ nxF Q nd q = eW Q nd q ∧ q < nxF Q nd q ∧ nxF Q nd q < Q ∧ nd (nxF Q nd q) 5 = nd q 5 ∧ nxF Q nd q < eW Q nd (nd q 5) := by
  unfold nxF at *
  by_cases c : 0 < q ∧ eW Q nd q < eW Q nd (nd q 5)
  · rw [if_pos c] at *
    obtain ⟨c1, c2⟩ := c
    have hab := h.ab h0 h1
    obtain ⟨-, b0, -, -⟩ := (h.2.2 q (by omega) h1).2.2.2.2.2.2.2 c1
    obtain ⟨d1, d2⟩ := eW_in (nd := nd) h1
    obtain ⟨d3, d4⟩ := eW_in (Q := Q) (nd := nd) (q := nd q 5) (by omega)
    have hw := lw_wl h (show 1 ≤ Q by omega)
    have hi := (pr_iff hw b0 (by omega) h0 h1).mp (lw_pr h h0 h1)
    have hs := sib (lv := lw nd) (n := Q) (by omega) hi.1 hi.2.1 hi.2.2 c2
    have := (pr_iff hw b0 (by omega) (show 0 ≤ eW Q nd q by omega) (by omega)).mpr ⟨by omega, c2, hs⟩
    rw [lw_pr h (by omega) (by omega)] at this
    exact ⟨c1, rfl, d1, by omega, this, c2⟩
  · rw [if_neg c] at hn; exact absurd rfl hn
theorem nx_none {Q : Int} {nd : Int → Int → Int} (h : WW Q nd) {q : Int} (h0 : 0 ≤ q) (h1 : q < Q) (hn : nxF Q nd q = -1) : q = 0 ∨ (0 < q ∧ eW Q nd q = eW Q nd (nd q 5)) := by
  by_cases c1 : q = 0
  · exact Or.inl c1
  · right
    unfold nxF at hn
    by_cases c : 0 < q ∧ eW Q nd q < eW Q nd (nd q 5)
    · rw [if_pos c] at hn
      have := (eW_in (nd := nd) h1).1
      omega
    · have := (eW_nest h (show 0 < q by omega) h1).2
      exact ⟨by omega, by omega⟩
theorem eW_0 {Q : Int} {nd : Int → Int → Int} (h : WW Q nd) (h1 : 0 < Q) : eW Q nd 0 = Q := by
  refine eW_uniq h (by omega) h1 h1 (by omega) (fun k k0 k1 => ?_) (fun q => by omega)
  exact ((h.2.2 k (by omega) k1).2.2.2.2.2.2.2 k0).2.1
/-- a branch of the same node lies before it or behind all below it -/
theorem br_out {Q : Int} {nd : Int → Int → Int} (h : WW Q nd) {q k : Int} (h0 : 0 ≤ q) (h1 : q < Q) (h2 : q < k) (h3 : k < Q) (h4 : nd k 5 = nd q 5) : 0 < q ∧ eW Q nd q ≤ k ∧ k < eW Q nd (nd q 5) := by
  have hab := h.ab h0 h1
  obtain ⟨-, b0, -, -⟩ := (h.2.2 k (by omega) h3).2.2.2.2.2.2.2 (by omega)
  have hn := eW_nest h (show 0 < k by omega) h3
  rw [h4] at hn
  refine ⟨by omega, ?_, hn.1⟩
  by_cases c : k < eW Q nd q
  · have := (eW_ab h h0 h1).1 k h2 c; omega
  · omega
/-- the branch of the same node before -/
def pvF (nd : Int → Int → Int) (q : Int) : Int := dnS (fun r => decide (nd r 5 = nd q 5)) q.toNat
theorem pv_spec (nd : Int → Int → Int) {q : Int} (h0 : 0 ≤ q) : -1 ≤ pvF nd q ∧ pvF nd q < q ∧ (0 ≤ pvF nd q → nd (pvF nd q) 5 = nd q 5) ∧ ∀ j, pvF nd q < j → j < q → 0 ≤ j → nd j 5 ≠ nd q 5 := by
  obtain ⟨a1, a2, a3, a4⟩ := dnS_spec (fun r => decide (nd r 5 = nd q 5)) q.toNat
  exact ⟨a1, by unfold pvF; omega, fun h => of_decide_eq_true (a3 h), fun j j0 j1 j2 => of_decide_eq_false (a4 j j0 (by omega) j2)⟩
theorem pv_some {Q : Int} {nd : Int → Int → Int} (h : WW Q nd) {q : Int} (h0 : 0 ≤ q) (h1 : q < Q) (hn : pvF nd q ≠ -1) : 0 < pvF nd q ∧ pvF nd q < q ∧ nd (pvF nd q) 5 = nd q 5 ∧ nxF Q nd (pvF nd q) = q := by
  obtain ⟨a1, a2, a3, a4⟩ := pv_spec nd h0
  have a5 := a3 (by omega)
  have hb := br_out h (show 0 ≤ pvF nd q by omega) (by omega) a2 h1 a5.symm
  refine ⟨hb.1, a2, a5, ?_⟩
  have hne : nxF Q nd (pvF nd q) ≠ -1 := by
    unfold nxF; rw [if_pos ⟨hb.1, by omega⟩]; have := (eW_in (Q := Q) (nd := nd) (q := pvF nd q) (by omega)).1; omega
  obtain ⟨c1, c2, c3, c4, c5, c6⟩ := nx_some h (q := pvF nd q) (by omega) (by omega) hne
  by_cases z : nxF Q nd (pvF nd q) = q
  · exact z
  · have := a4 (nxF Q nd (pvF nd q)) c3 (by omega) (by omega)
    rw [c5, a5] at this
    exact absurd rfl this
theorem pv_none {Q : Int} {nd : Int → Int → Int} (h : WW Q nd) {q : Int} (h0 : 0 ≤ q) (h1 : q < Q) (hn : pvF nd q = -1) : nd q 5 = q - 1 := by
  obtain ⟨a1, a2, a3, a4⟩ := pv_spec nd h0
  have hab := h.ab h0 h1
  by_cases c : nd q 5 = q - 1
  · exact c
  · exfalso
    have hn1 := eW_nest h (show 0 < q by omega) h1
    obtain ⟨-, b0, b1, -⟩ := (h.2.2 q (by omega) h1).2.2.2.2.2.2.2 (by omega)
    have hw := lw_wl h (show 1 ≤ Q by omega)
    have hf := first_child hw b0 (by omega) (show nd q 5 + 1 < enF Q (lw nd) (nd q 5) by have := hn1.1; unfold eW at this; omega)
    have := (pr_iff hw b0 (by omega) (show 0 ≤ nd q 5 + 1 by omega) (by omega)).mpr ⟨by omega, by have := hn1.1; unfold eW at this; omega, hf⟩
    rw [lw_pr h (by omega) (by omega)] at this
    exact a4 (nd q 5 + 1) (by omega) (by omega) (by omega) this
theorem pv_first {Q : Int} {nd : Int → Int → Int} (h : WW Q nd) {q : Int} (h0 : 0 ≤ q) (h1 : q < Q) (hn : nd q 5 = q - 1) : pvF nd q = -1 := by
  by_cases c : pvF nd q = -1
  · exact c
  · obtain ⟨c1, c2, c3, -⟩ := pv_some h h0 h1 c
    have := h.ab (show 0 ≤ pvF nd q by omega) (by omega)
    omega
theorem nx_pv {Q : Int} {nd : Int → Int → Int} (h : WW Q nd) {q : Int} (h0 : 0 ≤ q) (h1 : q < Q) (hn : nxF Q nd q ≠ -1) : pvF nd (nxF Q nd q) = q := by
  obtain ⟨c1, c2, c3, c4, c5, c6⟩ := nx_some h h0 h1 hn
  obtain ⟨a1, a2, a3, a4⟩ := pv_spec nd (q := nxF Q nd q) (by omega)
  by_cases z : pvF nd (nxF Q nd q) = q
  · exact z
  · by_cases z2 : q < pvF nd (nxF Q nd q)
    · have e1 := a3 (by omega)
      have := br_out h h0 h1 z2 (by omega) (by omega)
      omega
    · exact absurd c5.symm (a4 q (by omega) c3 h0)
