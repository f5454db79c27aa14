/-! ===== what adding, removing and moving does to levels ===== -/
theorem WL_ins {n : Int} {lv : Int → Int} (h : WL n lv) (hn : n < 32) {t at_ p : Int} (h0 : 0 ≤ t) (h1 : t < n) (h10 : lv t < 10) (hs : Spot n lv t at_ p) : WL (n + 1) (insZ lv p (lv t + 1)) := by
  obtain ⟨r1, r2, r3, r4⟩ := enF_spec lv h1
  obtain ⟨s1, s2, s3, s4⟩ := hs
  have hg := h.ge1 h0 h1
  refine ⟨by omega, by omega, ?_, fun k k0 k1 => ?_, fun k k0 k1 => ?_⟩
  · unfold insZ
    rw [if_pos (by omega)]
    exact h.2.2.1
  · unfold insZ
    by_cases c1 : k < p
    · rw [if_pos c1, if_pos (by omega)]
      exact h.2.2.2.1 k k0 (by omega)
    · by_cases c2 : k = p
      · subst c2
        rw [if_neg c1, if_pos rfl, if_pos (by omega)]
        by_cases c3 : k - 1 = t
        · rw [c3]; omega
        · have := r4 (k - 1) (by omega) (by omega); omega
      · rw [if_neg c1, if_neg c2, if_neg (by omega)]
        by_cases c3 : k - 1 = p
        · rw [if_pos c3]
          have hk := h.2.2.2.1 (k - 1) (by omega) (by omega)
          refine ⟨hk.1, ?_⟩
          by_cases c4 : p < enF n lv t
          · have := s4 c4; rw [c3]; omega
          · have : p = enF n lv t := by omega
            have := r3 (by omega)
            rw [c3]; rw [← ‹p = enF n lv t›] at this; omega
        · rw [if_neg c3]
          exact h.2.2.2.1 (k - 1) (by omega) (by omega)
  · unfold insZ
    by_cases c1 : k < p
    · rw [if_pos c1]; exact (h.ge1 k0 (by omega)).2
    · by_cases c2 : k = p
      · rw [if_neg c1, if_pos c2]; omega
      · rw [if_neg c1, if_neg c2]; exact (h.ge1 (by omega) (by omega)).2
theorem WL_del {n : Int} {lv : Int → Int} (h : WL n lv) {e : Int} (h0 : 0 < e) (h1 : e < n) : WL (n - (enF n lv e - e)) (delZ lv e (enF n lv e - e)) := by
  obtain ⟨r1, r2, r3, r4⟩ := enF_spec lv h1
  have hn := h.2.1
  refine ⟨by omega, by omega, ?_, fun k k0 k1 => ?_, fun k k0 k1 => ?_⟩
  · unfold delZ
    rw [if_pos h0]
    exact h.2.2.1
  · unfold delZ
    by_cases c1 : k < e
    · rw [if_pos c1, if_pos (by omega)]
      exact h.2.2.2.1 k k0 (by omega)
    · rw [if_neg c1]
      have hk := h.2.2.2.1 (k + (enF n lv e - e)) (by omega) (by omega)
      by_cases c2 : k = e
      · subst c2
        rw [if_pos (by omega)]
        refine ⟨hk.1, ?_⟩
        rw [show k + (enF n lv k - k) = enF n lv k by omega]
        have a := r3 (by omega)
        have b := (h.2.2.2.1 k h0 h1).2
        omega
      · rw [if_neg (by omega), show k - 1 + (enF n lv e - e) = k + (enF n lv e - e) - 1 by omega]
        exact hk
  · unfold delZ
    by_cases c1 : k < e
    · rw [if_pos c1]; exact (h.ge1 k0 (by omega)).2
    · rw [if_neg c1]; exact (h.ge1 (by omega) (by omega)).2
/-- the end of t in the tree without e and what is below it -/
theorem en_del {n : Int} {lv : Int → Int} {e t : Int} (h1 : e < n) (ht0 : 0 ≤ t) (ht1 : t < n) (hte : t < e ∨ enF n lv e ≤ t) (he0 : 0 < e) :
    delZ lv e (enF n lv e - e) (if e < t then t - (enF n lv e - e) else t) = lv t ∧
    enF (n - (enF n lv e - e)) (delZ lv e (enF n lv e - e)) (if e < t then t - (enF n lv e - e) else t) = (if e < enF n lv t then enF n lv t - (enF n lv e - e) else enF n lv t) ∧
    (enF n lv t ≤ e ∨ enF n lv e ≤ enF n lv t) := by
  obtain ⟨r1, r2, r3, r4⟩ := enF_spec lv h1
  obtain ⟨q1, q2, q3, q4⟩ := enF_spec lv ht1
  have hlam : enF n lv t ≤ e ∨ enF n lv e ≤ enF n lv t := by
    rcases hte with q | q
    · by_cases c : enF n lv t ≤ e
      · exact Or.inl c
      · exact Or.inr (en_le ht1 q (by omega))
    · right; omega
  generalize hS : enF n lv e - e = s at *
  have hD : delZ lv e s (if e < t then t - s else t) = lv t := by
    unfold delZ
    rcases hte with q | q
    · rw [if_neg (show ¬ e < t by omega), if_pos q]
    · rw [if_pos (show e < t by omega), if_neg (by omega), show t - s + s = t by omega]
  refine ⟨hD, ?_, hlam⟩
  refine enF_uniq ?_ ?_ ?_ ?_ ?_
  · split <;> omega
  · split <;> split <;> omega
  · split <;> omega
  · intro hlt
    rw [hD]
    unfold delZ
    by_cases c1 : e < enF n lv t
    · rw [if_pos c1] at hlt ⊢
      rw [if_neg (by omega), show enF n lv t - s + s = enF n lv t by omega]
      exact q3 (by omega)
    · rw [if_neg c1] at hlt ⊢
      by_cases c2 : enF n lv t < e
      · rw [if_pos c2]; exact q3 (by omega)
      · have c3 : enF n lv t = e := by omega
        rw [if_neg c2, c3, show e + s = enF n lv e by omega]
        have a := r3 (by omega)
        have b := q3 (by omega)
        rw [c3] at b
        omega
  · intro j j1 j2
    rw [hD]
    unfold delZ
    by_cases c1 : j < e
    · rw [if_pos c1]
      refine q4 j ?_ ?_
      · split at j1 <;> omega
      · split at j2 <;> omega
    · rw [if_neg c1]
      refine q4 (j + s) ?_ ?_
      · split at j1 <;> omega
      · split at j2
        · omega
        · omega
/-- where the class puts a moved element is the spot in the tree without it -/
theorem move_spot {n : Int} {lv : Int → Int} (hw : WL n lv) {e t at_ p : Int} (he0 : 0 < e) (h1 : e < n) (ht0 : 0 ≤ t) (ht1 : t < n) (hte : t < e ∨ enF n lv e ≤ t) (hp1 : t < p) (hp2 : p ≤ enF n lv t) (hc : Sm (fun g => ind (lv g = lv t + 1 ∧ g ≠ e)) (t + 1) p = at_) (hb : p = t + 1 ∨ ∃ c, t < c ∧ c < enF n lv t ∧ lv c = lv t + 1 ∧ p = enF n lv c) :
    Spot (n - (enF n lv e - e)) (delZ lv e (enF n lv e - e)) (if e < t then t - (enF n lv e - e) else t) at_ (if e < p then p - (enF n lv e - e) else p) ∧ (p ≤ e ∨ enF n lv e ≤ p) := by
  obtain ⟨r1, r2, r3, r4⟩ := enF_spec lv h1
  obtain ⟨q1, q2, q3, q4⟩ := enF_spec lv ht1
  obtain ⟨d1, d2, d3⟩ := en_del h1 ht0 ht1 hte he0
  -- p isn't within the moved part
  have hpo : p ≤ e ∨ enF n lv e ≤ p := by
    rcases hb with rfl | ⟨c, c1, c2, c3, rfl⟩
    · rcases hte with q | q <;> omega
    · by_cases cc : c < e
      · by_cases ce : enF n lv c ≤ e
        · exact Or.inl ce
        · exact Or.inr (en_le (show c < n by omega) cc (by omega))
      · by_cases ce : c = e
        · subst ce; right; omega
        · by_cases cr : c < enF n lv e
          · have a := r4 c (by omega) cr
            have b : t < e := by rcases hte with q | q <;> omega
            have d := q4 e b (by omega)
            omega
          · right
            have := (enF_spec lv (show c < n by omega)).1
            omega
  refine ⟨?_, hpo⟩
  generalize hS : enF n lv e - e = s at *
  refine ⟨?_, ?_, ?_, fun hlt => ?_⟩
  · rcases hte with q | q
    · rw [if_neg (show ¬ e < t by omega)]; split <;> omega
    · rw [if_pos (show e < t by omega), if_pos (by omega)]; omega
  · rw [d2]; split <;> split <;> omega
  · rw [d1]
    rcases hte with q | q
    · rw [if_neg (show ¬ e < t by omega)]
      by_cases c1 : e < p
      · rw [if_pos c1]
        have c2 : enF n lv e ≤ p := by omega
        have he := q4 e q (by omega)
        rw [← hc, Sm_split (lo := t + 1) (mid := e) (hi := p) (by omega) (by omega), Sm_split (lo := e) (mid := enF n lv e) (hi := p) (by omega) c2, Sm_split (lo := t + 1) (mid := e) (hi := p - s) (by omega) (by omega)]
        rw [Sm_zero (lo := e) (hi := enF n lv e) (f := fun g => ind (lv g = lv t + 1 ∧ g ≠ e)) (fun k k1 k2 => ind_f (fun z => by have := r4 k (by omega) k2; omega))]
        have a1 : Sm (fun g => ind (delZ lv e s g = lv t + 1)) (t + 1) e = Sm (fun g => ind (lv g = lv t + 1 ∧ g ≠ e)) (t + 1) e := Sm_congr (fun k k1 k2 => ind_congr (by unfold delZ; rw [if_pos k2]; omega))
        have a2 : Sm (fun g => ind (delZ lv e s g = lv t + 1)) e (p - s) = Sm (fun g => ind (lv g = lv t + 1 ∧ g ≠ e)) (enF n lv e) p := by
          have := Sm_shift (f := fun g => ind (lv g = lv t + 1 ∧ g ≠ e)) (lo := e) (hi := p - s) (d := s)
          rw [show e + s = enF n lv e by omega, show p - s + s = p by omega] at this
          rw [← this]
          exact Sm_congr (fun k k1 k2 => ind_congr (by unfold delZ; rw [if_neg (by omega)]; omega))
        rw [a1, a2]
        omega
      · rw [if_neg c1, ← hc]
        exact Sm_congr (fun k k1 k2 => ind_congr (by unfold delZ; rw [if_pos (by omega)]; omega))
    · rw [if_pos (show e < t by omega), if_pos (show e < p by omega), ← hc]
      have := Sm_shift (f := fun g => ind (lv g = lv t + 1 ∧ g ≠ e)) (lo := t - s + 1) (hi := p - s) (d := s)
      rw [show t - s + 1 + s = t + 1 by omega, show p - s + s = p by omega] at this
      rw [← this]
      exact Sm_congr (fun k k1 k2 => ind_congr (by unfold delZ; rw [if_neg (by omega)]; omega))
  · rw [d1]
    rw [d2] at hlt
    -- above: inside the end; below: at most one level down
    have hup : delZ lv e s (if e < p then p - s else p) ≤ lv t + 1 := by
      unfold delZ
      have hpn : p < n ∨ p = n := by omega
      have hlp : p < n → lv p ≤ lv t + 1 := by
        intro hp
        rcases hb with rfl | ⟨c, c1, c2, c3, rfl⟩
        · have := (hw.2.2.2.1 (t + 1) (by omega) hp).2
          rw [show t + 1 - 1 = t by omega] at this
          exact this
        · have := (enF_spec lv (show c < n by omega)).2.2.1 hp
          omega
      by_cases c1 : e < p
      · rw [if_pos c1, if_neg (by omega), show p - s + s = p by omega]
        rw [if_pos c1] at hlt
        refine hlp ?_
        split at hlt <;> omega
      · rw [if_neg c1]
        by_cases c2 : p < e
        · rw [if_pos c2]; exact hlp (by omega)
        · have c3 : p = e := by omega
          rw [if_neg c2, c3, show e + s = enF n lv e by omega]
          have b := hlp (by omega)
          rw [c3] at b
          rw [if_neg c1] at hlt
          have hen : enF n lv e < n := by split at hlt <;> omega
          have a := r3 hen
          omega
    have hlo : lv t < delZ lv e s (if e < p then p - s else p) := by
      have := (enF_spec (n := n - s) (delZ lv e s) (e := if e < t then t - s else t) (by split <;> omega)).2.2.2 (if e < p then p - s else p) (by
        rcases hte with q | q
        · rw [if_neg (show ¬ e < t by omega)]; split <;> omega
        · rw [if_pos (show e < t by omega), if_pos (by omega)]; omega) (by rw [d2]; exact hlt)
      rw [d1] at this
      exact this
    omega
theorem mv_lo {f : Int → Int} {e s p d k : Int} (h : k < p) : mvZ f e s p d k = delZ f e s k := by
  unfold mvZ
  rw [if_neg (by omega), if_pos h]
theorem mv_in {f : Int → Int} {e s p d k : Int} (h : p ≤ k ∧ k < p + s) : mvZ f e s p d k = f (k - p + e) + d := by
  unfold mvZ
  rw [if_pos h]
theorem mv_hi {f : Int → Int} {e s p d k : Int} (h0 : 0 ≤ s) (h : p + s ≤ k) : mvZ f e s p d k = delZ f e s (k - s) := by
  unfold mvZ
  rw [if_neg (by omega), if_neg (by omega)]
theorem WL_mv {n : Int} {lv : Int → Int} (hw : WL n lv) {e t at_ p : Int} (he0 : 0 < e) (h1 : e < n) (ht0 : 0 ≤ t) (ht1 : t < n) (hte : t < e ∨ enF n lv e ≤ t) (hs : Spot (n - (enF n lv e - e)) (delZ lv e (enF n lv e - e)) (if e < t then t - (enF n lv e - e) else t) at_ p) (hmax : ∀ k, e ≤ k → k < enF n lv e → lv k + (lv t + 1 - lv e) ≤ 10) : WL n (mvZ lv e (enF n lv e - e) p (lv t + 1 - lv e)) ∧ 0 < p ∧ p + (enF n lv e - e) ≤ n := by
  obtain ⟨r1, r2, r3, r4⟩ := enF_spec lv h1
  obtain ⟨d1, d2, d3⟩ := en_del h1 ht0 ht1 hte he0
  have hD := WL_del hw he0 h1
  generalize hS : enF n lv e - e = s at *
  have ht' : (if e < t then t - s else t) < n - s := by split <;> omega
  have ht0' : 0 ≤ (if e < t then t - s else t) := by split <;> omega
  obtain ⟨q1, q2, q3, q4⟩ := enF_spec (n := n - s) (delZ lv e s) ht'
  obtain ⟨s1, s2, s3, s4⟩ := hs
  rw [d1] at q3 q4 s4
  have hp0 : 0 < p := by omega
  have hpn : p + s ≤ n := by omega
  have hgt := hw.ge1 ht0 ht1
  have hge := hw.ge1 (show 0 ≤ e by omega) h1
  refine ⟨⟨hw.1, hw.2.1, ?_, fun k k0 k1 => ?_, fun k k0 k1 => ?_⟩, hp0, hpn⟩
  · rw [mv_lo hp0]
    exact hD.2.2.1
  · by_cases c1 : k < p
    · rw [mv_lo c1, mv_lo (by omega)]
      exact hD.2.2.2.1 k k0 (by omega)
    · by_cases c2 : k = p
      · subst c2
        rw [mv_in (by omega), mv_lo (by omega), show k - k + e = e by omega]
        refine ⟨by omega, ?_⟩
        by_cases c3 : k - 1 = (if e < t then t - s else t)
        · rw [c3, d1]; omega
        · have := q4 (k - 1) (by omega) (by omega); omega
      · by_cases c3 : k < p + s
        · rw [mv_in (by omega), mv_in (by omega)]
          have a := r4 (k - p + e) (by omega) (by omega)
          have b := (hw.2.2.2.1 (k - p + e) (by omega) (by omega)).2
          rw [show k - 1 - p + e = k - p + e - 1 by omega]
          omega
        · rw [mv_hi (by omega) (by omega)]
          have hk := hD.2.2.2.1 (k - s) (by omega) (by omega)
          by_cases c4 : k = p + s
          · rw [mv_in (by omega)]
            refine ⟨hk.1, ?_⟩
            rw [c4, show p + s - s = p by omega, show p + s - 1 - p + e = enF n lv e - 1 by omega]
            have a : lv e ≤ lv (enF n lv e - 1) := by
              by_cases c5 : enF n lv e - 1 = e
              · rw [c5]; exact Int.le_refl _
              · have := r4 (enF n lv e - 1) (by omega) (by omega); omega
            by_cases c6 : p < enF (n - s) (delZ lv e s) (if e < t then t - s else t)
            · have := s4 c6; omega
            · have c7 : p = enF (n - s) (delZ lv e s) (if e < t then t - s else t) := by omega
              have := q3 (by omega)
              rw [← c7] at this
              omega
          · rw [mv_hi (by omega) (by omega), show k - 1 - s = k - s - 1 by omega]
            exact hk
  · by_cases c1 : k < p
    · rw [mv_lo c1]; exact (hD.ge1 k0 (by omega)).2
    · by_cases c2 : k < p + s
      · rw [mv_in (by omega)]; exact hmax (k - p + e) (by omega) (by omega)
      · rw [mv_hi (by omega) (by omega)]; exact (hD.ge1 (by omega) (by omega)).2
