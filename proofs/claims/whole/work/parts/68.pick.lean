/-! ===== the matches in their order: the j-th one, the place of one ===== -/
/-- the ways if c is x after g -/
def wA (Q : Int) (nd : Int → Int → Int) (n : Int) (lv : Int → Int) (al : Int → Int32) (g : Int → Int) (c x : Int) : Int := ind (hb (al c) x ∧ egF lv nd c (ga nd g c) x) * sQ Q nd n lv al (c + 1) (upZ g c x)
/-- g is chosen for the rank l 0, down to node q -/
def PK (Q : Int) (nd : Int → Int → Int) (n : Int) (lv : Int → Int) (al : Int → Int32) (g l : Int → Int) (q : Int) : Prop := ∀ c, 0 ≤ c → c ≤ q → ls nd n lv g c ≤ g c ∧ g c < eE n lv (ga nd g c) ∧ 0 ≤ l (c + 1) ∧ l (c + 1) < wA Q nd n lv al g c (g c) ∧ l c = Sm (wA Q nd n lv al g c) (ls nd n lv g c) (g c) + l (c + 1)
def PL (Q : Int) (nd : Int → Int → Int) (n : Int) (lv : Int → Int) (al : Int → Int32) (g : Int → Int) : Prop := ∀ c, 0 ≤ c → c < Q → okF nd n lv al g c (g c)
def plV (Q : Int) (nd : Int → Int → Int) (n : Int) (lv : Int → Int) (al : Int → Int32) (g : Int → Int) : Int := Sm (fun c => Sm (wA Q nd n lv al g c) (ls nd n lv g c) (g c)) 0 Q
section PICK
variable {Q : Int} {nd : Int → Int → Int} {n : Int} {lv : Int → Int} {al al' : Int → Int32}
theorem sQ_wA {c : Int} {g : Int → Int} (c1 : c < Q) : sQ Q nd n lv al c g = Sm (wA Q nd n lv al g c) (ls nd n lv g c) (eE n lv (ga nd g c)) := sQ_eq c1
theorem wA_nn {c x : Int} {g : Int → Int} : 0 ≤ wA Q nd n lv al g c x := Int.mul_nonneg ind_nn (sQ_nn _ _)
theorem gg_ga (hw : WW Q nd) {c : Int} {g g' : Int → Int} (c0 : 0 ≤ c) (c1 : c < Q) (h : ∀ k, 0 ≤ k → k < c → g k = g' k) : ga nd g c = ga nd g' c := by
  have := hw.ab c0 c1
  unfold ga
  by_cases z : nd c 5 = -1
  · rw [if_pos z, if_pos z]
  · rw [if_neg z, if_neg z, h _ (by omega) (by omega)]
theorem gg_ls (hw : WW Q nd) {c : Int} {g g' : Int → Int} (c0 : 0 ≤ c) (c1 : c < Q) (h : ∀ k, 0 ≤ k → k < c → g k = g' k) : ls nd n lv g c = ls nd n lv g' c := by
  have := pv_spec nd c0
  unfold ls
  rw [gg_ga hw c0 c1 h]
  by_cases z : pvF nd c = -1 ∨ nd c 4 = 0
  · rw [if_pos z, if_pos z]
  · rw [if_neg z, if_neg z, h _ (by omega) (by omega)]
theorem upZ_low {c x : Int} {g g' : Int → Int} (h : ∀ k, 0 ≤ k → k < c → g k = g' k) : ∀ k, 0 ≤ k → k < c + 1 → upZ g c x k = upZ g' c x k := by
  intro k k0 k1
  by_cases z : k = c
  · rw [z, upZ_at, upZ_at]
  · rw [upZ_ne z, upZ_ne z, h k k0 (by omega)]
/-- only the choices before c count -/
theorem sQ_low (hw : WW Q nd) : ∀ c g g', 0 ≤ c → (∀ k, 0 ≤ k → k < c → g k = g' k) → sQ Q nd n lv al c g = sQ Q nd n lv al c g' := by
  have key : ∀ j : Nat, ∀ c g g', (Q - c).toNat ≤ j → 0 ≤ c → (∀ k, 0 ≤ k → k < c → g k = g' k) → sQ Q nd n lv al c g = sQ Q nd n lv al c g' := by
    intro j
    induction j with
    | zero => intro c g g' hj c0 h; rw [sQ_end (by omega), sQ_end (by omega)]
    | succ j ih =>
      intro c g g' hj c0 h
      by_cases z : Q ≤ c
      · rw [sQ_end z, sQ_end z]
      · rw [sQ_eq (by omega), sQ_eq (by omega), gg_ga hw c0 (by omega) h, gg_ls hw c0 (by omega) h]
        refine Sm_congr (fun x x0 x1 => ?_)
        rw [ih (c + 1) _ _ (by omega) (by omega) (upZ_low h)]
  exact fun c g g' c0 h => key _ c g g' (Nat.le_refl _) c0 h
theorem gg_wA (hw : WW Q nd) {c : Int} {g g' : Int → Int} (c0 : 0 ≤ c) (c1 : c < Q) (h : ∀ k, 0 ≤ k → k < c → g k = g' k) (x : Int) : wA Q nd n lv al g c x = wA Q nd n lv al g' c x := by
  unfold wA
  rw [gg_ga hw c0 c1 h, sQ_low hw (c + 1) _ _ (by omega) (upZ_low h)]
theorem gg_ok (hw : WW Q nd) {c : Int} {g g' : Int → Int} (c0 : 0 ≤ c) (c1 : c < Q) (h : ∀ k, 0 ≤ k → k < c → g k = g' k) (x : Int) : okF nd n lv al g c x ↔ okF nd n lv al g' c x := by
  unfold okF
  rw [gg_ga hw c0 c1 h, gg_ls hw c0 c1 h]
theorem Sm_at {f : Int → Int} (hf : ∀ x, 0 ≤ f x) {a x y l l' : Int} (hx : a ≤ x) (hl' : 0 ≤ l') (hl : l < f x) (he : Sm f a x + l = Sm f a y + l') : y ≤ x := by
  by_cases z : y ≤ x
  · exact z
  · exfalso
    have h1 := Sm_split (f := f) hx (show x ≤ y by omega)
    have h2 := Sm_term (f := f) (lo := x) (hi := y) (k := x) (fun k _ _ => hf k) (Int.le_refl _) (by omega)
    omega
theorem PK_uniq (hw : WW Q nd) {g l g' l' : Int → Int} {q : Int} (q1 : q < Q) (h : PK Q nd n lv al g l q) (h' : PK Q nd n lv al g' l' q) (h0 : l 0 = l' 0) : ∀ c, 0 ≤ c → c ≤ q → g c = g' c := by
  have key : ∀ j : Nat, (j : Int) ≤ q + 1 → (∀ k : Int, 0 ≤ k → k < j → g k = g' k) ∧ l j = l' j := by
    intro j
    induction j with
    | zero => intro _; exact ⟨fun k k0 k1 => by omega, h0⟩
    | succ j ih =>
      intro hj
      obtain ⟨i1, i2⟩ := ih (by omega)
      obtain ⟨a1, a2, a3, a4, a5⟩ := h j (by omega) (by omega)
      obtain ⟨b1, b2, b3, b4, b5⟩ := h' j (by omega) (by omega)
      have e1 : wA Q nd n lv al g j = wA Q nd n lv al g' j := funext (gg_wA hw (by omega) (by omega) i1)
      rw [gg_ls hw (by omega) (by omega) i1, e1] at a5
      rw [gg_ls hw (by omega) (by omega) i1] at a1
      rw [e1] at a4
      have he := a5.symm.trans (i2.trans b5)
      have g1 := Sm_at (f := wA Q nd n lv al g' j) (fun x => wA_nn) a1 b3 a4 he
      have g2 := Sm_at (f := wA Q nd n lv al g' j) (fun x => wA_nn) b1 a3 b4 he.symm
      have hg : g j = g' j := by omega
      refine ⟨fun k k0 k1 => ?_, ?_⟩
      · by_cases z : k = j
        · rw [z]; exact hg
        · exact i1 k k0 (by omega)
      · rw [hg] at he
        show l ((j : Int) + 1) = l' ((j : Int) + 1)
        omega
  intro c c0 c1
  exact (key (c + 1).toNat (by omega)).1 c c0 (by omega)
theorem wA_ok {c x : Int} {g : Int → Int} (h : okF nd n lv al g c x) : wA Q nd n lv al g c x = sQ Q nd n lv al (c + 1) (upZ g c x) := by
  unfold wA
  rw [ind_t ⟨h.1, h.2.1⟩, Int.one_mul]
theorem PL_pos {g : Int → Int} (h : PL Q nd n lv al g) : ∀ c, 0 ≤ c → c ≤ Q → 1 ≤ sQ Q nd n lv al c g := by
  have key : ∀ j : Nat, ∀ c : Int, 0 ≤ c → c ≤ Q → (Q - c).toNat ≤ j → 1 ≤ sQ Q nd n lv al c g := by
    intro j
    induction j with
    | zero => intro c c0 c1 hj; rw [sQ_end (by omega)]; omega
    | succ j ih =>
      intro c c0 c1 hj
      by_cases z : c = Q
      · rw [sQ_end (by omega)]; omega
      · have ho := h c c0 (by omega)
        rw [sQ_wA (by omega)]
        have h1 := Sm_term (f := wA Q nd n lv al g c) (lo := ls nd n lv g c) (hi := eE n lv (ga nd g c)) (k := g c) (fun k _ _ => wA_nn) ho.2.2.1 ho.2.2.2
        rw [wA_ok ho, upZ_self] at h1
        have := ih (c + 1) (by omega) (by omega) (by omega)
        omega
  exact fun c c0 c1 => key _ c c0 c1 (Nat.le_refl _)
theorem plV_low (hw : WW Q nd) {g g' : Int → Int} (h : ∀ k, 0 ≤ k → k < Q → g k = g' k) : plV Q nd n lv al g = plV Q nd n lv al g' := by
  unfold plV
  refine Sm_congr (fun c c0 c1 => ?_)
  have hk : ∀ k, 0 ≤ k → k < c → g k = g' k := fun k k0 k1 => h k k0 (by omega)
  rw [gg_ls hw c0 c1 hk, h c c0 c1, show wA Q nd n lv al g c = wA Q nd n lv al g' c from funext (gg_wA hw c0 c1 hk)]
/-- all nodes are pinned -/
theorem sQ_pinsAll (hw : WW Q nd) (hn1 : 1 ≤ n) {g t : Int → Int} (hg : ∀ j, 0 ≤ g j ∧ g j < n) (hgt : ∀ j, 0 ≤ t j → t j < n → g j = t j) (hp : ∀ k, 0 ≤ k → k < Q → ∀ y, 0 ≤ y → y < n → (hb (al' k) y ↔ y = t k ∧ hb (al k) y)) (hne : sQ Q nd n lv al' 0 g ≠ 0) : PL Q nd n lv al g ∧ ∀ k, 0 ≤ k → k < Q → g k = t k := by
  have key : ∀ j : Nat, (j : Int) ≤ Q → ∀ k : Int, 0 ≤ k → k < j → okF nd n lv al g k (g k) ∧ g k = t k := by
    intro j
    induction j with
    | zero => intro _ k k0 k1; omega
    | succ j ih =>
      intro hj k k0 k1
      have i1 := ih (by omega)
      by_cases z : k < j
      · exact i1 k k0 z
      · have hk : k = j := by omega
        subst hk
        rw [sQ_pins hn1 hg (al := al) j k0 (by omega) (fun k p0 p1 => ⟨(i1 k p0 p1).1, by rw [(i1 k p0 p1).2]; exact hp k p0 (by omega)⟩)] at hne
        rw [sQ_pin1 (al := al) (x := t j) (by omega) hn1 hg (hp j (by omega) (by omega))] at hne
        by_cases ho : okF nd n lv al g j (t j)
        · have h1 := ga_ge (nd := nd) hg j hn1
          have h2 := ls_ge (nd := nd) (lv := lv) hn1 hg j
          have h3 := (eE_in (lv := lv) h1.1 h1.2).2
          have h4 := hgt j (by have := ho.2.2.1; omega) (by have := ho.2.2.2; omega)
          rw [h4]
          exact ⟨ho, rfl⟩
        · rw [ind_f ho, Int.zero_mul] at hne
          exact absurd rfl hne
  exact ⟨fun c c0 c1 => (key Q.toNat (by omega) c c0 (by omega)).1, fun c c0 c1 => (key Q.toNat (by omega) c c0 (by omega)).2⟩
/-- the ways ahead of g at c, where all before c is g -/
theorem sQ_ahead (hn1 : 1 ≤ n) {g : Int → Int} (hg : ∀ j, 0 ≤ g j ∧ g j < n) {c d : Int} (c0 : 0 ≤ c) (c1 : c < Q) (hb1 : ∀ k, 0 ≤ k → k < c → okF nd n lv al g k (g k) ∧ ∀ y, 0 ≤ y → y < n → (hb (al' k) y ↔ y = g k ∧ hb (al k) y)) (hb2 : ∀ y, 0 ≤ y → y < n → (hb (al' c) y ↔ y < d ∧ hb (al c) y)) (hb3 : ∀ k y, c < k → k < Q → 0 ≤ y → y < n → (hb (al' k) y ↔ hb (al k) y)) (hd : d ≤ eE n lv (ga nd g c)) : sQ Q nd n lv al' 0 g = Sm (wA Q nd n lv al g c) (ls nd n lv g c) d := by
  have h1 := ga_ge (nd := nd) hg c hn1
  have h2 := ls_ge (nd := nd) (lv := lv) hn1 hg c
  have h3 := (eE_in (lv := lv) h1.1 h1.2).2
  have hw2 : ∀ y, 0 ≤ y → y < n → wA Q nd n lv al' g c y = ind (y < d) * wA Q nd n lv al g c y := by
    intro y y0 y1
    unfold wA
    have hg' : ∀ j, 0 ≤ upZ g c y j ∧ upZ g c y j < n := by
      intro j
      by_cases z : j = c
      · rw [z, upZ_at]; omega
      · rw [upZ_ne z]; exact hg j
    rw [sQ_congr (al' := al) hn1 (c + 1) (upZ g c y) hg' (fun k x k0 k1 x0 x1 => hb3 k x (by omega) k1 x0 x1)]
    have := hb2 y y0 y1
    by_cases z : y < d
    · rw [ind_t z, Int.one_mul, ind_congr (show (hb (al' c) y ∧ egF lv nd c (ga nd g c) y) ↔ (hb (al c) y ∧ egF lv nd c (ga nd g c) y) from ⟨fun q => ⟨(this.mp q.1).2, q.2⟩, fun q => ⟨this.mpr ⟨z, q.1⟩, q.2⟩⟩)]
    · rw [ind_f z, Int.zero_mul, ind_f (fun q => z (this.mp q.1).1), Int.zero_mul]
  rw [sQ_pins hn1 hg (al := al) c c0 (by omega) hb1, sQ_wA c1]
  by_cases z : ls nd n lv g c ≤ d
  · rw [Sm_split z hd]
    rw [Sm_zero (lo := d) (fun y y0 y1 => by rw [hw2 y (by omega) (by omega), ind_f (by omega), Int.zero_mul]), Int.add_zero]
    refine Sm_congr (fun y y0 y1 => ?_)
    rw [hw2 y (by omega) (by omega), ind_t y1, Int.one_mul]
  · rw [Sm_nil (hi := d) (by omega)]
    exact Sm_zero (fun y y0 y1 => by rw [hw2 y (by omega) (by omega), ind_f (by omega), Int.zero_mul])
theorem PK_ext (hw : WW Q nd) {g l : Int → Int} {c f l' : Int} (h : PK Q nd n lv al g l (c - 1)) (c0 : 0 ≤ c) (c1 : c < Q) (h1 : ls nd n lv g c ≤ f) (h2 : f < eE n lv (ga nd g c)) (h3 : 0 ≤ l') (h4 : l' < wA Q nd n lv al g c f) (h5 : l c = Sm (wA Q nd n lv al g c) (ls nd n lv g c) f + l') : PK Q nd n lv al (upZ g c f) (upZ l (c + 1) l') c := by
  intro k k0 k1
  have hk : ∀ j, 0 ≤ j → j < k → upZ g c f j = g j := fun j j0 j1 => upZ_ne (by omega)
  have e1 : wA Q nd n lv al (upZ g c f) k = wA Q nd n lv al g k := funext (gg_wA hw k0 (by omega) hk)
  rw [gg_ls hw k0 (by omega) hk, gg_ga hw k0 (by omega) hk, e1]
  by_cases z : k = c
  · subst z
    rw [upZ_at, upZ_at, upZ_ne (by omega)]
    exact ⟨h1, h2, h3, h4, h5⟩
  · rw [upZ_ne z, upZ_ne (show k + 1 ≠ c + 1 by omega), upZ_ne (show k ≠ c + 1 by omega)]
    exact h k k0 (by omega)
/-- the ways behind all below c -/
theorem sQ_out (hw : WW Q nd) (hn : 1 ≤ n) {W : Int → Int → Int} (hW : IsW Q nd n lv al W) {c : Int} (c0 : 0 ≤ c) (c1 : c < Q) {g : Int → Int} (hg : ∀ j, 0 ≤ g j ∧ g j < n) {x : Int} (x0 : 0 ≤ x) (x1 : x < n) : sQ Q nd n lv al (eW Q nd c) (upZ g c x) = sQ Q nd n lv al (eA Q nd c) g * AF Q nd n lv W (ga nd g c) c x := by
  have hab := hw.ab c0 c1
  have hg' : ∀ j, 0 ≤ upZ g c x j ∧ upZ g c x j < n := by
    intro j
    by_cases z : j = c
    · rw [z, upZ_at]; omega
    · rw [upZ_ne z]; exact hg j
  obtain ⟨e1, e2⟩ := eW_in (nd := nd) c1
  rw [← sQ_loc (x := x) hw c0 c1 (eA Q nd c) g (Int.le_refl _)]
  unfold AF af
  by_cases z : nxF Q nd c = -1
  · rw [if_pos z, Int.mul_one]
    have he : eA Q nd c = eW Q nd c := by
      unfold eA
      rcases nx_none hw c0 c1 z with q | ⟨q1, q2⟩
      · rw [if_pos q, q, eW_0 hw (by omega)]
      · rw [if_neg (by omega), q2]
    rw [he]
  · obtain ⟨d1, d2, d3, d4, d5, d6⟩ := nx_some hw c0 c1 z
    rw [if_neg z]
    have hp := nx_pv hw c0 c1 z
    have hgr : ga nd (upZ g c x) (nxF Q nd c) = ga nd g c := by
      unfold ga
      rw [d5]
      by_cases y : nd c 5 = -1
      · rw [if_pos y, if_pos y]
      · rw [if_neg y, if_neg y, upZ_ne (by omega)]
    have hlr : ls nd n lv (upZ g c x) (nxF Q nd c) = if nd (nxF Q nd c) 4 = 0 then ga nd g c + 1 else enF n lv x := by
      unfold ls
      rw [hp, hgr, upZ_at]
      by_cases y : nd (nxF Q nd c) 4 = 0
      · rw [if_pos (Or.inr y), if_pos y]
      · rw [if_neg (by omega), if_neg y]
    have hi := sQ_tl hw hn hW (nxF Q nd c) (upZ g c x) (by omega) d4 hg'
    rw [hgr, hlr] at hi
    have hea : eA Q nd (nxF Q nd c) = eA Q nd c := by
      unfold eA
      rw [if_neg (by omega), if_neg (by omega), d5]
    rw [hea] at hi
    rw [← d2, ← hi, Int.mul_comm]
/-- what the matcher's tails say of c being x -/
theorem wA_tl (hw : WW Q nd) (hn : 1 ≤ n) {W : Int → Int → Int} (hW : IsW Q nd n lv al W) {c : Int} (c0 : 0 ≤ c) (c1 : c < Q) {g : Int → Int} (hg : ∀ j, 0 ≤ g j ∧ g j < n) {x : Int} (x0 : ga nd g c + 1 ≤ x) (x1 : x < eE n lv (ga nd g c)) : (TL Q nd n lv W (ga nd g c) c x - TL Q nd n lv W (ga nd g c) c (x + 1)) * sQ Q nd n lv al (eA Q nd c) g = wA Q nd n lv al g c x := by
  have hgg := ga_ge (nd := nd) hg c hn
  have hee := (eE_in (lv := lv) hgg.1 hgg.2).2
  have hT : TL Q nd n lv W (ga nd g c) c x = wv lv nd W (ga nd g c) c x * AF Q nd n lv W (ga nd g c) c x + TL Q nd n lv W (ga nd g c) c (x + 1) := by
    show tl _ _ _ _ _ _ _ _ = _ + tl _ _ _ _ _ _ _ _
    rw [tl_eq hw c0 c1, tl_eq hw c0 c1, Sm_front x1]
  rw [hT, Int.add_sub_cancel]
  unfold wA
  rw [sQ_step hw hn hW c0 c1 (fun k g k0 k1 hg => sQ_tl hw hn hW k g (by omega) k1 hg) hg (show 0 ≤ x by omega) (by omega)]
  rw [show wv lv nd W (ga nd g c) c x = W c x * ind (egF lv nd c (ga nd g c) x) from rfl]
  by_cases a1 : hb (al c) x
  · rw [(hW c x c0 c1 (by omega) (by omega)).1 a1, ind_congr (show (hb (al c) x ∧ egF lv nd c (ga nd g c) x) ↔ egF lv nd c (ga nd g c) x from ⟨fun z => z.2, fun z => ⟨a1, z⟩⟩)]
    simp only [Int.mul_assoc, Int.mul_comm, Int.mul_left_comm]
  · rw [(hW c x c0 c1 (by omega) (by omega)).2 a1, ind_f (show ¬ (hb (al c) x ∧ egF lv nd c (ga nd g c) x) from fun z => a1 z.1)]
    simp only [Int.zero_mul]
theorem wA_sum (hw : WW Q nd) (hn : 1 ≤ n) {W : Int → Int → Int} (hW : IsW Q nd n lv al W) {c : Int} (c0 : 0 ≤ c) (c1 : c < Q) {g : Int → Int} (hg : ∀ j, 0 ≤ g j ∧ g j < n) {a : Int} (a0 : ga nd g c + 1 ≤ a) : ∀ d, a ≤ d → d ≤ eE n lv (ga nd g c) → (TL Q nd n lv W (ga nd g c) c a - TL Q nd n lv W (ga nd g c) c d) * sQ Q nd n lv al (eA Q nd c) g = Sm (wA Q nd n lv al g c) a d := by
  refine Sm_ind (P := fun d => d ≤ eE n lv (ga nd g c) → _) ?_ ?_
  · intro _
    rw [Sm_nil (Int.le_refl _), Int.sub_self, Int.zero_mul]
  · intro k hk ih h1
    rw [Sm_succ hk, ← ih (by omega), ← wA_tl hw hn hW c0 c1 hg (show ga nd g c + 1 ≤ k by omega) (by omega), ← Int.add_mul]
    congr 1
    omega
end PICK
