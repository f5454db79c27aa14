/-! ===== the number of matches: by nodes (W, tl), and by completions (sQ) ===== -/
/-- the end of what lies below e; -1 stands above all -/
def eE (n : Int) (lv : Int → Int) (e : Int) : Int := if e = -1 then n else enF n lv e
/-- the edge of c holds -/
abbrev egF (lv : Int → Int) (nd : Int → Int → Int) (c e x : Int) : Prop := nd c 3 ≠ 1 ∨ prF lv x = e
def wv (lv : Int → Int) (nd : Int → Int → Int) (W : Int → Int → Int) (e c x : Int) : Int := W c x * ind (egF lv nd c e x)
abbrev TL (Q : Int) (nd : Int → Int → Int) (n : Int) (lv : Int → Int) (W : Int → Int → Int) (e c f : Int) : Int := tl Q nd (enF n lv) (e + 1) (eE n lv e) (wv lv nd W e) c f
abbrev AF (Q : Int) (nd : Int → Int → Int) (n : Int) (lv : Int → Int) (W : Int → Int → Int) (e c x : Int) : Int := af Q nd (enF n lv) (e + 1) (eE n lv e) (wv lv nd W e) c x
abbrev BF (Q : Int) (nd : Int → Int → Int) (n : Int) (lv : Int → Int) (W : Int → Int → Int) (e c x : Int) : Int := bf nd (enF n lv) (e + 1) (eE n lv e) (wv lv nd W e) c x
/-- the ways for all below q, if q is e -/
def cw1 (Q : Int) (nd : Int → Int → Int) (n : Int) (lv : Int → Int) (W : Int → Int → Int) (q e : Int) : Int := if q + 1 < eW Q nd q then TL Q nd n lv W e (q + 1) (e + 1) else 1
/-- the law of W, from node k on -/
def IsWf (Q : Int) (nd : Int → Int → Int) (n : Int) (lv : Int → Int) (al : Int → Int32) (W : Int → Int → Int) (k : Int) : Prop := ∀ q e, k ≤ q → q < Q → 0 ≤ e → e < n → (hb (al q) e → W q e = cw1 Q nd n lv W q e) ∧ (¬ hb (al q) e → W q e = 0)
abbrev IsW (Q : Int) (nd : Int → Int → Int) (n : Int) (lv : Int → Int) (al : Int → Int32) (W : Int → Int → Int) : Prop := IsWf Q nd n lv al W 0
/-- the element of the node that c is a branch of -/
def ga (nd : Int → Int → Int) (g : Int → Int) (c : Int) : Int := if nd c 5 = -1 then -1 else g (nd c 5)
/-- the least element that c can be -/
def ls (nd : Int → Int → Int) (n : Int) (lv : Int → Int) (g : Int → Int) (c : Int) : Int := if pvF nd c = -1 ∨ nd c 4 = 0 then ga nd g c + 1 else enF n lv (g (pvF nd c))
def sq (Q : Int) (nd : Int → Int → Int) (n : Int) (lv : Int → Int) (al : Int → Int32) : Nat → (Int → Int) → Int
  | 0, _ => 1
  | k + 1, g => Sm (fun x => ind (hb (al (Q - (k + 1))) x ∧ egF lv nd (Q - (k + 1)) (ga nd g (Q - (k + 1))) x) * sq Q nd n lv al k (upZ g (Q - (k + 1)) x)) (ls nd n lv g (Q - (k + 1))) (eE n lv (ga nd g (Q - (k + 1))))
/-- in how many ways the nodes from c on can be chosen after g -/
def sQ (Q : Int) (nd : Int → Int → Int) (n : Int) (lv : Int → Int) (al : Int → Int32) (c : Int) (g : Int → Int) : Int := sq Q nd n lv al (Q - c).toNat g
/-- where the branches beside c end -/
def eA (Q : Int) (nd : Int → Int → Int) (c : Int) : Int := if c = 0 then Q else eW Q nd (nd c 5)
section CNT
variable {Q : Int} {nd : Int → Int → Int} {n : Int} {lv : Int → Int} {al al' : Int → Int32} {W W' : Int → Int → Int}
theorem eE_in {e : Int} (h0 : -1 ≤ e) (h1 : e < n) : e < eE n lv e ∧ eE n lv e ≤ n := by
  unfold eE
  by_cases c : e = -1
  · rw [if_pos c]; omega
  · rw [if_neg c]
    obtain ⟨r1, r2, -, -⟩ := enF_spec lv h1
    exact ⟨r1, r2⟩
theorem en_gt {e : Int} (h1 : e < n) : ∀ x, e + 1 ≤ x → x < eE n lv e → -1 ≤ e → x < enF n lv x := by
  intro x x0 x1 h0
  have := (eE_in (lv := lv) h0 h1).2
  exact (enF_spec lv (show x < n by omega)).1
theorem sQ_end {c : Int} {g : Int → Int} (h : Q ≤ c) : sQ Q nd n lv al c g = 1 := by
  unfold sQ
  rw [show (Q - c).toNat = 0 by omega]
  rfl
theorem sQ_eq {c : Int} {g : Int → Int} (h : c < Q) : sQ Q nd n lv al c g = Sm (fun x => ind (hb (al c) x ∧ egF lv nd c (ga nd g c) x) * sQ Q nd n lv al (c + 1) (upZ g c x)) (ls nd n lv g c) (eE n lv (ga nd g c)) := by
  unfold sQ
  obtain ⟨k, hk⟩ : ∃ k : Nat, (Q - c).toNat = k + 1 := ⟨(Q - c).toNat - 1, by omega⟩
  rw [hk, show (Q - (c + 1)).toNat = k by omega]
  conv => lhs; unfold sq
  rw [show Q - ((k : Int) + 1) = c by omega]
theorem ga_ge {g : Int → Int} (hg : ∀ j, 0 ≤ g j ∧ g j < n) (c : Int) (hn : 1 ≤ n) : -1 ≤ ga nd g c ∧ ga nd g c < n := by
  unfold ga
  by_cases z : nd c 5 = -1
  · rw [if_pos z]; omega
  · rw [if_neg z]; have := hg (nd c 5); omega
theorem ls_ge (hn : 1 ≤ n) {g : Int → Int} (hg : ∀ j, 0 ≤ g j ∧ g j < n) (c : Int) : 0 ≤ ls nd n lv g c := by
  unfold ls
  by_cases z : pvF nd c = -1 ∨ nd c 4 = 0
  · rw [if_pos z]; have := ga_ge (nd := nd) hg c hn; omega
  · rw [if_neg z]
    have h1 := hg (pvF nd c)
    have := (enF_spec lv h1.2).1
    omega
/-- a branch behind whose node's end k lies counts no more -/
theorem sQ_loc (hw : WW Q nd) {c x : Int} (c0 : 0 ≤ c) (c1 : c < Q) : ∀ k g, eA Q nd c ≤ k → sQ Q nd n lv al k (upZ g c x) = sQ Q nd n lv al k g := by
  have hce : c < eA Q nd c := by
    unfold eA
    by_cases z : c = 0
    · rw [if_pos z]; omega
    · rw [if_neg z]; exact (eW_nest hw (by omega) c1).1
  have key : ∀ j : Nat, ∀ k g, (Q - k).toNat ≤ j → eA Q nd c ≤ k → sQ Q nd n lv al k (upZ g c x) = sQ Q nd n lv al k g := by
    intro j
    induction j with
    | zero => intro k g hj hk; rw [sQ_end (by omega), sQ_end (by omega)]
    | succ j ih =>
      intro k g hj hk
      by_cases q : Q ≤ k
      · rw [sQ_end q, sQ_end q]
      · have hc0 : c ≠ 0 := by
          intro z; unfold eA at hk; rw [if_pos z] at hk; omega
        have hea : eA Q nd c = eW Q nd (nd c 5) := by unfold eA; rw [if_neg hc0]
        have hn := eW_nest hw (show 0 < c by omega) c1
        -- k is not a branch of c, and not one beside c
        have k1 : nd k 5 ≠ c := by
          intro z
          have := (eW_nest hw (show 0 < k by omega) (by omega)).1
          rw [z] at this
          omega
        have k2 : pvF nd k ≠ c := by
          intro z
          obtain ⟨d1, d2, d3, d4⟩ := pv_some hw (show 0 ≤ k by omega) (by omega) (by omega)
          rw [z] at d3
          have := (br_out hw c0 c1 (show c < k by omega) (by omega) d3.symm).2.2
          omega
        have hga : ga nd (upZ g c x) k = ga nd g k := by
          unfold ga
          by_cases z : nd k 5 = -1
          · rw [if_pos z, if_pos z]
          · rw [if_neg z, if_neg z, upZ_ne k1]
        have hls : ls nd n lv (upZ g c x) k = ls nd n lv g k := by
          unfold ls
          rw [hga, upZ_ne k2]
        rw [sQ_eq (by omega), sQ_eq (by omega), hga, hls]
        refine Sm_congr (fun y y0 y1 => ?_)
        have hup : upZ (upZ g c x) k y = upZ (upZ g k y) c x := by
          funext i
          unfold upZ
          by_cases z1 : i = k
          · rw [if_pos z1, if_neg (by omega), if_pos z1]
          · rw [if_neg z1, if_neg z1]
        rw [hup, ih (k + 1) _ (by omega) (by omega)]
  exact fun k g hk => key _ k g (Nat.le_refl _) hk
/-- what a node's own choice adds, if the law holds from there on -/
theorem sQ_step (hw : WW Q nd) (hn : 1 ≤ n) (hW : IsW Q nd n lv al W) {c : Int} (c0 : 0 ≤ c) (c1 : c < Q)
    (ih : ∀ k g, c < k → k < Q → (∀ j, 0 ≤ g j ∧ g j < n) → TL Q nd n lv W (ga nd g k) k (ls nd n lv g k) * sQ Q nd n lv al (eA Q nd k) g = sQ Q nd n lv al k g)
    {g : Int → Int} (hg : ∀ j, 0 ≤ g j ∧ g j < n) {x : Int} (x0 : 0 ≤ x) (x1 : x < n) : sQ Q nd n lv al (c + 1) (upZ g c x) = cw1 Q nd n lv W c x * (sQ Q nd n lv al (eA Q nd c) g * AF Q nd n lv W (ga nd g c) c x) := by
  have hab := hw.ab c0 c1
  have hg' : ∀ j, 0 ≤ upZ g c x j ∧ upZ g c x j < n := by
    intro j
    by_cases z : j = c
    · rw [z, upZ_at]; omega
    · rw [upZ_ne z]; exact hg j
  obtain ⟨e1, e2⟩ := eW_in (nd := nd) c1
  -- the ways behind all below c
  have hO : sQ Q nd n lv al (eW Q nd c) (upZ g c x) = sQ Q nd n lv al (eA Q nd c) g * AF Q nd n lv W (ga nd g c) c x := by
    rw [← sQ_loc (x := x) hw c0 c1 (eA Q nd c) g (Int.le_refl _)]
    unfold AF af
    by_cases z : nxF Q nd c = -1
    · rw [if_pos z, Int.mul_one]
      have he : eA Q nd c = eW Q nd c := by
        unfold eA
        rcases nx_none hw c0 c1 z with q | ⟨q1, q2⟩
        · rw [if_pos q, q, eW_0 hw (by omega)]
        · rw [if_neg (by omega), q2]
      rw [he]
    · obtain ⟨d1, d2, d3, d4, d5, d6⟩ := nx_some hw c0 c1 z
      rw [if_neg z]
      have hp := nx_pv hw c0 c1 z
      have hgr : ga nd (upZ g c x) (nxF Q nd c) = ga nd g c := by
        unfold ga
        rw [d5]
        by_cases y : nd c 5 = -1
        · rw [if_pos y, if_pos y]
        · rw [if_neg y, if_neg y, upZ_ne (by omega)]
      have hlr : ls nd n lv (upZ g c x) (nxF Q nd c) = if nd (nxF Q nd c) 4 = 0 then ga nd g c + 1 else enF n lv x := by
        unfold ls
        rw [hp, hgr, upZ_at]
        by_cases y : nd (nxF Q nd c) 4 = 0
        · rw [if_pos (Or.inr y), if_pos y]
        · rw [if_neg (by omega), if_neg y]
      have hi := ih (nxF Q nd c) (upZ g c x) d3 d4 hg'
      rw [hgr, hlr] at hi
      have hea : eA Q nd (nxF Q nd c) = eA Q nd c := by
        unfold eA
        rw [if_neg (by omega), if_neg (by omega), d5]
      rw [hea] at hi
      rw [← d2, ← hi, Int.mul_comm]
  unfold cw1
  by_cases z : c + 1 < eW Q nd c
  · rw [if_pos z]
    have h5 := ((fc_iff hw c0 c1).mp z).2
    have hi := ih (c + 1) (upZ g c x) (by omega) (by omega) hg'
    have hgc : ga nd (upZ g c x) (c + 1) = x := by
      unfold ga
      rw [h5, if_neg (by omega), upZ_at]
    have hlc : ls nd n lv (upZ g c x) (c + 1) = x + 1 := by
      unfold ls
      rw [if_pos (Or.inl (pv_first hw (by omega) (by omega) (by omega))), hgc]
    have hea : eA Q nd (c + 1) = eW Q nd c := by
      unfold eA
      rw [if_neg (by omega), h5]
    rw [hgc, hlc, hea, hO] at hi
    exact hi.symm
  · rw [if_neg z, Int.one_mul, ← hO, show eW Q nd c = c + 1 by omega]
theorem sQ_tl (hw : WW Q nd) (hn : 1 ≤ n) (hW : IsW Q nd n lv al W) : ∀ c g, 0 ≤ c → c < Q → (∀ j, 0 ≤ g j ∧ g j < n) → TL Q nd n lv W (ga nd g c) c (ls nd n lv g c) * sQ Q nd n lv al (eA Q nd c) g = sQ Q nd n lv al c g := by
  have key : ∀ j : Nat, ∀ c g, (Q - c).toNat ≤ j → 0 ≤ c → c < Q → (∀ j, 0 ≤ g j ∧ g j < n) → TL Q nd n lv W (ga nd g c) c (ls nd n lv g c) * sQ Q nd n lv al (eA Q nd c) g = sQ Q nd n lv al c g := by
    intro j
    induction j with
    | zero => intro c g hj c0 c1; omega
    | succ j ih =>
      intro c g hj c0 c1 hg
      have hgg := ga_ge (nd := nd) hg c hn
      have hlg := ls_ge (nd := nd) (lv := lv) hn hg c
      have hee := (eE_in (lv := lv) hgg.1 hgg.2).2
      rw [sQ_eq c1]
      unfold TL
      rw [tl_eq hw c0 c1, ← Sm_mulr]
      refine Sm_congr (fun x x0 x1 => ?_)
      rw [sQ_step hw hn hW c0 c1 (fun k g k0 k1 hg => ih k g (by omega) (by omega) k1 hg) hg (show 0 ≤ x by omega) (by omega)]
      rw [show wv lv nd W (ga nd g c) c x = W c x * ind (egF lv nd c (ga nd g c) x) from rfl]
      by_cases a1 : hb (al c) x
      · rw [(hW c x c0 c1 (by omega) (by omega)).1 a1, ind_congr (show (hb (al c) x ∧ egF lv nd c (ga nd g c) x) ↔ egF lv nd c (ga nd g c) x from ⟨fun z => z.2, fun z => ⟨a1, z⟩⟩)]
        simp only [Int.mul_assoc, Int.mul_comm, Int.mul_left_comm]
      · rw [(hW c x c0 c1 (by omega) (by omega)).2 a1, ind_f (show ¬ (hb (al c) x ∧ egF lv nd c (ga nd g c) x) from fun z => a1 z.1)]
        simp only [Int.zero_mul]
  exact fun c g c0 c1 hg => key _ c g (Nat.le_refl _) c0 c1 hg
/-- the number of all matches -/
theorem sQ_all (hw : WW Q nd) (hQ : 1 ≤ Q) (hn : 1 ≤ n) (hW : IsW Q nd n lv al W) {g : Int → Int} (hg : ∀ j, 0 ≤ g j ∧ g j < n) : sQ Q nd n lv al 0 g = Sm (fun e => W 0 e) 0 n := by
  have h5 : nd 0 5 = -1 := by have := hw.ab (q := 0) (by omega) (by omega); omega
  have hga : ga nd g 0 = -1 := by unfold ga; rw [if_pos h5]
  have hls : ls nd n lv g 0 = 0 := by unfold ls; rw [if_pos (Or.inl (pv_first hw (by omega) (by omega) (by omega))), hga]; rfl
  rw [← sQ_tl hw hn hW 0 g (by omega) (by omega) hg, hga, hls, show eA Q nd 0 = Q from if_pos rfl, sQ_end (Int.le_refl _), Int.mul_one]
  unfold TL
  rw [tl_eq hw (by omega) (by omega), show eE n lv (-1) = n from if_pos rfl]
  refine Sm_congr (fun x x0 x1 => ?_)
  have h3 : nd 0 3 ≠ 1 := by have := ((hw.2.2 0 (by omega) (by omega)).2.2.2.2.2.2.1 rfl).1; omega
  have hnx : nxF Q nd 0 = -1 := by unfold nxF; rw [if_neg (by omega)]
  unfold wv af
  rw [ind_t (Or.inl h3), if_pos hnx, Int.mul_one, Int.mul_one]
end CNT
