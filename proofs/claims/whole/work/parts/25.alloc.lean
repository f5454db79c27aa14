/-! ===== NEW CELLS ===== -/
theorem va_S.grow {B : Nat} {H0 H H1 : Heap} {locs : List Loc} (h : va_S (fun q => B ≤ q) H0 H locs) (hz : H.size ≤ H1.size) (ho : ∀ q : Nat, q < H.size → H1[q]? = H[q]?) : va_S (fun q => B ≤ q) H0 H1 locs :=
  ⟨Nat.le_trans h.1 hz, fun q h1 h2 => (ho q (Nat.lt_of_lt_of_le h1 h.1)).trans (h.2.1 q h1 h2), h.2.2⟩
/-- a new cell behind all -/
def nw (m : Mm) (e : mE) : Option Mm := some (m ++ [e])
/-- new long[n][k] -/
def nM (m : Mm) (n k : Nat) : Option Mm := some (m ++ (eR 4 n (fun i => if i < n then some (m.length + 1 + i) else none) :: List.replicate n (eJ k (fun _ => 0))))
theorem vr_outer (c : ClassId) (N h0 : Nat) : ∀ i : Nat, Jvm.Free.Multi.outerC c N h0 i = arrV c N (fun j => va_rf (if j < i then some (h0 + 1 + j) else none))
  | 0 => by
    show ({ cls := c, slots := Array.replicate N .null, vm := .none } : Cell) = _
    rw [arrV_new]
    refine congrArg (arrV c N) (funext fun j => ?_)
    simp [va_rf]
  | i + 1 => by
    show (Jvm.Free.Multi.outerC c N h0 i).setSlot i (.ref (h0 + 1 + i)) = _
    rw [vr_outer c N h0 i, arrV_store]
    refine congrArg (arrV c N) (funext fun j => ?_)
    by_cases e : j = i
    · subst e
      simp [updV, va_rf]
    · by_cases h : j < i
      · simp [updV, e, h, Nat.lt_succ_of_lt h]
      · simp [updV, e, h, show ¬ j < i + 1 by omega]
section ALLOC
variable {p : Program} {l : Launch} {e : Env} {R : Room} {s : State} {m : MethodId} {args : Array Value} {below : List Frame} {meth : Method} {c : Code} {H H0 : Heap} {locs : List Loc} {cells slots : Nat} {Q : State → Prop}
variable {cc : ByteArray} {nL : Nat} {own : String} {B : Nat} {D : va_G} {cA : Nat → ClassId} {M M1 : Mm} {pc : Nat} {ls : Array Slot} {rest : List Value}
theorem r_newO (X : Cx p s m args c cc nL own D cA) {ci idx N : Nat} {C : String} {T : u_T} (hc : vwCl[ci]? = some (C, T, N)) (hin : ∀ w ∈ u_ws C T N, w ∈ TBg) (ty0 : Nat → FieldType) (hty : ∀ k, k < N → parseFieldDescriptor (T k).2.2.1 = some (ty0 k)) (hcl : Cond.classLink own idx C ∈ TBg) (hinst : Cond.instantiable C N ∈ TBg) (hini : Cond.initialized C ∈ TBg)
    (hR : Rl B D cA M H) (hS : va_S (fun q => B ≤ q) H0 H locs) {fs : List Value} (hfs : ∀ j, j < N → defaultValue (ty0 j) = vp_V (fs.map (upV B)) j) (hg : nw M (eO ci fs) = some M1) (hcells : cells + 1 ≤ R.cells) (hslots : slots + N ≤ R.slots) (hdg : decode cc pc = .ok (.new idx, 3))
    (kk : ∀ H : Heap, Rl B D cA M1 H → va_S (fun q => B ≤ q) H0 H locs → W p l e R s m args below meth c H locs (cells + 1) (slots + N) Q (F0 m (pc + 3) ls (.ref (B + M.length) :: rest))) : W p l e R s m args below meth c H locs cells slots Q (F0 m pc ls rest) := by
  obtain rfl := Option.some.inj hg
  have hts := X.2.2.2.2.1
  have hKn := X.2.2.2.2.2.1.1 ci _ hc
  refine W.newcK X.1 X.2.1 X.2.2.2.1 (hts _ hcl) (hts _ hinst) (hts _ hini) rfl hdg hcells hslots hKn.2.1 hR.2 fun H1 kC hkC e1 z1 o1 => ?_
  have o2 : ∀ q : Nat, q < H.size → H1[q]? = H[q]? := fun q hq => o1 q (by rw [← hR.2]; exact hq)
  refine kk H1 (hR.push ?_ (by rw [z1, hR.2]) o2) (hS.grow (by rw [z1, hR.2]; exact Nat.le_succ _) o2)
  exact ⟨_, hc, (u_born ty0 hts hin hKn hkC e1 hty).to hfs⟩
theorem r_newI (X : Cx p s m args c cc nL own D cA) (harr : (Cond.arrayClass .int) ∈ TBg) (hR : Rl B D cA M H) (hS : va_S (fun q => B ≤ q) H0 H locs) {n : Int32} {N : Nat} (hg : nw M (eI N (fun _ => 0)) = some M1) (hn : ¬ n < 0) (hN : n.toNatClampNeg = N) (hbytes : N * 4 ≤ 536870912) (hcells : cells + 1 ≤ R.cells) (hslots : slots + N ≤ R.slots) (hdg : decode cc pc = .ok (.newarray .int, 2))
    (kk : ∀ H : Heap, Rl B D cA M1 H → va_S (fun q => B ≤ q) H0 H locs → W p l e R s m args below meth c H locs (cells + 1) (slots + N) Q (F0 m (pc + 2) ls (.ref (B + M.length) :: rest))) : W p l e R s m args below meth c H locs cells slots Q (F0 m pc ls (.int n :: rest)) := by
  obtain rfl := Option.some.inj hg
  refine va_newaK (atype := .int) X.1 X.2.1 (X.2.2.2.2.1 _ harr) rfl hdg rfl hn hN hbytes hcells hslots hR.2 fun H1 cB e1 z1 o1 hAr hNm => ?_
  have o2 : ∀ q : Nat, q < H.size → H1[q]? = H[q]? := fun q hq => o1 q (by rw [← hR.2]; exact hq)
  have hcB : cB = cA 0 := Option.some.inj (hNm.symm.trans (X.2.2.2.2.2.1.2 0 _ rfl).2)
  subst hcB
  exact kk H1 (hR.push e1 (by rw [z1, hR.2]) o2) (hS.grow (by rw [z1, hR.2]; exact Nat.le_succ _) o2)
theorem r_newJ (X : Cx p s m args c cc nL own D cA) (harr : (Cond.arrayClass .long) ∈ TBg) (hR : Rl B D cA M H) (hS : va_S (fun q => B ≤ q) H0 H locs) {n : Int32} {N : Nat} (hg : nw M (eJ N (fun _ => 0)) = some M1) (hn : ¬ n < 0) (hN : n.toNatClampNeg = N) (hbytes : N * 8 ≤ 536870912) (hcells : cells + 1 ≤ R.cells) (hslots : slots + N ≤ R.slots) (hdg : decode cc pc = .ok (.newarray .long, 2))
    (kk : ∀ H : Heap, Rl B D cA M1 H → va_S (fun q => B ≤ q) H0 H locs → W p l e R s m args below meth c H locs (cells + 1) (slots + N) Q (F0 m (pc + 2) ls (.ref (B + M.length) :: rest))) : W p l e R s m args below meth c H locs cells slots Q (F0 m pc ls (.int n :: rest)) := by
  obtain rfl := Option.some.inj hg
  refine va_newaK (atype := .long) X.1 X.2.1 (X.2.2.2.2.1 _ harr) rfl hdg rfl hn hN hbytes hcells hslots hR.2 fun H1 cB e1 z1 o1 hAr hNm => ?_
  have o2 : ∀ q : Nat, q < H.size → H1[q]? = H[q]? := fun q hq => o1 q (by rw [← hR.2]; exact hq)
  have hcB : cB = cA 1 := Option.some.inj (hNm.symm.trans (X.2.2.2.2.2.1.2 1 _ rfl).2)
  subst hcB
  exact kk H1 (hR.push e1 (by rw [z1, hR.2]) o2) (hS.grow (by rw [z1, hR.2]; exact Nat.le_succ _) o2)
theorem r_newA (X : Cx p s m args c cc nL own D cA) {k idx : Nat} {C : String} (ht : (tysA cA)[k]? = some (cA k, .object C)) (hcl : Cond.classLink own idx C ∈ TBg) (hover : va_AO C s) (hR : Rl B D cA M H) (hS : va_S (fun q => B ≤ q) H0 H locs) {n : Int32} {N : Nat} (hg : nw M (eR k N (fun _ => none)) = some M1) (hn : ¬ n < 0) (hN : n.toNatClampNeg = N) (hbytes : N * 4 ≤ 536870912) (hcells : cells + 1 ≤ R.cells) (hslots : slots + N ≤ R.slots) (hdg : decode cc pc = .ok (.anewarray idx, 3))
    (kk : ∀ H : Heap, Rl B D cA M1 H → va_S (fun q => B ≤ q) H0 H locs → W p l e R s m args below meth c H locs (cells + 1) (slots + N) Q (F0 m (pc + 3) ls (.ref (B + M.length) :: rest))) : W p l e R s m args below meth c H locs cells slots Q (F0 m pc ls (.int n :: rest)) := by
  obtain rfl := Option.some.inj hg
  subst hN
  refine W.anew X.1 X.2.1 X.2.2.2.1 (X.2.2.2.2.1 _ hcl) (va_AO.use hover) rfl hdg rfl hn hbytes hcells hslots fun cB kA comp f1 f2 f3 f4 => ?_
  have hRA := (X.2.2.2.2.2.1.2 k _ ht).2
  obtain ⟨kA', comp', h1, h2, h3, h4⟩ := hRA
  have hcB : cB = cA k := Option.some.inj (f1.symm.trans h4)
  subst hcB
  generalize hH1 : H.push ({ cls := cA k, slots := Array.replicate n.toNatClampNeg .null, vm := .none } : Cell) = H1
  have z1 : H1.size = H.size + 1 := by rw [← hH1, Array.size_push]
  have e1 : H1[B + M.length]? = some (arrV (cA k) n.toNatClampNeg (fun _ => .null)) := by rw [← hR.2, ← hH1, Array.getElem?_push_size, ← arrV_new]
  have o1 : ∀ q : Nat, q < H.size → H1[q]? = H[q]? := fun q hq => by rw [← hH1, Array.getElem?_push, if_neg (Nat.ne_of_lt hq)]
  have := kk H1 (hR.push e1 z1 o1) (hS.grow (by rw [z1]; exact Nat.le_succ _) o1)
  rw [← hR.2] at this
  exact this
theorem r_newM (X : Cx p s m args c cc nL own D cA) {idx : Nat} (hcl : Cond.classLink own idx ("[" ++ (FieldType.array .long).toString) ∈ TBg) (harr : (Cond.arrayClass .long) ∈ TBg) (hR : Rl B D cA M H) (hS : va_S (fun q => B ≤ q) H0 H locs) {n k : Int32} {N K : Nat} (hg : nM M N K = some M1) (hn : ¬ n < 0) (hk : ¬ k < 0) (hN : n.toNatClampNeg = N) (hK : k.toNatClampNeg = K) (hb1 : N * 4 ≤ 536870912) (hb2 : K * 8 ≤ 536870912) (hcells : cells + (1 + N) ≤ R.cells) (hslots : slots + (N + N * K) ≤ R.slots) (hdg : decode cc pc = .ok (.multianewarray idx 2, 4))
    (kk : ∀ H : Heap, Rl B D cA M1 H → va_S (fun q => B ≤ q) H0 H locs → W p l e R s m args below meth c H locs (cells + 1 + N) (slots + N + N * K) Q (F0 m (pc + 4) ls (.ref (B + M.length) :: rest))) : W p l e R s m args below meth c H locs cells slots Q (F0 m pc ls (.int k :: .int n :: rest)) := by
  obtain rfl := Option.some.inj hg
  subst hN
  subst hK
  intro T hT Xs
  obtain ⟨vm₁, cB, comp, -, fA, fC, hO, -, X', step⟩ := Xs.multianewarray2F X.1 X.2.2.2.1 (X.2.2.2.2.1 _ hcl) (X.2.2.2.2.2.2.2.2.2) (X.2.2.2.2.1 _ harr) (g := F0 m pc ls (.int k :: .int n :: rest)) rfl (by rw [X.2.1]; exact hdg) rfl hn hk hb1 hb2 (by omega) rfl rfl hcells hslots
  have hcB : cB = cA 4 := Option.some.inj (fA.symm.trans (X.2.2.2.2.2.1.2 4 _ rfl).2)
  have hcC : comp = cA 1 := Option.some.inj (fC.symm.trans (X.2.2.2.2.2.1.2 1 _ rfl).2)
  subst hcB
  subst hcC
  generalize hF : Jvm.Free.Multi.fill (T.setVm vm₁) (cA 4) (cA 1) n.toNatClampNeg k.toNatClampNeg (defaultValue .long) n.toNatClampNeg = F at X' step
  have hTh : (T.setVm vm₁).heap = H := hT
  obtain ⟨f1, f2, -, -⟩ := Jvm.Free.Multi.fill_facts (T.setVm vm₁) (cA 4) (cA 1) n.toNatClampNeg k.toNatClampNeg (defaultValue .long) n.toNatClampNeg
  rw [hF, hTh] at f1 f2
  have hold : ∀ x : Nat, x < H.size → F.heap[x]? = H[x]? := fun x hx => by
    have := Jvm.Free.Multi.fill_old (T.setVm vm₁) (cA 4) (cA 1) n.toNatClampNeg k.toNatClampNeg (defaultValue .long) (a := x) (by rw [hTh]; exact hx) n.toNatClampNeg
    rw [hF, hTh] at this
    exact this
  have hz : Jvm.Free.Multi.innerC (cA 1) k.toNatClampNeg (defaultValue .long) = vp_cell (cA 1) (k.toNatClampNeg, .inr (.inl (fun _ => 0))) := by
    show ({ cls := cA 1, slots := Array.replicate k.toNatClampNeg (.long 0), vm := .none } : Cell) = _
    rw [arrV_new]
    rfl
  have hrow : ∀ j : Nat, j < n.toNatClampNeg → F.heap[H.size + 1 + j]? = some (vp_cell (cA 1) (k.toNatClampNeg, .inr (.inl (fun _ => 0)))) := fun j hj => by
    have := Jvm.Free.Multi.fill_inner (T.setVm vm₁) (cA 4) (cA 1) n.toNatClampNeg k.toNatClampNeg (defaultValue .long) n.toNatClampNeg j hj
    rw [hF, hTh, hz] at this
    exact this
  have hout : Jvm.Free.Multi.outerC (cA 4) n.toNatClampNeg H.size n.toNatClampNeg = vp_cell (cA 4) (n.toNatClampNeg, .inr (.inr (.inr (.inr (fun i => if i < n.toNatClampNeg then some (H.size + 1 + i) else none))))) := by
    rw [vp_cell_q]
    exact vr_outer (cA 4) n.toNatClampNeg H.size n.toNatClampNeg
  rw [hout] at f2
  have hsz := hR.2
  have hRl : Rl B D cA (M ++ (eR 4 n.toNatClampNeg (fun i => if i < n.toNatClampNeg then some (M.length + 1 + i) else none) :: List.replicate n.toNatClampNeg (eJ k.toNatClampNeg (fun _ => 0)))) F.heap := by
    refine ⟨fun i q hq => ?_, by rw [f1, hsz]; simp; omega⟩
    obtain ⟨e9, he, rfl⟩ := lay_inv hq
    by_cases hi : i < M.length
    · rw [List.getElem?_append_left hi] at he
      exact (hR.at he).kept (hold _ (by rw [hsz]; exact Nat.add_lt_add_left hi _))
    · rw [List.getElem?_append_right (by omega)] at he
      by_cases h0 : i = M.length
      · subst h0
        rw [Nat.sub_self] at he
        cases he
        show F.heap[B + M.length]? = some _
        rw [← hsz, f2]
        congr 3
        refine congrArg (fun z => Sum.inr (Sum.inr (Sum.inr (Sum.inr z)))) (funext fun i => ?_)
        by_cases hi2 : i < n.toNatClampNeg
        · simp [hi2]; omega
        · simp [hi2]
      · obtain ⟨j, hj⟩ : ∃ j, i - M.length = j + 1 := ⟨i - M.length - 1, by omega⟩
        rw [hj, List.getElem?_cons_succ] at he
        have hjn : j < n.toNatClampNeg := by
          rcases Nat.lt_or_ge j n.toNatClampNeg with q | q
          · exact q
          · rw [List.getElem?_eq_none (by rw [List.length_replicate]; exact q)] at he; cases he
        rw [List.getElem?_replicate, if_pos hjn] at he
        cases he
        show F.heap[B + i]? = some _
        rw [show B + i = H.size + 1 + j by omega, hrow j hjn]
  have hSn : va_S (fun q => B ≤ q) H0 F.heap locs := hS.grow (by rw [f1]; omega) hold
  obtain ⟨t, a1, b1⟩ := kk F.heap hRl hSn F rfl X'
  refine ⟨t, step t ?_, b1⟩
  rw [show T.heap.size = B + M.length by rw [hT, hsz]]
  exact a1
/-- a store of an object that the memory holds -/
theorem r_lX (X : Cx p s m args c cc nL own D cA) {b L : Nat} {xs : Nat → Int32} (hX : va_X b L xs s s.heap) (hbl : b < s.heap.size) (hbA : ¬ B ≤ b) (hS : va_S (fun q => B ≤ q) s.heap H locs) {i v : Int32} (hg : (if i < 0 ∨ L ≤ i.toNatClampNeg then none else some (xs i.toNatClampNeg)) = some v) (hdg : decode cc pc = .ok (.iaload, 1))
    (kk : W p l e R s m args below meth c H locs cells slots Q (F0 m (pc + 1) ls (.int v :: rest))) : W p l e R s m args below meth c H locs cells slots Q (F0 m pc ls (.int i :: .ref b :: rest)) := by
  split at hg
  · cases hg
  · rename_i h
    cases hg
    exact va_sld X.1 X.2.1 hX hbl hbA hS h hdg kk
end ALLOC
/-- the law's script -/
def lX (xs : Nat → Int32) (L : Nat) (i : Int32) : Option Int32 := if i < 0 ∨ L ≤ i.toNatClampNeg then none else some (xs i.toNatClampNeg)
