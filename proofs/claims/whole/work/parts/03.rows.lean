/-! ===== ROWS: an instruction over the memory ===== -/
def Cx (p : Program) (s : State) (m : MethodId) (args : Array Value) (c : Code) (cc : ByteArray) (nL : Nat) (own : String) (D : va_G) (cA : Nat → ClassId) : Prop :=
  p.tables.exec = Jvm.exec ∧ c.code = cc ∧ c.maxLocals = nL ∧ s.vm.findClass own = some m.cls ∧ (∀ w ∈ TBg, w.before args s = true) ∧ Kn D cA s
section ROWS
variable {p : Program} {l : Launch} {e : Env} {R : Room} {s : State} {m : MethodId} {args : Array Value} {below : List Frame} {meth : Method} {c : Code} {H H0 : Heap} {locs : List Loc} {cells slots : Nat} {Q : State → Prop}
variable {cc : ByteArray} {nL : Nat} {own : String} {B : Nat} {D : va_G} {cA : Nat → ClassId} {M M1 : Mm} {pc : Nat} {ls : Array Slot} {rest : List Value}
theorem r_getI (X : Cx p s m args c cc nL own D cA) {ci k idx N : Nat} {C : String} {T : u_T} (hc : vwCl[ci]? = some (C, T, N)) (hin : ∀ w ∈ u_ws C T N, w ∈ TBg) (hk : k < N) (hl : Cond.fieldLink own idx (T k).1 (T k).2.1 (T k).2.2.1 ∈ TBg)
    (hR : Rl B D cA M H) {a : Nat} {v : Int32} (hg : gI M a ci k = some v) (hdg : decode cc pc = .ok (.getfield idx, 3)) (kk : W p l e R s m args below meth c H locs cells slots Q (F0 m (pc + 3) ls (.int v :: rest))) : W p l e R s m args below meth c H locs cells slots Q (F0 m pc ls (.ref (B + a) :: rest)) := by
  obtain ⟨fs, h1, h2⟩ := gI_spec hg
  have hlay : (lay B cA M)[a]? = some (B + a, .inr (ci, fs.map (upV B))) := lay_get h1
  exact va_get (D := D) X.1 X.2.1 X.2.2.2.2.1 hin X.2.2.2.1 X.2.2.2.2.2.1 hR.1 a hlay hc k hk (X.2.2.2.2.1 _ hl) (fun _ h => h) (v := .int v) (by rw [List.getElem?_map, h2]; rfl) hdg kk
theorem r_getR (X : Cx p s m args c cc nL own D cA) {ci k idx N : Nat} {C : String} {T : u_T} (hc : vwCl[ci]? = some (C, T, N)) (hin : ∀ w ∈ u_ws C T N, w ∈ TBg) (hk : k < N) (hl : Cond.fieldLink own idx (T k).1 (T k).2.1 (T k).2.2.1 ∈ TBg)
    (hR : Rl B D cA M H) {a v : Nat} (hg : gR M a ci k = some v) (hdg : decode cc pc = .ok (.getfield idx, 3)) (kk : W p l e R s m args below meth c H locs cells slots Q (F0 m (pc + 3) ls (.ref (B + v) :: rest))) : W p l e R s m args below meth c H locs cells slots Q (F0 m pc ls (.ref (B + a) :: rest)) := by
  obtain ⟨fs, h1, h2⟩ := gR_spec hg
  have hlay : (lay B cA M)[a]? = some (B + a, .inr (ci, fs.map (upV B))) := lay_get h1
  exact va_get (D := D) X.1 X.2.1 X.2.2.2.2.1 hin X.2.2.2.1 X.2.2.2.2.2.1 hR.1 a hlay hc k hk (X.2.2.2.2.1 _ hl) (fun _ h => h) (v := .ref (B + v)) (by rw [List.getElem?_map, h2]; rfl) hdg kk
theorem r_putV (X : Cx p s m args c cc nL own D cA) {ci k idx N : Nat} {C : String} {T : u_T} (hc : vwCl[ci]? = some (C, T, N)) (hin : ∀ w ∈ u_ws C T N, w ∈ TBg) (ty0 : Nat → FieldType) (hty : ∀ k, k < N → parseFieldDescriptor (T k).2.2.1 = some (ty0 k)) (hnm : ∀ a, a < N → ∀ b, b < N → a ≠ b → (T a).2.1 ≠ (T b).2.1) (hk : k < N) (hl : Cond.fieldLink own idx (T k).1 (T k).2.1 (T k).2.2.1 ∈ TBg) (hfin : (T k).2.2.2 = false)
    (hR : Rl B D cA M H) (hS : va_S (fun q => B ≤ q) H0 H locs) {a : Nat} {v : Value} (hn : narrow (ty0 k) (upV B v) = upV B v) (hfit : fits (ty0 k) (upV B v) = true) (hg : pV M a ci k v = some M1) (hdg : decode cc pc = .ok (.putfield idx, 3))
    (kk : ∀ (H : Heap) (locs : List Loc), Rl B D cA M1 H → va_S (fun q => B ≤ q) H0 H locs → W p l e R s m args below meth c H locs cells slots Q (F0 m (pc + 3) ls rest)) : W p l e R s m args below meth c H locs cells slots Q (F0 m pc ls (upV B v :: .ref (B + a) :: rest)) := by
  obtain ⟨fs, g1, g2, rfl⟩ := pV_spec hg
  have hts := X.2.2.2.2.1
  have hK := X.2.2.2.2.2.1
  have hap := va_apart (own := own) hts hin ty0 hty hnm hK hc
  obtain ⟨r, h1, cell, q1, q2, q3, q4⟩ := hR.at g1
  have hr : r = (C, T, N) := Option.some.inj (h1.symm.trans hc)
  subst hr
  obtain ⟨hSl, hfc, kC, hkC, hkind⟩ := hK.1 ci _ hc
  obtain ⟨cf, kf, fi, f, hi, hsl⟩ := hSl k hk
  have hlay := hts _ (hin _ (u_in_lay hk))
  unfold u_lay at hlay
  rw [if_neg (by rw [hfin]; decide)] at hlay
  have hst := (u_facts hfc hkC (u_lays hts hin hk) hi).1
  have h6 := u_store hfc hkC hkind hlay hi (hty k hk) hn hfit
  refine W.putK X.1 X.2.1 (f := f) ⟨X.2.2.2.1, hts _ hl, ⟨_, _, _, hi⟩, hst⟩ (by rw [q2]; exact h6) q1 q3 (by rw [hsl]; exact k2_hasslot (q4 k hk)) rfl rfl hdg fun H' e1 e2 e3 => ?_
  rw [hsl] at e1 ⊢
  refine kk H' _ (hR.upd g1 ?_ e2 e3) (hS.put e2 e3 (Nat.le_add_right _ _))
  refine ⟨_, hc, t_OB.to (V := updV (vp_V (fs.map (upV B))) k (upV B v)) ⟨_, e1, q2, q3, t_set q4 hap hk _⟩ (fun j _ => ?_)⟩
  rw [show (fs.set k v).map (upV B) = (fs.map (upV B)).set k (upV B v) by rw [List.map_set]]
  exact vp_updV_set (by rw [List.length_map]; exact g2) _ j
theorem r_putF (X : Cx p s m args c cc nL own D cA) {ci k idx N : Nat} {C : String} {T : u_T} (hc : vwCl[ci]? = some (C, T, N)) (hin : ∀ w ∈ u_ws C T N, w ∈ TBg) (ty0 : Nat → FieldType) (hty : ∀ k, k < N → parseFieldDescriptor (T k).2.2.1 = some (ty0 k)) (hnm : ∀ a, a < N → ∀ b, b < N → a ≠ b → (T a).2.1 ≠ (T b).2.1) (hk : k < N) (hl : Cond.fieldLink own idx (T k).1 (T k).2.1 (T k).2.2.1 ∈ TBg) (hfin : (T k).2.2.2 = true) (hdecl : (T k).1 = own)
    (hin2 : meth.name = "<init>") (hR : Rl B D cA M H) (hS : va_S (fun q => B ≤ q) H0 H locs) {a : Nat} {v : Value} (hn : narrow (ty0 k) (upV B v) = upV B v) (hfit : fits (ty0 k) (upV B v) = true) (hg : pV M a ci k v = some M1) (hdg : decode cc pc = .ok (.putfield idx, 3))
    (kk : ∀ (H : Heap) (locs : List Loc), Rl B D cA M1 H → va_S (fun q => B ≤ q) H0 H locs → W p l e R s m args below meth c H locs cells slots Q (F0 m (pc + 3) ls rest)) : W p l e R s m args below meth c H locs cells slots Q (F0 m pc ls (upV B v :: .ref (B + a) :: rest)) := by
  obtain ⟨fs, g1, g2, rfl⟩ := pV_spec hg
  have hts := X.2.2.2.2.1
  have hK := X.2.2.2.2.2.1
  have hown := X.2.2.2.1
  have hap := va_apart (own := own) hts hin ty0 hty hnm hK hc
  obtain ⟨r, h1, cell, q1, q2, q3, q4⟩ := hR.at g1
  have hr : r = (C, T, N) := Option.some.inj (h1.symm.trans hc)
  subst hr
  obtain ⟨hSl, hfc, kC, hkC, hkind⟩ := hK.1 ci _ hc
  obtain ⟨cf, kf, fi, f, hi, hsl⟩ := hSl k hk
  have hlay := hts _ (hin _ (u_in_lay hk))
  unfold u_lay at hlay
  rw [if_pos hfin] at hlay
  have hst := (u_facts hfc hkC (u_lays hts hin hk) hi).1
  have hcf : m.cls = cf := by
    obtain ⟨_, _, c', _, _, _, -, -, hf', -, -, -, hown2, -⟩ := Cond.laysFinal_spec hlay
    have e1 : c' = cf := by have := hi.symm.trans hf'; simp at this; exact this.1.symm
    rw [hdecl] at hown2
    rw [← e1]; exact Option.some.inj (hown.symm.trans hown2)
  have h6 := u_fits hfc hkC hkind (Or.inr hlay) hi (hty k hk) hn hfit
  refine W.putFinK X.1 X.2.1 hown (hts _ hl) hi hst hcf hin2 (by rw [q2]; exact h6) q1 q3 (by rw [hsl]; exact k2_hasslot (q4 k hk)) rfl rfl hdg fun H' e1 e2 e3 => ?_
  rw [hsl] at e1 ⊢
  refine kk H' _ (hR.upd g1 ?_ e2 e3) (hS.put e2 e3 (Nat.le_add_right _ _))
  refine ⟨_, hc, t_OB.to (V := updV (vp_V (fs.map (upV B))) k (upV B v)) ⟨_, e1, q2, q3, t_set q4 hap hk _⟩ (fun j _ => ?_)⟩
  rw [show (fs.set k v).map (upV B) = (fs.map (upV B)).set k (upV B v) by rw [List.map_set]]
  exact vp_updV_set (by rw [List.length_map]; exact g2) _ j
theorem r_lI (X : Cx p s m args c cc nL own D cA) (hR : Rl B D cA M H) {a : Nat} {i v : Int32} (hg : lI M a i = some v) (hdg : decode cc pc = .ok (.iaload, 1))
    (kk : W p l e R s m args below meth c H locs cells slots Q (F0 m (pc + 1) ls (.int v :: rest))) : W p l e R s m args below meth c H locs cells slots Q (F0 m pc ls (.int i :: .ref (B + a) :: rest)) := by
  obtain ⟨n, f, h1, h2, rfl⟩ := lI_spec hg
  have hlay : (lay B cA M)[a]? = some (B + a, .inl (cA 0, n, .inl f)) := lay_get h1
  exact va_iald X.1 X.2.1 X.2.2.2.2.2.1 hR.1 a 0 hlay rfl h2 hdg kk
theorem r_lJ (X : Cx p s m args c cc nL own D cA) (hR : Rl B D cA M H) {a : Nat} {i : Int32} {v : Int64} (hg : lJ M a i = some v) (hdg : decode cc pc = .ok (.laload, 1))
    (kk : W p l e R s m args below meth c H locs cells slots Q (F0 m (pc + 1) ls (.long v :: rest))) : W p l e R s m args below meth c H locs cells slots Q (F0 m pc ls (.int i :: .ref (B + a) :: rest)) := by
  obtain ⟨n, f, h1, h2, rfl⟩ := lJ_spec hg
  have hlay : (lay B cA M)[a]? = some (B + a, .inl (cA 1, n, .inr (.inl f))) := lay_get h1
  exact va_lald X.1 X.2.1 X.2.2.2.2.2.1 hR.1 a 1 hlay rfl h2 hdg kk
theorem r_lR (X : Cx p s m args c cc nL own D cA) (hR : Rl B D cA M H) {a k v : Nat} {i : Int32} {ty : FieldType} (ht : (tysA cA)[k]? = some (cA k, ty)) (hrk : refKind ty = true) (hg : lR M a k i = some v) (hdg : decode cc pc = .ok (.aaload, 1))
    (kk : W p l e R s m args below meth c H locs cells slots Q (F0 m (pc + 1) ls (.ref (B + v) :: rest))) : W p l e R s m args below meth c H locs cells slots Q (F0 m pc ls (.int i :: .ref (B + a) :: rest)) := by
  obtain ⟨n, f, h1, h2, h3⟩ := lR_spec hg
  have hat : H[B + a]? = some (vp_cell (cA k) (n, .inr (.inr (.inr (.inr (fun i => (f i).map (fun a => B + a))))))) := hR.at h1
  have hlt : i.toNatClampNeg < n := Nat.not_le.mp fun q => h2 (Or.inr q)
  refine W.aald (v := .ref (B + v)) (ty := ty) X.1 X.2.1 hat ((X.2.2.2.2.2.1.2 k _ ht).1 n _) (by first | exact hrk | (cases ty <;> first | rfl | (cases hrk; done))) (fun q => by cases q) (by show ¬ (i < 0 ∨ (arrV _ _ _).slots.size ≤ _); rw [arrV_size]; exact h2) ?_ rfl rfl hdg kk
  show (arrV _ _ _).slots[_]? = _
  rw [arrV_read _ _ hlt]
  dsimp only
  rw [h3]
  rfl
theorem r_sI (X : Cx p s m args c cc nL own D cA) (hR : Rl B D cA M H) (hS : va_S (fun q => B ≤ q) H0 H locs) {a : Nat} {i x : Int32} (hg : sI M a i x = some M1) (hdg : decode cc pc = .ok (.iastore, 1))
    (kk : ∀ (H : Heap) (locs : List Loc), Rl B D cA M1 H → va_S (fun q => B ≤ q) H0 H locs → W p l e R s m args below meth c H locs cells slots Q (F0 m (pc + 1) ls rest)) : W p l e R s m args below meth c H locs cells slots Q (F0 m pc ls (.int x :: .int i :: .ref (B + a) :: rest)) := by
  obtain ⟨n, f, h1, h2, rfl⟩ := sI_spec hg
  have hat : H[B + a]? = some (vp_cell (cA 0) (n, .inl f)) := hR.at h1
  refine W.iast X.1 X.2.1 hat ((X.2.2.2.2.2.1.2 0 _ rfl).1 n (fun j => .int (f j))) (fun q => by cases q) (by show ¬ (i < 0 ∨ (arrV _ _ _).slots.size ≤ _); rw [arrV_size]; exact h2) rfl rfl hdg fun H1 e z oq => ?_
  refine kk H1 _ (hR.upd h1 ?_ z oq) (hS.put z oq (Nat.le_add_right _ _))
  show H1[B + a]? = some (vp_cell _ _)
  rw [e, vp_cell_i, vp_cell_i, arrV_store]
  congr 2
  funext q
  by_cases hq : q = i.toNatClampNeg
  · subst hq
    simp [updV, up1]
  · simp [updV, up1, hq]
theorem r_sJ (X : Cx p s m args c cc nL own D cA) (hR : Rl B D cA M H) (hS : va_S (fun q => B ≤ q) H0 H locs) {a : Nat} {i : Int32} {x : Int64} (hg : sJ M a i x = some M1) (hdg : decode cc pc = .ok (.lastore, 1))
    (kk : ∀ (H : Heap) (locs : List Loc), Rl B D cA M1 H → va_S (fun q => B ≤ q) H0 H locs → W p l e R s m args below meth c H locs cells slots Q (F0 m (pc + 1) ls rest)) : W p l e R s m args below meth c H locs cells slots Q (F0 m pc ls (.long x :: .int i :: .ref (B + a) :: rest)) := by
  obtain ⟨n, f, h1, h2, rfl⟩ := sJ_spec hg
  have hat : H[B + a]? = some (vp_cell (cA 1) (n, .inr (.inl f))) := hR.at h1
  refine W.last X.1 X.2.1 hat ((X.2.2.2.2.2.1.2 1 _ rfl).1 n (fun j => .long (f j))) (fun q => by cases q) (by show ¬ (i < 0 ∨ (arrV _ _ _).slots.size ≤ _); rw [arrV_size]; exact h2) rfl rfl hdg fun H1 e z oq => ?_
  refine kk H1 _ (hR.upd h1 ?_ z oq) (hS.put z oq (Nat.le_add_right _ _))
  show H1[B + a]? = some (vp_cell _ _)
  rw [e, vp_cell_l, vp_cell_l, arrV_store]
  congr 2
  funext q
  by_cases hq : q = i.toNatClampNeg
  · subst hq
    simp [updV, up1]
  · simp [updV, up1, hq]
/-- a store of an object into an array of its class (kinds 2 and 3) -/
theorem r_sR (X : Cx p s m args c cc nL own D cA) (hR : Rl B D cA M H) (hS : va_S (fun q => B ≤ q) H0 H locs) {a k x ci : Nat} {i : Int32} {r : vw_C} {fs : List Value} (ht : (tysA cA)[k]? = some (cA k, .object r.1)) (hc : vwCl[ci]? = some r) (hx : gO M x ci = some fs) (hg : sR M a k i x = some M1) (hdg : decode cc pc = .ok (.aastore, 1))
    (kk : ∀ (H : Heap) (locs : List Loc), Rl B D cA M1 H → va_S (fun q => B ≤ q) H0 H locs → W p l e R s m args below meth c H locs cells slots Q (F0 m (pc + 1) ls rest)) : W p l e R s m args below meth c H locs cells slots Q (F0 m pc ls (.ref (B + x) :: .int i :: .ref (B + a) :: rest)) := by
  obtain ⟨n, f, h1, h2, rfl⟩ := sR_spec hg
  have hat : H[B + a]? = some (vp_cell (cA k) (n, .inr (.inr (.inr (.inr (fun i => (f i).map (fun a => B + a))))))) := hR.at h1
  have hlt : i.toNatClampNeg < n := Nat.not_le.mp fun q => h2 (Or.inr q)
  have h0 : ¬ i < 0 := fun q => h2 (Or.inl q)
  have hK := X.2.2.2.2.2.1
  obtain ⟨r', hr', cellV, g1, g2, g3, -⟩ := hR.at (gO_spec hx)
  have hcls := (hK.1 ci r hc).2
  obtain ⟨kA, comp, k1, k2, k3, -⟩ := (hK.2 k _ ht).2
  have hcomp : comp = D.1 ci := Option.some.inj (k3.symm.trans hcls.1)
  subst hcomp
  obtain ⟨kC, hkC, -⟩ := hcls.2
  refine W.aast X.1 X.2.1 hat (fun q h => by cases h) (fun h => by cases h) k1 k2 rfl hkC ⟨h0, by show _ < (arrV _ _ _).slots.size; rw [arrV_size]; exact hlt⟩ g1 (fun q h => by rw [g3] at h; cases h) (by rw [g2]; exact hkC) (by rw [g2]; exact va_assign hcls) rfl rfl hdg fun H1 e z oq => ?_
  refine kk H1 _ (hR.upd h1 ?_ z oq) (hS.put z oq (Nat.le_add_right _ _))
  show H1[B + a]? = some (vp_cell _ _)
  rw [e, vp_cell_q, vp_cell_q, arrV_store]
  congr 2
  funext q
  by_cases hq : q = i.toNatClampNeg
  · subst hq
    simp [updV, up1, va_rf]
  · simp [updV, up1, hq]
theorem r_cI (X : Cx p s m args c cc nL own D cA) (hls : ls.size = nL) {index : Nat} (hlink : Cond.methodLink own index arraycopyName ∈ TBg) (hnat : Cond.native arraycopyName ∈ TBg) (hstat : Cond.static arraycopyName ∈ TBg) (hini : Cond.initialized "java/lang/System" ∈ TBg)
    (hR : Rl B D cA M H) (hS : va_S (fun q => B ≤ q) H0 H locs) {a0 a : Nat} {sp dp n : Int32} (hg : cI M a0 sp a dp n = some M1)
    (hframes : 1 ≤ R.frames) (hlocals : (rest.map fun v => v.category).sum + (nativeFrameWords "java/lang/System" "arraycopy" 5 + 11) ≤ R.locals) (hdg : decode cc pc = .ok (.invokestatic index, 3))
    (kk : ∀ (H : Heap) (locs : List Loc), Rl B D cA M1 H → va_S (fun q => B ≤ q) H0 H locs → W p l e R s m args below meth c H locs cells slots Q (F0 m (pc + 3) ls rest)) : W p l e R s m args below meth c H locs cells slots Q (F0 m pc ls (.int n :: .int dp :: .ref (B + a) :: .int sp :: .ref (B + a0) :: rest)) := by
  obtain ⟨n0, f, n1, g, g1, g2, h1, h2, h3, h4, h5, rfl⟩ := cI_spec hg
  obtain ⟨hexec, hb, hml0, hown, hts, hK0⟩ := X
  have hK := hK0.1
  have hml : c.maxLocals = ls.size := by rw [hml0, hls]
  have nn : ∀ z : Int32, ¬ z < 0 → z.toInt = (z.toNatClampNeg : Int) := by
    intro z hz
    have hz0 : (0 : Int) ≤ z.toInt := by
      have := Int32.not_lt.mp hz
      simpa using Int32.le_iff_toInt_le.mp this
    show z.toInt = ((z.toInt.toNat : Nat) : Int)
    omega
  intro T hT X
  have hc0 : H[B + a0]? = some (vp_cell (cA 0) (n0, .inl f)) := hR.at g1
  have hc1 : H[B + a]? = some (vp_cell (cA 0) (n1, .inl g)) := hR.at g2
  obtain ⟨-, k0, hk0, cm0, hkk0⟩ := (hK.2 0 _ rfl).1 n0 (fun j => .int (f j))
  obtain ⟨-, k1, hk1, cm1, hkk1⟩ := (hK.2 0 _ rfl).1 n1 (fun j => .int (g j))
  obtain ⟨vm', X', step⟩ := X.arraycopy hexec hown (hts _ hlink) (hts _ hnat) (hts _ hstat) (hts _ hini) (src := B + a0) (dst := B + a) (cs := vp_cell (cA 0) (n0, .inl f)) (cd := vp_cell (cA 0) (n1, .inl g)) (srcPos := sp) (destPos := dp) (n := n) (by rw [hT]; exact hc0) (by rw [hT]; exact hc1)
    (fun _ h => by cases h) (fun _ h => by cases h) (fun h => by cases h) (fun h => by cases h) hk0 hk1 hkk0 hkk1 (by simp [refKind]) h1 h2 h3
    (by rw [nn sp h1, nn n h3]; show ¬ _ > ((arrV (cA 0) n0 (fun j => .int (f j))).slots.size : Int); rw [arrV_size]; omega)
    (by rw [nn dp h2, nn n h3]; show ¬ _ > ((arrV (cA 0) n1 (fun j => .int (g j))).slots.size : Int); rw [arrV_size]; omega)
    (fun vm₁ _ i hi => by
      have e : (vp_cell (cA 0) (n0, .inl f)).slots.getD (sp.toNatClampNeg + i) .null = .int (f (sp.toNatClampNeg + i)) := by
        show (arrV (cA 0) n0 (fun j => .int (f j))).slots.getD _ _ = _
        rw [Array.getD_eq_getD_getElem?, arrV_read _ _ (by omega)]
        rfl
      refine ⟨?_, ?_⟩
      · rw [e]
        rfl
      · rw [e]
        exact trivial)
    (g := F0 m pc ls (.int n :: .int dp :: .ref (B + a) :: .int sp :: .ref (B + a0) :: rest)) rfl (by rw [hml]) (rest := rest) rfl (by rw [hb]; exact hdg) hframes (by show 2 * 0 + _ + _ ≤ _; omega)
  have e1 : copied (vp_cell (cA 0) (n0, .inl f)) (vp_cell (cA 0) (n1, .inl g)) sp dp n = vp_cell (cA 0) (n1, .inl (va_cpy f g sp.toNatClampNeg dp.toNatClampNeg n.toNatClampNeg)) := va_copied (fun z => .int z) (cA 0) (cA 0) f g h4
  rw [e1] at X' step
  have hl : B + a < H.size := (Array.getElem?_eq_some_iff.mp hc1).1
  have hheap : ((T.setVm vm').setCell (B + a) (vp_cell (cA 0) (n1, .inl (va_cpy f g sp.toNatClampNeg dp.toNatClampNeg n.toNatClampNeg)))).heap = H.setIfInBounds (B + a) (vp_cell (cA 0) (n1, .inl (va_cpy f g sp.toNatClampNeg dp.toNatClampNeg n.toNatClampNeg))) := by rw [← hT]; rfl
  have oq : ∀ q : Nat, q ≠ B + a → (H.setIfInBounds (B + a) (vp_cell (cA 0) (n1, .inl (va_cpy f g sp.toNatClampNeg dp.toNatClampNeg n.toNatClampNeg))))[q]? = H[q]? := fun q hq => by simp [Array.getElem?_setIfInBounds, Ne.symm hq]
  obtain ⟨t, a1, b1⟩ := kk _ _ (hR.upd g2 (show (H.setIfInBounds (B + a) _)[B + a]? = some _ by simp [Array.getElem?_setIfInBounds, hl]) (by simp) oq) ⟨by simp; exact hS.1, fun q g1 g2 => by
      rw [oq q (fun e => g2 (by rw [e]; exact Nat.le_add_right _ _))]
      exact hS.2.1 q g1 g2, fun q hq => by
      rcases List.mem_append.mp hq with h | h
      · exact hS.2.2 q h
      · obtain ⟨z, -, hz⟩ := List.mem_map.mp h
        rw [← hz]
        exact Nat.le_add_right _ _⟩ _ hheap X'
  exact ⟨t, step t a1, b1⟩
end ROWS
