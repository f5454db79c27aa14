/-! ===== MEMORY: the cells that the law makes, by abstract numbers 0, 1, 2 ..; number k lies at the address B + k ===== -/
abbrev mE : Type := (Nat × (Nat → Int32)) ⊕ (Nat × (Nat → Int64)) ⊕ (Nat × Nat × (Nat → Option Nat)) ⊕ (Nat × List Value)
abbrev Mm : Type := List mE
abbrev eI (n : Nat) (f : Nat → Int32) : mE := .inl (n, f)
abbrev eJ (n : Nat) (f : Nat → Int64) : mE := .inr (.inl (n, f))
abbrev eR (k n : Nat) (f : Nat → Option Nat) : mE := .inr (.inr (.inl (k, n, f)))
abbrev eO (c : Nat) (fs : List Value) : mE := .inr (.inr (.inr (c, fs)))
def up1 {α : Type} (f : Nat → α) (k : Nat) (x : α) : Nat → α := fun j => if j = k then x else f j
def upV (B : Nat) (v : Value) : Value := match v with
  | .ref a => .ref (B + a)
  | v => v
def upE (B : Nat) (cA : Nat → ClassId) (e : mE) : va_E := match e with
  | .inl (n, f) => .inl (cA 0, n, .inl f)
  | .inr (.inl (n, f)) => .inl (cA 1, n, .inr (.inl f))
  | .inr (.inr (.inl (k, n, f))) => .inl (cA k, n, .inr (.inr (.inr (.inr (fun i => (f i).map (fun a => B + a))))))
  | .inr (.inr (.inr (c, fs))) => .inr (c, fs.map (upV B))
def lay (B : Nat) (cA : Nat → ClassId) (m : Mm) : va_W := m.mapIdx (fun k e => (B + k, upE B cA e))
theorem lay_get {B : Nat} {cA : Nat → ClassId} {m : Mm} {k : Nat} {e : mE} (h : m[k]? = some e) : (lay B cA m)[k]? = some (B + k, upE B cA e) := by simp [lay, h]
theorem lay_inv {B : Nat} {cA : Nat → ClassId} {m : Mm} {k : Nat} {x : Nat × va_E} (h : (lay B cA m)[k]? = some x) : ∃ e, m[k]? = some e ∧ x = (B + k, upE B cA e) := by
  simp only [lay, List.getElem?_mapIdx, Option.map_eq_some_iff] at h
  obtain ⟨e, h1, h2⟩ := h
  exact ⟨e, h1, h2.symm⟩
theorem lay_set {B : Nat} {cA : Nat → ClassId} {m : Mm} {k : Nat} (e : mE) : (lay B cA m).set k (B + k, upE B cA e) = lay B cA (m.set k e) := by
  apply List.ext_getElem?
  intro i
  simp only [lay, List.getElem?_set, List.getElem?_mapIdx, List.length_mapIdx]
  by_cases h : k = i
  · subst h
    by_cases h2 : k < m.length
    · simp [h2]
    · simp [h2]
  · simp [h]
theorem lay_app {B : Nat} {cA : Nat → ClassId} {m : Mm} (e : mE) : lay B cA (m ++ [e]) = lay B cA m ++ [(B + m.length, upE B cA e)] := by
  simp [lay, List.mapIdx_append]
theorem lay_D (B : Nat) (cA : Nat → ClassId) (m : Mm) : va_D (fun q => B ≤ q) (lay B cA m) := by
  refine ⟨fun i j x y hx hy hxy => ?_, fun k q hq => ?_⟩
  · obtain ⟨e, -, rfl⟩ := lay_inv hx
    obtain ⟨e', -, rfl⟩ := lay_inv hy
    exact Nat.add_left_cancel hxy
  · obtain ⟨e, -, rfl⟩ := lay_inv hq
    exact Nat.le_add_right _ _
/-- the heap holds the memory m -/
def Rl (B : Nat) (D : va_G) (cA : Nat → ClassId) (m : Mm) (H : Heap) : Prop := va_P D vwCl (lay B cA m) H ∧ H.size = B + m.length
theorem Rl.upd {B : Nat} {D : va_G} {cA : Nat → ClassId} {m : Mm} {H H1 : Heap} {k : Nat} {e0 e1 : mE} (h : Rl B D cA m H) (hk : m[k]? = some e0) (h1 : va_at D vwCl (B + k, upE B cA e1) H1) (hz : H1.size = H.size) (ho : ∀ q : Nat, q ≠ B + k → H1[q]? = H[q]?) : Rl B D cA (m.set k e1) H1 := by
  refine ⟨?_, by rw [hz, h.2, List.length_set]⟩
  rw [← lay_set]
  exact h.1.set (lay_D B cA m) (lay_get hk) h1 ho
theorem Rl.push {B : Nat} {D : va_G} {cA : Nat → ClassId} {m : Mm} {H H1 : Heap} {e : mE} (h : Rl B D cA m H) (h1 : va_at D vwCl (B + m.length, upE B cA e) H1) (hz : H1.size = H.size + 1) (ho : ∀ q : Nat, q < H.size → H1[q]? = H[q]?) : Rl B D cA (m ++ [e]) H1 := by
  refine ⟨?_, by rw [hz, h.2, List.length_append]; rfl⟩
  rw [lay_app]
  refine (h.1.kept (fun k q hq => ho q.1 ((h.1 k q hq).lt))).app (fun k q hq => ?_)
  have h0 : k < 1 := (List.getElem?_eq_some_iff.mp hq).1
  rw [show k = 0 by omega] at hq
  cases hq
  exact h1
theorem Rl.at {B : Nat} {D : va_G} {cA : Nat → ClassId} {m : Mm} {H : Heap} {k : Nat} {e : mE} (h : Rl B D cA m H) (hk : m[k]? = some e) : va_at D vwCl (B + k, upE B cA e) H := h.1 k _ (lay_get hk)
/-! ===== what is known of the classes ===== -/
def va_AOA (t : FieldType) (U : State) : Prop := (Cond.arrayOver (.array t)).before #[] U = true
theorem va_AOA.moved {t : FieldType} {u U : State} (hvm : u.vm.Alike U.vm) (h : va_AOA t u) : va_AOA t U := by
  obtain ⟨comp, c, k, h1, h2, h3, h4, h5⟩ := arrayOverA_spec h
  obtain ⟨k', hk', he⟩ := hvm.2.2 _ _ h3
  have hi : (U.vm.classes.findIdx? fun (x : Class) => match x.kind with | .array component _ => component == comp | _ => false) = some c := by
    have e1 := va_idx_bare U.vm comp
    have e2 := va_idx_bare u.vm comp
    have eb : U.vm.bare = u.vm.bare := by first | exact hvm.bare_eq | exact hvm.bare_eq.symm
    rw [eb] at e1
    exact e1.symm.trans (e2.trans h2)
  have hkind : k'.kind = .array comp (.array t) := by rw [he]; exact h4
  have f1 : U.vm.findClass (FieldType.array t).toString = some comp := by rw [hvm.findClass]; exact h1
  have f2 : U.vm.findClass ("[" ++ (FieldType.array t).toString) = some c := by rw [hvm.findClass]; exact h5
  unfold va_AOA Cond.before Cond.holds
  simp only [Cond.value]
  rw [f1, Option.bind_some]
  refine (congrArg (fun o : Option Nat => (o.bind (fun c => (U.vm.classes[c]?).map fun (k : Class) => match k.kind with | .array _ ty => decide (ty = FieldType.array t) && decide (U.vm.findClass ("[" ++ (FieldType.array t).toString) = some c) | _ => false) == some true)) hi).trans ?_
  simp [hk', hkind, f2]
def nestW : List Cond := lw_tbl.filter (fun w => match w with | .methodLinkNest .. => true | _ => false)
def tysA (cA : Nat → ClassId) : List (ClassId × FieldType) := [(cA 0, .int), (cA 1, .long), (cA 2, .object RX2), (cA 3, .object RX5), (cA 4, .array .long)]
def Kn (D : va_G) (cA : Nat → ClassId) (U : State) : Prop := va_K D vwCl (tysA cA) U ∧ (∀ w ∈ nestW, va_Nw w U) ∧ va_AO RX2 U ∧ va_AO RX5 U ∧ va_AOA .long U
theorem Kn.moved {D : va_G} {cA : Nat → ClassId} {u U : State} (hW : u.WarmedH U.vm) (h : Kn D cA u) : Kn D cA U := by
  refine ⟨va_K.moved hW.alike h.1, fun w hw => ?_, h.2.2.1.moved hW.alike, h.2.2.2.1.moved hW.alike, h.2.2.2.2.moved hW.alike⟩
  have hm := (List.mem_filter.mp hw).2
  cases w <;> first | (cases hm; done) | exact (h.2.1 _ hw).warmM hW
theorem Kn.same {D : va_G} {cA : Nat → ClassId} {u U : State} (hv : u.vm = U.vm) (h : Kn D cA u) : Kn D cA U := by
  have ha : u.vm.Alike U.vm := by rw [hv]; exact Vm.Alike.refl _
  refine ⟨va_K.moved ha h.1, fun w hw => ?_, h.2.2.1.moved ha, h.2.2.2.1.moved ha, h.2.2.2.2.moved ha⟩
  have hm := (List.mem_filter.mp hw).2
  cases w <;> first | (cases hm; done) | exact va_Nw.same rfl hv (h.2.1 _ hw)
/-! ===== what a method is given, and what it gives back ===== -/
def mPc (B : Nat) (D : va_G) (cA : Nat → ClassId) (av : List Value) (m : Mm) : Array Value → State → Prop := fun v U => v = av.toArray ∧ Rl B D cA m U.heap ∧ Kn D cA U
def mQ (B : Nat) (D : va_G) (cA : Nat → ClassId) (rv : Option Value) (m : Mm) : Array Value → State → Outcome → State → Prop := fun _ st o t => o = .returned rv ∧ Rl B D cA m t.heap ∧ va_F (fun q => B ≤ q) st t
abbrev rmm (f c s lo : Nat) : Room := { frames := f, cells := c, slots := s, locals := lo }
theorem mPc_blind {B : Nat} {D : va_G} {cA : Nat → ClassId} {av : List Value} {m : Mm} : FrameBlind (mPc B D cA av m) := by
  intro a U g mk h
  exact ⟨h.1, h.2.1, Kn.same (u := U) (U := U.calling g mk a) rfl h.2.2⟩
/-! ===== the operations, as functions on the memory ===== -/
def gO (m : Mm) (a c : Nat) : Option (List Value) := match m[a]? with
  | some (.inr (.inr (.inr (c', fs)))) => if c' = c then some fs else none
  | _ => none
def gI (m : Mm) (a c k : Nat) : Option Int32 := match gO m a c with
  | some fs => (match fs[k]? with
    | some (.int v) => some v
    | _ => none)
  | none => none
def gR (m : Mm) (a c k : Nat) : Option Nat := match gO m a c with
  | some fs => (match fs[k]? with
    | some (.ref v) => some v
    | _ => none)
  | none => none
def pV (m : Mm) (a c k : Nat) (v : Value) : Option Mm := match gO m a c with
  | some fs => if k < fs.length then some (m.set a (eO c (fs.set k v))) else none
  | none => none
abbrev pI (m : Mm) (a c k : Nat) (v : Int32) : Option Mm := pV m a c k (.int v)
abbrev pR (m : Mm) (a c k : Nat) (v : Nat) : Option Mm := pV m a c k (.ref v)
def lI (m : Mm) (a : Nat) (i : Int32) : Option Int32 := match m[a]? with
  | some (.inl (n, f)) => if i < 0 ∨ n ≤ i.toNatClampNeg then none else some (f i.toNatClampNeg)
  | _ => none
def sI (m : Mm) (a : Nat) (i x : Int32) : Option Mm := match m[a]? with
  | some (.inl (n, f)) => if i < 0 ∨ n ≤ i.toNatClampNeg then none else some (m.set a (eI n (up1 f i.toNatClampNeg x)))
  | _ => none
def lJ (m : Mm) (a : Nat) (i : Int32) : Option Int64 := match m[a]? with
  | some (.inr (.inl (n, f))) => if i < 0 ∨ n ≤ i.toNatClampNeg then none else some (f i.toNatClampNeg)
  | _ => none
def sJ (m : Mm) (a : Nat) (i : Int32) (x : Int64) : Option Mm := match m[a]? with
  | some (.inr (.inl (n, f))) => if i < 0 ∨ n ≤ i.toNatClampNeg then none else some (m.set a (eJ n (up1 f i.toNatClampNeg x)))
  | _ => none
def lR (m : Mm) (a k : Nat) (i : Int32) : Option Nat := match m[a]? with
  | some (.inr (.inr (.inl (k', n, f)))) => if k' = k then (if i < 0 ∨ n ≤ i.toNatClampNeg then none else f i.toNatClampNeg) else none
  | _ => none
def sR (m : Mm) (a k : Nat) (i : Int32) (x : Nat) : Option Mm := match m[a]? with
  | some (.inr (.inr (.inl (k', n, f)))) => if k' = k then (if i < 0 ∨ n ≤ i.toNatClampNeg then none else some (m.set a (eR k n (up1 f i.toNatClampNeg (some x))))) else none
  | _ => none
/-- System.arraycopy of ints -/
def cI (m : Mm) (a : Nat) (i : Int32) (b : Nat) (j n : Int32) : Option Mm := match m[a]? with
  | some (.inl (na, f)) => (match m[b]? with
    | some (.inl (nb, g)) => if i < 0 ∨ j < 0 ∨ n < 0 ∨ na < i.toNatClampNeg + n.toNatClampNeg ∨ nb < j.toNatClampNeg + n.toNatClampNeg then none else some (m.set b (eI nb (va_cpy f g i.toNatClampNeg j.toNatClampNeg n.toNatClampNeg)))
    | _ => none)
  | _ => none
/-- a loop: at most n rounds -/
def whl {σ ρ : Type} : Nat → (σ → Option (σ ⊕ ρ)) → σ → Option ρ
  | 0, _, _ => none
  | n + 1, f, s => match f s with
    | none => none
    | some (.inl s') => whl n f s'
    | some (.inr r) => some r
def FU : Nat := 1000000
theorem whl_rule {σ ρ : Type} {f : σ → Option (σ ⊕ ρ)} {P : σ → Prop} {Qx : ρ → Prop} (hs : ∀ s x, f s = some x → (∀ s', x = .inl s' → P s') → (∀ r, x = .inr r → Qx r) → P s) : ∀ (n : Nat) (s : σ) (r : ρ), whl n f s = some r → Qx r → P s := by
  intro n
  induction n with
  | zero => intro s r h; cases h
  | succ n ih =>
    intro s r h hq
    simp only [whl] at h
    cases hf : f s with
    | none => rw [hf] at h; cases h
    | some x =>
      rw [hf] at h
      cases x with
      | inl s' => exact hs s _ hf (fun z hz => by cases hz; exact ih s' r h hq) (fun z hz => by cases hz)
      | inr r' => cases h; exact hs s _ hf (fun z hz => by cases hz) (fun z hz => by cases hz; exact hq)
theorem ob {α β : Type} {x : Option α} {f : α → Option β} {b : β} (h : x.bind f = some b) : ∃ a, x = some a ∧ f a = some b := Option.bind_eq_some_iff.mp h
/-! ===== what the operations say of the cells ===== -/
theorem gO_spec {m : Mm} {a c : Nat} {fs : List Value} (h : gO m a c = some fs) : m[a]? = some (eO c fs) := by
  unfold gO at h
  split at h
  · split at h
    · rename_i h1 h2; subst h2; cases h; assumption
    · cases h
  · cases h
theorem gI_spec {m : Mm} {a c k : Nat} {v : Int32} (h : gI m a c k = some v) : ∃ fs, m[a]? = some (eO c fs) ∧ fs[k]? = some (.int v) := by
  unfold gI at h
  split at h
  · rename_i fs h1
    split at h
    · rename_i h2; cases h; exact ⟨fs, gO_spec h1, h2⟩
    · cases h
  · cases h
theorem gR_spec {m : Mm} {a c k : Nat} {v : Nat} (h : gR m a c k = some v) : ∃ fs, m[a]? = some (eO c fs) ∧ fs[k]? = some (.ref v) := by
  unfold gR at h
  split at h
  · rename_i fs h1
    split at h
    · rename_i h2; cases h; exact ⟨fs, gO_spec h1, h2⟩
    · cases h
  · cases h
theorem pV_spec {m m1 : Mm} {a c k : Nat} {v : Value} (h : pV m a c k v = some m1) : ∃ fs, m[a]? = some (eO c fs) ∧ k < fs.length ∧ m1 = m.set a (eO c (fs.set k v)) := by
  unfold pV at h
  split at h
  · rename_i fs h1
    split at h
    · rename_i h2; cases h; exact ⟨fs, gO_spec h1, h2, rfl⟩
    · cases h
  · cases h
theorem lI_spec {m : Mm} {a : Nat} {i v : Int32} (h : lI m a i = some v) : ∃ n f, m[a]? = some (eI n f) ∧ vp_in i n ∧ v = f i.toNatClampNeg := by
  unfold lI at h
  split at h
  · rename_i n f h1
    split at h
    · cases h
    · rename_i h2; cases h; exact ⟨n, f, h1, h2, rfl⟩
  · cases h
theorem sI_spec {m m1 : Mm} {a : Nat} {i x : Int32} (h : sI m a i x = some m1) : ∃ n f, m[a]? = some (eI n f) ∧ vp_in i n ∧ m1 = m.set a (eI n (up1 f i.toNatClampNeg x)) := by
  unfold sI at h
  split at h
  · rename_i n f h1
    split at h
    · cases h
    · rename_i h2; cases h; exact ⟨n, f, h1, h2, rfl⟩
  · cases h
theorem lJ_spec {m : Mm} {a : Nat} {i : Int32} {v : Int64} (h : lJ m a i = some v) : ∃ n f, m[a]? = some (eJ n f) ∧ vp_in i n ∧ v = f i.toNatClampNeg := by
  unfold lJ at h
  split at h
  · rename_i n f h1
    split at h
    · cases h
    · rename_i h2; cases h; exact ⟨n, f, h1, h2, rfl⟩
  · cases h
theorem sJ_spec {m m1 : Mm} {a : Nat} {i : Int32} {x : Int64} (h : sJ m a i x = some m1) : ∃ n f, m[a]? = some (eJ n f) ∧ vp_in i n ∧ m1 = m.set a (eJ n (up1 f i.toNatClampNeg x)) := by
  unfold sJ at h
  split at h
  · rename_i n f h1
    split at h
    · cases h
    · rename_i h2; cases h; exact ⟨n, f, h1, h2, rfl⟩
  · cases h
theorem lR_spec {m : Mm} {a k : Nat} {i : Int32} {v : Nat} (h : lR m a k i = some v) : ∃ n f, m[a]? = some (eR k n f) ∧ vp_in i n ∧ f i.toNatClampNeg = some v := by
  unfold lR at h
  split at h
  · rename_i k' n f h1
    split at h
    · rename_i hk
      subst hk
      split at h
      · cases h
      · rename_i h2; exact ⟨n, f, h1, h2, h⟩
    · cases h
  · cases h
theorem sR_spec {m m1 : Mm} {a k : Nat} {i : Int32} {x : Nat} (h : sR m a k i x = some m1) : ∃ n f, m[a]? = some (eR k n f) ∧ vp_in i n ∧ m1 = m.set a (eR k n (up1 f i.toNatClampNeg (some x))) := by
  unfold sR at h
  split at h
  · rename_i k' n f h1
    split at h
    · rename_i hk
      subst hk
      split at h
      · cases h
      · rename_i h2; cases h; exact ⟨n, f, h1, h2, rfl⟩
    · cases h
  · cases h
theorem cI_spec {m m1 : Mm} {a b : Nat} {i j n : Int32} (h : cI m a i b j n = some m1) : ∃ na f nb g, m[a]? = some (eI na f) ∧ m[b]? = some (eI nb g) ∧ (¬ i < 0) ∧ (¬ j < 0) ∧ (¬ n < 0) ∧ i.toNatClampNeg + n.toNatClampNeg ≤ na ∧ j.toNatClampNeg + n.toNatClampNeg ≤ nb ∧ m1 = m.set b (eI nb (va_cpy f g i.toNatClampNeg j.toNatClampNeg n.toNatClampNeg)) := by
  unfold cI at h
  split at h
  · rename_i na f h1
    split at h
    · rename_i nb g h2
      split at h
      · cases h
      · rename_i h3
        cases h
        refine ⟨na, f, nb, g, h1, h2, fun q => h3 (Or.inl q), fun q => h3 (Or.inr (Or.inl q)), fun q => h3 (Or.inr (Or.inr (Or.inl q))), Nat.not_lt.mp fun q => h3 (Or.inr (Or.inr (Or.inr (Or.inl q)))), Nat.not_lt.mp fun q => h3 (Or.inr (Or.inr (Or.inr (Or.inr q)))), rfl⟩
    · cases h
  · cases h
