/-! ===== CALLS, STARTS, RETURNS ===== -/
theorem tb_gi {cd : Cond} (h : cd ∈ TBg) : GoodIn TBg (cd :: TBg) := fun w hw => by
  rcases List.mem_cons.mp hw with rfl | h'
  · exact ⟨h, good_of_word (List.mem_filter.mp h).2⟩
  · exact ⟨h', good_of_word (List.mem_filter.mp h').2⟩
/-- the words of a call of an instance method; of a static one -/
def wV (own : String) (idx : Nat) (C : String) (y : MethodName) (cd : ByteArray) (mL : Nat) (ret : Option FieldType) (n : Nat) : Prop :=
  (Cond.methodLink own idx y ∈ TBg ∧ Cond.instanceMethod y ∈ TBg ∧ Cond.selects C y y ∈ TBg ∧ Cond.initialized C ∈ TBg ∧ Cond.code y cd mL ret ∈ TBg) ∧ y.cls = C ∧ y.cls ≠ "java/lang/invoke/MethodHandle" ∧ y.cls ≠ "java/lang/invoke/VarHandle" ∧ (parseMethodDescriptor y.desc).map (fun d => d.parameters.length) = some n
def wS (own : String) (idx : Nat) (y : MethodName) (cd : ByteArray) (mL : Nat) (ret : Option FieldType) (n : Nat) : Prop :=
  (Cond.methodLink own idx y ∈ TBg ∧ Cond.static y ∈ TBg ∧ Cond.initialized y.cls ∈ TBg ∧ Cond.code y cd mL ret ∈ TBg) ∧ y.cls ≠ "java/lang/invoke/MethodHandle" ∧ y.cls ≠ "java/lang/invoke/VarHandle" ∧ (parseMethodDescriptor y.desc).map (fun d => d.parameters.length) = some n
def wSN (own : String) (idx : Nat) (y : MethodName) (host : String) (cd : ByteArray) (mL : Nat) (ret : Option FieldType) (n : Nat) : Prop :=
  (Cond.methodLinkNest own idx y host ∈ nestW ∧ Cond.static y ∈ TBg ∧ Cond.initialized y.cls ∈ TBg ∧ Cond.code y cd mL ret ∈ TBg) ∧ y.cls ≠ "java/lang/invoke/MethodHandle" ∧ y.cls ≠ "java/lang/invoke/VarHandle" ∧ (parseMethodDescriptor y.desc).map (fun d => d.parameters.length) = some n
def wI (own : String) (idx : Nat) (y : MethodName) (cd : ByteArray) (mL : Nat) (n : Nat) : Prop :=
  (Cond.methodLink own idx y ∈ TBg ∧ Cond.instanceMethod y ∈ TBg ∧ Cond.initialized y.cls ∈ TBg ∧ Cond.code y cd mL none ∈ TBg) ∧ y.name = "<init>" ∧ y.cls ≠ "java/lang/invoke/MethodHandle" ∧ y.cls ≠ "java/lang/invoke/VarHandle" ∧ (parseMethodDescriptor y.desc).map (fun d => d.parameters.length) = some n
def wIN (own : String) (idx : Nat) (y : MethodName) (host : String) (cd : ByteArray) (mL : Nat) (n : Nat) : Prop :=
  (Cond.methodLinkNest own idx y host ∈ nestW ∧ Cond.instanceMethod y ∈ TBg ∧ Cond.initialized y.cls ∈ TBg ∧ Cond.code y cd mL none ∈ TBg) ∧ y.name = "<init>" ∧ y.cls ≠ "java/lang/invoke/MethodHandle" ∧ y.cls ≠ "java/lang/invoke/VarHandle" ∧ (parseMethodDescriptor y.desc).map (fun d => d.parameters.length) = some n
/-- a contract over the memory -/
abbrev Mt (l : Launch) (B : Nat) (D : va_G) (cA : Nat → ClassId) (y : MethodName) (cd : ByteArray) (mL : Nat) (ret : Option FieldType) (fr lo mc ms : Nat) (av : List Value) (M : Mm) (rv : Option Value) (M1 : Mm) : Prop :=
  Met l y (.code y cd mL ret :: TBg) (rmm fr mc ms lo) (mPc B D cA av M) (mQ B D cA rv M1) mc ms (fun q => B ≤ q)
section CALLS
variable {p : Program} {l : Launch} {e : Env} {R : Room} {s : State} {m : MethodId} {args : Array Value} {below : List Frame} {meth : Method} {c : Code} {H H0 : Heap} {locs : List Loc} {cells slots : Nat} {Q : State → Prop}
variable {cc : ByteArray} {nL : Nat} {own : String} {B : Nat} {D : va_G} {cA : Nat → ClassId} {M M1 : Mm} {pc : Nat} {ls : Array Slot} {rest : List Value}
theorem r_call {mc ms : Nat} {rv : Option Value} {a : Array Value} {st0 : List Value} (hr : va_Run p l e R s m args below meth c H locs cells slots mc ms (F0 m pc ls st0) rest (mQ B D cA rv M1 a) (fun q => B ≤ q)) (hS : va_S (fun q => B ≤ q) H0 H locs)
    (kk : ∀ (H : Heap) (locs : List Loc), Rl B D cA M1 H → va_S (fun q => B ≤ q) H0 H locs → W p l e R s m args below meth c H locs (cells + mc) (slots + ms) Q (F0 m (pc + 3) ls (rv.toList ++ rest))) : W p l e R s m args below meth c H locs cells slots Q (F0 m pc ls st0) := by
  intro T hT X
  obtain ⟨v, st₀, t, T', L, h0, X', hL, e1, e2, ⟨hv, hRl, hz, hk⟩, st⟩ := hr T hT X
  cases hv
  rw [h0] at hz hk
  obtain ⟨t2, a1, b1⟩ := kk T'.heap (locs ++ L) (by rw [e1]; exact hRl)
    ⟨Nat.le_trans hS.1 (by rw [e1]; exact hz), fun q h1 h2 => by rw [e1, hk q (Nat.lt_of_lt_of_le h1 hS.1) h2]; exact hS.2.1 q h1 h2, fun q hq => by
      rcases List.mem_append.mp hq with h | h
      · exact hS.2.2 q h
      · exact hL q h⟩ T' rfl X'
  exact ⟨t2, st t2 a1, b1⟩
theorem r_callV (X : Cx p s m args c cc nL own D cA) {idx mL n fr lo mc ms ci N a : Nat} {C : String} {T : u_T} {y : MethodName} {cd : ByteArray} {ret : Option FieldType} {rv : Option Value} {As : List Value} {fs : List Value} {st0 : List Value} (hw : wV own idx C y cd mL ret n) (hc : vwCl[ci]? = some (C, T, N))
    (hM : Mt l B D cA y cd mL ret fr lo mc ms (.ref (B + a) :: As) M rv M1) (hro : fr + 1 ≤ R.frames ∧ 8 + (mL + 11) + lo ≤ R.locals) (ho : gO M a ci = some fs) (hR : Rl B D cA M H) (hS : va_S (fun q => B ≤ q) H0 H locs) (hls : ls.size = nL) (hn : As.length = n) (hst : st0 = As.reverse ++ .ref (B + a) :: rest) (hre : (rest.map fun v => v.category).sum ≤ 8) (hf : cells + mc ≤ R.cells ∧ slots + ms ≤ R.slots) (hdg : decode cc pc = .ok (.invokevirtual idx, 3))
    (kk : ∀ (H : Heap) (locs : List Loc), Rl B D cA M1 H → va_S (fun q => B ≤ q) H0 H locs → W p l e R s m args below meth c H locs (cells + mc) (slots + ms) Q (F0 m (pc + 3) ls (rv.toList ++ rest))) : W p l e R s m args below meth c H locs cells slots Q (F0 m pc ls st0) := by
  subst hst
  obtain ⟨⟨w1, w2, w3, w4, w5⟩, wd⟩ := hw
  have hts := X.2.2.2.2.1
  have hlay : (lay B cA M)[a]? = some (B + a, .inr (ci, fs.map (upV B))) := lay_get (gO_spec ho)
  have hrec := va_recv X.2.2.2.2.2.1 hR.1 hc hlay
  exact r_call (va_runV (C := C) (As := As) (rest := rest) ⟨X.1, X.2.1, X.2.2.1, X.2.2.2.1, hts⟩ hM ⟨callB_of n hts (tb_gi w5) rfl rfl rfl (hts _ (by rw [wd.1]; exact w4)) (hts _ w1) wd.2 hro, hts _ w2, hts _ w3⟩ ⟨mPc_blind, hrec, fun U hU hW => ⟨rfl, by rw [hU]; exact hR, Kn.moved hW X.2.2.2.2.2⟩⟩ rfl hn hls rfl (lv_room hre) hdg hf) hS kk
theorem r_callS (X : Cx p s m args c cc nL own D cA) {idx mL n fr lo mc ms : Nat} {y : MethodName} {cd : ByteArray} {ret : Option FieldType} {rv : Option Value} {As : List Value} {st0 : List Value} (hw : wS own idx y cd mL ret n)
    (hM : Mt l B D cA y cd mL ret fr lo mc ms As M rv M1) (hro : fr + 1 ≤ R.frames ∧ 8 + (mL + 11) + lo ≤ R.locals) (hR : Rl B D cA M H) (hS : va_S (fun q => B ≤ q) H0 H locs) (hls : ls.size = nL) (hn : As.length = n) (hst : st0 = As.reverse ++ rest) (hre : (rest.map fun v => v.category).sum ≤ 8) (hf : cells + mc ≤ R.cells ∧ slots + ms ≤ R.slots) (hdg : decode cc pc = .ok (.invokestatic idx, 3))
    (kk : ∀ (H : Heap) (locs : List Loc), Rl B D cA M1 H → va_S (fun q => B ≤ q) H0 H locs → W p l e R s m args below meth c H locs (cells + mc) (slots + ms) Q (F0 m (pc + 3) ls (rv.toList ++ rest))) : W p l e R s m args below meth c H locs cells slots Q (F0 m pc ls st0) := by
  subst hst
  obtain ⟨⟨w1, w2, w4, w5⟩, wd⟩ := hw
  have hts := X.2.2.2.2.1
  exact r_call (va_runS (As := As) (rest := rest) ⟨X.1, X.2.1, X.2.2.1, X.2.2.2.1, hts⟩ hM ⟨callB_of n hts (tb_gi w5) rfl rfl rfl (hts _ w4) (hts _ w1) wd hro, hts _ w2⟩ ⟨mPc_blind, fun U hU hW => ⟨rfl, by rw [hU]; exact hR, Kn.moved hW X.2.2.2.2.2⟩⟩ rfl hn hls rfl (lv_room hre) hdg hf) hS kk
theorem r_callSN (X : Cx p s m args c cc nL own D cA) {idx mL n fr lo mc ms : Nat} {host : String} {y : MethodName} {cd : ByteArray} {ret : Option FieldType} {rv : Option Value} {As : List Value} {st0 : List Value} (hw : wSN own idx y host cd mL ret n)
    (hM : Mt l B D cA y cd mL ret fr lo mc ms As M rv M1) (hro : fr + 1 ≤ R.frames ∧ 8 + (mL + 11) + lo ≤ R.locals) (hR : Rl B D cA M H) (hS : va_S (fun q => B ≤ q) H0 H locs) (hls : ls.size = nL) (hn : As.length = n) (hst : st0 = As.reverse ++ rest) (hre : (rest.map fun v => v.category).sum ≤ 8) (hf : cells + mc ≤ R.cells ∧ slots + ms ≤ R.slots) (hdg : decode cc pc = .ok (.invokestatic idx, 3))
    (kk : ∀ (H : Heap) (locs : List Loc), Rl B D cA M1 H → va_S (fun q => B ≤ q) H0 H locs → W p l e R s m args below meth c H locs (cells + mc) (slots + ms) Q (F0 m (pc + 3) ls (rv.toList ++ rest))) : W p l e R s m args below meth c H locs cells slots Q (F0 m pc ls st0) := by
  subst hst
  obtain ⟨⟨w1, w2, w4, w5⟩, wd⟩ := hw
  have hts := X.2.2.2.2.1
  exact r_call (va_runSN (As := As) (rest := rest) ⟨X.1, X.2.1, X.2.2.1, X.2.2.2.1, hts⟩ hM ⟨va_cnB n hts (tb_gi w5) rfl rfl rfl (X.2.2.2.2.2.2.1 _ w1) (hts _ w4) wd hro, hts _ w2, trivial⟩ ⟨mPc_blind, fun U hU hW => ⟨rfl, by rw [hU]; exact hR, Kn.moved hW X.2.2.2.2.2⟩⟩ rfl hn hls rfl (lv_room hre) hdg hf) hS kk
theorem r_callI (X : Cx p s m args c cc nL own D cA) {idx mL n fr lo mc ms a : Nat} {y : MethodName} {cd : ByteArray} {As : List Value} {st0 : List Value} (hw : wI own idx y cd mL n)
    (hM : Mt l B D cA y cd mL none fr lo mc ms (.ref (B + a) :: As) M none M1) (hro : fr + 1 ≤ R.frames ∧ 8 + (mL + 11) + lo ≤ R.locals) (hR : Rl B D cA M H) (hS : va_S (fun q => B ≤ q) H0 H locs) (hls : ls.size = nL) (hn : As.length = n) (hst : st0 = As.reverse ++ .ref (B + a) :: rest) (hre : (rest.map fun v => v.category).sum ≤ 8) (hf : cells + mc ≤ R.cells ∧ slots + ms ≤ R.slots) (hdg : decode cc pc = .ok (.invokespecial idx, 3))
    (kk : ∀ (H : Heap) (locs : List Loc), Rl B D cA M1 H → va_S (fun q => B ≤ q) H0 H locs → W p l e R s m args below meth c H locs (cells + mc) (slots + ms) Q (F0 m (pc + 3) ls rest)) : W p l e R s m args below meth c H locs cells slots Q (F0 m pc ls st0) := by
  subst hst
  obtain ⟨⟨w1, w2, w4, w5⟩, wn, wd⟩ := hw
  have hts := X.2.2.2.2.1
  exact r_call (va_runI (As := As) (rest := rest) ⟨X.1, X.2.1, X.2.2.1, X.2.2.2.1, hts⟩ hM ⟨callB_of n hts (tb_gi w5) rfl rfl rfl (hts _ w4) (hts _ w1) wd hro, wn, hts _ w2⟩ ⟨mPc_blind, fun U hU hW => ⟨rfl, by rw [hU]; exact hR, Kn.moved hW X.2.2.2.2.2⟩⟩ rfl hn hls rfl (lv_room hre) hdg hf) hS kk
theorem r_callIN (X : Cx p s m args c cc nL own D cA) {idx mL n fr lo mc ms a : Nat} {host : String} {y : MethodName} {cd : ByteArray} {As : List Value} {st0 : List Value} (hw : wIN own idx y host cd mL n)
    (hM : Mt l B D cA y cd mL none fr lo mc ms (.ref (B + a) :: As) M none M1) (hro : fr + 1 ≤ R.frames ∧ 8 + (mL + 11) + lo ≤ R.locals) (hR : Rl B D cA M H) (hS : va_S (fun q => B ≤ q) H0 H locs) (hls : ls.size = nL) (hn : As.length = n) (hst : st0 = As.reverse ++ .ref (B + a) :: rest) (hre : (rest.map fun v => v.category).sum ≤ 8) (hf : cells + mc ≤ R.cells ∧ slots + ms ≤ R.slots) (hdg : decode cc pc = .ok (.invokespecial idx, 3))
    (kk : ∀ (H : Heap) (locs : List Loc), Rl B D cA M1 H → va_S (fun q => B ≤ q) H0 H locs → W p l e R s m args below meth c H locs (cells + mc) (slots + ms) Q (F0 m (pc + 3) ls rest)) : W p l e R s m args below meth c H locs cells slots Q (F0 m pc ls st0) := by
  subst hst
  obtain ⟨⟨w1, w2, w4, w5⟩, wn, wd⟩ := hw
  have hts := X.2.2.2.2.1
  exact r_call (va_runIN (As := As) (rest := rest) ⟨X.1, X.2.1, X.2.2.1, X.2.2.2.1, hts⟩ hM ⟨va_cnB n hts (tb_gi w5) rfl rfl rfl (X.2.2.2.2.2.2.1 _ w1) (hts _ w4) wd hro, wn, hts _ w2⟩ ⟨mPc_blind, fun U hU hW => ⟨rfl, by rw [hU]; exact hR, Kn.moved hW X.2.2.2.2.2⟩⟩ rfl hn hls rfl (lv_room hre) hdg hf) hS kk
theorem r_start {y : MethodName} {cd : ByteArray} {mL fr lo mc ms : Nat} {ret : Option FieldType} {av : List Value} {rv : Option Value} (hy : plainName y.cls = true) (hfit : (lg_sl av).length ≤ mL)
    (body : ∀ (p : Program) (e : Env) (s : State) (m : MethodId) (args : Array Value) (below : List Frame) (meth : Method) (c : Code) (ls : Array Slot) (H : Heap) (locs : List Loc), Cx p s m args c cd mL y.cls D cA → meth.sig.returnType = ret → meth.locks = false → meth.name = y.name → Rl B D cA M H → lv_has ls mL (lv_args 0 av) → va_S (fun q => B ≤ q) s.heap H locs →
      W p l e (rmm fr mc ms lo) s m args below meth c H locs 0 0 (MQ below (mQ B D cA rv M1) args s mc ms (fun q => B ≤ q)) (F0 m 0 ls [])) : Mt l B D cA y cd mL ret fr lo mc ms av M rv M1 := by
  refine Met.ofW (cc := cd) (maxL := mL) (ret := ret) hy rfl ?_
  intro p e s m args below meth c s₁ BB hml hv
  obtain ⟨rfl, hR, hK⟩ := hv
  have hts := atoms_spec (ws := .code y cd mL ret :: TBg) BB.pre
  have hown : s.vm.findClass y.cls = some m.cls := findClass_of_methodNamed BB.named
  rw [lg_entry_eq]
  exact body p e s m _ below meth c _ s.heap [] ⟨BB.exec, BB.bytes, hml, hown, fun w hw => hts w (List.mem_cons_of_mem _ hw), hK⟩ BB.returns BB.notSynchronized (name_of_methodNamed BB.named BB.method).1 hR (lv_entry av hfit) va_S.rf
theorem r_lc_eq (X : Cx p s m args c cc nL own D cA) {x y : Int64} {off : Int} {tgt : Nat} (hdg : decode cc pc = .ok (.lcmp, 1)) (hdg2 : decode cc (pc + 1) = .ok (.ifCond .eq off, 3)) (ht : ((pc + 1 : Nat) : Int) + off = (tgt : Int)) (kt : x = y → W p l e R s m args below meth c H locs cells slots Q (F0 m tgt ls rest)) (kf : ¬ x = y → W p l e R s m args below meth c H locs cells slots Q (F0 m (pc + 1 + 3) ls rest)) : W p l e R s m args below meth c H locs cells slots Q (F0 m pc ls (.long y :: .long x :: rest)) :=
  W.lcmp X.1 X.2.1 hdg (lv_if_eq X.1 X.2.1 hdg2 ht (fun h => kt ((lg_cmp_eq x y).mp h)) (fun h => kf (fun q => h ((lg_cmp_eq x y).mpr q))))
theorem r_lc_ne (X : Cx p s m args c cc nL own D cA) {x y : Int64} {off : Int} {tgt : Nat} (hdg : decode cc pc = .ok (.lcmp, 1)) (hdg2 : decode cc (pc + 1) = .ok (.ifCond .ne off, 3)) (ht : ((pc + 1 : Nat) : Int) + off = (tgt : Int)) (kt : ¬ x = y → W p l e R s m args below meth c H locs cells slots Q (F0 m tgt ls rest)) (kf : x = y → W p l e R s m args below meth c H locs cells slots Q (F0 m (pc + 1 + 3) ls rest)) : W p l e R s m args below meth c H locs cells slots Q (F0 m pc ls (.long y :: .long x :: rest)) :=
  W.lcmp X.1 X.2.1 hdg (lv_if_ne X.1 X.2.1 hdg2 ht (fun h => kt (fun q => h ((lg_cmp_eq x y).mpr q))) (fun h => kf ((lg_cmp_eq x y).mp h)))
theorem r_lc_lt (X : Cx p s m args c cc nL own D cA) {x y : Int64} {off : Int} {tgt : Nat} (hdg : decode cc pc = .ok (.lcmp, 1)) (hdg2 : decode cc (pc + 1) = .ok (.ifCond .lt off, 3)) (ht : ((pc + 1 : Nat) : Int) + off = (tgt : Int)) (kt : x < y → W p l e R s m args below meth c H locs cells slots Q (F0 m tgt ls rest)) (kf : ¬ x < y → W p l e R s m args below meth c H locs cells slots Q (F0 m (pc + 1 + 3) ls rest)) : W p l e R s m args below meth c H locs cells slots Q (F0 m pc ls (.long y :: .long x :: rest)) :=
  W.lcmp X.1 X.2.1 hdg (lv_if_lt X.1 X.2.1 hdg2 ht (fun h => kt ((lg_cmp_lt x y).mp h)) (fun h => kf (fun q => h ((lg_cmp_lt x y).mpr q))))
theorem r_lc_ge (X : Cx p s m args c cc nL own D cA) {x y : Int64} {off : Int} {tgt : Nat} (hdg : decode cc pc = .ok (.lcmp, 1)) (hdg2 : decode cc (pc + 1) = .ok (.ifCond .ge off, 3)) (ht : ((pc + 1 : Nat) : Int) + off = (tgt : Int)) (kt : y ≤ x → W p l e R s m args below meth c H locs cells slots Q (F0 m tgt ls rest)) (kf : ¬ y ≤ x → W p l e R s m args below meth c H locs cells slots Q (F0 m (pc + 1 + 3) ls rest)) : W p l e R s m args below meth c H locs cells slots Q (F0 m pc ls (.long y :: .long x :: rest)) :=
  W.lcmp X.1 X.2.1 hdg (lv_if_ge X.1 X.2.1 hdg2 ht (fun h => kt ((lg_cmp_ge x y).mp h)) (fun h => kf (fun q => h ((lg_cmp_ge x y).mpr q))))
theorem r_lc_gt (X : Cx p s m args c cc nL own D cA) {x y : Int64} {off : Int} {tgt : Nat} (hdg : decode cc pc = .ok (.lcmp, 1)) (hdg2 : decode cc (pc + 1) = .ok (.ifCond .gt off, 3)) (ht : ((pc + 1 : Nat) : Int) + off = (tgt : Int)) (kt : y < x → W p l e R s m args below meth c H locs cells slots Q (F0 m tgt ls rest)) (kf : ¬ y < x → W p l e R s m args below meth c H locs cells slots Q (F0 m (pc + 1 + 3) ls rest)) : W p l e R s m args below meth c H locs cells slots Q (F0 m pc ls (.long y :: .long x :: rest)) :=
  W.lcmp X.1 X.2.1 hdg (lv_if_gt X.1 X.2.1 hdg2 ht (fun h => kt ((lg_cmp_gt x y).mp h)) (fun h => kf (fun q => h ((lg_cmp_gt x y).mpr q))))
theorem r_lc_le (X : Cx p s m args c cc nL own D cA) {x y : Int64} {off : Int} {tgt : Nat} (hdg : decode cc pc = .ok (.lcmp, 1)) (hdg2 : decode cc (pc + 1) = .ok (.ifCond .le off, 3)) (ht : ((pc + 1 : Nat) : Int) + off = (tgt : Int)) (kt : x ≤ y → W p l e R s m args below meth c H locs cells slots Q (F0 m tgt ls rest)) (kf : ¬ x ≤ y → W p l e R s m args below meth c H locs cells slots Q (F0 m (pc + 1 + 3) ls rest)) : W p l e R s m args below meth c H locs cells slots Q (F0 m pc ls (.long y :: .long x :: rest)) :=
  W.lcmp X.1 X.2.1 hdg (lv_if_le X.1 X.2.1 hdg2 ht (fun h => kt ((lg_cmp_le x y).mp h)) (fun h => kf (fun q => h ((lg_cmp_le x y).mpr q))))
theorem r_iret {v : Int32} {ty : FieldType} (X : Cx p s m args c cc nL own D cA) (hr : meth.sig.returnType = some ty) (hlocks : meth.locks = false) (hR : Rl B D cA M H) (hS : va_S (fun q => B ≤ q) s.heap H locs) (hn : narrow ty (.int v) = .int v) (hdg : decode cc pc = .ok (.ireturn, 1)) : W p l e R s m args below meth c H locs cells slots (MQ below (mQ B D cA (some (.int v)) M) args s cells slots (fun q => B ≤ q)) (F0 m pc ls [.int v]) :=
  W.zret X.1 X.2.1 hr hn (fun t ht hW => ⟨rfl, by rw [ht]; exact hR, hS.F ht⟩) hS.2.2 hdg hlocks
theorem r_lret {v : Int64} (X : Cx p s m args c cc nL own D cA) (hr : meth.sig.returnType = some .long) (hlocks : meth.locks = false) (hR : Rl B D cA M H) (hS : va_S (fun q => B ≤ q) s.heap H locs) (hdg : decode cc pc = .ok (.lreturn, 1)) : W p l e R s m args below meth c H locs cells slots (MQ below (mQ B D cA (some (.long v)) M) args s cells slots (fun q => B ≤ q)) (F0 m pc ls [.long v]) :=
  W.lret X.1 X.2.1 hr (fun t ht hW => ⟨rfl, by rw [ht]; exact hR, hS.F ht⟩) hS.2.2 hdg hlocks
theorem r_vret (X : Cx p s m args c cc nL own D cA) (hr : meth.sig.returnType = none) (hlocks : meth.locks = false) (hR : Rl B D cA M H) (hS : va_S (fun q => B ≤ q) s.heap H locs) (hdg : decode cc pc = .ok (.return_, 1)) : W p l e R s m args below meth c H locs cells slots (MQ below (mQ B D cA none M) args s cells slots (fun q => B ≤ q)) (F0 m pc ls []) :=
  W.vret X.1 X.2.1 hr (fun t ht hW => ⟨rfl, by rw [ht]; exact hR, hS.F ht⟩) hS.2.2 hdg hlocks
theorem r_max (X : Cx p s m args c cc nL own D cA) {x y : Int32} {idx : Nat} (hlink : Cond.methodLink own idx Lib.Math.max.name ∈ TBg) (hstat : Cond.static Lib.Math.max.name ∈ TBg) (hini : Cond.initialized "java/lang/Math" ∈ TBg) (hcode : Cond.code Lib.Math.max.name Lib.Math.max.code 2 (some .int) ∈ TBg) (hls : ls.size = nL)
    (hframes : 1 ≤ R.frames) (hlocals : (rest.map fun v => v.category).sum + 13 ≤ R.locals) (hc : cells ≤ R.cells) (hs : slots ≤ R.slots) (hdg : decode cc pc = .ok (.invokestatic idx, 3))
    (kk : W p l e R s m args below meth c H locs cells slots Q (F0 m (pc + 3) ls (.int (if x < y then y else x) :: rest))) : W p l e R s m args below meth c H locs cells slots Q (F0 m pc ls (.int y :: .int x :: rest)) := by
  have hts := X.2.2.2.2.1
  exact va_mmax X.1 X.2.1 (by rw [X.2.2.1, hls]) X.2.2.2.1 (hts _ hlink) (hts _ hstat) (hts _ hini) (hts _ hcode) hframes hlocals hc hs hdg kk
end CALLS
theorem sw_ne {x : Int32} {k : Int} (h : ¬ x = Int32.ofInt k) : x.toInt ≠ k := fun q => h (by rw [← q, Int32.ofInt_toInt])
/-! ===== small words of the functions ===== -/
def iushrJ (x y : Int32) : Int32 := (x.toUInt32 >>> (y.toUInt32 &&& Int32.toUInt32 31)).toInt32
def lshlJ (x : Int64) (y : Int32) : Int64 := x <<< (y.toInt64 &&& 63)
def lushrJ (x : Int64) (y : Int32) : Int64 := (x.toUInt64 >>> (y.toInt64.toUInt64 &&& Int64.toUInt64 63)).toInt64
/-- the receiver is an object of class c -/
def cO {α : Type} (m : Mm) (a c : Nat) (x : Option α) : Option α := match gO m a c with
  | some _ => x
  | none => none
theorem obO {α : Type} {m : Mm} {a c : Nat} {x : Option α} {b : α} (h : cO m a c x = some b) : ∃ fs, gO m a c = some fs ∧ x = some b := by
  unfold cO at h
  split at h
  · rename_i fs h1; exact ⟨fs, h1, h⟩
  · cases h
/-- v is a boolean -/
def cB {α : Type} (v : Int32) (x : Option α) : Option α := if v = 0 ∨ v = 1 then x else none
theorem obB {α : Type} {v : Int32} {x : Option α} {b : α} (h : cB v x = some b) : narrow .boolean (.int v) = .int v ∧ x = some b := by
  unfold cB at h
  split at h
  · rename_i h1
    refine ⟨?_, h⟩
    rcases h1 with rfl | rfl <;> rfl
  · cases h
