/-! THE CLAIM OUT OF ONE WALK OF THE LAW'S BODY. Your part is whole_start (and what it stands on); all else here is the same for every law, but numbers. -/
def R_law : String := "TwigMatchesLaw"
def lw_P (b : Addr) (xs : List Int32) (args : Array Value) (s : State) : Prop := args = #[.ref b] ∧ s.IntsAt b xs ∧ xs.length ≤ 2560 ∧ (Jvm.Cond.and given_1 narrow_1).before args s = true
def lw_Q (_ : Array Value) (s : State) (o : Outcome) (t : State) : Prop := o = .returned (some (.int 1)) ∧ Framed s o t [] 600000 7302250
def lw_Z (below : List Frame) (a : Array Value) (s : State) : State → Prop := fun t => ∃ o, t.status = .running ∧ Ended t below o ∧ lw_Q a s o t
/-- the law's own end, with 1 on the stack, nothing written that was there before, its room as the claim has it -/
theorem lw_ret {p : Program} {l : Launch} {e : Env} {s : State} {m : MethodId} {below : List Frame} {meth : Method} {c : Code} {b : Nat} (hx : p.tables.exec = Jvm.exec) (hb : c.code = code) (hr : meth.sig.returnType = ret) (hlocks : meth.locks = false) {pc : Nat} {H : Heap} {ls : Array Slot} (hdg : decode code pc = .ok (.ireturn, 1)) : W p l e room_1 s m #[Value.ref b] below meth c H [] 600000 7302250 (lw_Z below #[Value.ref b] s) (F0 m pc ls [.int 1]) := by
  intro T hT X
  obtain ⟨fs, hret, hrun, hended, hW, hframe⟩ := X.leave (v := some (.int 1)) (hlocks := hlocks) (fun h => by rw [hr] at h; cases h)
  have hmeth' : T.vm.method? m = some meth := X.method'
  refine ⟨T.setFrames fs, ?_, .returned (some (.int 1)), hrun, hended, rfl, ⟨_, rfl⟩, hW, hframe⟩
  jvm_step X.here [X.here.top, hx, hb, hdg, hmeth', hr, ret, narrow_b1]
  (try refine ⟨rfl, ?_⟩); (try refine ⟨rfl, ?_⟩)
  first | (intro acts; rw [hret _ acts rfl rfl rfl]) | rw [hret _ _ rfl rfl rfl]
  exact Steps.refl _
/-- what holds at the law's entry: the machine, the code, the tables' words (any of lw_tbl by 'hts w (by decide +kernel)'), the script of L ints xs at the cell b, what the Statement gives of the start (any of its parts by flat_of_before) -/
def lw_At (p : Program) (s : State) (m : MethodId) (meth : Method) (c : Code) (b L : Nat) (xs : Nat → Int32) : Prop :=
  p.tables.exec = Jvm.exec ∧ c.code = code ∧ meth.sig.returnType = ret ∧ c.maxLocals = 4 ∧ s.vm.findClass R_law = some m.cls ∧ (∀ w ∈ lw_tbl, w.before #[Value.ref b] s = true) ∧ va_X b L xs s s.heap ∧ b < s.heap.size ∧ meth.locks = false ∧ (Jvm.Cond.and given_1 narrow_1).before #[Value.ref b] s = true
def f_L_law_L18 (L : Nat) (xs : Nat → Int32) (m : Mm) (x1 : Nat) (x2 : Nat) (x3 : Int32) : Option ((Int32 × Mm) ⊕ (Mm)) := (if ((Int32.ofNat L) - (5 : Int32)) < x3 then some (.inr m) else (lX xs L x3).bind fun v2 => (if (v2 &&& (31 : Int32)) = (0 : Int32) then (lX xs L (x3 + (1 : Int32))).bind fun v5 => (lX xs L (x3 + (2 : Int32))).bind fun v7 => (lX xs L (x3 + (3 : Int32))).bind fun v9 => (lX xs L (x3 + (4 : Int32))).bind fun v11 => cO m x1 7 <| (f_X7_adds m x1 v5 v7 v9 v11).bind fun t16 => (lX xs L (x3 + (1 : Int32))).bind fun v17 => (lX xs L (x3 + (2 : Int32))).bind fun v19 => (lX xs L (x3 + (3 : Int32))).bind fun v21 => (lX xs L (x3 + (4 : Int32))).bind fun v23 => cO t16.2 x2 8 <| (f_X8_adds t16.2 x2 v17 v19 v21 v23).bind fun t28 => (if t16.1 = t28.1 then some (.inl ((x3 + 5), t28.2)) else none) else (if (v2 &&& (31 : Int32)) = (1 : Int32) then (lX xs L (x3 + (1 : Int32))).bind fun v31 => cO m x1 7 <| (f_X7_drops m x1 v31).bind fun t36 => (lX xs L (x3 + (1 : Int32))).bind fun v37 => cO t36.2 x2 8 <| (f_X8_drops t36.2 x2 v37).bind fun t42 => (if t36.1 = t42.1 then some (.inl ((x3 + 5), t42.2)) else none) else (if (v2 &&& (31 : Int32)) = (2 : Int32) then (lX xs L (x3 + (1 : Int32))).bind fun v45 => (lX xs L (x3 + (2 : Int32))).bind fun v47 => (lX xs L (x3 + (3 : Int32))).bind fun v49 => cO m x1 7 <| (f_X7_sets m x1 v45 v47 v49).bind fun t54 => (lX xs L (x3 + (1 : Int32))).bind fun v55 => (lX xs L (x3 + (2 : Int32))).bind fun v57 => (lX xs L (x3 + (3 : Int32))).bind fun v59 => cO t54.2 x2 8 <| (f_X8_sets t54.2 x2 v55 v57 v59).bind fun t64 => (if t54.1 = t64.1 then some (.inl ((x3 + 5), t64.2)) else none) else (if (v2 &&& (31 : Int32)) = (3 : Int32) then (lX xs L (x3 + (1 : Int32))).bind fun v67 => (lX xs L (x3 + (2 : Int32))).bind fun v69 => (lX xs L (x3 + (3 : Int32))).bind fun v71 => cO m x1 7 <| (f_X7_moves m x1 v67 v69 v71).bind fun t76 => (lX xs L (x3 + (1 : Int32))).bind fun v77 => (lX xs L (x3 + (2 : Int32))).bind fun v79 => (lX xs L (x3 + (3 : Int32))).bind fun v81 => cO t76.2 x2 8 <| (f_X8_moves t76.2 x2 v77 v79 v81).bind fun t86 => (if t76.1 = t86.1 then some (.inl ((x3 + 5), t86.2)) else none) else (if (v2 &&& (31 : Int32)) = (4 : Int32) then (lX xs L (x3 + (1 : Int32))).bind fun v89 => (lX xs L (x3 + (2 : Int32))).bind fun v91 => cO m x1 7 <| (f_X7_element m x1 v89 v91).bind fun t96 => (lX xs L (x3 + (1 : Int32))).bind fun v97 => (lX xs L (x3 + (2 : Int32))).bind fun v99 => cO t96.2 x2 8 <| (f_X8_element t96.2 x2 v97 v99).bind fun t104 => (if t96.1 = t104.1 then some (.inl ((x3 + 5), t104.2)) else none) else (if (v2 &&& (31 : Int32)) = (5 : Int32) then cO m x1 7 <| (f_X7_size m x1).bind fun v110 => cO m x2 8 <| (f_X8_size m x2).bind fun v114 => (if v110 = v114 then some (.inl ((x3 + 5), m)) else none) else (if (v2 &&& (31 : Int32)) = (6 : Int32) then (lX xs L (x3 + (1 : Int32))).bind fun v117 => (lX xs L (x3 + (2 : Int32))).bind fun v119 => (lX xs L (x3 + (3 : Int32))).bind fun v121 => cO m x1 7 <| (f_X7_node m x1 v117 v119 v121).bind fun t126 => (lX xs L (x3 + (1 : Int32))).bind fun v127 => (lX xs L (x3 + (2 : Int32))).bind fun v129 => (lX xs L (x3 + (3 : Int32))).bind fun v131 => cO t126.2 x2 8 <| (f_X8_node t126.2 x2 v127 v129 v131).bind fun t136 => (if t126.1 = t136.1 then some (.inl ((x3 + 5), t136.2)) else none) else (if (v2 &&& (31 : Int32)) = (7 : Int32) then (lX xs L (x3 + (1 : Int32))).bind fun v139 => cO m x1 7 <| (f_X7_forgets m x1 v139).bind fun t144 => (lX xs L (x3 + (1 : Int32))).bind fun v145 => cO t144.2 x2 8 <| (f_X8_forgets t144.2 x2 v145).bind fun t150 => (if t144.1 = t150.1 then some (.inl ((x3 + 5), t150.2)) else none) else (if (v2 &&& (31 : Int32)) = (8 : Int32) then (lX xs L (x3 + (1 : Int32))).bind fun v153 => cO m x1 7 <| (f_X7_nodes m x1 v153).bind fun t158 => (lX xs L (x3 + (1 : Int32))).bind fun v159 => cO t158.2 x2 8 <| (f_X8_nodes t158.2 x2 v159).bind fun t164 => (if t158.1 = t164.1 then some (.inl ((x3 + 5), t164.2)) else none) else (if (v2 &&& (31 : Int32)) = (9 : Int32) then (lX xs L (x3 + (1 : Int32))).bind fun v167 => (lX xs L (x3 + (2 : Int32))).bind fun v169 => cO m x1 7 <| (f_X7_folds m x1 v167 v169).bind fun t174 => (lX xs L (x3 + (1 : Int32))).bind fun v175 => (lX xs L (x3 + (2 : Int32))).bind fun v177 => cO t174.2 x2 8 <| (f_X8_folds t174.2 x2 v175 v177).bind fun t182 => (if t174.1 = t182.1 then some (.inl ((x3 + 5), t182.2)) else none) else (if (v2 &&& (31 : Int32)) = (10 : Int32) then (lX xs L (x3 + (1 : Int32))).bind fun v185 => (lX xs L (x3 + (2 : Int32))).bind fun v187 => cO m x1 7 <| (f_X7_spare m x1 v185 v187).bind fun t192 => (lX xs L (x3 + (1 : Int32))).bind fun v193 => (lX xs L (x3 + (2 : Int32))).bind fun v195 => cO t192.2 x2 8 <| (f_X8_spare t192.2 x2 v193 v195).bind fun t200 => (if t192.1 = t200.1 then some (.inl ((x3 + 5), t200.2)) else none) else (if (v2 &&& (31 : Int32)) = (11 : Int32) then (lX xs L (x3 + (1 : Int32))).bind fun v203 => cO m x1 7 <| (f_X7_matches m x1 v203).bind fun t208 => (lX xs L (x3 + (1 : Int32))).bind fun v209 => cO t208.2 x2 8 <| (f_X8_matches t208.2 x2 v209).bind fun t214 => (if t208.1 = t214.1 then some (.inl ((x3 + 5), t214.2)) else none) else (if (v2 &&& (31 : Int32)) = (12 : Int32) then (lX xs L (x3 + (1 : Int32))).bind fun v217 => (lX xs L (x3 + (2 : Int32))).bind fun v219 => (lX xs L (x3 + (3 : Int32))).bind fun v221 => (lX xs L (x3 + (4 : Int32))).bind fun v223 => cO m x1 7 <| (f_X7_match m x1 v217 ((lshlJ (v219.toInt64) (32 : Int32)) ||| ((v221.toInt64) &&& (4294967295 : Int64))) v223).bind fun t228 => (lX xs L (x3 + (1 : Int32))).bind fun v229 => (lX xs L (x3 + (2 : Int32))).bind fun v231 => (lX xs L (x3 + (3 : Int32))).bind fun v233 => (lX xs L (x3 + (4 : Int32))).bind fun v235 => cO t228.2 x2 8 <| (f_X8_match t228.2 x2 v229 ((lshlJ (v231.toInt64) (32 : Int32)) ||| ((v233.toInt64) &&& (4294967295 : Int64))) v235).bind fun t240 => (if t228.1 = t240.1 then some (.inl ((x3 + 5), t240.2)) else none) else (if (v2 &&& (31 : Int32)) = (13 : Int32) then (lX xs L (x3 + (1 : Int32))).bind fun v243 => (lX xs L (x3 + (2 : Int32))).bind fun v245 => (lX xs L (x3 + (3 : Int32))).bind fun v247 => cO m x1 7 <| (f_X7_place m x1 v243 ((lshlJ (v245.toInt64) (32 : Int32)) ||| ((v247.toInt64) &&& (4294967295 : Int64)))).bind fun t252 => (lX xs L (x3 + (1 : Int32))).bind fun v253 => (lX xs L (x3 + (2 : Int32))).bind fun v255 => (lX xs L (x3 + (3 : Int32))).bind fun v257 => cO t252.2 x2 8 <| (f_X8_place t252.2 x2 v253 ((lshlJ (v255.toInt64) (32 : Int32)) ||| ((v257.toInt64) &&& (4294967295 : Int64)))).bind fun t262 => (if t252.1 = t262.1 then some (.inl ((x3 + 5), t262.2)) else none) else (if (v2 &&& (31 : Int32)) = (14 : Int32) then (lX xs L (x3 + (1 : Int32))).bind fun v265 => (lX xs L (x3 + (2 : Int32))).bind fun v267 => cO m x1 7 <| (f_X7_fits m x1 v265 v267).bind fun t272 => (lX xs L (x3 + (1 : Int32))).bind fun v273 => (lX xs L (x3 + (2 : Int32))).bind fun v275 => cO t272.2 x2 8 <| (f_X8_fits t272.2 x2 v273 v275).bind fun t280 => (if t272.1 = t280.1 then some (.inl ((x3 + 5), t280.2)) else none) else (if (v2 &&& (31 : Int32)) = (15 : Int32) then (lX xs L (x3 + (1 : Int32))).bind fun v283 => (lX xs L (x3 + (2 : Int32))).bind fun v285 => cO m x1 7 <| (f_X7_found m x1 v283 v285).bind fun t290 => (lX xs L (x3 + (1 : Int32))).bind fun v291 => (lX xs L (x3 + (2 : Int32))).bind fun v293 => cO t290.2 x2 8 <| (f_X8_found t290.2 x2 v291 v293).bind fun t298 => (if t290.1 = t298.1 then some (.inl ((x3 + 5), t298.2)) else none) else (if (v2 &&& (31 : Int32)) = (16 : Int32) then (lX xs L (x3 + (1 : Int32))).bind fun v301 => (lX xs L (x3 + (2 : Int32))).bind fun v303 => (lX xs L (x3 + (3 : Int32))).bind fun v305 => cO m x1 7 <| (f_X7_part m x1 v301 v303 v305).bind fun t310 => (lX xs L (x3 + (1 : Int32))).bind fun v311 => (lX xs L (x3 + (2 : Int32))).bind fun v313 => (lX xs L (x3 + (3 : Int32))).bind fun v315 => cO t310.2 x2 8 <| (f_X8_part t310.2 x2 v311 v313 v315).bind fun t320 => (if t310.1 = t320.1 then some (.inl ((x3 + 5), t320.2)) else none) else (if (v2 &&& (31 : Int32)) = (17 : Int32) then (lX xs L (x3 + (1 : Int32))).bind fun v323 => (lX xs L (x3 + (2 : Int32))).bind fun v325 => (lX xs L (x3 + (3 : Int32))).bind fun v327 => cO m x1 7 <| (f_X7_ways m x1 v323 v325 v327).bind fun t332 => (lX xs L (x3 + (1 : Int32))).bind fun v333 => (lX xs L (x3 + (2 : Int32))).bind fun v335 => (lX xs L (x3 + (3 : Int32))).bind fun v337 => cO t332.2 x2 8 <| (f_X8_ways t332.2 x2 v333 v335 v337).bind fun t342 => (if t332.1 = t342.1 then some (.inl ((x3 + 5), t342.2)) else none) else (if (v2 &&& (31 : Int32)) = (18 : Int32) then (lX xs L (x3 + (1 : Int32))).bind fun v345 => (lX xs L (x3 + (2 : Int32))).bind fun v347 => cO m x1 7 <| (f_X7_less m x1 v345 v347).bind fun t352 => (lX xs L (x3 + (1 : Int32))).bind fun v353 => (lX xs L (x3 + (2 : Int32))).bind fun v355 => cO t352.2 x2 8 <| (f_X8_less t352.2 x2 v353 v355).bind fun t360 => (if t352.1 = t360.1 then some (.inl ((x3 + 5), t360.2)) else none) else (if (v2 &&& (31 : Int32)) = (19 : Int32) then (lX xs L (x3 + (1 : Int32))).bind fun v363 => cO m x1 7 <| (f_X7_type m x1 v363).bind fun t368 => (lX xs L (x3 + (1 : Int32))).bind fun v369 => cO t368.2 x2 8 <| (f_X8_type t368.2 x2 v369).bind fun t374 => (if t368.1 = t374.1 then some (.inl ((x3 + 5), t374.2)) else none) else (if (v2 &&& (31 : Int32)) = (20 : Int32) then cO m x1 7 <| (f_X7_clear m x1).bind fun t380 => cO t380.2 x2 8 <| (f_X8_clear t380.2 x2).bind fun t384 => (if t380.1 = t384.1 then some (.inl ((x3 + 5), t384.2)) else none) else (if (v2 &&& (31 : Int32)) = (21 : Int32) then cO m x1 7 <| (f_X7_builds m x1).bind fun t390 => cO t390.2 x2 8 <| (f_X8_builds t390.2 x2).bind fun t394 => (if t390.1 = t394.1 then some (.inl ((x3 + 5), t394.2)) else none) else (if (v2 &&& (31 : Int32)) = (22 : Int32) then (lX xs L (x3 + (1 : Int32))).bind fun v397 => cO m x1 7 <| (f_X7_twigs m x1 v397).bind fun t402 => (lX xs L (x3 + (1 : Int32))).bind fun v403 => cO t402.2 x2 8 <| (f_X8_twigs t402.2 x2 v403).bind fun t408 => (if t402.1 = t408.1 then some (.inl ((x3 + 5), t408.2)) else none) else (if (v2 &&& (31 : Int32)) = (23 : Int32) then cO m x1 7 <| (f_X7_why m x1).bind fun v414 => cO m x2 8 <| (f_X8_why m x2).bind fun v418 => (if v414 = v418 then some (.inl ((x3 + 5), m)) else none) else (if (v2 &&& (31 : Int32)) = (24 : Int32) then (lX xs L (x3 + (1 : Int32))).bind fun v421 => (lX xs L (x3 + (2 : Int32))).bind fun v423 => cO m x1 7 <| (f_X7_shown m x1 v421 v423).bind fun t428 => (lX xs L (x3 + (1 : Int32))).bind fun v429 => (lX xs L (x3 + (2 : Int32))).bind fun v431 => cO t428.2 x2 8 <| (f_X8_shown t428.2 x2 v429 v431).bind fun t436 => (if t428.1 = t436.1 then some (.inl ((x3 + 5), t436.2)) else none) else (if (v2 &&& (31 : Int32)) = (25 : Int32) then cO m x1 7 <| (f_X7_back m x1).bind fun t442 => cO t442.2 x2 8 <| (f_X8_back t442.2 x2).bind fun t446 => (if t442.1 = t446.1 then some (.inl ((x3 + 5), t446.2)) else none) else (if (v2 &&& (31 : Int32)) = (26 : Int32) then (lX xs L (x3 + (1 : Int32))).bind fun v449 => cO m x1 7 <| (f_X7_told m x1 v449).bind fun t454 => (lX xs L (x3 + (1 : Int32))).bind fun v455 => cO t454.2 x2 8 <| (f_X8_told t454.2 x2 v455).bind fun t460 => (if t454.1 = t460.1 then some (.inl ((x3 + 5), t460.2)) else none) else (if (v2 &&& (31 : Int32)) = (27 : Int32) then cO m x1 7 <| (f_X7_digest m x1).bind fun t466 => cO t466.2 x2 8 <| (f_X8_digest t466.2 x2).bind fun t470 => (if t466.1 = t470.1 then some (.inl ((x3 + 5), t470.2)) else none) else some (.inl ((x3 + 5), m)))))))))))))))))))))))))))))))
def f_L_law (L : Nat) (xs : Nat → Int32) (m : Mm) : Option Unit := (nw m (eO 7 [.null, .null, .int 0, .int 0, .null, .null, .null, .null, .null, .null, .int 0, .int 0, .int 0])).bind fun m1 => (f_X7_init m1 (m.length)).bind fun m4 => (nw m4 (eO 8 [.null, .int 0, .null, .null, .null, .null, .null, .null, .null, .int 0, .null, .null, .null, .null, .null, .null, .null, .null, .null, .null, .null, .null, .int 0, .int 0, .int 0, .int 0, .null, .null, .null, .int 0, .null, .int 0, .null, .int 0])).bind fun m5 => (f_X8_init m5 (m4.length)).bind fun m8 => (whl (σ := Int32 × Mm) (ρ := (Mm)) FU (fun t9 => f_L_law_L18 L xs t9.2 (m.length) (m4.length) t9.1) ((0 : Int32), m8)).bind fun e10 => some ()
theorem dL_law_0 : decode cL_law 0 = .ok (.new 7, 3) := by decide +kernel
theorem dL_law_3 : decode cL_law 3 = .ok (.dup, 1) := by decide +kernel
theorem dL_law_4 : decode cL_law 4 = .ok (.invokespecial 9, 3) := by decide +kernel
theorem dL_law_7 : decode cL_law 7 = .ok (.astore_n 1, 1) := by decide +kernel
theorem dL_law_8 : decode cL_law 8 = .ok (.new 10, 3) := by decide +kernel
theorem dL_law_11 : decode cL_law 11 = .ok (.dup, 1) := by decide +kernel
theorem dL_law_12 : decode cL_law 12 = .ok (.invokespecial 12, 3) := by decide +kernel
theorem dL_law_15 : decode cL_law 15 = .ok (.astore_n 2, 1) := by decide +kernel
theorem dL_law_16 : decode cL_law 16 = .ok (.iconst 0, 1) := by decide +kernel
theorem dL_law_17 : decode cL_law 17 = .ok (.istore_n 3, 1) := by decide +kernel
theorem dL_law_18 : decode cL_law 18 = .ok (.iload_n 3, 1) := by decide +kernel
theorem dL_law_19 : decode cL_law 19 = .ok (.aload_n 0, 1) := by decide +kernel
theorem dL_law_20 : decode cL_law 20 = .ok (.arraylength, 1) := by decide +kernel
theorem dL_law_21 : decode cL_law 21 = .ok (.iconst 5, 1) := by decide +kernel
theorem dL_law_22 : decode cL_law 22 = .ok (.isub, 1) := by decide +kernel
theorem dL_law_23 : decode cL_law 23 = .ok (.if_icmp .gt 1023, 3) := by decide +kernel
theorem dL_law_26 : decode cL_law 26 = .ok (.aload_n 0, 1) := by decide +kernel
theorem dL_law_27 : decode cL_law 27 = .ok (.iload_n 3, 1) := by decide +kernel
theorem dL_law_28 : decode cL_law 28 = .ok (.iaload, 1) := by decide +kernel
theorem dL_law_29 : decode cL_law 29 = .ok (.bipush 31, 2) := by decide +kernel
theorem dL_law_31 : decode cL_law 31 = .ok (.iand, 1) := by decide +kernel
theorem dL_law_32 : decode cL_law 32 = .ok (.tableswitch 1008 0 27 #[128, 181, 204, 247, 290, 323, 336, 379, 402, 425, 458, 491, 515, 588, 652, 685, 718, 762, 806, 840, 863, 876, 889, 912, 925, 958, 971, 994], 128) := by decide +kernel
theorem dL_law_160 : decode cL_law 160 = .ok (.aload_n 1, 1) := by decide +kernel
theorem dL_law_161 : decode cL_law 161 = .ok (.aload_n 0, 1) := by decide +kernel
theorem dL_law_162 : decode cL_law 162 = .ok (.iload_n 3, 1) := by decide +kernel
theorem dL_law_163 : decode cL_law 163 = .ok (.iconst 1, 1) := by decide +kernel
theorem dL_law_164 : decode cL_law 164 = .ok (.iadd, 1) := by decide +kernel
theorem dL_law_165 : decode cL_law 165 = .ok (.iaload, 1) := by decide +kernel
theorem dL_law_166 : decode cL_law 166 = .ok (.aload_n 0, 1) := by decide +kernel
theorem dL_law_167 : decode cL_law 167 = .ok (.iload_n 3, 1) := by decide +kernel
theorem dL_law_168 : decode cL_law 168 = .ok (.iconst 2, 1) := by decide +kernel
theorem dL_law_169 : decode cL_law 169 = .ok (.iadd, 1) := by decide +kernel
theorem dL_law_170 : decode cL_law 170 = .ok (.iaload, 1) := by decide +kernel
theorem dL_law_171 : decode cL_law 171 = .ok (.aload_n 0, 1) := by decide +kernel
theorem dL_law_172 : decode cL_law 172 = .ok (.iload_n 3, 1) := by decide +kernel
theorem dL_law_173 : decode cL_law 173 = .ok (.iconst 3, 1) := by decide +kernel
theorem dL_law_174 : decode cL_law 174 = .ok (.iadd, 1) := by decide +kernel
theorem dL_law_175 : decode cL_law 175 = .ok (.iaload, 1) := by decide +kernel
theorem dL_law_176 : decode cL_law 176 = .ok (.aload_n 0, 1) := by decide +kernel
theorem dL_law_177 : decode cL_law 177 = .ok (.iload_n 3, 1) := by decide +kernel
theorem dL_law_178 : decode cL_law 178 = .ok (.iconst 4, 1) := by decide +kernel
theorem dL_law_179 : decode cL_law 179 = .ok (.iadd, 1) := by decide +kernel
theorem dL_law_180 : decode cL_law 180 = .ok (.iaload, 1) := by decide +kernel
theorem dL_law_181 : decode cL_law 181 = .ok (.invokevirtual 13, 3) := by decide +kernel
theorem dL_law_184 : decode cL_law 184 = .ok (.aload_n 2, 1) := by decide +kernel
theorem dL_law_185 : decode cL_law 185 = .ok (.aload_n 0, 1) := by decide +kernel
theorem dL_law_186 : decode cL_law 186 = .ok (.iload_n 3, 1) := by decide +kernel
theorem dL_law_187 : decode cL_law 187 = .ok (.iconst 1, 1) := by decide +kernel
theorem dL_law_188 : decode cL_law 188 = .ok (.iadd, 1) := by decide +kernel
theorem dL_law_189 : decode cL_law 189 = .ok (.iaload, 1) := by decide +kernel
theorem dL_law_190 : decode cL_law 190 = .ok (.aload_n 0, 1) := by decide +kernel
theorem dL_law_191 : decode cL_law 191 = .ok (.iload_n 3, 1) := by decide +kernel
theorem dL_law_192 : decode cL_law 192 = .ok (.iconst 2, 1) := by decide +kernel
theorem dL_law_193 : decode cL_law 193 = .ok (.iadd, 1) := by decide +kernel
theorem dL_law_194 : decode cL_law 194 = .ok (.iaload, 1) := by decide +kernel
theorem dL_law_195 : decode cL_law 195 = .ok (.aload_n 0, 1) := by decide +kernel
theorem dL_law_196 : decode cL_law 196 = .ok (.iload_n 3, 1) := by decide +kernel
theorem dL_law_197 : decode cL_law 197 = .ok (.iconst 3, 1) := by decide +kernel
theorem dL_law_198 : decode cL_law 198 = .ok (.iadd, 1) := by decide +kernel
theorem dL_law_199 : decode cL_law 199 = .ok (.iaload, 1) := by decide +kernel
theorem dL_law_200 : decode cL_law 200 = .ok (.aload_n 0, 1) := by decide +kernel
theorem dL_law_201 : decode cL_law 201 = .ok (.iload_n 3, 1) := by decide +kernel
theorem dL_law_202 : decode cL_law 202 = .ok (.iconst 4, 1) := by decide +kernel
theorem dL_law_203 : decode cL_law 203 = .ok (.iadd, 1) := by decide +kernel
theorem dL_law_204 : decode cL_law 204 = .ok (.iaload, 1) := by decide +kernel
theorem dL_law_205 : decode cL_law 205 = .ok (.invokevirtual 17, 3) := by decide +kernel
theorem dL_law_208 : decode cL_law 208 = .ok (.if_icmp .eq 832, 3) := by decide +kernel
theorem dL_law_211 : decode cL_law 211 = .ok (.iconst 0, 1) := by decide +kernel
theorem dL_law_212 : decode cL_law 212 = .ok (.ireturn, 1) := by decide +kernel
theorem dL_law_213 : decode cL_law 213 = .ok (.aload_n 1, 1) := by decide +kernel
theorem dL_law_214 : decode cL_law 214 = .ok (.aload_n 0, 1) := by decide +kernel
theorem dL_law_215 : decode cL_law 215 = .ok (.iload_n 3, 1) := by decide +kernel
theorem dL_law_216 : decode cL_law 216 = .ok (.iconst 1, 1) := by decide +kernel
theorem dL_law_217 : decode cL_law 217 = .ok (.iadd, 1) := by decide +kernel
theorem dL_law_218 : decode cL_law 218 = .ok (.iaload, 1) := by decide +kernel
theorem dL_law_219 : decode cL_law 219 = .ok (.invokevirtual 18, 3) := by decide +kernel
theorem dL_law_222 : decode cL_law 222 = .ok (.aload_n 2, 1) := by decide +kernel
theorem dL_law_223 : decode cL_law 223 = .ok (.aload_n 0, 1) := by decide +kernel
theorem dL_law_224 : decode cL_law 224 = .ok (.iload_n 3, 1) := by decide +kernel
theorem dL_law_225 : decode cL_law 225 = .ok (.iconst 1, 1) := by decide +kernel
theorem dL_law_226 : decode cL_law 226 = .ok (.iadd, 1) := by decide +kernel
theorem dL_law_227 : decode cL_law 227 = .ok (.iaload, 1) := by decide +kernel
theorem dL_law_228 : decode cL_law 228 = .ok (.invokevirtual 22, 3) := by decide +kernel
theorem dL_law_231 : decode cL_law 231 = .ok (.if_icmp .eq 809, 3) := by decide +kernel
theorem dL_law_234 : decode cL_law 234 = .ok (.iconst 0, 1) := by decide +kernel
theorem dL_law_235 : decode cL_law 235 = .ok (.ireturn, 1) := by decide +kernel
theorem dL_law_236 : decode cL_law 236 = .ok (.aload_n 1, 1) := by decide +kernel
theorem dL_law_237 : decode cL_law 237 = .ok (.aload_n 0, 1) := by decide +kernel
theorem dL_law_238 : decode cL_law 238 = .ok (.iload_n 3, 1) := by decide +kernel
theorem dL_law_239 : decode cL_law 239 = .ok (.iconst 1, 1) := by decide +kernel
theorem dL_law_240 : decode cL_law 240 = .ok (.iadd, 1) := by decide +kernel
theorem dL_law_241 : decode cL_law 241 = .ok (.iaload, 1) := by decide +kernel
theorem dL_law_242 : decode cL_law 242 = .ok (.aload_n 0, 1) := by decide +kernel
theorem dL_law_243 : decode cL_law 243 = .ok (.iload_n 3, 1) := by decide +kernel
theorem dL_law_244 : decode cL_law 244 = .ok (.iconst 2, 1) := by decide +kernel
theorem dL_law_245 : decode cL_law 245 = .ok (.iadd, 1) := by decide +kernel
theorem dL_law_246 : decode cL_law 246 = .ok (.iaload, 1) := by decide +kernel
theorem dL_law_247 : decode cL_law 247 = .ok (.aload_n 0, 1) := by decide +kernel
theorem dL_law_248 : decode cL_law 248 = .ok (.iload_n 3, 1) := by decide +kernel
theorem dL_law_249 : decode cL_law 249 = .ok (.iconst 3, 1) := by decide +kernel
theorem dL_law_250 : decode cL_law 250 = .ok (.iadd, 1) := by decide +kernel
theorem dL_law_251 : decode cL_law 251 = .ok (.iaload, 1) := by decide +kernel
theorem dL_law_252 : decode cL_law 252 = .ok (.invokevirtual 23, 3) := by decide +kernel
theorem dL_law_255 : decode cL_law 255 = .ok (.aload_n 2, 1) := by decide +kernel
theorem dL_law_256 : decode cL_law 256 = .ok (.aload_n 0, 1) := by decide +kernel
theorem dL_law_257 : decode cL_law 257 = .ok (.iload_n 3, 1) := by decide +kernel
theorem dL_law_258 : decode cL_law 258 = .ok (.iconst 1, 1) := by decide +kernel
theorem dL_law_259 : decode cL_law 259 = .ok (.iadd, 1) := by decide +kernel
theorem dL_law_260 : decode cL_law 260 = .ok (.iaload, 1) := by decide +kernel
theorem dL_law_261 : decode cL_law 261 = .ok (.aload_n 0, 1) := by decide +kernel
theorem dL_law_262 : decode cL_law 262 = .ok (.iload_n 3, 1) := by decide +kernel
theorem dL_law_263 : decode cL_law 263 = .ok (.iconst 2, 1) := by decide +kernel
theorem dL_law_264 : decode cL_law 264 = .ok (.iadd, 1) := by decide +kernel
theorem dL_law_265 : decode cL_law 265 = .ok (.iaload, 1) := by decide +kernel
theorem dL_law_266 : decode cL_law 266 = .ok (.aload_n 0, 1) := by decide +kernel
theorem dL_law_267 : decode cL_law 267 = .ok (.iload_n 3, 1) := by decide +kernel
theorem dL_law_268 : decode cL_law 268 = .ok (.iconst 3, 1) := by decide +kernel
theorem dL_law_269 : decode cL_law 269 = .ok (.iadd, 1) := by decide +kernel
theorem dL_law_270 : decode cL_law 270 = .ok (.iaload, 1) := by decide +kernel
theorem dL_law_271 : decode cL_law 271 = .ok (.invokevirtual 27, 3) := by decide +kernel
theorem dL_law_274 : decode cL_law 274 = .ok (.if_icmp .eq 766, 3) := by decide +kernel
theorem dL_law_277 : decode cL_law 277 = .ok (.iconst 0, 1) := by decide +kernel
theorem dL_law_278 : decode cL_law 278 = .ok (.ireturn, 1) := by decide +kernel
theorem dL_law_279 : decode cL_law 279 = .ok (.aload_n 1, 1) := by decide +kernel
theorem dL_law_280 : decode cL_law 280 = .ok (.aload_n 0, 1) := by decide +kernel
theorem dL_law_281 : decode cL_law 281 = .ok (.iload_n 3, 1) := by decide +kernel
theorem dL_law_282 : decode cL_law 282 = .ok (.iconst 1, 1) := by decide +kernel
theorem dL_law_283 : decode cL_law 283 = .ok (.iadd, 1) := by decide +kernel
theorem dL_law_284 : decode cL_law 284 = .ok (.iaload, 1) := by decide +kernel
theorem dL_law_285 : decode cL_law 285 = .ok (.aload_n 0, 1) := by decide +kernel
theorem dL_law_286 : decode cL_law 286 = .ok (.iload_n 3, 1) := by decide +kernel
theorem dL_law_287 : decode cL_law 287 = .ok (.iconst 2, 1) := by decide +kernel
theorem dL_law_288 : decode cL_law 288 = .ok (.iadd, 1) := by decide +kernel
theorem dL_law_289 : decode cL_law 289 = .ok (.iaload, 1) := by decide +kernel
theorem dL_law_290 : decode cL_law 290 = .ok (.aload_n 0, 1) := by decide +kernel
theorem dL_law_291 : decode cL_law 291 = .ok (.iload_n 3, 1) := by decide +kernel
theorem dL_law_292 : decode cL_law 292 = .ok (.iconst 3, 1) := by decide +kernel
theorem dL_law_293 : decode cL_law 293 = .ok (.iadd, 1) := by decide +kernel
theorem dL_law_294 : decode cL_law 294 = .ok (.iaload, 1) := by decide +kernel
theorem dL_law_295 : decode cL_law 295 = .ok (.invokevirtual 28, 3) := by decide +kernel
theorem dL_law_298 : decode cL_law 298 = .ok (.aload_n 2, 1) := by decide +kernel
theorem dL_law_299 : decode cL_law 299 = .ok (.aload_n 0, 1) := by decide +kernel
theorem dL_law_300 : decode cL_law 300 = .ok (.iload_n 3, 1) := by decide +kernel
theorem dL_law_301 : decode cL_law 301 = .ok (.iconst 1, 1) := by decide +kernel
theorem dL_law_302 : decode cL_law 302 = .ok (.iadd, 1) := by decide +kernel
theorem dL_law_303 : decode cL_law 303 = .ok (.iaload, 1) := by decide +kernel
theorem dL_law_304 : decode cL_law 304 = .ok (.aload_n 0, 1) := by decide +kernel
theorem dL_law_305 : decode cL_law 305 = .ok (.iload_n 3, 1) := by decide +kernel
theorem dL_law_306 : decode cL_law 306 = .ok (.iconst 2, 1) := by decide +kernel
theorem dL_law_307 : decode cL_law 307 = .ok (.iadd, 1) := by decide +kernel
theorem dL_law_308 : decode cL_law 308 = .ok (.iaload, 1) := by decide +kernel
theorem dL_law_309 : decode cL_law 309 = .ok (.aload_n 0, 1) := by decide +kernel
theorem dL_law_310 : decode cL_law 310 = .ok (.iload_n 3, 1) := by decide +kernel
theorem dL_law_311 : decode cL_law 311 = .ok (.iconst 3, 1) := by decide +kernel
theorem dL_law_312 : decode cL_law 312 = .ok (.iadd, 1) := by decide +kernel
theorem dL_law_313 : decode cL_law 313 = .ok (.iaload, 1) := by decide +kernel
theorem dL_law_314 : decode cL_law 314 = .ok (.invokevirtual 31, 3) := by decide +kernel
theorem dL_law_317 : decode cL_law 317 = .ok (.if_icmp .eq 723, 3) := by decide +kernel
theorem dL_law_320 : decode cL_law 320 = .ok (.iconst 0, 1) := by decide +kernel
theorem dL_law_321 : decode cL_law 321 = .ok (.ireturn, 1) := by decide +kernel
theorem dL_law_322 : decode cL_law 322 = .ok (.aload_n 1, 1) := by decide +kernel
theorem dL_law_323 : decode cL_law 323 = .ok (.aload_n 0, 1) := by decide +kernel
theorem dL_law_324 : decode cL_law 324 = .ok (.iload_n 3, 1) := by decide +kernel
theorem dL_law_325 : decode cL_law 325 = .ok (.iconst 1, 1) := by decide +kernel
theorem dL_law_326 : decode cL_law 326 = .ok (.iadd, 1) := by decide +kernel
theorem dL_law_327 : decode cL_law 327 = .ok (.iaload, 1) := by decide +kernel
theorem dL_law_328 : decode cL_law 328 = .ok (.aload_n 0, 1) := by decide +kernel
theorem dL_law_329 : decode cL_law 329 = .ok (.iload_n 3, 1) := by decide +kernel
theorem dL_law_330 : decode cL_law 330 = .ok (.iconst 2, 1) := by decide +kernel
theorem dL_law_331 : decode cL_law 331 = .ok (.iadd, 1) := by decide +kernel
theorem dL_law_332 : decode cL_law 332 = .ok (.iaload, 1) := by decide +kernel
theorem dL_law_333 : decode cL_law 333 = .ok (.invokevirtual 32, 3) := by decide +kernel
theorem dL_law_336 : decode cL_law 336 = .ok (.aload_n 2, 1) := by decide +kernel
theorem dL_law_337 : decode cL_law 337 = .ok (.aload_n 0, 1) := by decide +kernel
theorem dL_law_338 : decode cL_law 338 = .ok (.iload_n 3, 1) := by decide +kernel
theorem dL_law_339 : decode cL_law 339 = .ok (.iconst 1, 1) := by decide +kernel
theorem dL_law_340 : decode cL_law 340 = .ok (.iadd, 1) := by decide +kernel
theorem dL_law_341 : decode cL_law 341 = .ok (.iaload, 1) := by decide +kernel
theorem dL_law_342 : decode cL_law 342 = .ok (.aload_n 0, 1) := by decide +kernel
theorem dL_law_343 : decode cL_law 343 = .ok (.iload_n 3, 1) := by decide +kernel
theorem dL_law_344 : decode cL_law 344 = .ok (.iconst 2, 1) := by decide +kernel
theorem dL_law_345 : decode cL_law 345 = .ok (.iadd, 1) := by decide +kernel
theorem dL_law_346 : decode cL_law 346 = .ok (.iaload, 1) := by decide +kernel
theorem dL_law_347 : decode cL_law 347 = .ok (.invokevirtual 36, 3) := by decide +kernel
theorem dL_law_350 : decode cL_law 350 = .ok (.if_icmp .eq 690, 3) := by decide +kernel
theorem dL_law_353 : decode cL_law 353 = .ok (.iconst 0, 1) := by decide +kernel
theorem dL_law_354 : decode cL_law 354 = .ok (.ireturn, 1) := by decide +kernel
theorem dL_law_355 : decode cL_law 355 = .ok (.aload_n 1, 1) := by decide +kernel
theorem dL_law_356 : decode cL_law 356 = .ok (.invokevirtual 37, 3) := by decide +kernel
theorem dL_law_359 : decode cL_law 359 = .ok (.aload_n 2, 1) := by decide +kernel
theorem dL_law_360 : decode cL_law 360 = .ok (.invokevirtual 41, 3) := by decide +kernel
theorem dL_law_363 : decode cL_law 363 = .ok (.if_icmp .eq 677, 3) := by decide +kernel
theorem dL_law_366 : decode cL_law 366 = .ok (.iconst 0, 1) := by decide +kernel
theorem dL_law_367 : decode cL_law 367 = .ok (.ireturn, 1) := by decide +kernel
theorem dL_law_368 : decode cL_law 368 = .ok (.aload_n 1, 1) := by decide +kernel
theorem dL_law_369 : decode cL_law 369 = .ok (.aload_n 0, 1) := by decide +kernel
theorem dL_law_370 : decode cL_law 370 = .ok (.iload_n 3, 1) := by decide +kernel
theorem dL_law_371 : decode cL_law 371 = .ok (.iconst 1, 1) := by decide +kernel
theorem dL_law_372 : decode cL_law 372 = .ok (.iadd, 1) := by decide +kernel
theorem dL_law_373 : decode cL_law 373 = .ok (.iaload, 1) := by decide +kernel
theorem dL_law_374 : decode cL_law 374 = .ok (.aload_n 0, 1) := by decide +kernel
theorem dL_law_375 : decode cL_law 375 = .ok (.iload_n 3, 1) := by decide +kernel
theorem dL_law_376 : decode cL_law 376 = .ok (.iconst 2, 1) := by decide +kernel
theorem dL_law_377 : decode cL_law 377 = .ok (.iadd, 1) := by decide +kernel
theorem dL_law_378 : decode cL_law 378 = .ok (.iaload, 1) := by decide +kernel
theorem dL_law_379 : decode cL_law 379 = .ok (.aload_n 0, 1) := by decide +kernel
theorem dL_law_380 : decode cL_law 380 = .ok (.iload_n 3, 1) := by decide +kernel
theorem dL_law_381 : decode cL_law 381 = .ok (.iconst 3, 1) := by decide +kernel
theorem dL_law_382 : decode cL_law 382 = .ok (.iadd, 1) := by decide +kernel
theorem dL_law_383 : decode cL_law 383 = .ok (.iaload, 1) := by decide +kernel
theorem dL_law_384 : decode cL_law 384 = .ok (.invokevirtual 42, 3) := by decide +kernel
theorem dL_law_387 : decode cL_law 387 = .ok (.aload_n 2, 1) := by decide +kernel
theorem dL_law_388 : decode cL_law 388 = .ok (.aload_n 0, 1) := by decide +kernel
theorem dL_law_389 : decode cL_law 389 = .ok (.iload_n 3, 1) := by decide +kernel
theorem dL_law_390 : decode cL_law 390 = .ok (.iconst 1, 1) := by decide +kernel
theorem dL_law_391 : decode cL_law 391 = .ok (.iadd, 1) := by decide +kernel
theorem dL_law_392 : decode cL_law 392 = .ok (.iaload, 1) := by decide +kernel
theorem dL_law_393 : decode cL_law 393 = .ok (.aload_n 0, 1) := by decide +kernel
theorem dL_law_394 : decode cL_law 394 = .ok (.iload_n 3, 1) := by decide +kernel
theorem dL_law_395 : decode cL_law 395 = .ok (.iconst 2, 1) := by decide +kernel
theorem dL_law_396 : decode cL_law 396 = .ok (.iadd, 1) := by decide +kernel
theorem dL_law_397 : decode cL_law 397 = .ok (.iaload, 1) := by decide +kernel
theorem dL_law_398 : decode cL_law 398 = .ok (.aload_n 0, 1) := by decide +kernel
theorem dL_law_399 : decode cL_law 399 = .ok (.iload_n 3, 1) := by decide +kernel
theorem dL_law_400 : decode cL_law 400 = .ok (.iconst 3, 1) := by decide +kernel
theorem dL_law_401 : decode cL_law 401 = .ok (.iadd, 1) := by decide +kernel
theorem dL_law_402 : decode cL_law 402 = .ok (.iaload, 1) := by decide +kernel
theorem dL_law_403 : decode cL_law 403 = .ok (.invokevirtual 45, 3) := by decide +kernel
theorem dL_law_406 : decode cL_law 406 = .ok (.if_icmp .eq 634, 3) := by decide +kernel
theorem dL_law_409 : decode cL_law 409 = .ok (.iconst 0, 1) := by decide +kernel
theorem dL_law_410 : decode cL_law 410 = .ok (.ireturn, 1) := by decide +kernel
theorem dL_law_411 : decode cL_law 411 = .ok (.aload_n 1, 1) := by decide +kernel
theorem dL_law_412 : decode cL_law 412 = .ok (.aload_n 0, 1) := by decide +kernel
theorem dL_law_413 : decode cL_law 413 = .ok (.iload_n 3, 1) := by decide +kernel
theorem dL_law_414 : decode cL_law 414 = .ok (.iconst 1, 1) := by decide +kernel
theorem dL_law_415 : decode cL_law 415 = .ok (.iadd, 1) := by decide +kernel
theorem dL_law_416 : decode cL_law 416 = .ok (.iaload, 1) := by decide +kernel
theorem dL_law_417 : decode cL_law 417 = .ok (.invokevirtual 46, 3) := by decide +kernel
theorem dL_law_420 : decode cL_law 420 = .ok (.aload_n 2, 1) := by decide +kernel
theorem dL_law_421 : decode cL_law 421 = .ok (.aload_n 0, 1) := by decide +kernel
theorem dL_law_422 : decode cL_law 422 = .ok (.iload_n 3, 1) := by decide +kernel
theorem dL_law_423 : decode cL_law 423 = .ok (.iconst 1, 1) := by decide +kernel
theorem dL_law_424 : decode cL_law 424 = .ok (.iadd, 1) := by decide +kernel
theorem dL_law_425 : decode cL_law 425 = .ok (.iaload, 1) := by decide +kernel
theorem dL_law_426 : decode cL_law 426 = .ok (.invokevirtual 49, 3) := by decide +kernel
theorem dL_law_429 : decode cL_law 429 = .ok (.if_icmp .eq 611, 3) := by decide +kernel
theorem dL_law_432 : decode cL_law 432 = .ok (.iconst 0, 1) := by decide +kernel
theorem dL_law_433 : decode cL_law 433 = .ok (.ireturn, 1) := by decide +kernel
theorem dL_law_434 : decode cL_law 434 = .ok (.aload_n 1, 1) := by decide +kernel
theorem dL_law_435 : decode cL_law 435 = .ok (.aload_n 0, 1) := by decide +kernel
theorem dL_law_436 : decode cL_law 436 = .ok (.iload_n 3, 1) := by decide +kernel
theorem dL_law_437 : decode cL_law 437 = .ok (.iconst 1, 1) := by decide +kernel
theorem dL_law_438 : decode cL_law 438 = .ok (.iadd, 1) := by decide +kernel
theorem dL_law_439 : decode cL_law 439 = .ok (.iaload, 1) := by decide +kernel
theorem dL_law_440 : decode cL_law 440 = .ok (.invokevirtual 50, 3) := by decide +kernel
theorem dL_law_443 : decode cL_law 443 = .ok (.aload_n 2, 1) := by decide +kernel
theorem dL_law_444 : decode cL_law 444 = .ok (.aload_n 0, 1) := by decide +kernel
theorem dL_law_445 : decode cL_law 445 = .ok (.iload_n 3, 1) := by decide +kernel
theorem dL_law_446 : decode cL_law 446 = .ok (.iconst 1, 1) := by decide +kernel
theorem dL_law_447 : decode cL_law 447 = .ok (.iadd, 1) := by decide +kernel
theorem dL_law_448 : decode cL_law 448 = .ok (.iaload, 1) := by decide +kernel
theorem dL_law_449 : decode cL_law 449 = .ok (.invokevirtual 53, 3) := by decide +kernel
theorem dL_law_452 : decode cL_law 452 = .ok (.if_icmp .eq 588, 3) := by decide +kernel
theorem dL_law_455 : decode cL_law 455 = .ok (.iconst 0, 1) := by decide +kernel
theorem dL_law_456 : decode cL_law 456 = .ok (.ireturn, 1) := by decide +kernel
theorem dL_law_457 : decode cL_law 457 = .ok (.aload_n 1, 1) := by decide +kernel
theorem dL_law_458 : decode cL_law 458 = .ok (.aload_n 0, 1) := by decide +kernel
theorem dL_law_459 : decode cL_law 459 = .ok (.iload_n 3, 1) := by decide +kernel
theorem dL_law_460 : decode cL_law 460 = .ok (.iconst 1, 1) := by decide +kernel
theorem dL_law_461 : decode cL_law 461 = .ok (.iadd, 1) := by decide +kernel
theorem dL_law_462 : decode cL_law 462 = .ok (.iaload, 1) := by decide +kernel
theorem dL_law_463 : decode cL_law 463 = .ok (.aload_n 0, 1) := by decide +kernel
theorem dL_law_464 : decode cL_law 464 = .ok (.iload_n 3, 1) := by decide +kernel
theorem dL_law_465 : decode cL_law 465 = .ok (.iconst 2, 1) := by decide +kernel
theorem dL_law_466 : decode cL_law 466 = .ok (.iadd, 1) := by decide +kernel
theorem dL_law_467 : decode cL_law 467 = .ok (.iaload, 1) := by decide +kernel
theorem dL_law_468 : decode cL_law 468 = .ok (.invokevirtual 54, 3) := by decide +kernel
theorem dL_law_471 : decode cL_law 471 = .ok (.aload_n 2, 1) := by decide +kernel
theorem dL_law_472 : decode cL_law 472 = .ok (.aload_n 0, 1) := by decide +kernel
theorem dL_law_473 : decode cL_law 473 = .ok (.iload_n 3, 1) := by decide +kernel
theorem dL_law_474 : decode cL_law 474 = .ok (.iconst 1, 1) := by decide +kernel
theorem dL_law_475 : decode cL_law 475 = .ok (.iadd, 1) := by decide +kernel
theorem dL_law_476 : decode cL_law 476 = .ok (.iaload, 1) := by decide +kernel
theorem dL_law_477 : decode cL_law 477 = .ok (.aload_n 0, 1) := by decide +kernel
theorem dL_law_478 : decode cL_law 478 = .ok (.iload_n 3, 1) := by decide +kernel
theorem dL_law_479 : decode cL_law 479 = .ok (.iconst 2, 1) := by decide +kernel
theorem dL_law_480 : decode cL_law 480 = .ok (.iadd, 1) := by decide +kernel
theorem dL_law_481 : decode cL_law 481 = .ok (.iaload, 1) := by decide +kernel
theorem dL_law_482 : decode cL_law 482 = .ok (.invokevirtual 57, 3) := by decide +kernel
theorem dL_law_485 : decode cL_law 485 = .ok (.if_icmp .eq 555, 3) := by decide +kernel
theorem dL_law_488 : decode cL_law 488 = .ok (.iconst 0, 1) := by decide +kernel
theorem dL_law_489 : decode cL_law 489 = .ok (.ireturn, 1) := by decide +kernel
theorem dL_law_490 : decode cL_law 490 = .ok (.aload_n 1, 1) := by decide +kernel
theorem dL_law_491 : decode cL_law 491 = .ok (.aload_n 0, 1) := by decide +kernel
theorem dL_law_492 : decode cL_law 492 = .ok (.iload_n 3, 1) := by decide +kernel
theorem dL_law_493 : decode cL_law 493 = .ok (.iconst 1, 1) := by decide +kernel
theorem dL_law_494 : decode cL_law 494 = .ok (.iadd, 1) := by decide +kernel
theorem dL_law_495 : decode cL_law 495 = .ok (.iaload, 1) := by decide +kernel
theorem dL_law_496 : decode cL_law 496 = .ok (.aload_n 0, 1) := by decide +kernel
theorem dL_law_497 : decode cL_law 497 = .ok (.iload_n 3, 1) := by decide +kernel
theorem dL_law_498 : decode cL_law 498 = .ok (.iconst 2, 1) := by decide +kernel
theorem dL_law_499 : decode cL_law 499 = .ok (.iadd, 1) := by decide +kernel
theorem dL_law_500 : decode cL_law 500 = .ok (.iaload, 1) := by decide +kernel
theorem dL_law_501 : decode cL_law 501 = .ok (.invokevirtual 58, 3) := by decide +kernel
theorem dL_law_504 : decode cL_law 504 = .ok (.aload_n 2, 1) := by decide +kernel
theorem dL_law_505 : decode cL_law 505 = .ok (.aload_n 0, 1) := by decide +kernel
theorem dL_law_506 : decode cL_law 506 = .ok (.iload_n 3, 1) := by decide +kernel
theorem dL_law_507 : decode cL_law 507 = .ok (.iconst 1, 1) := by decide +kernel
theorem dL_law_508 : decode cL_law 508 = .ok (.iadd, 1) := by decide +kernel
theorem dL_law_509 : decode cL_law 509 = .ok (.iaload, 1) := by decide +kernel
theorem dL_law_510 : decode cL_law 510 = .ok (.aload_n 0, 1) := by decide +kernel
theorem dL_law_511 : decode cL_law 511 = .ok (.iload_n 3, 1) := by decide +kernel
theorem dL_law_512 : decode cL_law 512 = .ok (.iconst 2, 1) := by decide +kernel
theorem dL_law_513 : decode cL_law 513 = .ok (.iadd, 1) := by decide +kernel
theorem dL_law_514 : decode cL_law 514 = .ok (.iaload, 1) := by decide +kernel
theorem dL_law_515 : decode cL_law 515 = .ok (.invokevirtual 61, 3) := by decide +kernel
theorem dL_law_518 : decode cL_law 518 = .ok (.if_icmp .eq 522, 3) := by decide +kernel
theorem dL_law_521 : decode cL_law 521 = .ok (.iconst 0, 1) := by decide +kernel
theorem dL_law_522 : decode cL_law 522 = .ok (.ireturn, 1) := by decide +kernel
theorem dL_law_523 : decode cL_law 523 = .ok (.aload_n 1, 1) := by decide +kernel
theorem dL_law_524 : decode cL_law 524 = .ok (.aload_n 0, 1) := by decide +kernel
theorem dL_law_525 : decode cL_law 525 = .ok (.iload_n 3, 1) := by decide +kernel
theorem dL_law_526 : decode cL_law 526 = .ok (.iconst 1, 1) := by decide +kernel
theorem dL_law_527 : decode cL_law 527 = .ok (.iadd, 1) := by decide +kernel
theorem dL_law_528 : decode cL_law 528 = .ok (.iaload, 1) := by decide +kernel
theorem dL_law_529 : decode cL_law 529 = .ok (.invokevirtual 62, 3) := by decide +kernel
theorem dL_law_532 : decode cL_law 532 = .ok (.aload_n 2, 1) := by decide +kernel
theorem dL_law_533 : decode cL_law 533 = .ok (.aload_n 0, 1) := by decide +kernel
theorem dL_law_534 : decode cL_law 534 = .ok (.iload_n 3, 1) := by decide +kernel
theorem dL_law_535 : decode cL_law 535 = .ok (.iconst 1, 1) := by decide +kernel
theorem dL_law_536 : decode cL_law 536 = .ok (.iadd, 1) := by decide +kernel
theorem dL_law_537 : decode cL_law 537 = .ok (.iaload, 1) := by decide +kernel
theorem dL_law_538 : decode cL_law 538 = .ok (.invokevirtual 66, 3) := by decide +kernel
theorem dL_law_541 : decode cL_law 541 = .ok (.lcmp, 1) := by decide +kernel
theorem dL_law_542 : decode cL_law 542 = .ok (.ifCond .eq 498, 3) := by decide +kernel
theorem dL_law_545 : decode cL_law 545 = .ok (.iconst 0, 1) := by decide +kernel
theorem dL_law_546 : decode cL_law 546 = .ok (.ireturn, 1) := by decide +kernel
theorem dL_law_547 : decode cL_law 547 = .ok (.aload_n 1, 1) := by decide +kernel
theorem dL_law_548 : decode cL_law 548 = .ok (.aload_n 0, 1) := by decide +kernel
theorem dL_law_549 : decode cL_law 549 = .ok (.iload_n 3, 1) := by decide +kernel
theorem dL_law_550 : decode cL_law 550 = .ok (.iconst 1, 1) := by decide +kernel
theorem dL_law_551 : decode cL_law 551 = .ok (.iadd, 1) := by decide +kernel
theorem dL_law_552 : decode cL_law 552 = .ok (.iaload, 1) := by decide +kernel
theorem dL_law_553 : decode cL_law 553 = .ok (.aload_n 0, 1) := by decide +kernel
theorem dL_law_554 : decode cL_law 554 = .ok (.iload_n 3, 1) := by decide +kernel
theorem dL_law_555 : decode cL_law 555 = .ok (.iconst 2, 1) := by decide +kernel
theorem dL_law_556 : decode cL_law 556 = .ok (.iadd, 1) := by decide +kernel
theorem dL_law_557 : decode cL_law 557 = .ok (.iaload, 1) := by decide +kernel
theorem dL_law_558 : decode cL_law 558 = .ok (.i2l, 1) := by decide +kernel
theorem dL_law_559 : decode cL_law 559 = .ok (.bipush 32, 2) := by decide +kernel
theorem dL_law_561 : decode cL_law 561 = .ok (.lshl, 1) := by decide +kernel
theorem dL_law_562 : decode cL_law 562 = .ok (.aload_n 0, 1) := by decide +kernel
theorem dL_law_563 : decode cL_law 563 = .ok (.iload_n 3, 1) := by decide +kernel
theorem dL_law_564 : decode cL_law 564 = .ok (.iconst 3, 1) := by decide +kernel
theorem dL_law_565 : decode cL_law 565 = .ok (.iadd, 1) := by decide +kernel
theorem dL_law_566 : decode cL_law 566 = .ok (.iaload, 1) := by decide +kernel
theorem dL_law_567 : decode cL_law 567 = .ok (.i2l, 1) := by decide +kernel
theorem dL_law_568 : decode cL_law 568 = .ok (.ldc2_w 67, 3) := by decide +kernel
theorem dL_law_571 : decode cL_law 571 = .ok (.land, 1) := by decide +kernel
theorem dL_law_572 : decode cL_law 572 = .ok (.lor, 1) := by decide +kernel
theorem dL_law_573 : decode cL_law 573 = .ok (.aload_n 0, 1) := by decide +kernel
theorem dL_law_574 : decode cL_law 574 = .ok (.iload_n 3, 1) := by decide +kernel
theorem dL_law_575 : decode cL_law 575 = .ok (.iconst 4, 1) := by decide +kernel
theorem dL_law_576 : decode cL_law 576 = .ok (.iadd, 1) := by decide +kernel
theorem dL_law_577 : decode cL_law 577 = .ok (.iaload, 1) := by decide +kernel
theorem dL_law_578 : decode cL_law 578 = .ok (.invokevirtual 69, 3) := by decide +kernel
theorem dL_law_581 : decode cL_law 581 = .ok (.aload_n 2, 1) := by decide +kernel
theorem dL_law_582 : decode cL_law 582 = .ok (.aload_n 0, 1) := by decide +kernel
theorem dL_law_583 : decode cL_law 583 = .ok (.iload_n 3, 1) := by decide +kernel
theorem dL_law_584 : decode cL_law 584 = .ok (.iconst 1, 1) := by decide +kernel
theorem dL_law_585 : decode cL_law 585 = .ok (.iadd, 1) := by decide +kernel
theorem dL_law_586 : decode cL_law 586 = .ok (.iaload, 1) := by decide +kernel
theorem dL_law_587 : decode cL_law 587 = .ok (.aload_n 0, 1) := by decide +kernel
theorem dL_law_588 : decode cL_law 588 = .ok (.iload_n 3, 1) := by decide +kernel
theorem dL_law_589 : decode cL_law 589 = .ok (.iconst 2, 1) := by decide +kernel
theorem dL_law_590 : decode cL_law 590 = .ok (.iadd, 1) := by decide +kernel
theorem dL_law_591 : decode cL_law 591 = .ok (.iaload, 1) := by decide +kernel
theorem dL_law_592 : decode cL_law 592 = .ok (.i2l, 1) := by decide +kernel
theorem dL_law_593 : decode cL_law 593 = .ok (.bipush 32, 2) := by decide +kernel
theorem dL_law_595 : decode cL_law 595 = .ok (.lshl, 1) := by decide +kernel
theorem dL_law_596 : decode cL_law 596 = .ok (.aload_n 0, 1) := by decide +kernel
theorem dL_law_597 : decode cL_law 597 = .ok (.iload_n 3, 1) := by decide +kernel
theorem dL_law_598 : decode cL_law 598 = .ok (.iconst 3, 1) := by decide +kernel
theorem dL_law_599 : decode cL_law 599 = .ok (.iadd, 1) := by decide +kernel
theorem dL_law_600 : decode cL_law 600 = .ok (.iaload, 1) := by decide +kernel
theorem dL_law_601 : decode cL_law 601 = .ok (.i2l, 1) := by decide +kernel
theorem dL_law_602 : decode cL_law 602 = .ok (.ldc2_w 67, 3) := by decide +kernel
theorem dL_law_605 : decode cL_law 605 = .ok (.land, 1) := by decide +kernel
theorem dL_law_606 : decode cL_law 606 = .ok (.lor, 1) := by decide +kernel
theorem dL_law_607 : decode cL_law 607 = .ok (.aload_n 0, 1) := by decide +kernel
theorem dL_law_608 : decode cL_law 608 = .ok (.iload_n 3, 1) := by decide +kernel
theorem dL_law_609 : decode cL_law 609 = .ok (.iconst 4, 1) := by decide +kernel
theorem dL_law_610 : decode cL_law 610 = .ok (.iadd, 1) := by decide +kernel
theorem dL_law_611 : decode cL_law 611 = .ok (.iaload, 1) := by decide +kernel
theorem dL_law_612 : decode cL_law 612 = .ok (.invokevirtual 73, 3) := by decide +kernel
theorem dL_law_615 : decode cL_law 615 = .ok (.if_icmp .eq 425, 3) := by decide +kernel
theorem dL_law_618 : decode cL_law 618 = .ok (.iconst 0, 1) := by decide +kernel
theorem dL_law_619 : decode cL_law 619 = .ok (.ireturn, 1) := by decide +kernel
theorem dL_law_620 : decode cL_law 620 = .ok (.aload_n 1, 1) := by decide +kernel
theorem dL_law_621 : decode cL_law 621 = .ok (.aload_n 0, 1) := by decide +kernel
theorem dL_law_622 : decode cL_law 622 = .ok (.iload_n 3, 1) := by decide +kernel
theorem dL_law_623 : decode cL_law 623 = .ok (.iconst 1, 1) := by decide +kernel
theorem dL_law_624 : decode cL_law 624 = .ok (.iadd, 1) := by decide +kernel
theorem dL_law_625 : decode cL_law 625 = .ok (.iaload, 1) := by decide +kernel
theorem dL_law_626 : decode cL_law 626 = .ok (.aload_n 0, 1) := by decide +kernel
theorem dL_law_627 : decode cL_law 627 = .ok (.iload_n 3, 1) := by decide +kernel
theorem dL_law_628 : decode cL_law 628 = .ok (.iconst 2, 1) := by decide +kernel
theorem dL_law_629 : decode cL_law 629 = .ok (.iadd, 1) := by decide +kernel
theorem dL_law_630 : decode cL_law 630 = .ok (.iaload, 1) := by decide +kernel
theorem dL_law_631 : decode cL_law 631 = .ok (.i2l, 1) := by decide +kernel
theorem dL_law_632 : decode cL_law 632 = .ok (.bipush 32, 2) := by decide +kernel
theorem dL_law_634 : decode cL_law 634 = .ok (.lshl, 1) := by decide +kernel
theorem dL_law_635 : decode cL_law 635 = .ok (.aload_n 0, 1) := by decide +kernel
theorem dL_law_636 : decode cL_law 636 = .ok (.iload_n 3, 1) := by decide +kernel
theorem dL_law_637 : decode cL_law 637 = .ok (.iconst 3, 1) := by decide +kernel
theorem dL_law_638 : decode cL_law 638 = .ok (.iadd, 1) := by decide +kernel
theorem dL_law_639 : decode cL_law 639 = .ok (.iaload, 1) := by decide +kernel
theorem dL_law_640 : decode cL_law 640 = .ok (.i2l, 1) := by decide +kernel
theorem dL_law_641 : decode cL_law 641 = .ok (.ldc2_w 67, 3) := by decide +kernel
theorem dL_law_644 : decode cL_law 644 = .ok (.land, 1) := by decide +kernel
theorem dL_law_645 : decode cL_law 645 = .ok (.lor, 1) := by decide +kernel
theorem dL_law_646 : decode cL_law 646 = .ok (.invokevirtual 74, 3) := by decide +kernel
theorem dL_law_649 : decode cL_law 649 = .ok (.aload_n 2, 1) := by decide +kernel
theorem dL_law_650 : decode cL_law 650 = .ok (.aload_n 0, 1) := by decide +kernel
theorem dL_law_651 : decode cL_law 651 = .ok (.iload_n 3, 1) := by decide +kernel
theorem dL_law_652 : decode cL_law 652 = .ok (.iconst 1, 1) := by decide +kernel
theorem dL_law_653 : decode cL_law 653 = .ok (.iadd, 1) := by decide +kernel
theorem dL_law_654 : decode cL_law 654 = .ok (.iaload, 1) := by decide +kernel
theorem dL_law_655 : decode cL_law 655 = .ok (.aload_n 0, 1) := by decide +kernel
theorem dL_law_656 : decode cL_law 656 = .ok (.iload_n 3, 1) := by decide +kernel
theorem dL_law_657 : decode cL_law 657 = .ok (.iconst 2, 1) := by decide +kernel
theorem dL_law_658 : decode cL_law 658 = .ok (.iadd, 1) := by decide +kernel
theorem dL_law_659 : decode cL_law 659 = .ok (.iaload, 1) := by decide +kernel
theorem dL_law_660 : decode cL_law 660 = .ok (.i2l, 1) := by decide +kernel
theorem dL_law_661 : decode cL_law 661 = .ok (.bipush 32, 2) := by decide +kernel
theorem dL_law_663 : decode cL_law 663 = .ok (.lshl, 1) := by decide +kernel
theorem dL_law_664 : decode cL_law 664 = .ok (.aload_n 0, 1) := by decide +kernel
theorem dL_law_665 : decode cL_law 665 = .ok (.iload_n 3, 1) := by decide +kernel
theorem dL_law_666 : decode cL_law 666 = .ok (.iconst 3, 1) := by decide +kernel
theorem dL_law_667 : decode cL_law 667 = .ok (.iadd, 1) := by decide +kernel
theorem dL_law_668 : decode cL_law 668 = .ok (.iaload, 1) := by decide +kernel
theorem dL_law_669 : decode cL_law 669 = .ok (.i2l, 1) := by decide +kernel
theorem dL_law_670 : decode cL_law 670 = .ok (.ldc2_w 67, 3) := by decide +kernel
theorem dL_law_673 : decode cL_law 673 = .ok (.land, 1) := by decide +kernel
theorem dL_law_674 : decode cL_law 674 = .ok (.lor, 1) := by decide +kernel
theorem dL_law_675 : decode cL_law 675 = .ok (.invokevirtual 78, 3) := by decide +kernel
theorem dL_law_678 : decode cL_law 678 = .ok (.lcmp, 1) := by decide +kernel
theorem dL_law_679 : decode cL_law 679 = .ok (.ifCond .eq 361, 3) := by decide +kernel
theorem dL_law_682 : decode cL_law 682 = .ok (.iconst 0, 1) := by decide +kernel
theorem dL_law_683 : decode cL_law 683 = .ok (.ireturn, 1) := by decide +kernel
theorem dL_law_684 : decode cL_law 684 = .ok (.aload_n 1, 1) := by decide +kernel
theorem dL_law_685 : decode cL_law 685 = .ok (.aload_n 0, 1) := by decide +kernel
theorem dL_law_686 : decode cL_law 686 = .ok (.iload_n 3, 1) := by decide +kernel
theorem dL_law_687 : decode cL_law 687 = .ok (.iconst 1, 1) := by decide +kernel
theorem dL_law_688 : decode cL_law 688 = .ok (.iadd, 1) := by decide +kernel
theorem dL_law_689 : decode cL_law 689 = .ok (.iaload, 1) := by decide +kernel
theorem dL_law_690 : decode cL_law 690 = .ok (.aload_n 0, 1) := by decide +kernel
theorem dL_law_691 : decode cL_law 691 = .ok (.iload_n 3, 1) := by decide +kernel
theorem dL_law_692 : decode cL_law 692 = .ok (.iconst 2, 1) := by decide +kernel
theorem dL_law_693 : decode cL_law 693 = .ok (.iadd, 1) := by decide +kernel
theorem dL_law_694 : decode cL_law 694 = .ok (.iaload, 1) := by decide +kernel
theorem dL_law_695 : decode cL_law 695 = .ok (.invokevirtual 79, 3) := by decide +kernel
theorem dL_law_698 : decode cL_law 698 = .ok (.aload_n 2, 1) := by decide +kernel
theorem dL_law_699 : decode cL_law 699 = .ok (.aload_n 0, 1) := by decide +kernel
theorem dL_law_700 : decode cL_law 700 = .ok (.iload_n 3, 1) := by decide +kernel
theorem dL_law_701 : decode cL_law 701 = .ok (.iconst 1, 1) := by decide +kernel
theorem dL_law_702 : decode cL_law 702 = .ok (.iadd, 1) := by decide +kernel
theorem dL_law_703 : decode cL_law 703 = .ok (.iaload, 1) := by decide +kernel
theorem dL_law_704 : decode cL_law 704 = .ok (.aload_n 0, 1) := by decide +kernel
theorem dL_law_705 : decode cL_law 705 = .ok (.iload_n 3, 1) := by decide +kernel
theorem dL_law_706 : decode cL_law 706 = .ok (.iconst 2, 1) := by decide +kernel
theorem dL_law_707 : decode cL_law 707 = .ok (.iadd, 1) := by decide +kernel
theorem dL_law_708 : decode cL_law 708 = .ok (.iaload, 1) := by decide +kernel
theorem dL_law_709 : decode cL_law 709 = .ok (.invokevirtual 82, 3) := by decide +kernel
theorem dL_law_712 : decode cL_law 712 = .ok (.if_icmp .eq 328, 3) := by decide +kernel
theorem dL_law_715 : decode cL_law 715 = .ok (.iconst 0, 1) := by decide +kernel
theorem dL_law_716 : decode cL_law 716 = .ok (.ireturn, 1) := by decide +kernel
theorem dL_law_717 : decode cL_law 717 = .ok (.aload_n 1, 1) := by decide +kernel
theorem dL_law_718 : decode cL_law 718 = .ok (.aload_n 0, 1) := by decide +kernel
theorem dL_law_719 : decode cL_law 719 = .ok (.iload_n 3, 1) := by decide +kernel
theorem dL_law_720 : decode cL_law 720 = .ok (.iconst 1, 1) := by decide +kernel
theorem dL_law_721 : decode cL_law 721 = .ok (.iadd, 1) := by decide +kernel
theorem dL_law_722 : decode cL_law 722 = .ok (.iaload, 1) := by decide +kernel
theorem dL_law_723 : decode cL_law 723 = .ok (.aload_n 0, 1) := by decide +kernel
theorem dL_law_724 : decode cL_law 724 = .ok (.iload_n 3, 1) := by decide +kernel
theorem dL_law_725 : decode cL_law 725 = .ok (.iconst 2, 1) := by decide +kernel
theorem dL_law_726 : decode cL_law 726 = .ok (.iadd, 1) := by decide +kernel
theorem dL_law_727 : decode cL_law 727 = .ok (.iaload, 1) := by decide +kernel
theorem dL_law_728 : decode cL_law 728 = .ok (.invokevirtual 83, 3) := by decide +kernel
theorem dL_law_731 : decode cL_law 731 = .ok (.aload_n 2, 1) := by decide +kernel
theorem dL_law_732 : decode cL_law 732 = .ok (.aload_n 0, 1) := by decide +kernel
theorem dL_law_733 : decode cL_law 733 = .ok (.iload_n 3, 1) := by decide +kernel
theorem dL_law_734 : decode cL_law 734 = .ok (.iconst 1, 1) := by decide +kernel
theorem dL_law_735 : decode cL_law 735 = .ok (.iadd, 1) := by decide +kernel
theorem dL_law_736 : decode cL_law 736 = .ok (.iaload, 1) := by decide +kernel
theorem dL_law_737 : decode cL_law 737 = .ok (.aload_n 0, 1) := by decide +kernel
theorem dL_law_738 : decode cL_law 738 = .ok (.iload_n 3, 1) := by decide +kernel
theorem dL_law_739 : decode cL_law 739 = .ok (.iconst 2, 1) := by decide +kernel
theorem dL_law_740 : decode cL_law 740 = .ok (.iadd, 1) := by decide +kernel
theorem dL_law_741 : decode cL_law 741 = .ok (.iaload, 1) := by decide +kernel
theorem dL_law_742 : decode cL_law 742 = .ok (.invokevirtual 86, 3) := by decide +kernel
theorem dL_law_745 : decode cL_law 745 = .ok (.if_icmp .eq 295, 3) := by decide +kernel
theorem dL_law_748 : decode cL_law 748 = .ok (.iconst 0, 1) := by decide +kernel
theorem dL_law_749 : decode cL_law 749 = .ok (.ireturn, 1) := by decide +kernel
theorem dL_law_750 : decode cL_law 750 = .ok (.aload_n 1, 1) := by decide +kernel
theorem dL_law_751 : decode cL_law 751 = .ok (.aload_n 0, 1) := by decide +kernel
theorem dL_law_752 : decode cL_law 752 = .ok (.iload_n 3, 1) := by decide +kernel
theorem dL_law_753 : decode cL_law 753 = .ok (.iconst 1, 1) := by decide +kernel
theorem dL_law_754 : decode cL_law 754 = .ok (.iadd, 1) := by decide +kernel
theorem dL_law_755 : decode cL_law 755 = .ok (.iaload, 1) := by decide +kernel
theorem dL_law_756 : decode cL_law 756 = .ok (.aload_n 0, 1) := by decide +kernel
theorem dL_law_757 : decode cL_law 757 = .ok (.iload_n 3, 1) := by decide +kernel
theorem dL_law_758 : decode cL_law 758 = .ok (.iconst 2, 1) := by decide +kernel
theorem dL_law_759 : decode cL_law 759 = .ok (.iadd, 1) := by decide +kernel
theorem dL_law_760 : decode cL_law 760 = .ok (.iaload, 1) := by decide +kernel
theorem dL_law_761 : decode cL_law 761 = .ok (.aload_n 0, 1) := by decide +kernel
theorem dL_law_762 : decode cL_law 762 = .ok (.iload_n 3, 1) := by decide +kernel
theorem dL_law_763 : decode cL_law 763 = .ok (.iconst 3, 1) := by decide +kernel
theorem dL_law_764 : decode cL_law 764 = .ok (.iadd, 1) := by decide +kernel
theorem dL_law_765 : decode cL_law 765 = .ok (.iaload, 1) := by decide +kernel
theorem dL_law_766 : decode cL_law 766 = .ok (.invokevirtual 87, 3) := by decide +kernel
theorem dL_law_769 : decode cL_law 769 = .ok (.aload_n 2, 1) := by decide +kernel
theorem dL_law_770 : decode cL_law 770 = .ok (.aload_n 0, 1) := by decide +kernel
theorem dL_law_771 : decode cL_law 771 = .ok (.iload_n 3, 1) := by decide +kernel
theorem dL_law_772 : decode cL_law 772 = .ok (.iconst 1, 1) := by decide +kernel
theorem dL_law_773 : decode cL_law 773 = .ok (.iadd, 1) := by decide +kernel
theorem dL_law_774 : decode cL_law 774 = .ok (.iaload, 1) := by decide +kernel
theorem dL_law_775 : decode cL_law 775 = .ok (.aload_n 0, 1) := by decide +kernel
theorem dL_law_776 : decode cL_law 776 = .ok (.iload_n 3, 1) := by decide +kernel
theorem dL_law_777 : decode cL_law 777 = .ok (.iconst 2, 1) := by decide +kernel
theorem dL_law_778 : decode cL_law 778 = .ok (.iadd, 1) := by decide +kernel
theorem dL_law_779 : decode cL_law 779 = .ok (.iaload, 1) := by decide +kernel
theorem dL_law_780 : decode cL_law 780 = .ok (.aload_n 0, 1) := by decide +kernel
theorem dL_law_781 : decode cL_law 781 = .ok (.iload_n 3, 1) := by decide +kernel
theorem dL_law_782 : decode cL_law 782 = .ok (.iconst 3, 1) := by decide +kernel
theorem dL_law_783 : decode cL_law 783 = .ok (.iadd, 1) := by decide +kernel
theorem dL_law_784 : decode cL_law 784 = .ok (.iaload, 1) := by decide +kernel
theorem dL_law_785 : decode cL_law 785 = .ok (.invokevirtual 91, 3) := by decide +kernel
theorem dL_law_788 : decode cL_law 788 = .ok (.lcmp, 1) := by decide +kernel
theorem dL_law_789 : decode cL_law 789 = .ok (.ifCond .eq 251, 3) := by decide +kernel
theorem dL_law_792 : decode cL_law 792 = .ok (.iconst 0, 1) := by decide +kernel
theorem dL_law_793 : decode cL_law 793 = .ok (.ireturn, 1) := by decide +kernel
theorem dL_law_794 : decode cL_law 794 = .ok (.aload_n 1, 1) := by decide +kernel
theorem dL_law_795 : decode cL_law 795 = .ok (.aload_n 0, 1) := by decide +kernel
theorem dL_law_796 : decode cL_law 796 = .ok (.iload_n 3, 1) := by decide +kernel
theorem dL_law_797 : decode cL_law 797 = .ok (.iconst 1, 1) := by decide +kernel
theorem dL_law_798 : decode cL_law 798 = .ok (.iadd, 1) := by decide +kernel
theorem dL_law_799 : decode cL_law 799 = .ok (.iaload, 1) := by decide +kernel
theorem dL_law_800 : decode cL_law 800 = .ok (.aload_n 0, 1) := by decide +kernel
theorem dL_law_801 : decode cL_law 801 = .ok (.iload_n 3, 1) := by decide +kernel
theorem dL_law_802 : decode cL_law 802 = .ok (.iconst 2, 1) := by decide +kernel
theorem dL_law_803 : decode cL_law 803 = .ok (.iadd, 1) := by decide +kernel
theorem dL_law_804 : decode cL_law 804 = .ok (.iaload, 1) := by decide +kernel
theorem dL_law_805 : decode cL_law 805 = .ok (.aload_n 0, 1) := by decide +kernel
theorem dL_law_806 : decode cL_law 806 = .ok (.iload_n 3, 1) := by decide +kernel
theorem dL_law_807 : decode cL_law 807 = .ok (.iconst 3, 1) := by decide +kernel
theorem dL_law_808 : decode cL_law 808 = .ok (.iadd, 1) := by decide +kernel
theorem dL_law_809 : decode cL_law 809 = .ok (.iaload, 1) := by decide +kernel
theorem dL_law_810 : decode cL_law 810 = .ok (.invokevirtual 92, 3) := by decide +kernel
theorem dL_law_813 : decode cL_law 813 = .ok (.aload_n 2, 1) := by decide +kernel
theorem dL_law_814 : decode cL_law 814 = .ok (.aload_n 0, 1) := by decide +kernel
theorem dL_law_815 : decode cL_law 815 = .ok (.iload_n 3, 1) := by decide +kernel
theorem dL_law_816 : decode cL_law 816 = .ok (.iconst 1, 1) := by decide +kernel
theorem dL_law_817 : decode cL_law 817 = .ok (.iadd, 1) := by decide +kernel
theorem dL_law_818 : decode cL_law 818 = .ok (.iaload, 1) := by decide +kernel
theorem dL_law_819 : decode cL_law 819 = .ok (.aload_n 0, 1) := by decide +kernel
theorem dL_law_820 : decode cL_law 820 = .ok (.iload_n 3, 1) := by decide +kernel
theorem dL_law_821 : decode cL_law 821 = .ok (.iconst 2, 1) := by decide +kernel
theorem dL_law_822 : decode cL_law 822 = .ok (.iadd, 1) := by decide +kernel
theorem dL_law_823 : decode cL_law 823 = .ok (.iaload, 1) := by decide +kernel
theorem dL_law_824 : decode cL_law 824 = .ok (.aload_n 0, 1) := by decide +kernel
theorem dL_law_825 : decode cL_law 825 = .ok (.iload_n 3, 1) := by decide +kernel
theorem dL_law_826 : decode cL_law 826 = .ok (.iconst 3, 1) := by decide +kernel
theorem dL_law_827 : decode cL_law 827 = .ok (.iadd, 1) := by decide +kernel
theorem dL_law_828 : decode cL_law 828 = .ok (.iaload, 1) := by decide +kernel
theorem dL_law_829 : decode cL_law 829 = .ok (.invokevirtual 95, 3) := by decide +kernel
theorem dL_law_832 : decode cL_law 832 = .ok (.lcmp, 1) := by decide +kernel
theorem dL_law_833 : decode cL_law 833 = .ok (.ifCond .eq 207, 3) := by decide +kernel
theorem dL_law_836 : decode cL_law 836 = .ok (.iconst 0, 1) := by decide +kernel
theorem dL_law_837 : decode cL_law 837 = .ok (.ireturn, 1) := by decide +kernel
theorem dL_law_838 : decode cL_law 838 = .ok (.aload_n 1, 1) := by decide +kernel
theorem dL_law_839 : decode cL_law 839 = .ok (.aload_n 0, 1) := by decide +kernel
theorem dL_law_840 : decode cL_law 840 = .ok (.iload_n 3, 1) := by decide +kernel
theorem dL_law_841 : decode cL_law 841 = .ok (.iconst 1, 1) := by decide +kernel
theorem dL_law_842 : decode cL_law 842 = .ok (.iadd, 1) := by decide +kernel
theorem dL_law_843 : decode cL_law 843 = .ok (.iaload, 1) := by decide +kernel
theorem dL_law_844 : decode cL_law 844 = .ok (.aload_n 0, 1) := by decide +kernel
theorem dL_law_845 : decode cL_law 845 = .ok (.iload_n 3, 1) := by decide +kernel
theorem dL_law_846 : decode cL_law 846 = .ok (.iconst 2, 1) := by decide +kernel
theorem dL_law_847 : decode cL_law 847 = .ok (.iadd, 1) := by decide +kernel
theorem dL_law_848 : decode cL_law 848 = .ok (.iaload, 1) := by decide +kernel
theorem dL_law_849 : decode cL_law 849 = .ok (.invokevirtual 96, 3) := by decide +kernel
theorem dL_law_852 : decode cL_law 852 = .ok (.aload_n 2, 1) := by decide +kernel
theorem dL_law_853 : decode cL_law 853 = .ok (.aload_n 0, 1) := by decide +kernel
theorem dL_law_854 : decode cL_law 854 = .ok (.iload_n 3, 1) := by decide +kernel
theorem dL_law_855 : decode cL_law 855 = .ok (.iconst 1, 1) := by decide +kernel
theorem dL_law_856 : decode cL_law 856 = .ok (.iadd, 1) := by decide +kernel
theorem dL_law_857 : decode cL_law 857 = .ok (.iaload, 1) := by decide +kernel
theorem dL_law_858 : decode cL_law 858 = .ok (.aload_n 0, 1) := by decide +kernel
theorem dL_law_859 : decode cL_law 859 = .ok (.iload_n 3, 1) := by decide +kernel
theorem dL_law_860 : decode cL_law 860 = .ok (.iconst 2, 1) := by decide +kernel
theorem dL_law_861 : decode cL_law 861 = .ok (.iadd, 1) := by decide +kernel
theorem dL_law_862 : decode cL_law 862 = .ok (.iaload, 1) := by decide +kernel
theorem dL_law_863 : decode cL_law 863 = .ok (.invokevirtual 100, 3) := by decide +kernel
theorem dL_law_866 : decode cL_law 866 = .ok (.lcmp, 1) := by decide +kernel
theorem dL_law_867 : decode cL_law 867 = .ok (.ifCond .eq 173, 3) := by decide +kernel
theorem dL_law_870 : decode cL_law 870 = .ok (.iconst 0, 1) := by decide +kernel
theorem dL_law_871 : decode cL_law 871 = .ok (.ireturn, 1) := by decide +kernel
theorem dL_law_872 : decode cL_law 872 = .ok (.aload_n 1, 1) := by decide +kernel
theorem dL_law_873 : decode cL_law 873 = .ok (.aload_n 0, 1) := by decide +kernel
theorem dL_law_874 : decode cL_law 874 = .ok (.iload_n 3, 1) := by decide +kernel
theorem dL_law_875 : decode cL_law 875 = .ok (.iconst 1, 1) := by decide +kernel
theorem dL_law_876 : decode cL_law 876 = .ok (.iadd, 1) := by decide +kernel
theorem dL_law_877 : decode cL_law 877 = .ok (.iaload, 1) := by decide +kernel
theorem dL_law_878 : decode cL_law 878 = .ok (.invokevirtual 101, 3) := by decide +kernel
theorem dL_law_881 : decode cL_law 881 = .ok (.aload_n 2, 1) := by decide +kernel
theorem dL_law_882 : decode cL_law 882 = .ok (.aload_n 0, 1) := by decide +kernel
theorem dL_law_883 : decode cL_law 883 = .ok (.iload_n 3, 1) := by decide +kernel
theorem dL_law_884 : decode cL_law 884 = .ok (.iconst 1, 1) := by decide +kernel
theorem dL_law_885 : decode cL_law 885 = .ok (.iadd, 1) := by decide +kernel
theorem dL_law_886 : decode cL_law 886 = .ok (.iaload, 1) := by decide +kernel
theorem dL_law_887 : decode cL_law 887 = .ok (.invokevirtual 104, 3) := by decide +kernel
theorem dL_law_890 : decode cL_law 890 = .ok (.if_icmp .eq 150, 3) := by decide +kernel
theorem dL_law_893 : decode cL_law 893 = .ok (.iconst 0, 1) := by decide +kernel
theorem dL_law_894 : decode cL_law 894 = .ok (.ireturn, 1) := by decide +kernel
theorem dL_law_895 : decode cL_law 895 = .ok (.aload_n 1, 1) := by decide +kernel
theorem dL_law_896 : decode cL_law 896 = .ok (.invokevirtual 105, 3) := by decide +kernel
theorem dL_law_899 : decode cL_law 899 = .ok (.aload_n 2, 1) := by decide +kernel
theorem dL_law_900 : decode cL_law 900 = .ok (.invokevirtual 108, 3) := by decide +kernel
theorem dL_law_903 : decode cL_law 903 = .ok (.if_icmp .eq 137, 3) := by decide +kernel
theorem dL_law_906 : decode cL_law 906 = .ok (.iconst 0, 1) := by decide +kernel
theorem dL_law_907 : decode cL_law 907 = .ok (.ireturn, 1) := by decide +kernel
theorem dL_law_908 : decode cL_law 908 = .ok (.aload_n 1, 1) := by decide +kernel
theorem dL_law_909 : decode cL_law 909 = .ok (.invokevirtual 109, 3) := by decide +kernel
theorem dL_law_912 : decode cL_law 912 = .ok (.aload_n 2, 1) := by decide +kernel
theorem dL_law_913 : decode cL_law 913 = .ok (.invokevirtual 112, 3) := by decide +kernel
theorem dL_law_916 : decode cL_law 916 = .ok (.if_icmp .eq 124, 3) := by decide +kernel
theorem dL_law_919 : decode cL_law 919 = .ok (.iconst 0, 1) := by decide +kernel
theorem dL_law_920 : decode cL_law 920 = .ok (.ireturn, 1) := by decide +kernel
theorem dL_law_921 : decode cL_law 921 = .ok (.aload_n 1, 1) := by decide +kernel
theorem dL_law_922 : decode cL_law 922 = .ok (.aload_n 0, 1) := by decide +kernel
theorem dL_law_923 : decode cL_law 923 = .ok (.iload_n 3, 1) := by decide +kernel
theorem dL_law_924 : decode cL_law 924 = .ok (.iconst 1, 1) := by decide +kernel
theorem dL_law_925 : decode cL_law 925 = .ok (.iadd, 1) := by decide +kernel
theorem dL_law_926 : decode cL_law 926 = .ok (.iaload, 1) := by decide +kernel
theorem dL_law_927 : decode cL_law 927 = .ok (.invokevirtual 113, 3) := by decide +kernel
theorem dL_law_930 : decode cL_law 930 = .ok (.aload_n 2, 1) := by decide +kernel
theorem dL_law_931 : decode cL_law 931 = .ok (.aload_n 0, 1) := by decide +kernel
theorem dL_law_932 : decode cL_law 932 = .ok (.iload_n 3, 1) := by decide +kernel
theorem dL_law_933 : decode cL_law 933 = .ok (.iconst 1, 1) := by decide +kernel
theorem dL_law_934 : decode cL_law 934 = .ok (.iadd, 1) := by decide +kernel
theorem dL_law_935 : decode cL_law 935 = .ok (.iaload, 1) := by decide +kernel
theorem dL_law_936 : decode cL_law 936 = .ok (.invokevirtual 116, 3) := by decide +kernel
theorem dL_law_939 : decode cL_law 939 = .ok (.if_icmp .eq 101, 3) := by decide +kernel
theorem dL_law_942 : decode cL_law 942 = .ok (.iconst 0, 1) := by decide +kernel
theorem dL_law_943 : decode cL_law 943 = .ok (.ireturn, 1) := by decide +kernel
theorem dL_law_944 : decode cL_law 944 = .ok (.aload_n 1, 1) := by decide +kernel
theorem dL_law_945 : decode cL_law 945 = .ok (.invokevirtual 117, 3) := by decide +kernel
theorem dL_law_948 : decode cL_law 948 = .ok (.aload_n 2, 1) := by decide +kernel
theorem dL_law_949 : decode cL_law 949 = .ok (.invokevirtual 120, 3) := by decide +kernel
theorem dL_law_952 : decode cL_law 952 = .ok (.if_icmp .eq 88, 3) := by decide +kernel
theorem dL_law_955 : decode cL_law 955 = .ok (.iconst 0, 1) := by decide +kernel
theorem dL_law_956 : decode cL_law 956 = .ok (.ireturn, 1) := by decide +kernel
theorem dL_law_957 : decode cL_law 957 = .ok (.aload_n 1, 1) := by decide +kernel
theorem dL_law_958 : decode cL_law 958 = .ok (.aload_n 0, 1) := by decide +kernel
theorem dL_law_959 : decode cL_law 959 = .ok (.iload_n 3, 1) := by decide +kernel
theorem dL_law_960 : decode cL_law 960 = .ok (.iconst 1, 1) := by decide +kernel
theorem dL_law_961 : decode cL_law 961 = .ok (.iadd, 1) := by decide +kernel
theorem dL_law_962 : decode cL_law 962 = .ok (.iaload, 1) := by decide +kernel
theorem dL_law_963 : decode cL_law 963 = .ok (.aload_n 0, 1) := by decide +kernel
theorem dL_law_964 : decode cL_law 964 = .ok (.iload_n 3, 1) := by decide +kernel
theorem dL_law_965 : decode cL_law 965 = .ok (.iconst 2, 1) := by decide +kernel
theorem dL_law_966 : decode cL_law 966 = .ok (.iadd, 1) := by decide +kernel
theorem dL_law_967 : decode cL_law 967 = .ok (.iaload, 1) := by decide +kernel
theorem dL_law_968 : decode cL_law 968 = .ok (.invokevirtual 121, 3) := by decide +kernel
theorem dL_law_971 : decode cL_law 971 = .ok (.aload_n 2, 1) := by decide +kernel
theorem dL_law_972 : decode cL_law 972 = .ok (.aload_n 0, 1) := by decide +kernel
theorem dL_law_973 : decode cL_law 973 = .ok (.iload_n 3, 1) := by decide +kernel
theorem dL_law_974 : decode cL_law 974 = .ok (.iconst 1, 1) := by decide +kernel
theorem dL_law_975 : decode cL_law 975 = .ok (.iadd, 1) := by decide +kernel
theorem dL_law_976 : decode cL_law 976 = .ok (.iaload, 1) := by decide +kernel
theorem dL_law_977 : decode cL_law 977 = .ok (.aload_n 0, 1) := by decide +kernel
theorem dL_law_978 : decode cL_law 978 = .ok (.iload_n 3, 1) := by decide +kernel
theorem dL_law_979 : decode cL_law 979 = .ok (.iconst 2, 1) := by decide +kernel
theorem dL_law_980 : decode cL_law 980 = .ok (.iadd, 1) := by decide +kernel
theorem dL_law_981 : decode cL_law 981 = .ok (.iaload, 1) := by decide +kernel
theorem dL_law_982 : decode cL_law 982 = .ok (.invokevirtual 124, 3) := by decide +kernel
theorem dL_law_985 : decode cL_law 985 = .ok (.if_icmp .eq 55, 3) := by decide +kernel
theorem dL_law_988 : decode cL_law 988 = .ok (.iconst 0, 1) := by decide +kernel
theorem dL_law_989 : decode cL_law 989 = .ok (.ireturn, 1) := by decide +kernel
theorem dL_law_990 : decode cL_law 990 = .ok (.aload_n 1, 1) := by decide +kernel
theorem dL_law_991 : decode cL_law 991 = .ok (.invokevirtual 125, 3) := by decide +kernel
theorem dL_law_994 : decode cL_law 994 = .ok (.aload_n 2, 1) := by decide +kernel
theorem dL_law_995 : decode cL_law 995 = .ok (.invokevirtual 128, 3) := by decide +kernel
theorem dL_law_998 : decode cL_law 998 = .ok (.if_icmp .eq 42, 3) := by decide +kernel
theorem dL_law_1001 : decode cL_law 1001 = .ok (.iconst 0, 1) := by decide +kernel
theorem dL_law_1002 : decode cL_law 1002 = .ok (.ireturn, 1) := by decide +kernel
theorem dL_law_1003 : decode cL_law 1003 = .ok (.aload_n 1, 1) := by decide +kernel
theorem dL_law_1004 : decode cL_law 1004 = .ok (.aload_n 0, 1) := by decide +kernel
theorem dL_law_1005 : decode cL_law 1005 = .ok (.iload_n 3, 1) := by decide +kernel
theorem dL_law_1006 : decode cL_law 1006 = .ok (.iconst 1, 1) := by decide +kernel
theorem dL_law_1007 : decode cL_law 1007 = .ok (.iadd, 1) := by decide +kernel
theorem dL_law_1008 : decode cL_law 1008 = .ok (.iaload, 1) := by decide +kernel
theorem dL_law_1009 : decode cL_law 1009 = .ok (.invokevirtual 129, 3) := by decide +kernel
theorem dL_law_1012 : decode cL_law 1012 = .ok (.aload_n 2, 1) := by decide +kernel
theorem dL_law_1013 : decode cL_law 1013 = .ok (.aload_n 0, 1) := by decide +kernel
theorem dL_law_1014 : decode cL_law 1014 = .ok (.iload_n 3, 1) := by decide +kernel
theorem dL_law_1015 : decode cL_law 1015 = .ok (.iconst 1, 1) := by decide +kernel
theorem dL_law_1016 : decode cL_law 1016 = .ok (.iadd, 1) := by decide +kernel
theorem dL_law_1017 : decode cL_law 1017 = .ok (.iaload, 1) := by decide +kernel
theorem dL_law_1018 : decode cL_law 1018 = .ok (.invokevirtual 132, 3) := by decide +kernel
theorem dL_law_1021 : decode cL_law 1021 = .ok (.if_icmp .eq 19, 3) := by decide +kernel
theorem dL_law_1024 : decode cL_law 1024 = .ok (.iconst 0, 1) := by decide +kernel
theorem dL_law_1025 : decode cL_law 1025 = .ok (.ireturn, 1) := by decide +kernel
theorem dL_law_1026 : decode cL_law 1026 = .ok (.aload_n 1, 1) := by decide +kernel
theorem dL_law_1027 : decode cL_law 1027 = .ok (.invokevirtual 133, 3) := by decide +kernel
theorem dL_law_1030 : decode cL_law 1030 = .ok (.aload_n 2, 1) := by decide +kernel
theorem dL_law_1031 : decode cL_law 1031 = .ok (.invokevirtual 137, 3) := by decide +kernel
theorem dL_law_1034 : decode cL_law 1034 = .ok (.lcmp, 1) := by decide +kernel
theorem dL_law_1035 : decode cL_law 1035 = .ok (.ifCond .eq 5, 3) := by decide +kernel
theorem dL_law_1038 : decode cL_law 1038 = .ok (.iconst 0, 1) := by decide +kernel
theorem dL_law_1039 : decode cL_law 1039 = .ok (.ireturn, 1) := by decide +kernel
theorem dL_law_1040 : decode cL_law 1040 = .ok (.iinc 3 5, 3) := by decide +kernel
theorem dL_law_1043 : decode cL_law 1043 = .ok (.goto (-1025), 3) := by decide +kernel
theorem dL_law_1046 : decode cL_law 1046 = .ok (.iconst 1, 1) := by decide +kernel
theorem dL_law_1047 : decode cL_law 1047 = .ok (.ireturn, 1) := by decide +kernel
theorem lw_end {p : Program} {l : Launch} {e : Env} {s : State} {mt : MethodId} {below : List Frame} {meth : Method} {c : Code} {b B pc cells slots : Nat} {H : Heap} {locs : List Loc} {ls : Array Slot} {D : va_G} {cA : Nat → ClassId} (X : Cx p s mt #[Value.ref b] c code 4 RL D cA) (hr : meth.sig.returnType = ret) (hlocks : meth.locks = false) (hBs : B = s.heap.size) (hS : va_S (fun q => B ≤ q) s.heap H locs) (h1 : cells ≤ 600000) (h2 : slots ≤ 7302250) (hdg : decode code pc = .ok (.ireturn, 1)) : W p l e room_1 s mt #[Value.ref b] below meth c H locs cells slots (lw_Z below #[Value.ref b] s) (F0 mt pc ls [.int 1]) := by
  refine va_forget (fun q hq => by rw [← hBs]; exact hS.2.2 q hq) ?_
  refine W.widen (k := 600000) (n := 7302250) h1 h2 ?_
  exact lw_ret X.1 X.2.1 hr hlocks hdg
set_option maxHeartbeats 8000000 in
set_option maxRecDepth 100000 in
theorem law_walk {p : Program} {l : Launch} {e : Env} {s : State} {mt : MethodId} {below : List Frame} {meth : Method} {c : Code} {b B L : Nat} {xs : Nat → Int32} {D : va_G} {cA : Nat → ClassId} {H : Heap} {locs : List Loc} {ls : Array Slot} (X : Cx p s mt #[Value.ref b] c code 4 RL D cA) (hr : meth.sig.returnType = ret) (hlocks : meth.locks = false) (hBs : B = s.heap.size) (hX : va_X b L xs s s.heap) (hbl : b < s.heap.size) (m : Mm) (hf : f_L_law L xs m = some ()) (hR : Rl B D cA m H) (hS : va_S (fun q => B ≤ q) s.heap H locs) (hl : lv_has ls 4 [(0, .ref b)]) : W p l e room_1 s mt #[Value.ref b] below meth c H locs 0 0 (lw_Z below #[Value.ref b] s) (F0 mt 0 ls []) := by
  have hbA : ¬ B ≤ b := by rw [hBs]; exact Nat.not_le.mpr hbl
  have hx := X.1
  have hb := X.2.1
  unfold f_L_law at hf
  obtain ⟨m1, g2, hf⟩ := ob hf
  refine r_newO X (ci := 7) (C := RX7) (T := TX7) (N := 13) (fs := [.null, .null, .int 0, .int 0, .null, .null, .null, .null, .null, .null, .int 0, .int 0, .int 0]) rfl ut_X7 tyX7 tyX7_ok (tb1 12 rfl rfl) (tb1 13 rfl rfl) (tb1 1 rfl rfl) hR hS df_X7 g2 (Nat.le_of_ble_eq_true rfl) (Nat.le_of_ble_eq_true rfl) dL_law_0 (fun H hR hS => ?_)
  refine lv_dup hx hb dL_law_3 rfl ?_
  obtain ⟨m4, g3, hf⟩ := ob hf
  refine r_callI X kw_L_9 (c_X7_init l B D cA m1 (m.length) m4 g3) ⟨Nat.le_of_ble_eq_true rfl, Nat.le_of_ble_eq_true rfl⟩ hR hS hl.1 rfl rfl (Nat.le_of_ble_eq_true rfl) ⟨Nat.le_of_ble_eq_true rfl, Nat.le_of_ble_eq_true rfl⟩ dL_law_4 (fun H locs hR hS => ?_)
  refine W.eq (g2 := F0 mt 7 ls [.ref (B + (m.length))]) rfl ?_
  refine lv_astore_n (lv' := [(1, .ref (B + (m.length))), (0, .ref b)]) hx hb dL_law_7 rfl hl (by decide) rfl (fun ls hl => ?_)
  obtain ⟨m5, g6, hf⟩ := ob hf
  refine r_newO X (ci := 8) (C := RX8) (T := TX8) (N := 34) (fs := [.null, .int 0, .null, .null, .null, .null, .null, .null, .null, .int 0, .null, .null, .null, .null, .null, .null, .null, .null, .null, .null, .null, .null, .int 0, .int 0, .int 0, .int 0, .null, .null, .null, .int 0, .null, .int 0, .null, .int 0]) rfl ut_X8 tyX8 tyX8_ok (tb3 213 rfl rfl) (tb3 214 rfl rfl) (tb1 10 rfl rfl) hR hS df_X8 g6 (Nat.le_of_ble_eq_true rfl) (Nat.le_of_ble_eq_true rfl) dL_law_8 (fun H hR hS => ?_)
  refine lv_dup hx hb dL_law_11 rfl ?_
  obtain ⟨m8, g7, hf⟩ := ob hf
  refine r_callI X kw_L_12 (c_X8_init l B D cA m5 (m4.length) m8 g7) ⟨Nat.le_of_ble_eq_true rfl, Nat.le_of_ble_eq_true rfl⟩ hR hS hl.1 rfl rfl (Nat.le_of_ble_eq_true rfl) ⟨Nat.le_of_ble_eq_true rfl, Nat.le_of_ble_eq_true rfl⟩ dL_law_12 (fun H locs hR hS => ?_)
  refine W.eq (g2 := F0 mt 15 ls [.ref (B + (m4.length))]) rfl ?_
  refine W.widen (k := 402) (n := 7570) (Nat.le_of_ble_eq_true rfl) (Nat.le_of_ble_eq_true rfl) ?_
  refine lv_astore_n (lv' := [(2, .ref (B + (m4.length))), (1, .ref (B + (m.length))), (0, .ref b)]) hx hb dL_law_15 rfl hl (by decide) rfl (fun ls hl => ?_)
  refine lv_iconst (v := 0) hx hb dL_law_16 (by decide) ?_
  refine lv_istore_n (lv' := [(3, .int (0 : Int32)), (2, .ref (B + (m4.length))), (1, .ref (B + (m.length))), (0, .ref b)]) hx hb dL_law_17 rfl hl (by decide) rfl (fun ls hl => ?_)
  obtain ⟨e10, hwe10, hf⟩ := ob hf
  refine whl_rule (P := (fun t9 => ∀ (H : Heap) (locs : List Loc) (ls : Array Slot), Rl B D cA t9.2 H → va_S (fun q => B ≤ q) s.heap H locs → lv_has ls 4 [(0, .ref b), (1, .ref (B + (m.length))), (2, .ref (B + (m4.length))), (3, .int t9.1)] → W p l e room_1 s mt #[Value.ref b] below meth c H locs 402 7570 (lw_Z below #[Value.ref b] s) (F0 mt 18 ls []))) (Qx := (fun e10 => ∀ (H : Heap) (locs : List Loc) (ls : Array Slot), Rl B D cA e10 H → va_S (fun q => B ≤ q) s.heap H locs → lv_has ls 4 [] → W p l e room_1 s mt #[Value.ref b] below meth c H locs 402 7570 (lw_Z below #[Value.ref b] s) (F0 mt 1046 ls []))) ?_ FU _ e10 hwe10 ?_ H locs ls hR hS (lv_sub hl [3, 2, 1, 0] rfl)
  · clear hwe10 hf
    intro t9 q11 hf hxlq11 hxrq11 H locs ls hR hS hl
    obtain ⟨z12, m13⟩ := t9
    have hf : f_L_law_L18 L xs m13 (m.length) (m4.length) z12 = some q11 := hf
    have hR : Rl B D cA m13 H := hR
    have hl : lv_has ls 4 [(0, .ref b), (1, .ref (B + (m.length))), (2, .ref (B + (m4.length))), (3, .int z12)] := hl
    unfold f_L_law_L18 at hf
    refine lv_iload_n hx hb dL_law_18 rfl (lv_at hl 3 rfl) ?_
    refine lv_aload_n hx hb dL_law_19 rfl (lv_at hl 0 rfl) ?_
    refine va_slen hx hb hX hbl hbA hS dL_law_20 ?_
    refine lv_iconst (v := 5) hx hb dL_law_21 (by decide) ?_
    refine lv_isub hx hb dL_law_22 ?_
    refine lv_icmp_gt (tgt := 1046) hx hb dL_law_23 (by decide) (fun c14 => ?_) (fun c14 => ?_)
    · rw [if_pos c14] at hf
      obtain rfl := Option.some.inj hf
      exact hxrq11 _ rfl H locs ls hR hS (lv_sub hl [] rfl)
    · rw [if_neg c14] at hf
      refine lv_aload_n hx hb dL_law_26 rfl (lv_at hl 0 rfl) ?_
      refine lv_iload_n hx hb dL_law_27 rfl (lv_at hl 3 rfl) ?_
      obtain ⟨v15, g16, hf⟩ := ob hf
      refine r_lX X hX hbl hbA hS g16 dL_law_28 ?_
      refine lv_bipush (v := 31) hx hb dL_law_29 (by decide) ?_
      refine lv_iand hx hb dL_law_31 ?_
      by_cases c17 : (v15 &&& (31 : Int32)) = (0 : Int32)
      · rw [if_pos c17] at hf
        refine lv_tableIn (tgt := 160) (off := 128) hx hb dL_law_32 (by rw [c17]; decide) (by rw [c17]; decide) (by rw [c17]; rfl) (by decide) ?_
        refine lv_aload_n hx hb dL_law_160 rfl (lv_at hl 1 rfl) ?_
        refine lv_aload_n hx hb dL_law_161 rfl (lv_at hl 0 rfl) ?_
        refine lv_iload_n hx hb dL_law_162 rfl (lv_at hl 3 rfl) ?_
        refine lv_iconst (v := 1) hx hb dL_law_163 (by decide) ?_
        refine lv_iadd hx hb dL_law_164 ?_
        obtain ⟨v18, g19, hf⟩ := ob hf
        refine r_lX X hX hbl hbA hS g19 dL_law_165 ?_
        refine lv_aload_n hx hb dL_law_166 rfl (lv_at hl 0 rfl) ?_
        refine lv_iload_n hx hb dL_law_167 rfl (lv_at hl 3 rfl) ?_
        refine lv_iconst (v := 2) hx hb dL_law_168 (by decide) ?_
        refine lv_iadd hx hb dL_law_169 ?_
        obtain ⟨v20, g21, hf⟩ := ob hf
        refine r_lX X hX hbl hbA hS g21 dL_law_170 ?_
        refine lv_aload_n hx hb dL_law_171 rfl (lv_at hl 0 rfl) ?_
        refine lv_iload_n hx hb dL_law_172 rfl (lv_at hl 3 rfl) ?_
        refine lv_iconst (v := 3) hx hb dL_law_173 (by decide) ?_
        refine lv_iadd hx hb dL_law_174 ?_
        obtain ⟨v22, g23, hf⟩ := ob hf
        refine r_lX X hX hbl hbA hS g23 dL_law_175 ?_
        refine lv_aload_n hx hb dL_law_176 rfl (lv_at hl 0 rfl) ?_
        refine lv_iload_n hx hb dL_law_177 rfl (lv_at hl 3 rfl) ?_
        refine lv_iconst (v := 4) hx hb dL_law_178 (by decide) ?_
        refine lv_iadd hx hb dL_law_179 ?_
        obtain ⟨v24, g25, hf⟩ := ob hf
        refine r_lX X hX hbl hbA hS g25 dL_law_180 ?_
        obtain ⟨o26, h27, hf⟩ := obO hf
        obtain ⟨t29, g28, hf⟩ := ob hf
        refine r_callV X kw_L_13 (ci := 7) rfl (c_X7_adds l B D cA m13 (m.length) v18 v20 v22 v24 t29.1 t29.2 g28) ⟨Nat.le_of_ble_eq_true rfl, Nat.le_of_ble_eq_true rfl⟩ h27 hR hS hl.1 rfl rfl (Nat.le_of_ble_eq_true rfl) ⟨Nat.le_of_ble_eq_true rfl, Nat.le_of_ble_eq_true rfl⟩ dL_law_181 (fun H locs hR hS => ?_)
        refine W.eq (g2 := F0 mt 184 ls [.int t29.1]) rfl ?_
        refine lv_aload_n hx hb dL_law_184 rfl (lv_at hl 2 rfl) ?_
        refine lv_aload_n hx hb dL_law_185 rfl (lv_at hl 0 rfl) ?_
        refine lv_iload_n hx hb dL_law_186 rfl (lv_at hl 3 rfl) ?_
        refine lv_iconst (v := 1) hx hb dL_law_187 (by decide) ?_
        refine lv_iadd hx hb dL_law_188 ?_
        obtain ⟨v30, g31, hf⟩ := ob hf
        refine r_lX X hX hbl hbA hS g31 dL_law_189 ?_
        refine lv_aload_n hx hb dL_law_190 rfl (lv_at hl 0 rfl) ?_
        refine lv_iload_n hx hb dL_law_191 rfl (lv_at hl 3 rfl) ?_
        refine lv_iconst (v := 2) hx hb dL_law_192 (by decide) ?_
        refine lv_iadd hx hb dL_law_193 ?_
        obtain ⟨v32, g33, hf⟩ := ob hf
        refine r_lX X hX hbl hbA hS g33 dL_law_194 ?_
        refine lv_aload_n hx hb dL_law_195 rfl (lv_at hl 0 rfl) ?_
        refine lv_iload_n hx hb dL_law_196 rfl (lv_at hl 3 rfl) ?_
        refine lv_iconst (v := 3) hx hb dL_law_197 (by decide) ?_
        refine lv_iadd hx hb dL_law_198 ?_
        obtain ⟨v34, g35, hf⟩ := ob hf
        refine r_lX X hX hbl hbA hS g35 dL_law_199 ?_
        refine lv_aload_n hx hb dL_law_200 rfl (lv_at hl 0 rfl) ?_
        refine lv_iload_n hx hb dL_law_201 rfl (lv_at hl 3 rfl) ?_
        refine lv_iconst (v := 4) hx hb dL_law_202 (by decide) ?_
        refine lv_iadd hx hb dL_law_203 ?_
        obtain ⟨v36, g37, hf⟩ := ob hf
        refine r_lX X hX hbl hbA hS g37 dL_law_204 ?_
        obtain ⟨o38, h39, hf⟩ := obO hf
        obtain ⟨t41, g40, hf⟩ := ob hf
        refine r_callV X kw_L_17 (ci := 8) rfl (c_X8_adds l B D cA t29.2 (m4.length) v30 v32 v34 v36 t41.1 t41.2 g40) ⟨Nat.le_of_ble_eq_true rfl, Nat.le_of_ble_eq_true rfl⟩ h39 hR hS hl.1 rfl rfl (Nat.le_of_ble_eq_true rfl) ⟨Nat.le_of_ble_eq_true rfl, Nat.le_of_ble_eq_true rfl⟩ dL_law_205 (fun H locs hR hS => ?_)
        refine W.eq (g2 := F0 mt 208 ls [.int t41.1, .int t29.1]) rfl ?_
        refine lv_icmp_eq (tgt := 1040) hx hb dL_law_208 (by decide) (fun c42 => ?_) (fun c42 => ?_)
        · rw [if_pos c42] at hf
          refine lv_iinc (v := (z12 + 5)) (lv' := [(3, .int (z12 + 5)), (0, .ref b), (1, .ref (B + (m.length))), (2, .ref (B + (m4.length)))]) hx hb dL_law_1040 hl (k := 3) rfl (congrArg (fun z => z12 + z) (by decide)) (by decide) rfl (fun ls hl => ?_)
          refine lv_goto (tgt := 18) hx hb dL_law_1043 (by decide) ?_
          obtain rfl := Option.some.inj hf
          exact hxlq11 _ rfl H locs ls hR hS (lv_sub hl [1, 2, 3, 0] rfl)
        · rw [if_neg c42] at hf
          cases hf
      rw [if_neg c17] at hf
      by_cases c43 : (v15 &&& (31 : Int32)) = (1 : Int32)
      · rw [if_pos c43] at hf
        refine lv_tableIn (tgt := 213) (off := 181) hx hb dL_law_32 (by rw [c43]; decide) (by rw [c43]; decide) (by rw [c43]; rfl) (by decide) ?_
        refine lv_aload_n hx hb dL_law_213 rfl (lv_at hl 1 rfl) ?_
        refine lv_aload_n hx hb dL_law_214 rfl (lv_at hl 0 rfl) ?_
        refine lv_iload_n hx hb dL_law_215 rfl (lv_at hl 3 rfl) ?_
        refine lv_iconst (v := 1) hx hb dL_law_216 (by decide) ?_
        refine lv_iadd hx hb dL_law_217 ?_
        obtain ⟨v44, g45, hf⟩ := ob hf
        refine r_lX X hX hbl hbA hS g45 dL_law_218 ?_
        obtain ⟨o46, h47, hf⟩ := obO hf
        obtain ⟨t49, g48, hf⟩ := ob hf
        refine r_callV X kw_L_18 (ci := 7) rfl (c_X7_drops l B D cA m13 (m.length) v44 t49.1 t49.2 g48) ⟨Nat.le_of_ble_eq_true rfl, Nat.le_of_ble_eq_true rfl⟩ h47 hR hS hl.1 rfl rfl (Nat.le_of_ble_eq_true rfl) ⟨Nat.le_of_ble_eq_true rfl, Nat.le_of_ble_eq_true rfl⟩ dL_law_219 (fun H locs hR hS => ?_)
        refine W.eq (g2 := F0 mt 222 ls [.int t49.1]) rfl ?_
        refine lv_aload_n hx hb dL_law_222 rfl (lv_at hl 2 rfl) ?_
        refine lv_aload_n hx hb dL_law_223 rfl (lv_at hl 0 rfl) ?_
        refine lv_iload_n hx hb dL_law_224 rfl (lv_at hl 3 rfl) ?_
        refine lv_iconst (v := 1) hx hb dL_law_225 (by decide) ?_
        refine lv_iadd hx hb dL_law_226 ?_
        obtain ⟨v50, g51, hf⟩ := ob hf
        refine r_lX X hX hbl hbA hS g51 dL_law_227 ?_
        obtain ⟨o52, h53, hf⟩ := obO hf
        obtain ⟨t55, g54, hf⟩ := ob hf
        refine r_callV X kw_L_22 (ci := 8) rfl (c_X8_drops l B D cA t49.2 (m4.length) v50 t55.1 t55.2 g54) ⟨Nat.le_of_ble_eq_true rfl, Nat.le_of_ble_eq_true rfl⟩ h53 hR hS hl.1 rfl rfl (Nat.le_of_ble_eq_true rfl) ⟨Nat.le_of_ble_eq_true rfl, Nat.le_of_ble_eq_true rfl⟩ dL_law_228 (fun H locs hR hS => ?_)
        refine W.eq (g2 := F0 mt 231 ls [.int t55.1, .int t49.1]) rfl ?_
        refine lv_icmp_eq (tgt := 1040) hx hb dL_law_231 (by decide) (fun c56 => ?_) (fun c56 => ?_)
        · rw [if_pos c56] at hf
          refine lv_iinc (v := (z12 + 5)) (lv' := [(3, .int (z12 + 5)), (0, .ref b), (1, .ref (B + (m.length))), (2, .ref (B + (m4.length)))]) hx hb dL_law_1040 hl (k := 3) rfl (congrArg (fun z => z12 + z) (by decide)) (by decide) rfl (fun ls hl => ?_)
          refine lv_goto (tgt := 18) hx hb dL_law_1043 (by decide) ?_
          obtain rfl := Option.some.inj hf
          exact hxlq11 _ rfl H locs ls hR hS (lv_sub hl [1, 2, 3, 0] rfl)
        · rw [if_neg c56] at hf
          cases hf
      rw [if_neg c43] at hf
      by_cases c57 : (v15 &&& (31 : Int32)) = (2 : Int32)
      · rw [if_pos c57] at hf
        refine lv_tableIn (tgt := 236) (off := 204) hx hb dL_law_32 (by rw [c57]; decide) (by rw [c57]; decide) (by rw [c57]; rfl) (by decide) ?_
        refine lv_aload_n hx hb dL_law_236 rfl (lv_at hl 1 rfl) ?_
        refine lv_aload_n hx hb dL_law_237 rfl (lv_at hl 0 rfl) ?_
        refine lv_iload_n hx hb dL_law_238 rfl (lv_at hl 3 rfl) ?_
        refine lv_iconst (v := 1) hx hb dL_law_239 (by decide) ?_
        refine lv_iadd hx hb dL_law_240 ?_
        obtain ⟨v58, g59, hf⟩ := ob hf
        refine r_lX X hX hbl hbA hS g59 dL_law_241 ?_
        refine lv_aload_n hx hb dL_law_242 rfl (lv_at hl 0 rfl) ?_
        refine lv_iload_n hx hb dL_law_243 rfl (lv_at hl 3 rfl) ?_
        refine lv_iconst (v := 2) hx hb dL_law_244 (by decide) ?_
        refine lv_iadd hx hb dL_law_245 ?_
        obtain ⟨v60, g61, hf⟩ := ob hf
        refine r_lX X hX hbl hbA hS g61 dL_law_246 ?_
        refine lv_aload_n hx hb dL_law_247 rfl (lv_at hl 0 rfl) ?_
        refine lv_iload_n hx hb dL_law_248 rfl (lv_at hl 3 rfl) ?_
        refine lv_iconst (v := 3) hx hb dL_law_249 (by decide) ?_
        refine lv_iadd hx hb dL_law_250 ?_
        obtain ⟨v62, g63, hf⟩ := ob hf
        refine r_lX X hX hbl hbA hS g63 dL_law_251 ?_
        obtain ⟨o64, h65, hf⟩ := obO hf
        obtain ⟨t67, g66, hf⟩ := ob hf
        refine r_callV X kw_L_23 (ci := 7) rfl (c_X7_sets l B D cA m13 (m.length) v58 v60 v62 t67.1 t67.2 g66) ⟨Nat.le_of_ble_eq_true rfl, Nat.le_of_ble_eq_true rfl⟩ h65 hR hS hl.1 rfl rfl (Nat.le_of_ble_eq_true rfl) ⟨Nat.le_of_ble_eq_true rfl, Nat.le_of_ble_eq_true rfl⟩ dL_law_252 (fun H locs hR hS => ?_)
        refine W.eq (g2 := F0 mt 255 ls [.int t67.1]) rfl ?_
        refine lv_aload_n hx hb dL_law_255 rfl (lv_at hl 2 rfl) ?_
        refine lv_aload_n hx hb dL_law_256 rfl (lv_at hl 0 rfl) ?_
        refine lv_iload_n hx hb dL_law_257 rfl (lv_at hl 3 rfl) ?_
        refine lv_iconst (v := 1) hx hb dL_law_258 (by decide) ?_
        refine lv_iadd hx hb dL_law_259 ?_
        obtain ⟨v68, g69, hf⟩ := ob hf
        refine r_lX X hX hbl hbA hS g69 dL_law_260 ?_
        refine lv_aload_n hx hb dL_law_261 rfl (lv_at hl 0 rfl) ?_
        refine lv_iload_n hx hb dL_law_262 rfl (lv_at hl 3 rfl) ?_
        refine lv_iconst (v := 2) hx hb dL_law_263 (by decide) ?_
        refine lv_iadd hx hb dL_law_264 ?_
        obtain ⟨v70, g71, hf⟩ := ob hf
        refine r_lX X hX hbl hbA hS g71 dL_law_265 ?_
        refine lv_aload_n hx hb dL_law_266 rfl (lv_at hl 0 rfl) ?_
        refine lv_iload_n hx hb dL_law_267 rfl (lv_at hl 3 rfl) ?_
        refine lv_iconst (v := 3) hx hb dL_law_268 (by decide) ?_
        refine lv_iadd hx hb dL_law_269 ?_
        obtain ⟨v72, g73, hf⟩ := ob hf
        refine r_lX X hX hbl hbA hS g73 dL_law_270 ?_
        obtain ⟨o74, h75, hf⟩ := obO hf
        obtain ⟨t77, g76, hf⟩ := ob hf
        refine r_callV X kw_L_27 (ci := 8) rfl (c_X8_sets l B D cA t67.2 (m4.length) v68 v70 v72 t77.1 t77.2 g76) ⟨Nat.le_of_ble_eq_true rfl, Nat.le_of_ble_eq_true rfl⟩ h75 hR hS hl.1 rfl rfl (Nat.le_of_ble_eq_true rfl) ⟨Nat.le_of_ble_eq_true rfl, Nat.le_of_ble_eq_true rfl⟩ dL_law_271 (fun H locs hR hS => ?_)
        refine W.eq (g2 := F0 mt 274 ls [.int t77.1, .int t67.1]) rfl ?_
        refine lv_icmp_eq (tgt := 1040) hx hb dL_law_274 (by decide) (fun c78 => ?_) (fun c78 => ?_)
        · rw [if_pos c78] at hf
          refine lv_iinc (v := (z12 + 5)) (lv' := [(3, .int (z12 + 5)), (0, .ref b), (1, .ref (B + (m.length))), (2, .ref (B + (m4.length)))]) hx hb dL_law_1040 hl (k := 3) rfl (congrArg (fun z => z12 + z) (by decide)) (by decide) rfl (fun ls hl => ?_)
          refine lv_goto (tgt := 18) hx hb dL_law_1043 (by decide) ?_
          obtain rfl := Option.some.inj hf
          exact hxlq11 _ rfl H locs ls hR hS (lv_sub hl [1, 2, 3, 0] rfl)
        · rw [if_neg c78] at hf
          cases hf
      rw [if_neg c57] at hf
      by_cases c79 : (v15 &&& (31 : Int32)) = (3 : Int32)
      · rw [if_pos c79] at hf
        refine lv_tableIn (tgt := 279) (off := 247) hx hb dL_law_32 (by rw [c79]; decide) (by rw [c79]; decide) (by rw [c79]; rfl) (by decide) ?_
        refine lv_aload_n hx hb dL_law_279 rfl (lv_at hl 1 rfl) ?_
        refine lv_aload_n hx hb dL_law_280 rfl (lv_at hl 0 rfl) ?_
        refine lv_iload_n hx hb dL_law_281 rfl (lv_at hl 3 rfl) ?_
        refine lv_iconst (v := 1) hx hb dL_law_282 (by decide) ?_
        refine lv_iadd hx hb dL_law_283 ?_
        obtain ⟨v80, g81, hf⟩ := ob hf
        refine r_lX X hX hbl hbA hS g81 dL_law_284 ?_
        refine lv_aload_n hx hb dL_law_285 rfl (lv_at hl 0 rfl) ?_
        refine lv_iload_n hx hb dL_law_286 rfl (lv_at hl 3 rfl) ?_
        refine lv_iconst (v := 2) hx hb dL_law_287 (by decide) ?_
        refine lv_iadd hx hb dL_law_288 ?_
        obtain ⟨v82, g83, hf⟩ := ob hf
        refine r_lX X hX hbl hbA hS g83 dL_law_289 ?_
        refine lv_aload_n hx hb dL_law_290 rfl (lv_at hl 0 rfl) ?_
        refine lv_iload_n hx hb dL_law_291 rfl (lv_at hl 3 rfl) ?_
        refine lv_iconst (v := 3) hx hb dL_law_292 (by decide) ?_
        refine lv_iadd hx hb dL_law_293 ?_
        obtain ⟨v84, g85, hf⟩ := ob hf
        refine r_lX X hX hbl hbA hS g85 dL_law_294 ?_
        obtain ⟨o86, h87, hf⟩ := obO hf
        obtain ⟨t89, g88, hf⟩ := ob hf
        refine r_callV X kw_L_28 (ci := 7) rfl (c_X7_moves l B D cA m13 (m.length) v80 v82 v84 t89.1 t89.2 g88) ⟨Nat.le_of_ble_eq_true rfl, Nat.le_of_ble_eq_true rfl⟩ h87 hR hS hl.1 rfl rfl (Nat.le_of_ble_eq_true rfl) ⟨Nat.le_of_ble_eq_true rfl, Nat.le_of_ble_eq_true rfl⟩ dL_law_295 (fun H locs hR hS => ?_)
        refine W.eq (g2 := F0 mt 298 ls [.int t89.1]) rfl ?_
        refine lv_aload_n hx hb dL_law_298 rfl (lv_at hl 2 rfl) ?_
        refine lv_aload_n hx hb dL_law_299 rfl (lv_at hl 0 rfl) ?_
        refine lv_iload_n hx hb dL_law_300 rfl (lv_at hl 3 rfl) ?_
        refine lv_iconst (v := 1) hx hb dL_law_301 (by decide) ?_
        refine lv_iadd hx hb dL_law_302 ?_
        obtain ⟨v90, g91, hf⟩ := ob hf
        refine r_lX X hX hbl hbA hS g91 dL_law_303 ?_
        refine lv_aload_n hx hb dL_law_304 rfl (lv_at hl 0 rfl) ?_
        refine lv_iload_n hx hb dL_law_305 rfl (lv_at hl 3 rfl) ?_
        refine lv_iconst (v := 2) hx hb dL_law_306 (by decide) ?_
        refine lv_iadd hx hb dL_law_307 ?_
        obtain ⟨v92, g93, hf⟩ := ob hf
        refine r_lX X hX hbl hbA hS g93 dL_law_308 ?_
        refine lv_aload_n hx hb dL_law_309 rfl (lv_at hl 0 rfl) ?_
        refine lv_iload_n hx hb dL_law_310 rfl (lv_at hl 3 rfl) ?_
        refine lv_iconst (v := 3) hx hb dL_law_311 (by decide) ?_
        refine lv_iadd hx hb dL_law_312 ?_
        obtain ⟨v94, g95, hf⟩ := ob hf
        refine r_lX X hX hbl hbA hS g95 dL_law_313 ?_
        obtain ⟨o96, h97, hf⟩ := obO hf
        obtain ⟨t99, g98, hf⟩ := ob hf
        refine r_callV X kw_L_31 (ci := 8) rfl (c_X8_moves l B D cA t89.2 (m4.length) v90 v92 v94 t99.1 t99.2 g98) ⟨Nat.le_of_ble_eq_true rfl, Nat.le_of_ble_eq_true rfl⟩ h97 hR hS hl.1 rfl rfl (Nat.le_of_ble_eq_true rfl) ⟨Nat.le_of_ble_eq_true rfl, Nat.le_of_ble_eq_true rfl⟩ dL_law_314 (fun H locs hR hS => ?_)
        refine W.eq (g2 := F0 mt 317 ls [.int t99.1, .int t89.1]) rfl ?_
        refine lv_icmp_eq (tgt := 1040) hx hb dL_law_317 (by decide) (fun c100 => ?_) (fun c100 => ?_)
        · rw [if_pos c100] at hf
          refine lv_iinc (v := (z12 + 5)) (lv' := [(3, .int (z12 + 5)), (0, .ref b), (1, .ref (B + (m.length))), (2, .ref (B + (m4.length)))]) hx hb dL_law_1040 hl (k := 3) rfl (congrArg (fun z => z12 + z) (by decide)) (by decide) rfl (fun ls hl => ?_)
          refine lv_goto (tgt := 18) hx hb dL_law_1043 (by decide) ?_
          obtain rfl := Option.some.inj hf
          exact hxlq11 _ rfl H locs ls hR hS (lv_sub hl [1, 2, 3, 0] rfl)
        · rw [if_neg c100] at hf
          cases hf
      rw [if_neg c79] at hf
      by_cases c101 : (v15 &&& (31 : Int32)) = (4 : Int32)
      · rw [if_pos c101] at hf
        refine lv_tableIn (tgt := 322) (off := 290) hx hb dL_law_32 (by rw [c101]; decide) (by rw [c101]; decide) (by rw [c101]; rfl) (by decide) ?_
        refine lv_aload_n hx hb dL_law_322 rfl (lv_at hl 1 rfl) ?_
        refine lv_aload_n hx hb dL_law_323 rfl (lv_at hl 0 rfl) ?_
        refine lv_iload_n hx hb dL_law_324 rfl (lv_at hl 3 rfl) ?_
        refine lv_iconst (v := 1) hx hb dL_law_325 (by decide) ?_
        refine lv_iadd hx hb dL_law_326 ?_
        obtain ⟨v102, g103, hf⟩ := ob hf
        refine r_lX X hX hbl hbA hS g103 dL_law_327 ?_
        refine lv_aload_n hx hb dL_law_328 rfl (lv_at hl 0 rfl) ?_
        refine lv_iload_n hx hb dL_law_329 rfl (lv_at hl 3 rfl) ?_
        refine lv_iconst (v := 2) hx hb dL_law_330 (by decide) ?_
        refine lv_iadd hx hb dL_law_331 ?_
        obtain ⟨v104, g105, hf⟩ := ob hf
        refine r_lX X hX hbl hbA hS g105 dL_law_332 ?_
        obtain ⟨o106, h107, hf⟩ := obO hf
        obtain ⟨t109, g108, hf⟩ := ob hf
        refine r_callV X kw_L_32 (ci := 7) rfl (c_X7_element l B D cA m13 (m.length) v102 v104 t109.1 t109.2 g108) ⟨Nat.le_of_ble_eq_true rfl, Nat.le_of_ble_eq_true rfl⟩ h107 hR hS hl.1 rfl rfl (Nat.le_of_ble_eq_true rfl) ⟨Nat.le_of_ble_eq_true rfl, Nat.le_of_ble_eq_true rfl⟩ dL_law_333 (fun H locs hR hS => ?_)
        refine W.eq (g2 := F0 mt 336 ls [.int t109.1]) rfl ?_
        refine lv_aload_n hx hb dL_law_336 rfl (lv_at hl 2 rfl) ?_
        refine lv_aload_n hx hb dL_law_337 rfl (lv_at hl 0 rfl) ?_
        refine lv_iload_n hx hb dL_law_338 rfl (lv_at hl 3 rfl) ?_
        refine lv_iconst (v := 1) hx hb dL_law_339 (by decide) ?_
        refine lv_iadd hx hb dL_law_340 ?_
        obtain ⟨v110, g111, hf⟩ := ob hf
        refine r_lX X hX hbl hbA hS g111 dL_law_341 ?_
        refine lv_aload_n hx hb dL_law_342 rfl (lv_at hl 0 rfl) ?_
        refine lv_iload_n hx hb dL_law_343 rfl (lv_at hl 3 rfl) ?_
        refine lv_iconst (v := 2) hx hb dL_law_344 (by decide) ?_
        refine lv_iadd hx hb dL_law_345 ?_
        obtain ⟨v112, g113, hf⟩ := ob hf
        refine r_lX X hX hbl hbA hS g113 dL_law_346 ?_
        obtain ⟨o114, h115, hf⟩ := obO hf
        obtain ⟨t117, g116, hf⟩ := ob hf
        refine r_callV X kw_L_36 (ci := 8) rfl (c_X8_element l B D cA t109.2 (m4.length) v110 v112 t117.1 t117.2 g116) ⟨Nat.le_of_ble_eq_true rfl, Nat.le_of_ble_eq_true rfl⟩ h115 hR hS hl.1 rfl rfl (Nat.le_of_ble_eq_true rfl) ⟨Nat.le_of_ble_eq_true rfl, Nat.le_of_ble_eq_true rfl⟩ dL_law_347 (fun H locs hR hS => ?_)
        refine W.eq (g2 := F0 mt 350 ls [.int t117.1, .int t109.1]) rfl ?_
        refine lv_icmp_eq (tgt := 1040) hx hb dL_law_350 (by decide) (fun c118 => ?_) (fun c118 => ?_)
        · rw [if_pos c118] at hf
          refine lv_iinc (v := (z12 + 5)) (lv' := [(3, .int (z12 + 5)), (0, .ref b), (1, .ref (B + (m.length))), (2, .ref (B + (m4.length)))]) hx hb dL_law_1040 hl (k := 3) rfl (congrArg (fun z => z12 + z) (by decide)) (by decide) rfl (fun ls hl => ?_)
          refine lv_goto (tgt := 18) hx hb dL_law_1043 (by decide) ?_
          obtain rfl := Option.some.inj hf
          exact hxlq11 _ rfl H locs ls hR hS (lv_sub hl [1, 2, 3, 0] rfl)
        · rw [if_neg c118] at hf
          cases hf
      rw [if_neg c101] at hf
      by_cases c119 : (v15 &&& (31 : Int32)) = (5 : Int32)
      · rw [if_pos c119] at hf
        refine lv_tableIn (tgt := 355) (off := 323) hx hb dL_law_32 (by rw [c119]; decide) (by rw [c119]; decide) (by rw [c119]; rfl) (by decide) ?_
        refine lv_aload_n hx hb dL_law_355 rfl (lv_at hl 1 rfl) ?_
        obtain ⟨o120, h121, hf⟩ := obO hf
        obtain ⟨v123, g122, hf⟩ := ob hf
        refine r_callV X kw_L_37 (ci := 7) rfl (c_X7_size l B D cA m13 (m.length) v123 g122) ⟨Nat.le_of_ble_eq_true rfl, Nat.le_of_ble_eq_true rfl⟩ h121 hR hS hl.1 rfl rfl (Nat.le_of_ble_eq_true rfl) ⟨Nat.le_of_ble_eq_true rfl, Nat.le_of_ble_eq_true rfl⟩ dL_law_356 (fun H locs hR hS => ?_)
        refine W.eq (g2 := F0 mt 359 ls [.int v123]) rfl ?_
        refine lv_aload_n hx hb dL_law_359 rfl (lv_at hl 2 rfl) ?_
        obtain ⟨o124, h125, hf⟩ := obO hf
        obtain ⟨v127, g126, hf⟩ := ob hf
        refine r_callV X kw_L_41 (ci := 8) rfl (c_X8_size l B D cA m13 (m4.length) v127 g126) ⟨Nat.le_of_ble_eq_true rfl, Nat.le_of_ble_eq_true rfl⟩ h125 hR hS hl.1 rfl rfl (Nat.le_of_ble_eq_true rfl) ⟨Nat.le_of_ble_eq_true rfl, Nat.le_of_ble_eq_true rfl⟩ dL_law_360 (fun H locs hR hS => ?_)
        refine W.eq (g2 := F0 mt 363 ls [.int v127, .int v123]) rfl ?_
        refine lv_icmp_eq (tgt := 1040) hx hb dL_law_363 (by decide) (fun c128 => ?_) (fun c128 => ?_)
        · rw [if_pos c128] at hf
          refine lv_iinc (v := (z12 + 5)) (lv' := [(3, .int (z12 + 5)), (0, .ref b), (1, .ref (B + (m.length))), (2, .ref (B + (m4.length)))]) hx hb dL_law_1040 hl (k := 3) rfl (congrArg (fun z => z12 + z) (by decide)) (by decide) rfl (fun ls hl => ?_)
          refine lv_goto (tgt := 18) hx hb dL_law_1043 (by decide) ?_
          obtain rfl := Option.some.inj hf
          exact hxlq11 _ rfl H locs ls hR hS (lv_sub hl [1, 2, 3, 0] rfl)
        · rw [if_neg c128] at hf
          cases hf
      rw [if_neg c119] at hf
      by_cases c129 : (v15 &&& (31 : Int32)) = (6 : Int32)
      · rw [if_pos c129] at hf
        refine lv_tableIn (tgt := 368) (off := 336) hx hb dL_law_32 (by rw [c129]; decide) (by rw [c129]; decide) (by rw [c129]; rfl) (by decide) ?_
        refine lv_aload_n hx hb dL_law_368 rfl (lv_at hl 1 rfl) ?_
        refine lv_aload_n hx hb dL_law_369 rfl (lv_at hl 0 rfl) ?_
        refine lv_iload_n hx hb dL_law_370 rfl (lv_at hl 3 rfl) ?_
        refine lv_iconst (v := 1) hx hb dL_law_371 (by decide) ?_
        refine lv_iadd hx hb dL_law_372 ?_
        obtain ⟨v130, g131, hf⟩ := ob hf
        refine r_lX X hX hbl hbA hS g131 dL_law_373 ?_
        refine lv_aload_n hx hb dL_law_374 rfl (lv_at hl 0 rfl) ?_
        refine lv_iload_n hx hb dL_law_375 rfl (lv_at hl 3 rfl) ?_
        refine lv_iconst (v := 2) hx hb dL_law_376 (by decide) ?_
        refine lv_iadd hx hb dL_law_377 ?_
        obtain ⟨v132, g133, hf⟩ := ob hf
        refine r_lX X hX hbl hbA hS g133 dL_law_378 ?_
        refine lv_aload_n hx hb dL_law_379 rfl (lv_at hl 0 rfl) ?_
        refine lv_iload_n hx hb dL_law_380 rfl (lv_at hl 3 rfl) ?_
        refine lv_iconst (v := 3) hx hb dL_law_381 (by decide) ?_
        refine lv_iadd hx hb dL_law_382 ?_
        obtain ⟨v134, g135, hf⟩ := ob hf
        refine r_lX X hX hbl hbA hS g135 dL_law_383 ?_
        obtain ⟨o136, h137, hf⟩ := obO hf
        obtain ⟨t139, g138, hf⟩ := ob hf
        refine r_callV X kw_L_42 (ci := 7) rfl (c_X7_node l B D cA m13 (m.length) v130 v132 v134 t139.1 t139.2 g138) ⟨Nat.le_of_ble_eq_true rfl, Nat.le_of_ble_eq_true rfl⟩ h137 hR hS hl.1 rfl rfl (Nat.le_of_ble_eq_true rfl) ⟨Nat.le_of_ble_eq_true rfl, Nat.le_of_ble_eq_true rfl⟩ dL_law_384 (fun H locs hR hS => ?_)
        refine W.eq (g2 := F0 mt 387 ls [.int t139.1]) rfl ?_
        refine lv_aload_n hx hb dL_law_387 rfl (lv_at hl 2 rfl) ?_
        refine lv_aload_n hx hb dL_law_388 rfl (lv_at hl 0 rfl) ?_
        refine lv_iload_n hx hb dL_law_389 rfl (lv_at hl 3 rfl) ?_
        refine lv_iconst (v := 1) hx hb dL_law_390 (by decide) ?_
        refine lv_iadd hx hb dL_law_391 ?_
        obtain ⟨v140, g141, hf⟩ := ob hf
        refine r_lX X hX hbl hbA hS g141 dL_law_392 ?_
        refine lv_aload_n hx hb dL_law_393 rfl (lv_at hl 0 rfl) ?_
        refine lv_iload_n hx hb dL_law_394 rfl (lv_at hl 3 rfl) ?_
        refine lv_iconst (v := 2) hx hb dL_law_395 (by decide) ?_
        refine lv_iadd hx hb dL_law_396 ?_
        obtain ⟨v142, g143, hf⟩ := ob hf
        refine r_lX X hX hbl hbA hS g143 dL_law_397 ?_
        refine lv_aload_n hx hb dL_law_398 rfl (lv_at hl 0 rfl) ?_
        refine lv_iload_n hx hb dL_law_399 rfl (lv_at hl 3 rfl) ?_
        refine lv_iconst (v := 3) hx hb dL_law_400 (by decide) ?_
        refine lv_iadd hx hb dL_law_401 ?_
        obtain ⟨v144, g145, hf⟩ := ob hf
        refine r_lX X hX hbl hbA hS g145 dL_law_402 ?_
        obtain ⟨o146, h147, hf⟩ := obO hf
        obtain ⟨t149, g148, hf⟩ := ob hf
        refine r_callV X kw_L_45 (ci := 8) rfl (c_X8_node l B D cA t139.2 (m4.length) v140 v142 v144 t149.1 t149.2 g148) ⟨Nat.le_of_ble_eq_true rfl, Nat.le_of_ble_eq_true rfl⟩ h147 hR hS hl.1 rfl rfl (Nat.le_of_ble_eq_true rfl) ⟨Nat.le_of_ble_eq_true rfl, Nat.le_of_ble_eq_true rfl⟩ dL_law_403 (fun H locs hR hS => ?_)
        refine W.eq (g2 := F0 mt 406 ls [.int t149.1, .int t139.1]) rfl ?_
        refine lv_icmp_eq (tgt := 1040) hx hb dL_law_406 (by decide) (fun c150 => ?_) (fun c150 => ?_)
        · rw [if_pos c150] at hf
          refine lv_iinc (v := (z12 + 5)) (lv' := [(3, .int (z12 + 5)), (0, .ref b), (1, .ref (B + (m.length))), (2, .ref (B + (m4.length)))]) hx hb dL_law_1040 hl (k := 3) rfl (congrArg (fun z => z12 + z) (by decide)) (by decide) rfl (fun ls hl => ?_)
          refine lv_goto (tgt := 18) hx hb dL_law_1043 (by decide) ?_
          obtain rfl := Option.some.inj hf
          exact hxlq11 _ rfl H locs ls hR hS (lv_sub hl [1, 2, 3, 0] rfl)
        · rw [if_neg c150] at hf
          cases hf
      rw [if_neg c129] at hf
      by_cases c151 : (v15 &&& (31 : Int32)) = (7 : Int32)
      · rw [if_pos c151] at hf
        refine lv_tableIn (tgt := 411) (off := 379) hx hb dL_law_32 (by rw [c151]; decide) (by rw [c151]; decide) (by rw [c151]; rfl) (by decide) ?_
        refine lv_aload_n hx hb dL_law_411 rfl (lv_at hl 1 rfl) ?_
        refine lv_aload_n hx hb dL_law_412 rfl (lv_at hl 0 rfl) ?_
        refine lv_iload_n hx hb dL_law_413 rfl (lv_at hl 3 rfl) ?_
        refine lv_iconst (v := 1) hx hb dL_law_414 (by decide) ?_
        refine lv_iadd hx hb dL_law_415 ?_
        obtain ⟨v152, g153, hf⟩ := ob hf
        refine r_lX X hX hbl hbA hS g153 dL_law_416 ?_
        obtain ⟨o154, h155, hf⟩ := obO hf
        obtain ⟨t157, g156, hf⟩ := ob hf
        refine r_callV X kw_L_46 (ci := 7) rfl (c_X7_forgets l B D cA m13 (m.length) v152 t157.1 t157.2 g156) ⟨Nat.le_of_ble_eq_true rfl, Nat.le_of_ble_eq_true rfl⟩ h155 hR hS hl.1 rfl rfl (Nat.le_of_ble_eq_true rfl) ⟨Nat.le_of_ble_eq_true rfl, Nat.le_of_ble_eq_true rfl⟩ dL_law_417 (fun H locs hR hS => ?_)
        refine W.eq (g2 := F0 mt 420 ls [.int t157.1]) rfl ?_
        refine lv_aload_n hx hb dL_law_420 rfl (lv_at hl 2 rfl) ?_
        refine lv_aload_n hx hb dL_law_421 rfl (lv_at hl 0 rfl) ?_
        refine lv_iload_n hx hb dL_law_422 rfl (lv_at hl 3 rfl) ?_
        refine lv_iconst (v := 1) hx hb dL_law_423 (by decide) ?_
        refine lv_iadd hx hb dL_law_424 ?_
        obtain ⟨v158, g159, hf⟩ := ob hf
        refine r_lX X hX hbl hbA hS g159 dL_law_425 ?_
        obtain ⟨o160, h161, hf⟩ := obO hf
        obtain ⟨t163, g162, hf⟩ := ob hf
        refine r_callV X kw_L_49 (ci := 8) rfl (c_X8_forgets l B D cA t157.2 (m4.length) v158 t163.1 t163.2 g162) ⟨Nat.le_of_ble_eq_true rfl, Nat.le_of_ble_eq_true rfl⟩ h161 hR hS hl.1 rfl rfl (Nat.le_of_ble_eq_true rfl) ⟨Nat.le_of_ble_eq_true rfl, Nat.le_of_ble_eq_true rfl⟩ dL_law_426 (fun H locs hR hS => ?_)
        refine W.eq (g2 := F0 mt 429 ls [.int t163.1, .int t157.1]) rfl ?_
        refine lv_icmp_eq (tgt := 1040) hx hb dL_law_429 (by decide) (fun c164 => ?_) (fun c164 => ?_)
        · rw [if_pos c164] at hf
          refine lv_iinc (v := (z12 + 5)) (lv' := [(3, .int (z12 + 5)), (0, .ref b), (1, .ref (B + (m.length))), (2, .ref (B + (m4.length)))]) hx hb dL_law_1040 hl (k := 3) rfl (congrArg (fun z => z12 + z) (by decide)) (by decide) rfl (fun ls hl => ?_)
          refine lv_goto (tgt := 18) hx hb dL_law_1043 (by decide) ?_
          obtain rfl := Option.some.inj hf
          exact hxlq11 _ rfl H locs ls hR hS (lv_sub hl [1, 2, 3, 0] rfl)
        · rw [if_neg c164] at hf
          cases hf
      rw [if_neg c151] at hf
      by_cases c165 : (v15 &&& (31 : Int32)) = (8 : Int32)
      · rw [if_pos c165] at hf
        refine lv_tableIn (tgt := 434) (off := 402) hx hb dL_law_32 (by rw [c165]; decide) (by rw [c165]; decide) (by rw [c165]; rfl) (by decide) ?_
        refine lv_aload_n hx hb dL_law_434 rfl (lv_at hl 1 rfl) ?_
        refine lv_aload_n hx hb dL_law_435 rfl (lv_at hl 0 rfl) ?_
        refine lv_iload_n hx hb dL_law_436 rfl (lv_at hl 3 rfl) ?_
        refine lv_iconst (v := 1) hx hb dL_law_437 (by decide) ?_
        refine lv_iadd hx hb dL_law_438 ?_
        obtain ⟨v166, g167, hf⟩ := ob hf
        refine r_lX X hX hbl hbA hS g167 dL_law_439 ?_
        obtain ⟨o168, h169, hf⟩ := obO hf
        obtain ⟨t171, g170, hf⟩ := ob hf
        refine r_callV X kw_L_50 (ci := 7) rfl (c_X7_nodes l B D cA m13 (m.length) v166 t171.1 t171.2 g170) ⟨Nat.le_of_ble_eq_true rfl, Nat.le_of_ble_eq_true rfl⟩ h169 hR hS hl.1 rfl rfl (Nat.le_of_ble_eq_true rfl) ⟨Nat.le_of_ble_eq_true rfl, Nat.le_of_ble_eq_true rfl⟩ dL_law_440 (fun H locs hR hS => ?_)
        refine W.eq (g2 := F0 mt 443 ls [.int t171.1]) rfl ?_
        refine lv_aload_n hx hb dL_law_443 rfl (lv_at hl 2 rfl) ?_
        refine lv_aload_n hx hb dL_law_444 rfl (lv_at hl 0 rfl) ?_
        refine lv_iload_n hx hb dL_law_445 rfl (lv_at hl 3 rfl) ?_
        refine lv_iconst (v := 1) hx hb dL_law_446 (by decide) ?_
        refine lv_iadd hx hb dL_law_447 ?_
        obtain ⟨v172, g173, hf⟩ := ob hf
        refine r_lX X hX hbl hbA hS g173 dL_law_448 ?_
        obtain ⟨o174, h175, hf⟩ := obO hf
        obtain ⟨t177, g176, hf⟩ := ob hf
        refine r_callV X kw_L_53 (ci := 8) rfl (c_X8_nodes l B D cA t171.2 (m4.length) v172 t177.1 t177.2 g176) ⟨Nat.le_of_ble_eq_true rfl, Nat.le_of_ble_eq_true rfl⟩ h175 hR hS hl.1 rfl rfl (Nat.le_of_ble_eq_true rfl) ⟨Nat.le_of_ble_eq_true rfl, Nat.le_of_ble_eq_true rfl⟩ dL_law_449 (fun H locs hR hS => ?_)
        refine W.eq (g2 := F0 mt 452 ls [.int t177.1, .int t171.1]) rfl ?_
        refine lv_icmp_eq (tgt := 1040) hx hb dL_law_452 (by decide) (fun c178 => ?_) (fun c178 => ?_)
        · rw [if_pos c178] at hf
          refine lv_iinc (v := (z12 + 5)) (lv' := [(3, .int (z12 + 5)), (0, .ref b), (1, .ref (B + (m.length))), (2, .ref (B + (m4.length)))]) hx hb dL_law_1040 hl (k := 3) rfl (congrArg (fun z => z12 + z) (by decide)) (by decide) rfl (fun ls hl => ?_)
          refine lv_goto (tgt := 18) hx hb dL_law_1043 (by decide) ?_
          obtain rfl := Option.some.inj hf
          exact hxlq11 _ rfl H locs ls hR hS (lv_sub hl [1, 2, 3, 0] rfl)
        · rw [if_neg c178] at hf
          cases hf
      rw [if_neg c165] at hf
      by_cases c179 : (v15 &&& (31 : Int32)) = (9 : Int32)
      · rw [if_pos c179] at hf
        refine lv_tableIn (tgt := 457) (off := 425) hx hb dL_law_32 (by rw [c179]; decide) (by rw [c179]; decide) (by rw [c179]; rfl) (by decide) ?_
        refine lv_aload_n hx hb dL_law_457 rfl (lv_at hl 1 rfl) ?_
        refine lv_aload_n hx hb dL_law_458 rfl (lv_at hl 0 rfl) ?_
        refine lv_iload_n hx hb dL_law_459 rfl (lv_at hl 3 rfl) ?_
        refine lv_iconst (v := 1) hx hb dL_law_460 (by decide) ?_
        refine lv_iadd hx hb dL_law_461 ?_
        obtain ⟨v180, g181, hf⟩ := ob hf
        refine r_lX X hX hbl hbA hS g181 dL_law_462 ?_
        refine lv_aload_n hx hb dL_law_463 rfl (lv_at hl 0 rfl) ?_
        refine lv_iload_n hx hb dL_law_464 rfl (lv_at hl 3 rfl) ?_
        refine lv_iconst (v := 2) hx hb dL_law_465 (by decide) ?_
        refine lv_iadd hx hb dL_law_466 ?_
        obtain ⟨v182, g183, hf⟩ := ob hf
        refine r_lX X hX hbl hbA hS g183 dL_law_467 ?_
        obtain ⟨o184, h185, hf⟩ := obO hf
        obtain ⟨t187, g186, hf⟩ := ob hf
        refine r_callV X kw_L_54 (ci := 7) rfl (c_X7_folds l B D cA m13 (m.length) v180 v182 t187.1 t187.2 g186) ⟨Nat.le_of_ble_eq_true rfl, Nat.le_of_ble_eq_true rfl⟩ h185 hR hS hl.1 rfl rfl (Nat.le_of_ble_eq_true rfl) ⟨Nat.le_of_ble_eq_true rfl, Nat.le_of_ble_eq_true rfl⟩ dL_law_468 (fun H locs hR hS => ?_)
        refine W.eq (g2 := F0 mt 471 ls [.int t187.1]) rfl ?_
        refine lv_aload_n hx hb dL_law_471 rfl (lv_at hl 2 rfl) ?_
        refine lv_aload_n hx hb dL_law_472 rfl (lv_at hl 0 rfl) ?_
        refine lv_iload_n hx hb dL_law_473 rfl (lv_at hl 3 rfl) ?_
        refine lv_iconst (v := 1) hx hb dL_law_474 (by decide) ?_
        refine lv_iadd hx hb dL_law_475 ?_
        obtain ⟨v188, g189, hf⟩ := ob hf
        refine r_lX X hX hbl hbA hS g189 dL_law_476 ?_
        refine lv_aload_n hx hb dL_law_477 rfl (lv_at hl 0 rfl) ?_
        refine lv_iload_n hx hb dL_law_478 rfl (lv_at hl 3 rfl) ?_
        refine lv_iconst (v := 2) hx hb dL_law_479 (by decide) ?_
        refine lv_iadd hx hb dL_law_480 ?_
        obtain ⟨v190, g191, hf⟩ := ob hf
        refine r_lX X hX hbl hbA hS g191 dL_law_481 ?_
        obtain ⟨o192, h193, hf⟩ := obO hf
        obtain ⟨t195, g194, hf⟩ := ob hf
        refine r_callV X kw_L_57 (ci := 8) rfl (c_X8_folds l B D cA t187.2 (m4.length) v188 v190 t195.1 t195.2 g194) ⟨Nat.le_of_ble_eq_true rfl, Nat.le_of_ble_eq_true rfl⟩ h193 hR hS hl.1 rfl rfl (Nat.le_of_ble_eq_true rfl) ⟨Nat.le_of_ble_eq_true rfl, Nat.le_of_ble_eq_true rfl⟩ dL_law_482 (fun H locs hR hS => ?_)
        refine W.eq (g2 := F0 mt 485 ls [.int t195.1, .int t187.1]) rfl ?_
        refine lv_icmp_eq (tgt := 1040) hx hb dL_law_485 (by decide) (fun c196 => ?_) (fun c196 => ?_)
        · rw [if_pos c196] at hf
          refine lv_iinc (v := (z12 + 5)) (lv' := [(3, .int (z12 + 5)), (0, .ref b), (1, .ref (B + (m.length))), (2, .ref (B + (m4.length)))]) hx hb dL_law_1040 hl (k := 3) rfl (congrArg (fun z => z12 + z) (by decide)) (by decide) rfl (fun ls hl => ?_)
          refine lv_goto (tgt := 18) hx hb dL_law_1043 (by decide) ?_
          obtain rfl := Option.some.inj hf
          exact hxlq11 _ rfl H locs ls hR hS (lv_sub hl [1, 2, 3, 0] rfl)
        · rw [if_neg c196] at hf
          cases hf
      rw [if_neg c179] at hf
      by_cases c197 : (v15 &&& (31 : Int32)) = (10 : Int32)
      · rw [if_pos c197] at hf
        refine lv_tableIn (tgt := 490) (off := 458) hx hb dL_law_32 (by rw [c197]; decide) (by rw [c197]; decide) (by rw [c197]; rfl) (by decide) ?_
        refine lv_aload_n hx hb dL_law_490 rfl (lv_at hl 1 rfl) ?_
        refine lv_aload_n hx hb dL_law_491 rfl (lv_at hl 0 rfl) ?_
        refine lv_iload_n hx hb dL_law_492 rfl (lv_at hl 3 rfl) ?_
        refine lv_iconst (v := 1) hx hb dL_law_493 (by decide) ?_
        refine lv_iadd hx hb dL_law_494 ?_
        obtain ⟨v198, g199, hf⟩ := ob hf
        refine r_lX X hX hbl hbA hS g199 dL_law_495 ?_
        refine lv_aload_n hx hb dL_law_496 rfl (lv_at hl 0 rfl) ?_
        refine lv_iload_n hx hb dL_law_497 rfl (lv_at hl 3 rfl) ?_
        refine lv_iconst (v := 2) hx hb dL_law_498 (by decide) ?_
        refine lv_iadd hx hb dL_law_499 ?_
        obtain ⟨v200, g201, hf⟩ := ob hf
        refine r_lX X hX hbl hbA hS g201 dL_law_500 ?_
        obtain ⟨o202, h203, hf⟩ := obO hf
        obtain ⟨t205, g204, hf⟩ := ob hf
        refine r_callV X kw_L_58 (ci := 7) rfl (c_X7_spare l B D cA m13 (m.length) v198 v200 t205.1 t205.2 g204) ⟨Nat.le_of_ble_eq_true rfl, Nat.le_of_ble_eq_true rfl⟩ h203 hR hS hl.1 rfl rfl (Nat.le_of_ble_eq_true rfl) ⟨Nat.le_of_ble_eq_true rfl, Nat.le_of_ble_eq_true rfl⟩ dL_law_501 (fun H locs hR hS => ?_)
        refine W.eq (g2 := F0 mt 504 ls [.int t205.1]) rfl ?_
        refine lv_aload_n hx hb dL_law_504 rfl (lv_at hl 2 rfl) ?_
        refine lv_aload_n hx hb dL_law_505 rfl (lv_at hl 0 rfl) ?_
        refine lv_iload_n hx hb dL_law_506 rfl (lv_at hl 3 rfl) ?_
        refine lv_iconst (v := 1) hx hb dL_law_507 (by decide) ?_
        refine lv_iadd hx hb dL_law_508 ?_
        obtain ⟨v206, g207, hf⟩ := ob hf
        refine r_lX X hX hbl hbA hS g207 dL_law_509 ?_
        refine lv_aload_n hx hb dL_law_510 rfl (lv_at hl 0 rfl) ?_
        refine lv_iload_n hx hb dL_law_511 rfl (lv_at hl 3 rfl) ?_
        refine lv_iconst (v := 2) hx hb dL_law_512 (by decide) ?_
        refine lv_iadd hx hb dL_law_513 ?_
        obtain ⟨v208, g209, hf⟩ := ob hf
        refine r_lX X hX hbl hbA hS g209 dL_law_514 ?_
        obtain ⟨o210, h211, hf⟩ := obO hf
        obtain ⟨t213, g212, hf⟩ := ob hf
        refine r_callV X kw_L_61 (ci := 8) rfl (c_X8_spare l B D cA t205.2 (m4.length) v206 v208 t213.1 t213.2 g212) ⟨Nat.le_of_ble_eq_true rfl, Nat.le_of_ble_eq_true rfl⟩ h211 hR hS hl.1 rfl rfl (Nat.le_of_ble_eq_true rfl) ⟨Nat.le_of_ble_eq_true rfl, Nat.le_of_ble_eq_true rfl⟩ dL_law_515 (fun H locs hR hS => ?_)
        refine W.eq (g2 := F0 mt 518 ls [.int t213.1, .int t205.1]) rfl ?_
        refine lv_icmp_eq (tgt := 1040) hx hb dL_law_518 (by decide) (fun c214 => ?_) (fun c214 => ?_)
        · rw [if_pos c214] at hf
          refine lv_iinc (v := (z12 + 5)) (lv' := [(3, .int (z12 + 5)), (0, .ref b), (1, .ref (B + (m.length))), (2, .ref (B + (m4.length)))]) hx hb dL_law_1040 hl (k := 3) rfl (congrArg (fun z => z12 + z) (by decide)) (by decide) rfl (fun ls hl => ?_)
          refine lv_goto (tgt := 18) hx hb dL_law_1043 (by decide) ?_
          obtain rfl := Option.some.inj hf
          exact hxlq11 _ rfl H locs ls hR hS (lv_sub hl [1, 2, 3, 0] rfl)
        · rw [if_neg c214] at hf
          cases hf
      rw [if_neg c197] at hf
      by_cases c215 : (v15 &&& (31 : Int32)) = (11 : Int32)
      · rw [if_pos c215] at hf
        refine lv_tableIn (tgt := 523) (off := 491) hx hb dL_law_32 (by rw [c215]; decide) (by rw [c215]; decide) (by rw [c215]; rfl) (by decide) ?_
        refine lv_aload_n hx hb dL_law_523 rfl (lv_at hl 1 rfl) ?_
        refine lv_aload_n hx hb dL_law_524 rfl (lv_at hl 0 rfl) ?_
        refine lv_iload_n hx hb dL_law_525 rfl (lv_at hl 3 rfl) ?_
        refine lv_iconst (v := 1) hx hb dL_law_526 (by decide) ?_
        refine lv_iadd hx hb dL_law_527 ?_
        obtain ⟨v216, g217, hf⟩ := ob hf
        refine r_lX X hX hbl hbA hS g217 dL_law_528 ?_
        obtain ⟨o218, h219, hf⟩ := obO hf
        obtain ⟨t221, g220, hf⟩ := ob hf
        refine r_callV X kw_L_62 (ci := 7) rfl (c_X7_matches l B D cA m13 (m.length) v216 t221.1 t221.2 g220) ⟨Nat.le_of_ble_eq_true rfl, Nat.le_of_ble_eq_true rfl⟩ h219 hR hS hl.1 rfl rfl (Nat.le_of_ble_eq_true rfl) ⟨Nat.le_of_ble_eq_true rfl, Nat.le_of_ble_eq_true rfl⟩ dL_law_529 (fun H locs hR hS => ?_)
        refine W.eq (g2 := F0 mt 532 ls [.long t221.1]) rfl ?_
        refine lv_aload_n hx hb dL_law_532 rfl (lv_at hl 2 rfl) ?_
        refine lv_aload_n hx hb dL_law_533 rfl (lv_at hl 0 rfl) ?_
        refine lv_iload_n hx hb dL_law_534 rfl (lv_at hl 3 rfl) ?_
        refine lv_iconst (v := 1) hx hb dL_law_535 (by decide) ?_
        refine lv_iadd hx hb dL_law_536 ?_
        obtain ⟨v222, g223, hf⟩ := ob hf
        refine r_lX X hX hbl hbA hS g223 dL_law_537 ?_
        obtain ⟨o224, h225, hf⟩ := obO hf
        obtain ⟨t227, g226, hf⟩ := ob hf
        refine r_callV X kw_L_66 (ci := 8) rfl (c_X8_matches l B D cA t221.2 (m4.length) v222 t227.1 t227.2 g226) ⟨Nat.le_of_ble_eq_true rfl, Nat.le_of_ble_eq_true rfl⟩ h225 hR hS hl.1 rfl rfl (Nat.le_of_ble_eq_true rfl) ⟨Nat.le_of_ble_eq_true rfl, Nat.le_of_ble_eq_true rfl⟩ dL_law_538 (fun H locs hR hS => ?_)
        refine W.eq (g2 := F0 mt 541 ls [.long t227.1, .long t221.1]) rfl ?_
        refine r_lc_eq (tgt := 1040) X dL_law_541 dL_law_542 (by decide) (fun c228 => ?_) (fun c228 => ?_)
        · rw [if_pos c228] at hf
          refine lv_iinc (v := (z12 + 5)) (lv' := [(3, .int (z12 + 5)), (0, .ref b), (1, .ref (B + (m.length))), (2, .ref (B + (m4.length)))]) hx hb dL_law_1040 hl (k := 3) rfl (congrArg (fun z => z12 + z) (by decide)) (by decide) rfl (fun ls hl => ?_)
          refine lv_goto (tgt := 18) hx hb dL_law_1043 (by decide) ?_
          obtain rfl := Option.some.inj hf
          exact hxlq11 _ rfl H locs ls hR hS (lv_sub hl [1, 2, 3, 0] rfl)
        · rw [if_neg c228] at hf
          cases hf
      rw [if_neg c215] at hf
      by_cases c229 : (v15 &&& (31 : Int32)) = (12 : Int32)
      · rw [if_pos c229] at hf
        refine lv_tableIn (tgt := 547) (off := 515) hx hb dL_law_32 (by rw [c229]; decide) (by rw [c229]; decide) (by rw [c229]; rfl) (by decide) ?_
        refine lv_aload_n hx hb dL_law_547 rfl (lv_at hl 1 rfl) ?_
        refine lv_aload_n hx hb dL_law_548 rfl (lv_at hl 0 rfl) ?_
        refine lv_iload_n hx hb dL_law_549 rfl (lv_at hl 3 rfl) ?_
        refine lv_iconst (v := 1) hx hb dL_law_550 (by decide) ?_
        refine lv_iadd hx hb dL_law_551 ?_
        obtain ⟨v230, g231, hf⟩ := ob hf
        refine r_lX X hX hbl hbA hS g231 dL_law_552 ?_
        refine lv_aload_n hx hb dL_law_553 rfl (lv_at hl 0 rfl) ?_
        refine lv_iload_n hx hb dL_law_554 rfl (lv_at hl 3 rfl) ?_
        refine lv_iconst (v := 2) hx hb dL_law_555 (by decide) ?_
        refine lv_iadd hx hb dL_law_556 ?_
        obtain ⟨v232, g233, hf⟩ := ob hf
        refine r_lX X hX hbl hbA hS g233 dL_law_557 ?_
        refine lv_i2l (v := v232.toInt64) hx hb dL_law_558 rfl ?_
        refine lv_bipush (v := 32) hx hb dL_law_559 (by decide) ?_
        refine lv_lshl (v := (lshlJ (v232.toInt64) (32 : Int32))) hx hb dL_law_561 rfl ?_
        refine lv_aload_n hx hb dL_law_562 rfl (lv_at hl 0 rfl) ?_
        refine lv_iload_n hx hb dL_law_563 rfl (lv_at hl 3 rfl) ?_
        refine lv_iconst (v := 3) hx hb dL_law_564 (by decide) ?_
        refine lv_iadd hx hb dL_law_565 ?_
        obtain ⟨v234, g235, hf⟩ := ob hf
        refine r_lX X hX hbl hbA hS g235 dL_law_566 ?_
        refine lv_i2l (v := v234.toInt64) hx hb dL_law_567 rfl ?_
        refine lv_ldc2 (v := 4294967295) hx hb X.2.2.2.1 (X.2.2.2.2.1 _ (tb5 147 rfl rfl)) dL_law_568 ?_
        refine lv_land hx hb dL_law_571 ?_
        refine lv_lor hx hb dL_law_572 ?_
        refine lv_aload_n hx hb dL_law_573 rfl (lv_at hl 0 rfl) ?_
        refine lv_iload_n hx hb dL_law_574 rfl (lv_at hl 3 rfl) ?_
        refine lv_iconst (v := 4) hx hb dL_law_575 (by decide) ?_
        refine lv_iadd hx hb dL_law_576 ?_
        obtain ⟨v236, g237, hf⟩ := ob hf
        refine r_lX X hX hbl hbA hS g237 dL_law_577 ?_
        obtain ⟨o238, h239, hf⟩ := obO hf
        obtain ⟨t241, g240, hf⟩ := ob hf
        refine r_callV X kw_L_69 (ci := 7) rfl (c_X7_match l B D cA m13 (m.length) v230 ((lshlJ (v232.toInt64) (32 : Int32)) ||| ((v234.toInt64) &&& (4294967295 : Int64))) v236 t241.1 t241.2 g240) ⟨Nat.le_of_ble_eq_true rfl, Nat.le_of_ble_eq_true rfl⟩ h239 hR hS hl.1 rfl rfl (Nat.le_of_ble_eq_true rfl) ⟨Nat.le_of_ble_eq_true rfl, Nat.le_of_ble_eq_true rfl⟩ dL_law_578 (fun H locs hR hS => ?_)
        refine W.eq (g2 := F0 mt 581 ls [.int t241.1]) rfl ?_
        refine lv_aload_n hx hb dL_law_581 rfl (lv_at hl 2 rfl) ?_
        refine lv_aload_n hx hb dL_law_582 rfl (lv_at hl 0 rfl) ?_
        refine lv_iload_n hx hb dL_law_583 rfl (lv_at hl 3 rfl) ?_
        refine lv_iconst (v := 1) hx hb dL_law_584 (by decide) ?_
        refine lv_iadd hx hb dL_law_585 ?_
        obtain ⟨v242, g243, hf⟩ := ob hf
        refine r_lX X hX hbl hbA hS g243 dL_law_586 ?_
        refine lv_aload_n hx hb dL_law_587 rfl (lv_at hl 0 rfl) ?_
        refine lv_iload_n hx hb dL_law_588 rfl (lv_at hl 3 rfl) ?_
        refine lv_iconst (v := 2) hx hb dL_law_589 (by decide) ?_
        refine lv_iadd hx hb dL_law_590 ?_
        obtain ⟨v244, g245, hf⟩ := ob hf
        refine r_lX X hX hbl hbA hS g245 dL_law_591 ?_
        refine lv_i2l (v := v244.toInt64) hx hb dL_law_592 rfl ?_
        refine lv_bipush (v := 32) hx hb dL_law_593 (by decide) ?_
        refine lv_lshl (v := (lshlJ (v244.toInt64) (32 : Int32))) hx hb dL_law_595 rfl ?_
        refine lv_aload_n hx hb dL_law_596 rfl (lv_at hl 0 rfl) ?_
        refine lv_iload_n hx hb dL_law_597 rfl (lv_at hl 3 rfl) ?_
        refine lv_iconst (v := 3) hx hb dL_law_598 (by decide) ?_
        refine lv_iadd hx hb dL_law_599 ?_
        obtain ⟨v246, g247, hf⟩ := ob hf
        refine r_lX X hX hbl hbA hS g247 dL_law_600 ?_
        refine lv_i2l (v := v246.toInt64) hx hb dL_law_601 rfl ?_
        refine lv_ldc2 (v := 4294967295) hx hb X.2.2.2.1 (X.2.2.2.2.1 _ (tb5 147 rfl rfl)) dL_law_602 ?_
        refine lv_land hx hb dL_law_605 ?_
        refine lv_lor hx hb dL_law_606 ?_
        refine lv_aload_n hx hb dL_law_607 rfl (lv_at hl 0 rfl) ?_
        refine lv_iload_n hx hb dL_law_608 rfl (lv_at hl 3 rfl) ?_
        refine lv_iconst (v := 4) hx hb dL_law_609 (by decide) ?_
        refine lv_iadd hx hb dL_law_610 ?_
        obtain ⟨v248, g249, hf⟩ := ob hf
        refine r_lX X hX hbl hbA hS g249 dL_law_611 ?_
        obtain ⟨o250, h251, hf⟩ := obO hf
        obtain ⟨t253, g252, hf⟩ := ob hf
        refine r_callV X kw_L_73 (ci := 8) rfl (c_X8_match l B D cA t241.2 (m4.length) v242 ((lshlJ (v244.toInt64) (32 : Int32)) ||| ((v246.toInt64) &&& (4294967295 : Int64))) v248 t253.1 t253.2 g252) ⟨Nat.le_of_ble_eq_true rfl, Nat.le_of_ble_eq_true rfl⟩ h251 hR hS hl.1 rfl rfl (Nat.le_of_ble_eq_true rfl) ⟨Nat.le_of_ble_eq_true rfl, Nat.le_of_ble_eq_true rfl⟩ dL_law_612 (fun H locs hR hS => ?_)
        refine W.eq (g2 := F0 mt 615 ls [.int t253.1, .int t241.1]) rfl ?_
        refine lv_icmp_eq (tgt := 1040) hx hb dL_law_615 (by decide) (fun c254 => ?_) (fun c254 => ?_)
        · rw [if_pos c254] at hf
          refine lv_iinc (v := (z12 + 5)) (lv' := [(3, .int (z12 + 5)), (0, .ref b), (1, .ref (B + (m.length))), (2, .ref (B + (m4.length)))]) hx hb dL_law_1040 hl (k := 3) rfl (congrArg (fun z => z12 + z) (by decide)) (by decide) rfl (fun ls hl => ?_)
          refine lv_goto (tgt := 18) hx hb dL_law_1043 (by decide) ?_
          obtain rfl := Option.some.inj hf
          exact hxlq11 _ rfl H locs ls hR hS (lv_sub hl [1, 2, 3, 0] rfl)
        · rw [if_neg c254] at hf
          cases hf
      rw [if_neg c229] at hf
      by_cases c255 : (v15 &&& (31 : Int32)) = (13 : Int32)
      · rw [if_pos c255] at hf
        refine lv_tableIn (tgt := 620) (off := 588) hx hb dL_law_32 (by rw [c255]; decide) (by rw [c255]; decide) (by rw [c255]; rfl) (by decide) ?_
        refine lv_aload_n hx hb dL_law_620 rfl (lv_at hl 1 rfl) ?_
        refine lv_aload_n hx hb dL_law_621 rfl (lv_at hl 0 rfl) ?_
        refine lv_iload_n hx hb dL_law_622 rfl (lv_at hl 3 rfl) ?_
        refine lv_iconst (v := 1) hx hb dL_law_623 (by decide) ?_
        refine lv_iadd hx hb dL_law_624 ?_
        obtain ⟨v256, g257, hf⟩ := ob hf
        refine r_lX X hX hbl hbA hS g257 dL_law_625 ?_
        refine lv_aload_n hx hb dL_law_626 rfl (lv_at hl 0 rfl) ?_
        refine lv_iload_n hx hb dL_law_627 rfl (lv_at hl 3 rfl) ?_
        refine lv_iconst (v := 2) hx hb dL_law_628 (by decide) ?_
        refine lv_iadd hx hb dL_law_629 ?_
        obtain ⟨v258, g259, hf⟩ := ob hf
        refine r_lX X hX hbl hbA hS g259 dL_law_630 ?_
        refine lv_i2l (v := v258.toInt64) hx hb dL_law_631 rfl ?_
        refine lv_bipush (v := 32) hx hb dL_law_632 (by decide) ?_
        refine lv_lshl (v := (lshlJ (v258.toInt64) (32 : Int32))) hx hb dL_law_634 rfl ?_
        refine lv_aload_n hx hb dL_law_635 rfl (lv_at hl 0 rfl) ?_
        refine lv_iload_n hx hb dL_law_636 rfl (lv_at hl 3 rfl) ?_
        refine lv_iconst (v := 3) hx hb dL_law_637 (by decide) ?_
        refine lv_iadd hx hb dL_law_638 ?_
        obtain ⟨v260, g261, hf⟩ := ob hf
        refine r_lX X hX hbl hbA hS g261 dL_law_639 ?_
        refine lv_i2l (v := v260.toInt64) hx hb dL_law_640 rfl ?_
        refine lv_ldc2 (v := 4294967295) hx hb X.2.2.2.1 (X.2.2.2.2.1 _ (tb5 147 rfl rfl)) dL_law_641 ?_
        refine lv_land hx hb dL_law_644 ?_
        refine lv_lor hx hb dL_law_645 ?_
        obtain ⟨o262, h263, hf⟩ := obO hf
        obtain ⟨t265, g264, hf⟩ := ob hf
        refine r_callV X kw_L_74 (ci := 7) rfl (c_X7_place l B D cA m13 (m.length) v256 ((lshlJ (v258.toInt64) (32 : Int32)) ||| ((v260.toInt64) &&& (4294967295 : Int64))) t265.1 t265.2 g264) ⟨Nat.le_of_ble_eq_true rfl, Nat.le_of_ble_eq_true rfl⟩ h263 hR hS hl.1 rfl rfl (Nat.le_of_ble_eq_true rfl) ⟨Nat.le_of_ble_eq_true rfl, Nat.le_of_ble_eq_true rfl⟩ dL_law_646 (fun H locs hR hS => ?_)
        refine W.eq (g2 := F0 mt 649 ls [.long t265.1]) rfl ?_
        refine lv_aload_n hx hb dL_law_649 rfl (lv_at hl 2 rfl) ?_
        refine lv_aload_n hx hb dL_law_650 rfl (lv_at hl 0 rfl) ?_
        refine lv_iload_n hx hb dL_law_651 rfl (lv_at hl 3 rfl) ?_
        refine lv_iconst (v := 1) hx hb dL_law_652 (by decide) ?_
        refine lv_iadd hx hb dL_law_653 ?_
        obtain ⟨v266, g267, hf⟩ := ob hf
        refine r_lX X hX hbl hbA hS g267 dL_law_654 ?_
        refine lv_aload_n hx hb dL_law_655 rfl (lv_at hl 0 rfl) ?_
        refine lv_iload_n hx hb dL_law_656 rfl (lv_at hl 3 rfl) ?_
        refine lv_iconst (v := 2) hx hb dL_law_657 (by decide) ?_
        refine lv_iadd hx hb dL_law_658 ?_
        obtain ⟨v268, g269, hf⟩ := ob hf
        refine r_lX X hX hbl hbA hS g269 dL_law_659 ?_
        refine lv_i2l (v := v268.toInt64) hx hb dL_law_660 rfl ?_
        refine lv_bipush (v := 32) hx hb dL_law_661 (by decide) ?_
        refine lv_lshl (v := (lshlJ (v268.toInt64) (32 : Int32))) hx hb dL_law_663 rfl ?_
        refine lv_aload_n hx hb dL_law_664 rfl (lv_at hl 0 rfl) ?_
        refine lv_iload_n hx hb dL_law_665 rfl (lv_at hl 3 rfl) ?_
        refine lv_iconst (v := 3) hx hb dL_law_666 (by decide) ?_
        refine lv_iadd hx hb dL_law_667 ?_
        obtain ⟨v270, g271, hf⟩ := ob hf
        refine r_lX X hX hbl hbA hS g271 dL_law_668 ?_
        refine lv_i2l (v := v270.toInt64) hx hb dL_law_669 rfl ?_
        refine lv_ldc2 (v := 4294967295) hx hb X.2.2.2.1 (X.2.2.2.2.1 _ (tb5 147 rfl rfl)) dL_law_670 ?_
        refine lv_land hx hb dL_law_673 ?_
        refine lv_lor hx hb dL_law_674 ?_
        obtain ⟨o272, h273, hf⟩ := obO hf
        obtain ⟨t275, g274, hf⟩ := ob hf
        refine r_callV X kw_L_78 (ci := 8) rfl (c_X8_place l B D cA t265.2 (m4.length) v266 ((lshlJ (v268.toInt64) (32 : Int32)) ||| ((v270.toInt64) &&& (4294967295 : Int64))) t275.1 t275.2 g274) ⟨Nat.le_of_ble_eq_true rfl, Nat.le_of_ble_eq_true rfl⟩ h273 hR hS hl.1 rfl rfl (Nat.le_of_ble_eq_true rfl) ⟨Nat.le_of_ble_eq_true rfl, Nat.le_of_ble_eq_true rfl⟩ dL_law_675 (fun H locs hR hS => ?_)
        refine W.eq (g2 := F0 mt 678 ls [.long t275.1, .long t265.1]) rfl ?_
        refine r_lc_eq (tgt := 1040) X dL_law_678 dL_law_679 (by decide) (fun c276 => ?_) (fun c276 => ?_)
        · rw [if_pos c276] at hf
          refine lv_iinc (v := (z12 + 5)) (lv' := [(3, .int (z12 + 5)), (0, .ref b), (1, .ref (B + (m.length))), (2, .ref (B + (m4.length)))]) hx hb dL_law_1040 hl (k := 3) rfl (congrArg (fun z => z12 + z) (by decide)) (by decide) rfl (fun ls hl => ?_)
          refine lv_goto (tgt := 18) hx hb dL_law_1043 (by decide) ?_
          obtain rfl := Option.some.inj hf
          exact hxlq11 _ rfl H locs ls hR hS (lv_sub hl [1, 2, 3, 0] rfl)
        · rw [if_neg c276] at hf
          cases hf
      rw [if_neg c255] at hf
      by_cases c277 : (v15 &&& (31 : Int32)) = (14 : Int32)
      · rw [if_pos c277] at hf
        refine lv_tableIn (tgt := 684) (off := 652) hx hb dL_law_32 (by rw [c277]; decide) (by rw [c277]; decide) (by rw [c277]; rfl) (by decide) ?_
        refine lv_aload_n hx hb dL_law_684 rfl (lv_at hl 1 rfl) ?_
        refine lv_aload_n hx hb dL_law_685 rfl (lv_at hl 0 rfl) ?_
        refine lv_iload_n hx hb dL_law_686 rfl (lv_at hl 3 rfl) ?_
        refine lv_iconst (v := 1) hx hb dL_law_687 (by decide) ?_
        refine lv_iadd hx hb dL_law_688 ?_
        obtain ⟨v278, g279, hf⟩ := ob hf
        refine r_lX X hX hbl hbA hS g279 dL_law_689 ?_
        refine lv_aload_n hx hb dL_law_690 rfl (lv_at hl 0 rfl) ?_
        refine lv_iload_n hx hb dL_law_691 rfl (lv_at hl 3 rfl) ?_
        refine lv_iconst (v := 2) hx hb dL_law_692 (by decide) ?_
        refine lv_iadd hx hb dL_law_693 ?_
        obtain ⟨v280, g281, hf⟩ := ob hf
        refine r_lX X hX hbl hbA hS g281 dL_law_694 ?_
        obtain ⟨o282, h283, hf⟩ := obO hf
        obtain ⟨t285, g284, hf⟩ := ob hf
        refine r_callV X kw_L_79 (ci := 7) rfl (c_X7_fits l B D cA m13 (m.length) v278 v280 t285.1 t285.2 g284) ⟨Nat.le_of_ble_eq_true rfl, Nat.le_of_ble_eq_true rfl⟩ h283 hR hS hl.1 rfl rfl (Nat.le_of_ble_eq_true rfl) ⟨Nat.le_of_ble_eq_true rfl, Nat.le_of_ble_eq_true rfl⟩ dL_law_695 (fun H locs hR hS => ?_)
        refine W.eq (g2 := F0 mt 698 ls [.int t285.1]) rfl ?_
        refine lv_aload_n hx hb dL_law_698 rfl (lv_at hl 2 rfl) ?_
        refine lv_aload_n hx hb dL_law_699 rfl (lv_at hl 0 rfl) ?_
        refine lv_iload_n hx hb dL_law_700 rfl (lv_at hl 3 rfl) ?_
        refine lv_iconst (v := 1) hx hb dL_law_701 (by decide) ?_
        refine lv_iadd hx hb dL_law_702 ?_
        obtain ⟨v286, g287, hf⟩ := ob hf
        refine r_lX X hX hbl hbA hS g287 dL_law_703 ?_
        refine lv_aload_n hx hb dL_law_704 rfl (lv_at hl 0 rfl) ?_
        refine lv_iload_n hx hb dL_law_705 rfl (lv_at hl 3 rfl) ?_
        refine lv_iconst (v := 2) hx hb dL_law_706 (by decide) ?_
        refine lv_iadd hx hb dL_law_707 ?_
        obtain ⟨v288, g289, hf⟩ := ob hf
        refine r_lX X hX hbl hbA hS g289 dL_law_708 ?_
        obtain ⟨o290, h291, hf⟩ := obO hf
        obtain ⟨t293, g292, hf⟩ := ob hf
        refine r_callV X kw_L_82 (ci := 8) rfl (c_X8_fits l B D cA t285.2 (m4.length) v286 v288 t293.1 t293.2 g292) ⟨Nat.le_of_ble_eq_true rfl, Nat.le_of_ble_eq_true rfl⟩ h291 hR hS hl.1 rfl rfl (Nat.le_of_ble_eq_true rfl) ⟨Nat.le_of_ble_eq_true rfl, Nat.le_of_ble_eq_true rfl⟩ dL_law_709 (fun H locs hR hS => ?_)
        refine W.eq (g2 := F0 mt 712 ls [.int t293.1, .int t285.1]) rfl ?_
        refine lv_icmp_eq (tgt := 1040) hx hb dL_law_712 (by decide) (fun c294 => ?_) (fun c294 => ?_)
        · rw [if_pos c294] at hf
          refine lv_iinc (v := (z12 + 5)) (lv' := [(3, .int (z12 + 5)), (0, .ref b), (1, .ref (B + (m.length))), (2, .ref (B + (m4.length)))]) hx hb dL_law_1040 hl (k := 3) rfl (congrArg (fun z => z12 + z) (by decide)) (by decide) rfl (fun ls hl => ?_)
          refine lv_goto (tgt := 18) hx hb dL_law_1043 (by decide) ?_
          obtain rfl := Option.some.inj hf
          exact hxlq11 _ rfl H locs ls hR hS (lv_sub hl [1, 2, 3, 0] rfl)
        · rw [if_neg c294] at hf
          cases hf
      rw [if_neg c277] at hf
      by_cases c295 : (v15 &&& (31 : Int32)) = (15 : Int32)
      · rw [if_pos c295] at hf
        refine lv_tableIn (tgt := 717) (off := 685) hx hb dL_law_32 (by rw [c295]; decide) (by rw [c295]; decide) (by rw [c295]; rfl) (by decide) ?_
        refine lv_aload_n hx hb dL_law_717 rfl (lv_at hl 1 rfl) ?_
        refine lv_aload_n hx hb dL_law_718 rfl (lv_at hl 0 rfl) ?_
        refine lv_iload_n hx hb dL_law_719 rfl (lv_at hl 3 rfl) ?_
        refine lv_iconst (v := 1) hx hb dL_law_720 (by decide) ?_
        refine lv_iadd hx hb dL_law_721 ?_
        obtain ⟨v296, g297, hf⟩ := ob hf
        refine r_lX X hX hbl hbA hS g297 dL_law_722 ?_
        refine lv_aload_n hx hb dL_law_723 rfl (lv_at hl 0 rfl) ?_
        refine lv_iload_n hx hb dL_law_724 rfl (lv_at hl 3 rfl) ?_
        refine lv_iconst (v := 2) hx hb dL_law_725 (by decide) ?_
        refine lv_iadd hx hb dL_law_726 ?_
        obtain ⟨v298, g299, hf⟩ := ob hf
        refine r_lX X hX hbl hbA hS g299 dL_law_727 ?_
        obtain ⟨o300, h301, hf⟩ := obO hf
        obtain ⟨t303, g302, hf⟩ := ob hf
        refine r_callV X kw_L_83 (ci := 7) rfl (c_X7_found l B D cA m13 (m.length) v296 v298 t303.1 t303.2 g302) ⟨Nat.le_of_ble_eq_true rfl, Nat.le_of_ble_eq_true rfl⟩ h301 hR hS hl.1 rfl rfl (Nat.le_of_ble_eq_true rfl) ⟨Nat.le_of_ble_eq_true rfl, Nat.le_of_ble_eq_true rfl⟩ dL_law_728 (fun H locs hR hS => ?_)
        refine W.eq (g2 := F0 mt 731 ls [.int t303.1]) rfl ?_
        refine lv_aload_n hx hb dL_law_731 rfl (lv_at hl 2 rfl) ?_
        refine lv_aload_n hx hb dL_law_732 rfl (lv_at hl 0 rfl) ?_
        refine lv_iload_n hx hb dL_law_733 rfl (lv_at hl 3 rfl) ?_
        refine lv_iconst (v := 1) hx hb dL_law_734 (by decide) ?_
        refine lv_iadd hx hb dL_law_735 ?_
        obtain ⟨v304, g305, hf⟩ := ob hf
        refine r_lX X hX hbl hbA hS g305 dL_law_736 ?_
        refine lv_aload_n hx hb dL_law_737 rfl (lv_at hl 0 rfl) ?_
        refine lv_iload_n hx hb dL_law_738 rfl (lv_at hl 3 rfl) ?_
        refine lv_iconst (v := 2) hx hb dL_law_739 (by decide) ?_
        refine lv_iadd hx hb dL_law_740 ?_
        obtain ⟨v306, g307, hf⟩ := ob hf
        refine r_lX X hX hbl hbA hS g307 dL_law_741 ?_
        obtain ⟨o308, h309, hf⟩ := obO hf
        obtain ⟨t311, g310, hf⟩ := ob hf
        refine r_callV X kw_L_86 (ci := 8) rfl (c_X8_found l B D cA t303.2 (m4.length) v304 v306 t311.1 t311.2 g310) ⟨Nat.le_of_ble_eq_true rfl, Nat.le_of_ble_eq_true rfl⟩ h309 hR hS hl.1 rfl rfl (Nat.le_of_ble_eq_true rfl) ⟨Nat.le_of_ble_eq_true rfl, Nat.le_of_ble_eq_true rfl⟩ dL_law_742 (fun H locs hR hS => ?_)
        refine W.eq (g2 := F0 mt 745 ls [.int t311.1, .int t303.1]) rfl ?_
        refine lv_icmp_eq (tgt := 1040) hx hb dL_law_745 (by decide) (fun c312 => ?_) (fun c312 => ?_)
        · rw [if_pos c312] at hf
          refine lv_iinc (v := (z12 + 5)) (lv' := [(3, .int (z12 + 5)), (0, .ref b), (1, .ref (B + (m.length))), (2, .ref (B + (m4.length)))]) hx hb dL_law_1040 hl (k := 3) rfl (congrArg (fun z => z12 + z) (by decide)) (by decide) rfl (fun ls hl => ?_)
          refine lv_goto (tgt := 18) hx hb dL_law_1043 (by decide) ?_
          obtain rfl := Option.some.inj hf
          exact hxlq11 _ rfl H locs ls hR hS (lv_sub hl [1, 2, 3, 0] rfl)
        · rw [if_neg c312] at hf
          cases hf
      rw [if_neg c295] at hf
      by_cases c313 : (v15 &&& (31 : Int32)) = (16 : Int32)
      · rw [if_pos c313] at hf
        refine lv_tableIn (tgt := 750) (off := 718) hx hb dL_law_32 (by rw [c313]; decide) (by rw [c313]; decide) (by rw [c313]; rfl) (by decide) ?_
        refine lv_aload_n hx hb dL_law_750 rfl (lv_at hl 1 rfl) ?_
        refine lv_aload_n hx hb dL_law_751 rfl (lv_at hl 0 rfl) ?_
        refine lv_iload_n hx hb dL_law_752 rfl (lv_at hl 3 rfl) ?_
        refine lv_iconst (v := 1) hx hb dL_law_753 (by decide) ?_
        refine lv_iadd hx hb dL_law_754 ?_
        obtain ⟨v314, g315, hf⟩ := ob hf
        refine r_lX X hX hbl hbA hS g315 dL_law_755 ?_
        refine lv_aload_n hx hb dL_law_756 rfl (lv_at hl 0 rfl) ?_
        refine lv_iload_n hx hb dL_law_757 rfl (lv_at hl 3 rfl) ?_
        refine lv_iconst (v := 2) hx hb dL_law_758 (by decide) ?_
        refine lv_iadd hx hb dL_law_759 ?_
        obtain ⟨v316, g317, hf⟩ := ob hf
        refine r_lX X hX hbl hbA hS g317 dL_law_760 ?_
        refine lv_aload_n hx hb dL_law_761 rfl (lv_at hl 0 rfl) ?_
        refine lv_iload_n hx hb dL_law_762 rfl (lv_at hl 3 rfl) ?_
        refine lv_iconst (v := 3) hx hb dL_law_763 (by decide) ?_
        refine lv_iadd hx hb dL_law_764 ?_
        obtain ⟨v318, g319, hf⟩ := ob hf
        refine r_lX X hX hbl hbA hS g319 dL_law_765 ?_
        obtain ⟨o320, h321, hf⟩ := obO hf
        obtain ⟨t323, g322, hf⟩ := ob hf
        refine r_callV X kw_L_87 (ci := 7) rfl (c_X7_part l B D cA m13 (m.length) v314 v316 v318 t323.1 t323.2 g322) ⟨Nat.le_of_ble_eq_true rfl, Nat.le_of_ble_eq_true rfl⟩ h321 hR hS hl.1 rfl rfl (Nat.le_of_ble_eq_true rfl) ⟨Nat.le_of_ble_eq_true rfl, Nat.le_of_ble_eq_true rfl⟩ dL_law_766 (fun H locs hR hS => ?_)
        refine W.eq (g2 := F0 mt 769 ls [.long t323.1]) rfl ?_
        refine lv_aload_n hx hb dL_law_769 rfl (lv_at hl 2 rfl) ?_
        refine lv_aload_n hx hb dL_law_770 rfl (lv_at hl 0 rfl) ?_
        refine lv_iload_n hx hb dL_law_771 rfl (lv_at hl 3 rfl) ?_
        refine lv_iconst (v := 1) hx hb dL_law_772 (by decide) ?_
        refine lv_iadd hx hb dL_law_773 ?_
        obtain ⟨v324, g325, hf⟩ := ob hf
        refine r_lX X hX hbl hbA hS g325 dL_law_774 ?_
        refine lv_aload_n hx hb dL_law_775 rfl (lv_at hl 0 rfl) ?_
        refine lv_iload_n hx hb dL_law_776 rfl (lv_at hl 3 rfl) ?_
        refine lv_iconst (v := 2) hx hb dL_law_777 (by decide) ?_
        refine lv_iadd hx hb dL_law_778 ?_
        obtain ⟨v326, g327, hf⟩ := ob hf
        refine r_lX X hX hbl hbA hS g327 dL_law_779 ?_
        refine lv_aload_n hx hb dL_law_780 rfl (lv_at hl 0 rfl) ?_
        refine lv_iload_n hx hb dL_law_781 rfl (lv_at hl 3 rfl) ?_
        refine lv_iconst (v := 3) hx hb dL_law_782 (by decide) ?_
        refine lv_iadd hx hb dL_law_783 ?_
        obtain ⟨v328, g329, hf⟩ := ob hf
        refine r_lX X hX hbl hbA hS g329 dL_law_784 ?_
        obtain ⟨o330, h331, hf⟩ := obO hf
        obtain ⟨t333, g332, hf⟩ := ob hf
        refine r_callV X kw_L_91 (ci := 8) rfl (c_X8_part l B D cA t323.2 (m4.length) v324 v326 v328 t333.1 t333.2 g332) ⟨Nat.le_of_ble_eq_true rfl, Nat.le_of_ble_eq_true rfl⟩ h331 hR hS hl.1 rfl rfl (Nat.le_of_ble_eq_true rfl) ⟨Nat.le_of_ble_eq_true rfl, Nat.le_of_ble_eq_true rfl⟩ dL_law_785 (fun H locs hR hS => ?_)
        refine W.eq (g2 := F0 mt 788 ls [.long t333.1, .long t323.1]) rfl ?_
        refine r_lc_eq (tgt := 1040) X dL_law_788 dL_law_789 (by decide) (fun c334 => ?_) (fun c334 => ?_)
        · rw [if_pos c334] at hf
          refine lv_iinc (v := (z12 + 5)) (lv' := [(3, .int (z12 + 5)), (0, .ref b), (1, .ref (B + (m.length))), (2, .ref (B + (m4.length)))]) hx hb dL_law_1040 hl (k := 3) rfl (congrArg (fun z => z12 + z) (by decide)) (by decide) rfl (fun ls hl => ?_)
          refine lv_goto (tgt := 18) hx hb dL_law_1043 (by decide) ?_
          obtain rfl := Option.some.inj hf
          exact hxlq11 _ rfl H locs ls hR hS (lv_sub hl [1, 2, 3, 0] rfl)
        · rw [if_neg c334] at hf
          cases hf
      rw [if_neg c313] at hf
      by_cases c335 : (v15 &&& (31 : Int32)) = (17 : Int32)
      · rw [if_pos c335] at hf
        refine lv_tableIn (tgt := 794) (off := 762) hx hb dL_law_32 (by rw [c335]; decide) (by rw [c335]; decide) (by rw [c335]; rfl) (by decide) ?_
        refine lv_aload_n hx hb dL_law_794 rfl (lv_at hl 1 rfl) ?_
        refine lv_aload_n hx hb dL_law_795 rfl (lv_at hl 0 rfl) ?_
        refine lv_iload_n hx hb dL_law_796 rfl (lv_at hl 3 rfl) ?_
        refine lv_iconst (v := 1) hx hb dL_law_797 (by decide) ?_
        refine lv_iadd hx hb dL_law_798 ?_
        obtain ⟨v336, g337, hf⟩ := ob hf
        refine r_lX X hX hbl hbA hS g337 dL_law_799 ?_
        refine lv_aload_n hx hb dL_law_800 rfl (lv_at hl 0 rfl) ?_
        refine lv_iload_n hx hb dL_law_801 rfl (lv_at hl 3 rfl) ?_
        refine lv_iconst (v := 2) hx hb dL_law_802 (by decide) ?_
        refine lv_iadd hx hb dL_law_803 ?_
        obtain ⟨v338, g339, hf⟩ := ob hf
        refine r_lX X hX hbl hbA hS g339 dL_law_804 ?_
        refine lv_aload_n hx hb dL_law_805 rfl (lv_at hl 0 rfl) ?_
        refine lv_iload_n hx hb dL_law_806 rfl (lv_at hl 3 rfl) ?_
        refine lv_iconst (v := 3) hx hb dL_law_807 (by decide) ?_
        refine lv_iadd hx hb dL_law_808 ?_
        obtain ⟨v340, g341, hf⟩ := ob hf
        refine r_lX X hX hbl hbA hS g341 dL_law_809 ?_
        obtain ⟨o342, h343, hf⟩ := obO hf
        obtain ⟨t345, g344, hf⟩ := ob hf
        refine r_callV X kw_L_92 (ci := 7) rfl (c_X7_ways l B D cA m13 (m.length) v336 v338 v340 t345.1 t345.2 g344) ⟨Nat.le_of_ble_eq_true rfl, Nat.le_of_ble_eq_true rfl⟩ h343 hR hS hl.1 rfl rfl (Nat.le_of_ble_eq_true rfl) ⟨Nat.le_of_ble_eq_true rfl, Nat.le_of_ble_eq_true rfl⟩ dL_law_810 (fun H locs hR hS => ?_)
        refine W.eq (g2 := F0 mt 813 ls [.long t345.1]) rfl ?_
        refine lv_aload_n hx hb dL_law_813 rfl (lv_at hl 2 rfl) ?_
        refine lv_aload_n hx hb dL_law_814 rfl (lv_at hl 0 rfl) ?_
        refine lv_iload_n hx hb dL_law_815 rfl (lv_at hl 3 rfl) ?_
        refine lv_iconst (v := 1) hx hb dL_law_816 (by decide) ?_
        refine lv_iadd hx hb dL_law_817 ?_
        obtain ⟨v346, g347, hf⟩ := ob hf
        refine r_lX X hX hbl hbA hS g347 dL_law_818 ?_
        refine lv_aload_n hx hb dL_law_819 rfl (lv_at hl 0 rfl) ?_
        refine lv_iload_n hx hb dL_law_820 rfl (lv_at hl 3 rfl) ?_
        refine lv_iconst (v := 2) hx hb dL_law_821 (by decide) ?_
        refine lv_iadd hx hb dL_law_822 ?_
        obtain ⟨v348, g349, hf⟩ := ob hf
        refine r_lX X hX hbl hbA hS g349 dL_law_823 ?_
        refine lv_aload_n hx hb dL_law_824 rfl (lv_at hl 0 rfl) ?_
        refine lv_iload_n hx hb dL_law_825 rfl (lv_at hl 3 rfl) ?_
        refine lv_iconst (v := 3) hx hb dL_law_826 (by decide) ?_
        refine lv_iadd hx hb dL_law_827 ?_
        obtain ⟨v350, g351, hf⟩ := ob hf
        refine r_lX X hX hbl hbA hS g351 dL_law_828 ?_
        obtain ⟨o352, h353, hf⟩ := obO hf
        obtain ⟨t355, g354, hf⟩ := ob hf
        refine r_callV X kw_L_95 (ci := 8) rfl (c_X8_ways l B D cA t345.2 (m4.length) v346 v348 v350 t355.1 t355.2 g354) ⟨Nat.le_of_ble_eq_true rfl, Nat.le_of_ble_eq_true rfl⟩ h353 hR hS hl.1 rfl rfl (Nat.le_of_ble_eq_true rfl) ⟨Nat.le_of_ble_eq_true rfl, Nat.le_of_ble_eq_true rfl⟩ dL_law_829 (fun H locs hR hS => ?_)
        refine W.eq (g2 := F0 mt 832 ls [.long t355.1, .long t345.1]) rfl ?_
        refine r_lc_eq (tgt := 1040) X dL_law_832 dL_law_833 (by decide) (fun c356 => ?_) (fun c356 => ?_)
        · rw [if_pos c356] at hf
          refine lv_iinc (v := (z12 + 5)) (lv' := [(3, .int (z12 + 5)), (0, .ref b), (1, .ref (B + (m.length))), (2, .ref (B + (m4.length)))]) hx hb dL_law_1040 hl (k := 3) rfl (congrArg (fun z => z12 + z) (by decide)) (by decide) rfl (fun ls hl => ?_)
          refine lv_goto (tgt := 18) hx hb dL_law_1043 (by decide) ?_
          obtain rfl := Option.some.inj hf
          exact hxlq11 _ rfl H locs ls hR hS (lv_sub hl [1, 2, 3, 0] rfl)
        · rw [if_neg c356] at hf
          cases hf
      rw [if_neg c335] at hf
      by_cases c357 : (v15 &&& (31 : Int32)) = (18 : Int32)
      · rw [if_pos c357] at hf
        refine lv_tableIn (tgt := 838) (off := 806) hx hb dL_law_32 (by rw [c357]; decide) (by rw [c357]; decide) (by rw [c357]; rfl) (by decide) ?_
        refine lv_aload_n hx hb dL_law_838 rfl (lv_at hl 1 rfl) ?_
        refine lv_aload_n hx hb dL_law_839 rfl (lv_at hl 0 rfl) ?_
        refine lv_iload_n hx hb dL_law_840 rfl (lv_at hl 3 rfl) ?_
        refine lv_iconst (v := 1) hx hb dL_law_841 (by decide) ?_
        refine lv_iadd hx hb dL_law_842 ?_
        obtain ⟨v358, g359, hf⟩ := ob hf
        refine r_lX X hX hbl hbA hS g359 dL_law_843 ?_
        refine lv_aload_n hx hb dL_law_844 rfl (lv_at hl 0 rfl) ?_
        refine lv_iload_n hx hb dL_law_845 rfl (lv_at hl 3 rfl) ?_
        refine lv_iconst (v := 2) hx hb dL_law_846 (by decide) ?_
        refine lv_iadd hx hb dL_law_847 ?_
        obtain ⟨v360, g361, hf⟩ := ob hf
        refine r_lX X hX hbl hbA hS g361 dL_law_848 ?_
        obtain ⟨o362, h363, hf⟩ := obO hf
        obtain ⟨t365, g364, hf⟩ := ob hf
        refine r_callV X kw_L_96 (ci := 7) rfl (c_X7_less l B D cA m13 (m.length) v358 v360 t365.1 t365.2 g364) ⟨Nat.le_of_ble_eq_true rfl, Nat.le_of_ble_eq_true rfl⟩ h363 hR hS hl.1 rfl rfl (Nat.le_of_ble_eq_true rfl) ⟨Nat.le_of_ble_eq_true rfl, Nat.le_of_ble_eq_true rfl⟩ dL_law_849 (fun H locs hR hS => ?_)
        refine W.eq (g2 := F0 mt 852 ls [.long t365.1]) rfl ?_
        refine lv_aload_n hx hb dL_law_852 rfl (lv_at hl 2 rfl) ?_
        refine lv_aload_n hx hb dL_law_853 rfl (lv_at hl 0 rfl) ?_
        refine lv_iload_n hx hb dL_law_854 rfl (lv_at hl 3 rfl) ?_
        refine lv_iconst (v := 1) hx hb dL_law_855 (by decide) ?_
        refine lv_iadd hx hb dL_law_856 ?_
        obtain ⟨v366, g367, hf⟩ := ob hf
        refine r_lX X hX hbl hbA hS g367 dL_law_857 ?_
        refine lv_aload_n hx hb dL_law_858 rfl (lv_at hl 0 rfl) ?_
        refine lv_iload_n hx hb dL_law_859 rfl (lv_at hl 3 rfl) ?_
        refine lv_iconst (v := 2) hx hb dL_law_860 (by decide) ?_
        refine lv_iadd hx hb dL_law_861 ?_
        obtain ⟨v368, g369, hf⟩ := ob hf
        refine r_lX X hX hbl hbA hS g369 dL_law_862 ?_
        obtain ⟨o370, h371, hf⟩ := obO hf
        obtain ⟨t373, g372, hf⟩ := ob hf
        refine r_callV X kw_L_100 (ci := 8) rfl (c_X8_less l B D cA t365.2 (m4.length) v366 v368 t373.1 t373.2 g372) ⟨Nat.le_of_ble_eq_true rfl, Nat.le_of_ble_eq_true rfl⟩ h371 hR hS hl.1 rfl rfl (Nat.le_of_ble_eq_true rfl) ⟨Nat.le_of_ble_eq_true rfl, Nat.le_of_ble_eq_true rfl⟩ dL_law_863 (fun H locs hR hS => ?_)
        refine W.eq (g2 := F0 mt 866 ls [.long t373.1, .long t365.1]) rfl ?_
        refine r_lc_eq (tgt := 1040) X dL_law_866 dL_law_867 (by decide) (fun c374 => ?_) (fun c374 => ?_)
        · rw [if_pos c374] at hf
          refine lv_iinc (v := (z12 + 5)) (lv' := [(3, .int (z12 + 5)), (0, .ref b), (1, .ref (B + (m.length))), (2, .ref (B + (m4.length)))]) hx hb dL_law_1040 hl (k := 3) rfl (congrArg (fun z => z12 + z) (by decide)) (by decide) rfl (fun ls hl => ?_)
          refine lv_goto (tgt := 18) hx hb dL_law_1043 (by decide) ?_
          obtain rfl := Option.some.inj hf
          exact hxlq11 _ rfl H locs ls hR hS (lv_sub hl [1, 2, 3, 0] rfl)
        · rw [if_neg c374] at hf
          cases hf
      rw [if_neg c357] at hf
      by_cases c375 : (v15 &&& (31 : Int32)) = (19 : Int32)
      · rw [if_pos c375] at hf
        refine lv_tableIn (tgt := 872) (off := 840) hx hb dL_law_32 (by rw [c375]; decide) (by rw [c375]; decide) (by rw [c375]; rfl) (by decide) ?_
        refine lv_aload_n hx hb dL_law_872 rfl (lv_at hl 1 rfl) ?_
        refine lv_aload_n hx hb dL_law_873 rfl (lv_at hl 0 rfl) ?_
        refine lv_iload_n hx hb dL_law_874 rfl (lv_at hl 3 rfl) ?_
        refine lv_iconst (v := 1) hx hb dL_law_875 (by decide) ?_
        refine lv_iadd hx hb dL_law_876 ?_
        obtain ⟨v376, g377, hf⟩ := ob hf
        refine r_lX X hX hbl hbA hS g377 dL_law_877 ?_
        obtain ⟨o378, h379, hf⟩ := obO hf
        obtain ⟨t381, g380, hf⟩ := ob hf
        refine r_callV X kw_L_101 (ci := 7) rfl (c_X7_type l B D cA m13 (m.length) v376 t381.1 t381.2 g380) ⟨Nat.le_of_ble_eq_true rfl, Nat.le_of_ble_eq_true rfl⟩ h379 hR hS hl.1 rfl rfl (Nat.le_of_ble_eq_true rfl) ⟨Nat.le_of_ble_eq_true rfl, Nat.le_of_ble_eq_true rfl⟩ dL_law_878 (fun H locs hR hS => ?_)
        refine W.eq (g2 := F0 mt 881 ls [.int t381.1]) rfl ?_
        refine lv_aload_n hx hb dL_law_881 rfl (lv_at hl 2 rfl) ?_
        refine lv_aload_n hx hb dL_law_882 rfl (lv_at hl 0 rfl) ?_
        refine lv_iload_n hx hb dL_law_883 rfl (lv_at hl 3 rfl) ?_
        refine lv_iconst (v := 1) hx hb dL_law_884 (by decide) ?_
        refine lv_iadd hx hb dL_law_885 ?_
        obtain ⟨v382, g383, hf⟩ := ob hf
        refine r_lX X hX hbl hbA hS g383 dL_law_886 ?_
        obtain ⟨o384, h385, hf⟩ := obO hf
        obtain ⟨t387, g386, hf⟩ := ob hf
        refine r_callV X kw_L_104 (ci := 8) rfl (c_X8_type l B D cA t381.2 (m4.length) v382 t387.1 t387.2 g386) ⟨Nat.le_of_ble_eq_true rfl, Nat.le_of_ble_eq_true rfl⟩ h385 hR hS hl.1 rfl rfl (Nat.le_of_ble_eq_true rfl) ⟨Nat.le_of_ble_eq_true rfl, Nat.le_of_ble_eq_true rfl⟩ dL_law_887 (fun H locs hR hS => ?_)
        refine W.eq (g2 := F0 mt 890 ls [.int t387.1, .int t381.1]) rfl ?_
        refine lv_icmp_eq (tgt := 1040) hx hb dL_law_890 (by decide) (fun c388 => ?_) (fun c388 => ?_)
        · rw [if_pos c388] at hf
          refine lv_iinc (v := (z12 + 5)) (lv' := [(3, .int (z12 + 5)), (0, .ref b), (1, .ref (B + (m.length))), (2, .ref (B + (m4.length)))]) hx hb dL_law_1040 hl (k := 3) rfl (congrArg (fun z => z12 + z) (by decide)) (by decide) rfl (fun ls hl => ?_)
          refine lv_goto (tgt := 18) hx hb dL_law_1043 (by decide) ?_
          obtain rfl := Option.some.inj hf
          exact hxlq11 _ rfl H locs ls hR hS (lv_sub hl [1, 2, 3, 0] rfl)
        · rw [if_neg c388] at hf
          cases hf
      rw [if_neg c375] at hf
      by_cases c389 : (v15 &&& (31 : Int32)) = (20 : Int32)
      · rw [if_pos c389] at hf
        refine lv_tableIn (tgt := 895) (off := 863) hx hb dL_law_32 (by rw [c389]; decide) (by rw [c389]; decide) (by rw [c389]; rfl) (by decide) ?_
        refine lv_aload_n hx hb dL_law_895 rfl (lv_at hl 1 rfl) ?_
        obtain ⟨o390, h391, hf⟩ := obO hf
        obtain ⟨t393, g392, hf⟩ := ob hf
        refine r_callV X kw_L_105 (ci := 7) rfl (c_X7_clear l B D cA m13 (m.length) t393.1 t393.2 g392) ⟨Nat.le_of_ble_eq_true rfl, Nat.le_of_ble_eq_true rfl⟩ h391 hR hS hl.1 rfl rfl (Nat.le_of_ble_eq_true rfl) ⟨Nat.le_of_ble_eq_true rfl, Nat.le_of_ble_eq_true rfl⟩ dL_law_896 (fun H locs hR hS => ?_)
        refine W.eq (g2 := F0 mt 899 ls [.int t393.1]) rfl ?_
        refine lv_aload_n hx hb dL_law_899 rfl (lv_at hl 2 rfl) ?_
        obtain ⟨o394, h395, hf⟩ := obO hf
        obtain ⟨t397, g396, hf⟩ := ob hf
        refine r_callV X kw_L_108 (ci := 8) rfl (c_X8_clear l B D cA t393.2 (m4.length) t397.1 t397.2 g396) ⟨Nat.le_of_ble_eq_true rfl, Nat.le_of_ble_eq_true rfl⟩ h395 hR hS hl.1 rfl rfl (Nat.le_of_ble_eq_true rfl) ⟨Nat.le_of_ble_eq_true rfl, Nat.le_of_ble_eq_true rfl⟩ dL_law_900 (fun H locs hR hS => ?_)
        refine W.eq (g2 := F0 mt 903 ls [.int t397.1, .int t393.1]) rfl ?_
        refine lv_icmp_eq (tgt := 1040) hx hb dL_law_903 (by decide) (fun c398 => ?_) (fun c398 => ?_)
        · rw [if_pos c398] at hf
          refine lv_iinc (v := (z12 + 5)) (lv' := [(3, .int (z12 + 5)), (0, .ref b), (1, .ref (B + (m.length))), (2, .ref (B + (m4.length)))]) hx hb dL_law_1040 hl (k := 3) rfl (congrArg (fun z => z12 + z) (by decide)) (by decide) rfl (fun ls hl => ?_)
          refine lv_goto (tgt := 18) hx hb dL_law_1043 (by decide) ?_
          obtain rfl := Option.some.inj hf
          exact hxlq11 _ rfl H locs ls hR hS (lv_sub hl [1, 2, 3, 0] rfl)
        · rw [if_neg c398] at hf
          cases hf
      rw [if_neg c389] at hf
      by_cases c399 : (v15 &&& (31 : Int32)) = (21 : Int32)
      · rw [if_pos c399] at hf
        refine lv_tableIn (tgt := 908) (off := 876) hx hb dL_law_32 (by rw [c399]; decide) (by rw [c399]; decide) (by rw [c399]; rfl) (by decide) ?_
        refine lv_aload_n hx hb dL_law_908 rfl (lv_at hl 1 rfl) ?_
        obtain ⟨o400, h401, hf⟩ := obO hf
        obtain ⟨t403, g402, hf⟩ := ob hf
        refine r_callV X kw_L_109 (ci := 7) rfl (c_X7_builds l B D cA m13 (m.length) t403.1 t403.2 g402) ⟨Nat.le_of_ble_eq_true rfl, Nat.le_of_ble_eq_true rfl⟩ h401 hR hS hl.1 rfl rfl (Nat.le_of_ble_eq_true rfl) ⟨Nat.le_of_ble_eq_true rfl, Nat.le_of_ble_eq_true rfl⟩ dL_law_909 (fun H locs hR hS => ?_)
        refine W.eq (g2 := F0 mt 912 ls [.int t403.1]) rfl ?_
        refine lv_aload_n hx hb dL_law_912 rfl (lv_at hl 2 rfl) ?_
        obtain ⟨o404, h405, hf⟩ := obO hf
        obtain ⟨t407, g406, hf⟩ := ob hf
        refine r_callV X kw_L_112 (ci := 8) rfl (c_X8_builds l B D cA t403.2 (m4.length) t407.1 t407.2 g406) ⟨Nat.le_of_ble_eq_true rfl, Nat.le_of_ble_eq_true rfl⟩ h405 hR hS hl.1 rfl rfl (Nat.le_of_ble_eq_true rfl) ⟨Nat.le_of_ble_eq_true rfl, Nat.le_of_ble_eq_true rfl⟩ dL_law_913 (fun H locs hR hS => ?_)
        refine W.eq (g2 := F0 mt 916 ls [.int t407.1, .int t403.1]) rfl ?_
        refine lv_icmp_eq (tgt := 1040) hx hb dL_law_916 (by decide) (fun c408 => ?_) (fun c408 => ?_)
        · rw [if_pos c408] at hf
          refine lv_iinc (v := (z12 + 5)) (lv' := [(3, .int (z12 + 5)), (0, .ref b), (1, .ref (B + (m.length))), (2, .ref (B + (m4.length)))]) hx hb dL_law_1040 hl (k := 3) rfl (congrArg (fun z => z12 + z) (by decide)) (by decide) rfl (fun ls hl => ?_)
          refine lv_goto (tgt := 18) hx hb dL_law_1043 (by decide) ?_
          obtain rfl := Option.some.inj hf
          exact hxlq11 _ rfl H locs ls hR hS (lv_sub hl [1, 2, 3, 0] rfl)
        · rw [if_neg c408] at hf
          cases hf
      rw [if_neg c399] at hf
      by_cases c409 : (v15 &&& (31 : Int32)) = (22 : Int32)
      · rw [if_pos c409] at hf
        refine lv_tableIn (tgt := 921) (off := 889) hx hb dL_law_32 (by rw [c409]; decide) (by rw [c409]; decide) (by rw [c409]; rfl) (by decide) ?_
        refine lv_aload_n hx hb dL_law_921 rfl (lv_at hl 1 rfl) ?_
        refine lv_aload_n hx hb dL_law_922 rfl (lv_at hl 0 rfl) ?_
        refine lv_iload_n hx hb dL_law_923 rfl (lv_at hl 3 rfl) ?_
        refine lv_iconst (v := 1) hx hb dL_law_924 (by decide) ?_
        refine lv_iadd hx hb dL_law_925 ?_
        obtain ⟨v410, g411, hf⟩ := ob hf
        refine r_lX X hX hbl hbA hS g411 dL_law_926 ?_
        obtain ⟨o412, h413, hf⟩ := obO hf
        obtain ⟨t415, g414, hf⟩ := ob hf
        refine r_callV X kw_L_113 (ci := 7) rfl (c_X7_twigs l B D cA m13 (m.length) v410 t415.1 t415.2 g414) ⟨Nat.le_of_ble_eq_true rfl, Nat.le_of_ble_eq_true rfl⟩ h413 hR hS hl.1 rfl rfl (Nat.le_of_ble_eq_true rfl) ⟨Nat.le_of_ble_eq_true rfl, Nat.le_of_ble_eq_true rfl⟩ dL_law_927 (fun H locs hR hS => ?_)
        refine W.eq (g2 := F0 mt 930 ls [.int t415.1]) rfl ?_
        refine lv_aload_n hx hb dL_law_930 rfl (lv_at hl 2 rfl) ?_
        refine lv_aload_n hx hb dL_law_931 rfl (lv_at hl 0 rfl) ?_
        refine lv_iload_n hx hb dL_law_932 rfl (lv_at hl 3 rfl) ?_
        refine lv_iconst (v := 1) hx hb dL_law_933 (by decide) ?_
        refine lv_iadd hx hb dL_law_934 ?_
        obtain ⟨v416, g417, hf⟩ := ob hf
        refine r_lX X hX hbl hbA hS g417 dL_law_935 ?_
        obtain ⟨o418, h419, hf⟩ := obO hf
        obtain ⟨t421, g420, hf⟩ := ob hf
        refine r_callV X kw_L_116 (ci := 8) rfl (c_X8_twigs l B D cA t415.2 (m4.length) v416 t421.1 t421.2 g420) ⟨Nat.le_of_ble_eq_true rfl, Nat.le_of_ble_eq_true rfl⟩ h419 hR hS hl.1 rfl rfl (Nat.le_of_ble_eq_true rfl) ⟨Nat.le_of_ble_eq_true rfl, Nat.le_of_ble_eq_true rfl⟩ dL_law_936 (fun H locs hR hS => ?_)
        refine W.eq (g2 := F0 mt 939 ls [.int t421.1, .int t415.1]) rfl ?_
        refine lv_icmp_eq (tgt := 1040) hx hb dL_law_939 (by decide) (fun c422 => ?_) (fun c422 => ?_)
        · rw [if_pos c422] at hf
          refine lv_iinc (v := (z12 + 5)) (lv' := [(3, .int (z12 + 5)), (0, .ref b), (1, .ref (B + (m.length))), (2, .ref (B + (m4.length)))]) hx hb dL_law_1040 hl (k := 3) rfl (congrArg (fun z => z12 + z) (by decide)) (by decide) rfl (fun ls hl => ?_)
          refine lv_goto (tgt := 18) hx hb dL_law_1043 (by decide) ?_
          obtain rfl := Option.some.inj hf
          exact hxlq11 _ rfl H locs ls hR hS (lv_sub hl [1, 2, 3, 0] rfl)
        · rw [if_neg c422] at hf
          cases hf
      rw [if_neg c409] at hf
      by_cases c423 : (v15 &&& (31 : Int32)) = (23 : Int32)
      · rw [if_pos c423] at hf
        refine lv_tableIn (tgt := 944) (off := 912) hx hb dL_law_32 (by rw [c423]; decide) (by rw [c423]; decide) (by rw [c423]; rfl) (by decide) ?_
        refine lv_aload_n hx hb dL_law_944 rfl (lv_at hl 1 rfl) ?_
        obtain ⟨o424, h425, hf⟩ := obO hf
        obtain ⟨v427, g426, hf⟩ := ob hf
        refine r_callV X kw_L_117 (ci := 7) rfl (c_X7_why l B D cA m13 (m.length) v427 g426) ⟨Nat.le_of_ble_eq_true rfl, Nat.le_of_ble_eq_true rfl⟩ h425 hR hS hl.1 rfl rfl (Nat.le_of_ble_eq_true rfl) ⟨Nat.le_of_ble_eq_true rfl, Nat.le_of_ble_eq_true rfl⟩ dL_law_945 (fun H locs hR hS => ?_)
        refine W.eq (g2 := F0 mt 948 ls [.int v427]) rfl ?_
        refine lv_aload_n hx hb dL_law_948 rfl (lv_at hl 2 rfl) ?_
        obtain ⟨o428, h429, hf⟩ := obO hf
        obtain ⟨v431, g430, hf⟩ := ob hf
        refine r_callV X kw_L_120 (ci := 8) rfl (c_X8_why l B D cA m13 (m4.length) v431 g430) ⟨Nat.le_of_ble_eq_true rfl, Nat.le_of_ble_eq_true rfl⟩ h429 hR hS hl.1 rfl rfl (Nat.le_of_ble_eq_true rfl) ⟨Nat.le_of_ble_eq_true rfl, Nat.le_of_ble_eq_true rfl⟩ dL_law_949 (fun H locs hR hS => ?_)
        refine W.eq (g2 := F0 mt 952 ls [.int v431, .int v427]) rfl ?_
        refine lv_icmp_eq (tgt := 1040) hx hb dL_law_952 (by decide) (fun c432 => ?_) (fun c432 => ?_)
        · rw [if_pos c432] at hf
          refine lv_iinc (v := (z12 + 5)) (lv' := [(3, .int (z12 + 5)), (0, .ref b), (1, .ref (B + (m.length))), (2, .ref (B + (m4.length)))]) hx hb dL_law_1040 hl (k := 3) rfl (congrArg (fun z => z12 + z) (by decide)) (by decide) rfl (fun ls hl => ?_)
          refine lv_goto (tgt := 18) hx hb dL_law_1043 (by decide) ?_
          obtain rfl := Option.some.inj hf
          exact hxlq11 _ rfl H locs ls hR hS (lv_sub hl [1, 2, 3, 0] rfl)
        · rw [if_neg c432] at hf
          cases hf
      rw [if_neg c423] at hf
      by_cases c433 : (v15 &&& (31 : Int32)) = (24 : Int32)
      · rw [if_pos c433] at hf
        refine lv_tableIn (tgt := 957) (off := 925) hx hb dL_law_32 (by rw [c433]; decide) (by rw [c433]; decide) (by rw [c433]; rfl) (by decide) ?_
        refine lv_aload_n hx hb dL_law_957 rfl (lv_at hl 1 rfl) ?_
        refine lv_aload_n hx hb dL_law_958 rfl (lv_at hl 0 rfl) ?_
        refine lv_iload_n hx hb dL_law_959 rfl (lv_at hl 3 rfl) ?_
        refine lv_iconst (v := 1) hx hb dL_law_960 (by decide) ?_
        refine lv_iadd hx hb dL_law_961 ?_
        obtain ⟨v434, g435, hf⟩ := ob hf
        refine r_lX X hX hbl hbA hS g435 dL_law_962 ?_
        refine lv_aload_n hx hb dL_law_963 rfl (lv_at hl 0 rfl) ?_
        refine lv_iload_n hx hb dL_law_964 rfl (lv_at hl 3 rfl) ?_
        refine lv_iconst (v := 2) hx hb dL_law_965 (by decide) ?_
        refine lv_iadd hx hb dL_law_966 ?_
        obtain ⟨v436, g437, hf⟩ := ob hf
        refine r_lX X hX hbl hbA hS g437 dL_law_967 ?_
        obtain ⟨o438, h439, hf⟩ := obO hf
        obtain ⟨t441, g440, hf⟩ := ob hf
        refine r_callV X kw_L_121 (ci := 7) rfl (c_X7_shown l B D cA m13 (m.length) v434 v436 t441.1 t441.2 g440) ⟨Nat.le_of_ble_eq_true rfl, Nat.le_of_ble_eq_true rfl⟩ h439 hR hS hl.1 rfl rfl (Nat.le_of_ble_eq_true rfl) ⟨Nat.le_of_ble_eq_true rfl, Nat.le_of_ble_eq_true rfl⟩ dL_law_968 (fun H locs hR hS => ?_)
        refine W.eq (g2 := F0 mt 971 ls [.int t441.1]) rfl ?_
        refine lv_aload_n hx hb dL_law_971 rfl (lv_at hl 2 rfl) ?_
        refine lv_aload_n hx hb dL_law_972 rfl (lv_at hl 0 rfl) ?_
        refine lv_iload_n hx hb dL_law_973 rfl (lv_at hl 3 rfl) ?_
        refine lv_iconst (v := 1) hx hb dL_law_974 (by decide) ?_
        refine lv_iadd hx hb dL_law_975 ?_
        obtain ⟨v442, g443, hf⟩ := ob hf
        refine r_lX X hX hbl hbA hS g443 dL_law_976 ?_
        refine lv_aload_n hx hb dL_law_977 rfl (lv_at hl 0 rfl) ?_
        refine lv_iload_n hx hb dL_law_978 rfl (lv_at hl 3 rfl) ?_
        refine lv_iconst (v := 2) hx hb dL_law_979 (by decide) ?_
        refine lv_iadd hx hb dL_law_980 ?_
        obtain ⟨v444, g445, hf⟩ := ob hf
        refine r_lX X hX hbl hbA hS g445 dL_law_981 ?_
        obtain ⟨o446, h447, hf⟩ := obO hf
        obtain ⟨t449, g448, hf⟩ := ob hf
        refine r_callV X kw_L_124 (ci := 8) rfl (c_X8_shown l B D cA t441.2 (m4.length) v442 v444 t449.1 t449.2 g448) ⟨Nat.le_of_ble_eq_true rfl, Nat.le_of_ble_eq_true rfl⟩ h447 hR hS hl.1 rfl rfl (Nat.le_of_ble_eq_true rfl) ⟨Nat.le_of_ble_eq_true rfl, Nat.le_of_ble_eq_true rfl⟩ dL_law_982 (fun H locs hR hS => ?_)
        refine W.eq (g2 := F0 mt 985 ls [.int t449.1, .int t441.1]) rfl ?_
        refine lv_icmp_eq (tgt := 1040) hx hb dL_law_985 (by decide) (fun c450 => ?_) (fun c450 => ?_)
        · rw [if_pos c450] at hf
          refine lv_iinc (v := (z12 + 5)) (lv' := [(3, .int (z12 + 5)), (0, .ref b), (1, .ref (B + (m.length))), (2, .ref (B + (m4.length)))]) hx hb dL_law_1040 hl (k := 3) rfl (congrArg (fun z => z12 + z) (by decide)) (by decide) rfl (fun ls hl => ?_)
          refine lv_goto (tgt := 18) hx hb dL_law_1043 (by decide) ?_
          obtain rfl := Option.some.inj hf
          exact hxlq11 _ rfl H locs ls hR hS (lv_sub hl [1, 2, 3, 0] rfl)
        · rw [if_neg c450] at hf
          cases hf
      rw [if_neg c433] at hf
      by_cases c451 : (v15 &&& (31 : Int32)) = (25 : Int32)
      · rw [if_pos c451] at hf
        refine lv_tableIn (tgt := 990) (off := 958) hx hb dL_law_32 (by rw [c451]; decide) (by rw [c451]; decide) (by rw [c451]; rfl) (by decide) ?_
        refine lv_aload_n hx hb dL_law_990 rfl (lv_at hl 1 rfl) ?_
        obtain ⟨o452, h453, hf⟩ := obO hf
        obtain ⟨t455, g454, hf⟩ := ob hf
        refine r_callV X kw_L_125 (ci := 7) rfl (c_X7_back l B D cA m13 (m.length) t455.1 t455.2 g454) ⟨Nat.le_of_ble_eq_true rfl, Nat.le_of_ble_eq_true rfl⟩ h453 hR hS hl.1 rfl rfl (Nat.le_of_ble_eq_true rfl) ⟨Nat.le_of_ble_eq_true rfl, Nat.le_of_ble_eq_true rfl⟩ dL_law_991 (fun H locs hR hS => ?_)
        refine W.eq (g2 := F0 mt 994 ls [.int t455.1]) rfl ?_
        refine lv_aload_n hx hb dL_law_994 rfl (lv_at hl 2 rfl) ?_
        obtain ⟨o456, h457, hf⟩ := obO hf
        obtain ⟨t459, g458, hf⟩ := ob hf
        refine r_callV X kw_L_128 (ci := 8) rfl (c_X8_back l B D cA t455.2 (m4.length) t459.1 t459.2 g458) ⟨Nat.le_of_ble_eq_true rfl, Nat.le_of_ble_eq_true rfl⟩ h457 hR hS hl.1 rfl rfl (Nat.le_of_ble_eq_true rfl) ⟨Nat.le_of_ble_eq_true rfl, Nat.le_of_ble_eq_true rfl⟩ dL_law_995 (fun H locs hR hS => ?_)
        refine W.eq (g2 := F0 mt 998 ls [.int t459.1, .int t455.1]) rfl ?_
        refine lv_icmp_eq (tgt := 1040) hx hb dL_law_998 (by decide) (fun c460 => ?_) (fun c460 => ?_)
        · rw [if_pos c460] at hf
          refine lv_iinc (v := (z12 + 5)) (lv' := [(3, .int (z12 + 5)), (0, .ref b), (1, .ref (B + (m.length))), (2, .ref (B + (m4.length)))]) hx hb dL_law_1040 hl (k := 3) rfl (congrArg (fun z => z12 + z) (by decide)) (by decide) rfl (fun ls hl => ?_)
          refine lv_goto (tgt := 18) hx hb dL_law_1043 (by decide) ?_
          obtain rfl := Option.some.inj hf
          exact hxlq11 _ rfl H locs ls hR hS (lv_sub hl [1, 2, 3, 0] rfl)
        · rw [if_neg c460] at hf
          cases hf
      rw [if_neg c451] at hf
      by_cases c461 : (v15 &&& (31 : Int32)) = (26 : Int32)
      · rw [if_pos c461] at hf
        refine lv_tableIn (tgt := 1003) (off := 971) hx hb dL_law_32 (by rw [c461]; decide) (by rw [c461]; decide) (by rw [c461]; rfl) (by decide) ?_
        refine lv_aload_n hx hb dL_law_1003 rfl (lv_at hl 1 rfl) ?_
        refine lv_aload_n hx hb dL_law_1004 rfl (lv_at hl 0 rfl) ?_
        refine lv_iload_n hx hb dL_law_1005 rfl (lv_at hl 3 rfl) ?_
        refine lv_iconst (v := 1) hx hb dL_law_1006 (by decide) ?_
        refine lv_iadd hx hb dL_law_1007 ?_
        obtain ⟨v462, g463, hf⟩ := ob hf
        refine r_lX X hX hbl hbA hS g463 dL_law_1008 ?_
        obtain ⟨o464, h465, hf⟩ := obO hf
        obtain ⟨t467, g466, hf⟩ := ob hf
        refine r_callV X kw_L_129 (ci := 7) rfl (c_X7_told l B D cA m13 (m.length) v462 t467.1 t467.2 g466) ⟨Nat.le_of_ble_eq_true rfl, Nat.le_of_ble_eq_true rfl⟩ h465 hR hS hl.1 rfl rfl (Nat.le_of_ble_eq_true rfl) ⟨Nat.le_of_ble_eq_true rfl, Nat.le_of_ble_eq_true rfl⟩ dL_law_1009 (fun H locs hR hS => ?_)
        refine W.eq (g2 := F0 mt 1012 ls [.int t467.1]) rfl ?_
        refine lv_aload_n hx hb dL_law_1012 rfl (lv_at hl 2 rfl) ?_
        refine lv_aload_n hx hb dL_law_1013 rfl (lv_at hl 0 rfl) ?_
        refine lv_iload_n hx hb dL_law_1014 rfl (lv_at hl 3 rfl) ?_
        refine lv_iconst (v := 1) hx hb dL_law_1015 (by decide) ?_
        refine lv_iadd hx hb dL_law_1016 ?_
        obtain ⟨v468, g469, hf⟩ := ob hf
        refine r_lX X hX hbl hbA hS g469 dL_law_1017 ?_
        obtain ⟨o470, h471, hf⟩ := obO hf
        obtain ⟨t473, g472, hf⟩ := ob hf
        refine r_callV X kw_L_132 (ci := 8) rfl (c_X8_told l B D cA t467.2 (m4.length) v468 t473.1 t473.2 g472) ⟨Nat.le_of_ble_eq_true rfl, Nat.le_of_ble_eq_true rfl⟩ h471 hR hS hl.1 rfl rfl (Nat.le_of_ble_eq_true rfl) ⟨Nat.le_of_ble_eq_true rfl, Nat.le_of_ble_eq_true rfl⟩ dL_law_1018 (fun H locs hR hS => ?_)
        refine W.eq (g2 := F0 mt 1021 ls [.int t473.1, .int t467.1]) rfl ?_
        refine lv_icmp_eq (tgt := 1040) hx hb dL_law_1021 (by decide) (fun c474 => ?_) (fun c474 => ?_)
        · rw [if_pos c474] at hf
          refine lv_iinc (v := (z12 + 5)) (lv' := [(3, .int (z12 + 5)), (0, .ref b), (1, .ref (B + (m.length))), (2, .ref (B + (m4.length)))]) hx hb dL_law_1040 hl (k := 3) rfl (congrArg (fun z => z12 + z) (by decide)) (by decide) rfl (fun ls hl => ?_)
          refine lv_goto (tgt := 18) hx hb dL_law_1043 (by decide) ?_
          obtain rfl := Option.some.inj hf
          exact hxlq11 _ rfl H locs ls hR hS (lv_sub hl [1, 2, 3, 0] rfl)
        · rw [if_neg c474] at hf
          cases hf
      rw [if_neg c461] at hf
      by_cases c475 : (v15 &&& (31 : Int32)) = (27 : Int32)
      · rw [if_pos c475] at hf
        refine lv_tableIn (tgt := 1026) (off := 994) hx hb dL_law_32 (by rw [c475]; decide) (by rw [c475]; decide) (by rw [c475]; rfl) (by decide) ?_
        refine lv_aload_n hx hb dL_law_1026 rfl (lv_at hl 1 rfl) ?_
        obtain ⟨o476, h477, hf⟩ := obO hf
        obtain ⟨t479, g478, hf⟩ := ob hf
        refine r_callV X kw_L_133 (ci := 7) rfl (c_X7_digest l B D cA m13 (m.length) t479.1 t479.2 g478) ⟨Nat.le_of_ble_eq_true rfl, Nat.le_of_ble_eq_true rfl⟩ h477 hR hS hl.1 rfl rfl (Nat.le_of_ble_eq_true rfl) ⟨Nat.le_of_ble_eq_true rfl, Nat.le_of_ble_eq_true rfl⟩ dL_law_1027 (fun H locs hR hS => ?_)
        refine W.eq (g2 := F0 mt 1030 ls [.long t479.1]) rfl ?_
        refine lv_aload_n hx hb dL_law_1030 rfl (lv_at hl 2 rfl) ?_
        obtain ⟨o480, h481, hf⟩ := obO hf
        obtain ⟨t483, g482, hf⟩ := ob hf
        refine r_callV X kw_L_137 (ci := 8) rfl (c_X8_digest l B D cA t479.2 (m4.length) t483.1 t483.2 g482) ⟨Nat.le_of_ble_eq_true rfl, Nat.le_of_ble_eq_true rfl⟩ h481 hR hS hl.1 rfl rfl (Nat.le_of_ble_eq_true rfl) ⟨Nat.le_of_ble_eq_true rfl, Nat.le_of_ble_eq_true rfl⟩ dL_law_1031 (fun H locs hR hS => ?_)
        refine W.eq (g2 := F0 mt 1034 ls [.long t483.1, .long t479.1]) rfl ?_
        refine r_lc_eq (tgt := 1040) X dL_law_1034 dL_law_1035 (by decide) (fun c484 => ?_) (fun c484 => ?_)
        · rw [if_pos c484] at hf
          refine lv_iinc (v := (z12 + 5)) (lv' := [(3, .int (z12 + 5)), (0, .ref b), (1, .ref (B + (m.length))), (2, .ref (B + (m4.length)))]) hx hb dL_law_1040 hl (k := 3) rfl (congrArg (fun z => z12 + z) (by decide)) (by decide) rfl (fun ls hl => ?_)
          refine lv_goto (tgt := 18) hx hb dL_law_1043 (by decide) ?_
          obtain rfl := Option.some.inj hf
          exact hxlq11 _ rfl H locs ls hR hS (lv_sub hl [1, 2, 3, 0] rfl)
        · rw [if_neg c484] at hf
          cases hf
      rw [if_neg c475] at hf
      refine lv_tableOut (tgt := 1040) hx hb dL_law_32 (by have zc17 := sw_ne (k := 0) c17; have zc43 := sw_ne (k := 1) c43; have zc57 := sw_ne (k := 2) c57; have zc79 := sw_ne (k := 3) c79; have zc101 := sw_ne (k := 4) c101; have zc119 := sw_ne (k := 5) c119; have zc129 := sw_ne (k := 6) c129; have zc151 := sw_ne (k := 7) c151; have zc165 := sw_ne (k := 8) c165; have zc179 := sw_ne (k := 9) c179; have zc197 := sw_ne (k := 10) c197; have zc215 := sw_ne (k := 11) c215; have zc229 := sw_ne (k := 12) c229; have zc255 := sw_ne (k := 13) c255; have zc277 := sw_ne (k := 14) c277; have zc295 := sw_ne (k := 15) c295; have zc313 := sw_ne (k := 16) c313; have zc335 := sw_ne (k := 17) c335; have zc357 := sw_ne (k := 18) c357; have zc375 := sw_ne (k := 19) c375; have zc389 := sw_ne (k := 20) c389; have zc399 := sw_ne (k := 21) c399; have zc409 := sw_ne (k := 22) c409; have zc423 := sw_ne (k := 23) c423; have zc433 := sw_ne (k := 24) c433; have zc451 := sw_ne (k := 25) c451; have zc461 := sw_ne (k := 26) c461; have zc475 := sw_ne (k := 27) c475; omega) (by decide) ?_
      refine lv_iinc (v := (z12 + 5)) (lv' := [(3, .int (z12 + 5)), (0, .ref b), (1, .ref (B + (m.length))), (2, .ref (B + (m4.length)))]) hx hb dL_law_1040 hl (k := 3) rfl (congrArg (fun z => z12 + z) (by decide)) (by decide) rfl (fun ls hl => ?_)
      refine lv_goto (tgt := 18) hx hb dL_law_1043 (by decide) ?_
      obtain rfl := Option.some.inj hf
      exact hxlq11 _ rfl H locs ls hR hS (lv_sub hl [1, 2, 3, 0] rfl)
  · intro H locs ls hR hS hl
    refine lv_iconst (v := 1) hx hb dL_law_1046 (by decide) ?_
    exact lw_end X hr hlocks hBs hS (Nat.le_of_ble_eq_true rfl) (Nat.le_of_ble_eq_true rfl) dL_law_1047
theorem lw_ty {s : State} {cA : ClassId} {ty : FieldType} {k : Class} {comp : ClassId} (h2 : s.vm.classes[cA]? = some k) (h3 : k.kind = .array comp ty) : ArrOfT s cA ty := fun n z => ⟨fun k h => (by cases h), k, h2, comp, h3⟩
set_option maxHeartbeats 4000000 in
set_option maxRecDepth 100000 in
/-- the law's walk out of the functional claim -/
theorem whole_of {p : Program} {e : Env} {s : State} {m : MethodId} {below : List Frame} {meth : Method} {c : Code} (l : Launch) {b L : Nat} {xs : Nat → Int32} (hf : f_L_law L xs [] = some ()) (C0 : lw_At p s m meth c b L xs) : W p l e room_1 s m #[Value.ref b] below meth c s.heap [] 0 0 (lw_Z below #[Value.ref b] s) (entryFrame m ([Value.ref b] : List Value).toArray 4) := by
  obtain ⟨hx, hb, hr, hml, hown, hts0, hX, hbl, hlocks, hgv⟩ := C0
  have hts : ∀ w ∈ TBg, w.before #[Value.ref b] s = true := fun w hw => hts0 w (List.mem_filter.mp hw).1
  obtain ⟨c0, i0, k0⟩ := u_known (C := RX0) (T := TX0) (N := 1) (n := 1) hts ut_X0 (hts _ (tb1 188 rfl rfl))
  obtain ⟨c1, i1, k1⟩ := u_known (C := RX1) (T := TX1) (N := 9) (n := 9) hts ut_X1 (hts _ (tb1 151 rfl rfl))
  obtain ⟨c2, i2, k2⟩ := u_known (C := RX2) (T := TX2) (N := 2) (n := 2) hts ut_X2 (hts _ (tb1 21 rfl rfl))
  obtain ⟨c3, i3, k3⟩ := u_known (C := RX3) (T := TX3) (N := 3) (n := 3) hts ut_X3 (hts _ (tb1 128 rfl rfl))
  obtain ⟨c4, i4, k4⟩ := u_known (C := RX4) (T := TX4) (N := 6) (n := 6) hts ut_X4 (hts _ (tb1 27 rfl rfl))
  obtain ⟨c5, i5, k5⟩ := u_known (C := RX5) (T := TX5) (N := 7) (n := 7) hts ut_X5 (hts _ (tb1 69 rfl rfl))
  obtain ⟨c6, i6, k6⟩ := u_known (C := RX6) (T := TX6) (N := 3) (n := 3) hts ut_X6 (hts _ (tb1 198 rfl rfl))
  obtain ⟨c7, i7, k7⟩ := u_known (C := RX7) (T := TX7) (N := 13) (n := 13) hts ut_X7 (hts _ (tb1 13 rfl rfl))
  obtain ⟨c8, i8, k8⟩ := u_known (C := RX8) (T := TX8) (N := 34) (n := 34) hts ut_X8 (hts _ (tb3 214 rfl rfl))
  obtain ⟨D, hKc⟩ : ∃ (D : va_G), ∀ (k : Nat) (q : vw_C), vwCl[k]? = some q → u_Kn s q.1 q.2.1 q.2.2 (D.1 k) (D.2 k) := by
    refine ⟨(fun k => if k = 0 then c0 else if k = 1 then c1 else if k = 2 then c2 else if k = 3 then c3 else if k = 4 then c4 else if k = 5 then c5 else if k = 6 then c6 else if k = 7 then c7 else c8, fun k => if k = 0 then i0 else if k = 1 then i1 else if k = 2 then i2 else if k = 3 then i3 else if k = 4 then i4 else if k = 5 then i5 else if k = 6 then i6 else if k = 7 then i7 else i8), ?_⟩
    intro k q hq
    match k, hq with
    | 0, hq => cases hq; exact k0
    | 1, hq => cases hq; exact k1
    | 2, hq => cases hq; exact k2
    | 3, hq => cases hq; exact k3
    | 4, hq => cases hq; exact k4
    | 5, hq => cases hq; exact k5
    | 6, hq => cases hq; exact k6
    | 7, hq => cases hq; exact k7
    | 8, hq => cases hq; exact k8
    | k + 9, hq => simp [vwCl] at hq
  obtain ⟨cA0, kA0, cm0, a1, a2, a3⟩ := Cond.arrayClass_spec (hts _ (tb1 66 rfl rfl))
  obtain ⟨cA1, kA1, cm1, b1, b2, b3⟩ := Cond.arrayClass_spec (hts _ (tb1 186 rfl rfl))
  have hovS := hts0 (.arrayOver (.object RX2)) (List.mem_append_right _ (List.mem_of_getElem? (i := 126) (by decide +kernel)))
  have hovT := hts0 (.arrayOver (.object RX5)) (List.mem_append_right _ (List.mem_of_getElem? (i := 68) (by decide +kernel)))
  have hovA := hts0 (.arrayOver (.array .long)) (List.mem_append_right _ (List.mem_of_getElem? (i := 157) (by decide +kernel)))
  obtain ⟨cm2, cA2, kA2, e1, -, e2, e3, e4⟩ := Cond.arrayOver_spec hovS
  obtain ⟨cm3, cA3, kA3, f1, -, f2, f3, f4⟩ := Cond.arrayOver_spec hovT
  obtain ⟨cm4, cA4, kA4, g1, -, g2, g3, g4⟩ := arrayOverA_spec hovA
  have hK : Kn D (fun k => if k = 0 then cA0 else if k = 1 then cA1 else if k = 2 then cA2 else if k = 3 then cA3 else cA4) s := by
    refine ⟨⟨hKc, fun k q hq => ?_⟩, fun w hw => ?_, va_AO.of hovS, va_AO.of hovT, hovA⟩
    · match k, hq with
      | 0, hq => cases hq; exact ⟨lw_ty a2 a3, a1⟩
      | 1, hq => cases hq; exact ⟨lw_ty b2 b3, b1⟩
      | 2, hq => cases hq; exact ⟨lw_ty e2 e3, kA2, cm2, e2, e3, e1, e4⟩
      | 3, hq => cases hq; exact ⟨lw_ty f2 f3, kA3, cm3, f2, f3, f1, f4⟩
      | 4, hq => cases hq; exact ⟨lw_ty g2 g3, g4⟩
      | k + 5, hq => simp [tysA] at hq
    · have hm := (List.mem_filter.mp hw).2
      have hm1 := (List.mem_filter.mp hw).1
      cases w <;> first | (cases hm; done) | exact va_Nw.of rfl (hts0 _ hm1)
  have hl := lv_entry ([.ref b]) (n := 4) (Nat.le_of_ble_eq_true rfl)
  rw [lg_entry_eq]
  exact law_walk (B := s.heap.size) ⟨hx, hb, hml, hown, hts, hK⟩ hr hlocks rfl hX hbl [] hf ⟨fun k q h => by simp [lay] at h, rfl⟩ va_S.rf hl
