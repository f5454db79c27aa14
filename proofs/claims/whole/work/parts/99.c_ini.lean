/-! ===== what the constructors leave ===== -/
abbrev sE : Type := Nat × Nat × List Int × List (Nat × Int)
/-- a field, told apart -/
def sV (v : Value) : Nat × Int := match v with
  | .null => (0, 0)
  | .int x => (1, x.toInt)
  | .ref a => (2, a)
  | _ => (9, 0)
def dV (t : Nat × Int) : Value := if t.1 = 1 then .int (I t.2) else if t.1 = 2 then .ref t.2.toNat else .null
def sh (e : mE) : sE := match e with
  | .inl (n, f) => (0, n, [(f 0).toInt, (f 1).toInt, (f 2).toInt, (f 3).toInt], [])
  | .inr (.inl (n, _)) => (1, n, [], [])
  | .inr (.inr (.inl (k, n, f))) => (2, n, [(k : Int)], (List.range n).map (fun i => match f i with
    | some v => (2, (v : Int))
    | none => (0, 0)))
  | .inr (.inr (.inr (c, fs))) => (3, c, [], fs.map sV)
def e7 : mE := eO 7 [.null, .null, .int 0, .int 0, .null, .null, .null, .null, .null, .null, .int 0, .int 0, .int 0]
def e8 : mE := eO 8 [.null, .int 0, .null, .null, .null, .null, .null, .null, .null, .int 0, .null, .null, .null, .null, .null, .null, .null, .null, .null, .null, .null, .null, .int 0, .int 0, .int 0, .int 0, .null, .null, .null, .int 0, .null, .int 0, .null, .int 0]
def ini : Option (Nat × Mm) := (f_X7_init [e7] 0).bind fun m4 => (nw m4 e8).bind fun m5 => (f_X8_init m5 m4.length).bind fun m8 => some (m4.length, m8)
def zR (n : Nat) (x : Int) : sE := (0, n, [x, 0, 0, 0], [])
def zI (n : Nat) : sE := zR n 0
def zJ (n : Nat) : sE := (1, n, [], [])
def tO (c : Nat) (fs : List (Nat × Int)) : sE := (3, c, [], fs)
def tR (k n : Nat) (fs : List (Nat × Int)) : sE := (2, n, [(k : Int)], fs)
def t4 (a : Int) : List sE := [tO 4 [(1, 0), (2, a + 1), (2, a + 2), (2, a + 3), (2, a + 4), (2, a + 5)], zI 32, zI 32, zI 32, zI 32, zI 32]
def t4' (a : Int) : List sE := [tO 4 [(1, 1), (2, a + 1), (2, a + 2), (2, a + 3), (2, a + 4), (2, a + 5)], zI 32, zI 32, zR 32 1, zR 32 (-1), zI 32]
def t5 (a : Int) : List sE := [tO 5 [(1, 0), (2, a + 1), (2, a + 2), (2, a + 3), (2, a + 4), (2, a + 5), (2, a + 6)], zI 6, zI 6, zI 6, zI 6, zI 6, zI 6]
def t2w (a : Int) : List sE := [tR 3 4 [(2, a + 8), (2, a + 15), (2, a + 22), (2, a + 29)]] ++ t5 (a + 8) ++ t5 (a + 15) ++ t5 (a + 22) ++ t5 (a + 29)
def t2 (a : Int) : List sE := [tO 2 [(2, a + 1), (2, a + 7)]] ++ t4 (a + 1) ++ t2w a
def t2' (a : Int) : List sE := [tO 2 [(2, a + 1), (2, a + 7)]] ++ t4' (a + 1) ++ t2w a
def tM (a : Int) (k : Nat) : List sE := tR 4 6 [(2, a + 1), (2, a + 2), (2, a + 3), (2, a + 4), (2, a + 5), (2, a + 6)] :: List.replicate 6 (zJ k)
def t1 (a : Int) : List sE := [tO 1 [(2, 2), (2, 46), (2, a + 1), (2, a + 2), (2, a + 9), (2, a + 16), (2, a + 23), (2, a + 30), (2, a + 31)], zI 6] ++ tM (a + 2) 32 ++ tM (a + 9) 33 ++ tM (a + 16) 33 ++ tM (a + 23) 32 ++ [zI 6, zJ 6]
def t7 : List sE := [tO 7 [(2, 1), (2, 37), (1, 0), (1, 0), (2, 38), (2, 40), (2, 46), (2, 53), (2, 85), (2, 87), (1, 0), (1, 0), (1, 0)]] ++ t2' 1 ++ [tR 2 8 [(2, 88), (2, 124), (2, 160), (2, 196), (2, 232), (2, 268), (2, 304), (2, 340)]] ++ [tO 3 [(2, 39), (1, 0), (1, 0)], zI 120] ++ t4 40 ++ t5 46 ++ t1 53 ++ [tO 0 [(2, 86)], zI 6] ++ [tO 6 [(1, 0), (1, 0), (1, -1)]] ++ t2 88 ++ t2 124 ++ t2 160 ++ t2 196 ++ t2 232 ++ t2 268 ++ t2 304 ++ t2 340
def t8 : List sE := [tO 8 [(2, 377), (1, 1), (2, 378), (2, 379), (2, 380), (2, 381), (2, 382), (2, 383), (2, 384), (1, 0), (2, 385), (2, 386), (2, 387), (2, 388), (2, 389), (2, 390), (2, 391), (2, 392), (2, 393), (2, 394), (2, 395), (2, 396), (1, 0), (1, 0), (1, 0), (1, 0), (2, 397), (2, 398), (2, 399), (1, 0), (2, 400), (1, 0), (2, 401), (1, 0)], zI 3, zI 32, zI 32, zR 32 1, zR 32 1, zR 32 (-1), zI 4, zI 144, zI 1960, zI 96, zI 6, zI 6, zJ 192, zJ 32, zJ 32, zJ 33, zI 6, zJ 32, zJ 32, zI 120, zI 32, zI 32, zI 32, zI 36, zI 256]
def eqL : List sE → List sE → Bool
  | [], [] => true
  | a :: l, b :: k => decide (a = b) && eqL l k
  | _, _ => false
theorem eqL_eq : ∀ {l k : List sE}, eqL l k = true → l = k
  | [], [], _ => rfl
  | [], _ :: _, h => Bool.noConfusion h
  | _ :: _, [], h => Bool.noConfusion h
  | a :: l, b :: k, h => by
    unfold eqL at h
    rw [Bool.and_eq_true] at h
    rw [of_decide_eq_true h.1, eqL_eq h.2]
def iniOk : Bool := match ini with
  | some t => decide (t.1 = 376) && eqL (t.2.map sh) (t7 ++ t8)
  | none => false
theorem ini_ok : iniOk = true := by decide +kernel
theorem ini_ex : ∃ m, ini = some (376, m) ∧ m.map sh = t7 ++ t8 := by
  have h := ini_ok
  unfold iniOk at h
  split at h
  · rename_i t ht
    rw [Bool.and_eq_true] at h
    refine ⟨t.2, ?_, eqL_eq h.2⟩
    rw [ht, ← of_decide_eq_true h.1]
  · exact Bool.noConfusion h
