/-! ===== CONSTRUCTORS ===== -/
theorem df0_X0 : ∀ j, j < 1 → defaultValue (tyX0 j) = vp_V [.null] j := by decide +kernel
theorem df_X0 {B : Nat} : ∀ j, j < 1 → defaultValue (tyX0 j) = vp_V (([.null] : List Value).map (upV B)) j := df0_X0
theorem df0_X1 : ∀ j, j < 9 → defaultValue (tyX1 j) = vp_V [.null, .null, .null, .null, .null, .null, .null, .null, .null] j := by decide +kernel
theorem df_X1 {B : Nat} : ∀ j, j < 9 → defaultValue (tyX1 j) = vp_V (([.null, .null, .null, .null, .null, .null, .null, .null, .null] : List Value).map (upV B)) j := df0_X1
theorem df0_X2 : ∀ j, j < 2 → defaultValue (tyX2 j) = vp_V [.null, .null] j := by decide +kernel
theorem df_X2 {B : Nat} : ∀ j, j < 2 → defaultValue (tyX2 j) = vp_V (([.null, .null] : List Value).map (upV B)) j := df0_X2
theorem df0_X3 : ∀ j, j < 3 → defaultValue (tyX3 j) = vp_V [.null, .int 0, .int 0] j := by decide +kernel
theorem df_X3 {B : Nat} : ∀ j, j < 3 → defaultValue (tyX3 j) = vp_V (([.null, .int 0, .int 0] : List Value).map (upV B)) j := df0_X3
theorem df0_X4 : ∀ j, j < 6 → defaultValue (tyX4 j) = vp_V [.int 0, .null, .null, .null, .null, .null] j := by decide +kernel
theorem df_X4 {B : Nat} : ∀ j, j < 6 → defaultValue (tyX4 j) = vp_V (([.int 0, .null, .null, .null, .null, .null] : List Value).map (upV B)) j := df0_X4
theorem df0_X5 : ∀ j, j < 7 → defaultValue (tyX5 j) = vp_V [.int 0, .null, .null, .null, .null, .null, .null] j := by decide +kernel
theorem df_X5 {B : Nat} : ∀ j, j < 7 → defaultValue (tyX5 j) = vp_V (([.int 0, .null, .null, .null, .null, .null, .null] : List Value).map (upV B)) j := df0_X5
theorem df0_X6 : ∀ j, j < 3 → defaultValue (tyX6 j) = vp_V [.int 0, .int 0, .int 0] j := by decide +kernel
theorem df_X6 {B : Nat} : ∀ j, j < 3 → defaultValue (tyX6 j) = vp_V (([.int 0, .int 0, .int 0] : List Value).map (upV B)) j := df0_X6
theorem df0_X7 : ∀ j, j < 13 → defaultValue (tyX7 j) = vp_V [.null, .null, .int 0, .int 0, .null, .null, .null, .null, .null, .null, .int 0, .int 0, .int 0] j := by decide +kernel
theorem df_X7 {B : Nat} : ∀ j, j < 13 → defaultValue (tyX7 j) = vp_V (([.null, .null, .int 0, .int 0, .null, .null, .null, .null, .null, .null, .int 0, .int 0, .int 0] : List Value).map (upV B)) j := df0_X7
theorem df0_X8 : ∀ j, j < 34 → defaultValue (tyX8 j) = vp_V [.null, .int 0, .null, .null, .null, .null, .null, .null, .null, .int 0, .null, .null, .null, .null, .null, .null, .null, .null, .null, .null, .null, .null, .int 0, .int 0, .int 0, .int 0, .null, .null, .null, .int 0, .null, .int 0, .null, .int 0] j := by decide +kernel
theorem df_X8 {B : Nat} : ∀ j, j < 34 → defaultValue (tyX8 j) = vp_V (([.null, .int 0, .null, .null, .null, .null, .null, .null, .null, .int 0, .null, .null, .null, .null, .null, .null, .null, .null, .null, .null, .null, .null, .int 0, .int 0, .int 0, .int 0, .null, .null, .null, .int 0, .null, .int 0, .null, .int 0] : List Value).map (upV B)) j := df0_X8
def f_X4_init (m : Mm) (x0 : Nat) : Option Mm := (pI m x0 4 0 (0 : Int32)).bind fun m1 => (nw m1 (eI 32 (fun _ => 0))).bind fun m3 => (pR m3 x0 4 1 (m1.length)).bind fun m5 => (nw m5 (eI 32 (fun _ => 0))).bind fun m7 => (pR m7 x0 4 2 (m5.length)).bind fun m9 => (nw m9 (eI 32 (fun _ => 0))).bind fun m11 => (pR m11 x0 4 3 (m9.length)).bind fun m13 => (nw m13 (eI 32 (fun _ => 0))).bind fun m15 => (pR m15 x0 4 4 (m13.length)).bind fun m17 => (nw m17 (eI 32 (fun _ => 0))).bind fun m19 => (pR m19 x0 4 5 (m17.length)).bind fun m21 => some m21
def f_X5_init (m : Mm) (x0 : Nat) : Option Mm := (pI m x0 5 0 (0 : Int32)).bind fun m1 => (nw m1 (eI 6 (fun _ => 0))).bind fun m3 => (pR m3 x0 5 1 (m1.length)).bind fun m5 => (nw m5 (eI 6 (fun _ => 0))).bind fun m7 => (pR m7 x0 5 2 (m5.length)).bind fun m9 => (nw m9 (eI 6 (fun _ => 0))).bind fun m11 => (pR m11 x0 5 3 (m9.length)).bind fun m13 => (nw m13 (eI 6 (fun _ => 0))).bind fun m15 => (pR m15 x0 5 4 (m13.length)).bind fun m17 => (nw m17 (eI 6 (fun _ => 0))).bind fun m19 => (pR m19 x0 5 5 (m17.length)).bind fun m21 => (nw m21 (eI 6 (fun _ => 0))).bind fun m23 => (pR m23 x0 5 6 (m21.length)).bind fun m25 => some m25
def f_X2_init (m : Mm) (x0 : Nat) : Option Mm := (nw m (eO 4 [.int 0, .null, .null, .null, .null, .null])).bind fun m1 => (f_X4_init m1 (m.length)).bind fun m4 => (pR m4 x0 2 0 (m.length)).bind fun m5 => (nw m5 (eR 3 4 (fun _ => none))).bind fun m7 => (pR m7 x0 2 1 (m5.length)).bind fun m9 => (gR m9 x0 2 1).bind fun v11 => (nw m9 (eO 5 [.int 0, .null, .null, .null, .null, .null, .null])).bind fun m13 => (f_X5_init m13 (m9.length)).bind fun m16 => cO m16 (m9.length) 5 <| (sR m16 v11 3 (0 : Int32) (m9.length)).bind fun m19 => (gR m19 x0 2 1).bind fun v21 => (nw m19 (eO 5 [.int 0, .null, .null, .null, .null, .null, .null])).bind fun m23 => (f_X5_init m23 (m19.length)).bind fun m26 => cO m26 (m19.length) 5 <| (sR m26 v21 3 (1 : Int32) (m19.length)).bind fun m29 => (gR m29 x0 2 1).bind fun v31 => (nw m29 (eO 5 [.int 0, .null, .null, .null, .null, .null, .null])).bind fun m33 => (f_X5_init m33 (m29.length)).bind fun m36 => cO m36 (m29.length) 5 <| (sR m36 v31 3 (2 : Int32) (m29.length)).bind fun m39 => (gR m39 x0 2 1).bind fun v41 => (nw m39 (eO 5 [.int 0, .null, .null, .null, .null, .null, .null])).bind fun m43 => (f_X5_init m43 (m39.length)).bind fun m46 => cO m46 (m39.length) 5 <| (sR m46 v41 3 (3 : Int32) (m39.length)).bind fun m49 => some m49
def f_X3_init (m : Mm) (x0 : Nat) : Option Mm := (nw m (eI 120 (fun _ => 0))).bind fun m1 => (pR m1 x0 3 0 (m.length)).bind fun m3 => (pI m3 x0 3 1 (0 : Int32)).bind fun m5 => (pI m5 x0 3 2 (0 : Int32)).bind fun m7 => some m7
def f_X6_init (m : Mm) (x0 : Nat) : Option Mm := (pI m x0 6 0 (0 : Int32)).bind fun m1 => (pI m1 x0 6 1 (0 : Int32)).bind fun m3 => (pI m3 x0 6 2 (-1 : Int32)).bind fun m5 => some m5
def f_X0_init (m : Mm) (x0 : Nat) : Option Mm := (nw m (eI 6 (fun _ => 0))).bind fun m1 => (pR m1 x0 0 0 (m.length)).bind fun m3 => some m3
def f_X1_init (m : Mm) (x0 : Nat) (x1 : Nat) (x2 : Nat) : Option Mm := (nw m (eI 6 (fun _ => 0))).bind fun m1 => (pR m1 x0 1 2 (m.length)).bind fun m3 => (nM m3 6 32).bind fun m5 => (pR m5 x0 1 3 (m3.length)).bind fun m7 => (nM m7 6 33).bind fun m9 => (pR m9 x0 1 4 (m7.length)).bind fun m11 => (nM m11 6 33).bind fun m13 => (pR m13 x0 1 5 (m11.length)).bind fun m15 => (nM m15 6 32).bind fun m17 => (pR m17 x0 1 6 (m15.length)).bind fun m19 => (nw m19 (eI 6 (fun _ => 0))).bind fun m21 => (pR m21 x0 1 7 (m19.length)).bind fun m23 => (nw m23 (eJ 6 (fun _ => 0))).bind fun m25 => (pR m25 x0 1 8 (m23.length)).bind fun m27 => (pR m27 x0 1 0 x1).bind fun m29 => (pR m29 x0 1 1 x2).bind fun m31 => some m31
def f_X7_init (m : Mm) (x0 : Nat) : Option Mm := (nw m (eO 2 [.null, .null])).bind fun m1 => (f_X2_init m1 (m.length)).bind fun m4 => (pR m4 x0 7 0 (m.length)).bind fun m5 => (nw m5 (eR 2 8 (fun _ => none))).bind fun m7 => (pR m7 x0 7 1 (m5.length)).bind fun m9 => (pI m9 x0 7 2 (0 : Int32)).bind fun m11 => (pI m11 x0 7 3 (0 : Int32)).bind fun m13 => (nw m13 (eO 3 [.null, .int 0, .int 0])).bind fun m15 => (f_X3_init m15 (m13.length)).bind fun m18 => (pR m18 x0 7 4 (m13.length)).bind fun m19 => (nw m19 (eO 4 [.int 0, .null, .null, .null, .null, .null])).bind fun m21 => (f_X4_init m21 (m19.length)).bind fun m24 => (pR m24 x0 7 5 (m19.length)).bind fun m25 => (nw m25 (eO 5 [.int 0, .null, .null, .null, .null, .null, .null])).bind fun m27 => (f_X5_init m27 (m25.length)).bind fun m30 => (pR m30 x0 7 6 (m25.length)).bind fun m31 => (nw m31 (eO 1 [.null, .null, .null, .null, .null, .null, .null, .null, .null])).bind fun m33 => (gR m33 x0 7 0).bind fun v35 => (gR m33 v35 2 0).bind fun v37 => (gR m33 x0 7 6).bind fun v39 => (f_X1_init m33 (m31.length) v37 v39).bind fun m42 => (pR m42 x0 7 7 (m31.length)).bind fun m43 => (nw m43 (eO 0 [.null])).bind fun m45 => (f_X0_init m45 (m43.length)).bind fun m48 => (pR m48 x0 7 8 (m43.length)).bind fun m49 => (nw m49 (eO 6 [.int 0, .int 0, .int 0])).bind fun m51 => (f_X6_init m51 (m49.length)).bind fun m54 => (pR m54 x0 7 9 (m49.length)).bind fun m55 => (pI m55 x0 7 10 (0 : Int32)).bind fun m57 => (pI m57 x0 7 11 (0 : Int32)).bind fun m59 => (pI m59 x0 7 12 (0 : Int32)).bind fun m61 => (gR m61 x0 7 1).bind fun v63 => (nw m61 (eO 2 [.null, .null])).bind fun m65 => (f_X2_init m65 (m61.length)).bind fun m68 => cO m68 (m61.length) 2 <| (sR m68 v63 2 (0 : Int32) (m61.length)).bind fun m71 => (gR m71 x0 7 1).bind fun v73 => (nw m71 (eO 2 [.null, .null])).bind fun m75 => (f_X2_init m75 (m71.length)).bind fun m78 => cO m78 (m71.length) 2 <| (sR m78 v73 2 (1 : Int32) (m71.length)).bind fun m81 => (gR m81 x0 7 1).bind fun v83 => (nw m81 (eO 2 [.null, .null])).bind fun m85 => (f_X2_init m85 (m81.length)).bind fun m88 => cO m88 (m81.length) 2 <| (sR m88 v83 2 (2 : Int32) (m81.length)).bind fun m91 => (gR m91 x0 7 1).bind fun v93 => (nw m91 (eO 2 [.null, .null])).bind fun m95 => (f_X2_init m95 (m91.length)).bind fun m98 => cO m98 (m91.length) 2 <| (sR m98 v93 2 (3 : Int32) (m91.length)).bind fun m101 => (gR m101 x0 7 1).bind fun v103 => (nw m101 (eO 2 [.null, .null])).bind fun m105 => (f_X2_init m105 (m101.length)).bind fun m108 => cO m108 (m101.length) 2 <| (sR m108 v103 2 (4 : Int32) (m101.length)).bind fun m111 => (gR m111 x0 7 1).bind fun v113 => (nw m111 (eO 2 [.null, .null])).bind fun m115 => (f_X2_init m115 (m111.length)).bind fun m118 => cO m118 (m111.length) 2 <| (sR m118 v113 2 (5 : Int32) (m111.length)).bind fun m121 => (gR m121 x0 7 1).bind fun v123 => (nw m121 (eO 2 [.null, .null])).bind fun m125 => (f_X2_init m125 (m121.length)).bind fun m128 => cO m128 (m121.length) 2 <| (sR m128 v123 2 (6 : Int32) (m121.length)).bind fun m131 => (gR m131 x0 7 1).bind fun v133 => (nw m131 (eO 2 [.null, .null])).bind fun m135 => (f_X2_init m135 (m131.length)).bind fun m138 => cO m138 (m131.length) 2 <| (sR m138 v133 2 (7 : Int32) (m131.length)).bind fun m141 => (gR m141 x0 7 0).bind fun v143 => (gR m141 v143 2 0).bind fun v145 => cO m141 v145 4 <| (f_X4_append m141 v145 (0 : Int32) (1 : Int32)).bind fun m150 => (gR m150 x0 7 0).bind fun v151 => (gR m150 v151 2 0).bind fun v153 => cO m150 v153 4 <| (f_X4_link m150 v153).bind fun m158 => some m158
def f_X8_init (m : Mm) (x0 : Nat) : Option Mm := (nw m (eI 3 (fun _ => 0))).bind fun m1 => (pR m1 x0 8 0 (m.length)).bind fun m3 => (pI m3 x0 8 1 (1 : Int32)).bind fun m5 => (nw m5 (eI 32 (fun _ => 0))).bind fun m7 => (pR m7 x0 8 2 (m5.length)).bind fun m9 => (nw m9 (eI 32 (fun _ => 0))).bind fun m11 => (pR m11 x0 8 3 (m9.length)).bind fun m13 => (nw m13 (eI 32 (fun _ => 0))).bind fun m15 => (sI m15 (m13.length) (0 : Int32) (1 : Int32)).bind fun m17 => (sI m17 (m13.length) (1 : Int32) (0 : Int32)).bind fun m19 => (sI m19 (m13.length) (2 : Int32) (0 : Int32)).bind fun m21 => (sI m21 (m13.length) (3 : Int32) (0 : Int32)).bind fun m23 => (sI m23 (m13.length) (4 : Int32) (0 : Int32)).bind fun m25 => (sI m25 (m13.length) (5 : Int32) (0 : Int32)).bind fun m27 => (sI m27 (m13.length) (6 : Int32) (0 : Int32)).bind fun m29 => (sI m29 (m13.length) (7 : Int32) (0 : Int32)).bind fun m31 => (sI m31 (m13.length) (8 : Int32) (0 : Int32)).bind fun m33 => (sI m33 (m13.length) (9 : Int32) (0 : Int32)).bind fun m35 => (sI m35 (m13.length) (10 : Int32) (0 : Int32)).bind fun m37 => (sI m37 (m13.length) (11 : Int32) (0 : Int32)).bind fun m39 => (sI m39 (m13.length) (12 : Int32) (0 : Int32)).bind fun m41 => (sI m41 (m13.length) (13 : Int32) (0 : Int32)).bind fun m43 => (sI m43 (m13.length) (14 : Int32) (0 : Int32)).bind fun m45 => (sI m45 (m13.length) (15 : Int32) (0 : Int32)).bind fun m47 => (sI m47 (m13.length) (16 : Int32) (0 : Int32)).bind fun m49 => (sI m49 (m13.length) (17 : Int32) (0 : Int32)).bind fun m51 => (sI m51 (m13.length) (18 : Int32) (0 : Int32)).bind fun m53 => (sI m53 (m13.length) (19 : Int32) (0 : Int32)).bind fun m55 => (sI m55 (m13.length) (20 : Int32) (0 : Int32)).bind fun m57 => (sI m57 (m13.length) (21 : Int32) (0 : Int32)).bind fun m59 => (sI m59 (m13.length) (22 : Int32) (0 : Int32)).bind fun m61 => (sI m61 (m13.length) (23 : Int32) (0 : Int32)).bind fun m63 => (sI m63 (m13.length) (24 : Int32) (0 : Int32)).bind fun m65 => (sI m65 (m13.length) (25 : Int32) (0 : Int32)).bind fun m67 => (sI m67 (m13.length) (26 : Int32) (0 : Int32)).bind fun m69 => (sI m69 (m13.length) (27 : Int32) (0 : Int32)).bind fun m71 => (sI m71 (m13.length) (28 : Int32) (0 : Int32)).bind fun m73 => (sI m73 (m13.length) (29 : Int32) (0 : Int32)).bind fun m75 => (sI m75 (m13.length) (30 : Int32) (0 : Int32)).bind fun m77 => (sI m77 (m13.length) (31 : Int32) (0 : Int32)).bind fun m79 => (pR m79 x0 8 4 (m13.length)).bind fun m81 => (nw m81 (eI 32 (fun _ => 0))).bind fun m83 => (sI m83 (m81.length) (0 : Int32) (1 : Int32)).bind fun m85 => (sI m85 (m81.length) (1 : Int32) (0 : Int32)).bind fun m87 => (sI m87 (m81.length) (2 : Int32) (0 : Int32)).bind fun m89 => (sI m89 (m81.length) (3 : Int32) (0 : Int32)).bind fun m91 => (sI m91 (m81.length) (4 : Int32) (0 : Int32)).bind fun m93 => (sI m93 (m81.length) (5 : Int32) (0 : Int32)).bind fun m95 => (sI m95 (m81.length) (6 : Int32) (0 : Int32)).bind fun m97 => (sI m97 (m81.length) (7 : Int32) (0 : Int32)).bind fun m99 => (sI m99 (m81.length) (8 : Int32) (0 : Int32)).bind fun m101 => (sI m101 (m81.length) (9 : Int32) (0 : Int32)).bind fun m103 => (sI m103 (m81.length) (10 : Int32) (0 : Int32)).bind fun m105 => (sI m105 (m81.length) (11 : Int32) (0 : Int32)).bind fun m107 => (sI m107 (m81.length) (12 : Int32) (0 : Int32)).bind fun m109 => (sI m109 (m81.length) (13 : Int32) (0 : Int32)).bind fun m111 => (sI m111 (m81.length) (14 : Int32) (0 : Int32)).bind fun m113 => (sI m113 (m81.length) (15 : Int32) (0 : Int32)).bind fun m115 => (sI m115 (m81.length) (16 : Int32) (0 : Int32)).bind fun m117 => (sI m117 (m81.length) (17 : Int32) (0 : Int32)).bind fun m119 => (sI m119 (m81.length) (18 : Int32) (0 : Int32)).bind fun m121 => (sI m121 (m81.length) (19 : Int32) (0 : Int32)).bind fun m123 => (sI m123 (m81.length) (20 : Int32) (0 : Int32)).bind fun m125 => (sI m125 (m81.length) (21 : Int32) (0 : Int32)).bind fun m127 => (sI m127 (m81.length) (22 : Int32) (0 : Int32)).bind fun m129 => (sI m129 (m81.length) (23 : Int32) (0 : Int32)).bind fun m131 => (sI m131 (m81.length) (24 : Int32) (0 : Int32)).bind fun m133 => (sI m133 (m81.length) (25 : Int32) (0 : Int32)).bind fun m135 => (sI m135 (m81.length) (26 : Int32) (0 : Int32)).bind fun m137 => (sI m137 (m81.length) (27 : Int32) (0 : Int32)).bind fun m139 => (sI m139 (m81.length) (28 : Int32) (0 : Int32)).bind fun m141 => (sI m141 (m81.length) (29 : Int32) (0 : Int32)).bind fun m143 => (sI m143 (m81.length) (30 : Int32) (0 : Int32)).bind fun m145 => (sI m145 (m81.length) (31 : Int32) (0 : Int32)).bind fun m147 => (pR m147 x0 8 5 (m81.length)).bind fun m149 => (nw m149 (eI 32 (fun _ => 0))).bind fun m151 => (sI m151 (m149.length) (0 : Int32) (-1 : Int32)).bind fun m153 => (sI m153 (m149.length) (1 : Int32) (0 : Int32)).bind fun m155 => (sI m155 (m149.length) (2 : Int32) (0 : Int32)).bind fun m157 => (sI m157 (m149.length) (3 : Int32) (0 : Int32)).bind fun m159 => (sI m159 (m149.length) (4 : Int32) (0 : Int32)).bind fun m161 => (sI m161 (m149.length) (5 : Int32) (0 : Int32)).bind fun m163 => (sI m163 (m149.length) (6 : Int32) (0 : Int32)).bind fun m165 => (sI m165 (m149.length) (7 : Int32) (0 : Int32)).bind fun m167 => (sI m167 (m149.length) (8 : Int32) (0 : Int32)).bind fun m169 => (sI m169 (m149.length) (9 : Int32) (0 : Int32)).bind fun m171 => (sI m171 (m149.length) (10 : Int32) (0 : Int32)).bind fun m173 => (sI m173 (m149.length) (11 : Int32) (0 : Int32)).bind fun m175 => (sI m175 (m149.length) (12 : Int32) (0 : Int32)).bind fun m177 => (sI m177 (m149.length) (13 : Int32) (0 : Int32)).bind fun m179 => (sI m179 (m149.length) (14 : Int32) (0 : Int32)).bind fun m181 => (sI m181 (m149.length) (15 : Int32) (0 : Int32)).bind fun m183 => (sI m183 (m149.length) (16 : Int32) (0 : Int32)).bind fun m185 => (sI m185 (m149.length) (17 : Int32) (0 : Int32)).bind fun m187 => (sI m187 (m149.length) (18 : Int32) (0 : Int32)).bind fun m189 => (sI m189 (m149.length) (19 : Int32) (0 : Int32)).bind fun m191 => (sI m191 (m149.length) (20 : Int32) (0 : Int32)).bind fun m193 => (sI m193 (m149.length) (21 : Int32) (0 : Int32)).bind fun m195 => (sI m195 (m149.length) (22 : Int32) (0 : Int32)).bind fun m197 => (sI m197 (m149.length) (23 : Int32) (0 : Int32)).bind fun m199 => (sI m199 (m149.length) (24 : Int32) (0 : Int32)).bind fun m201 => (sI m201 (m149.length) (25 : Int32) (0 : Int32)).bind fun m203 => (sI m203 (m149.length) (26 : Int32) (0 : Int32)).bind fun m205 => (sI m205 (m149.length) (27 : Int32) (0 : Int32)).bind fun m207 => (sI m207 (m149.length) (28 : Int32) (0 : Int32)).bind fun m209 => (sI m209 (m149.length) (29 : Int32) (0 : Int32)).bind fun m211 => (sI m211 (m149.length) (30 : Int32) (0 : Int32)).bind fun m213 => (sI m213 (m149.length) (31 : Int32) (0 : Int32)).bind fun m215 => (pR m215 x0 8 6 (m149.length)).bind fun m217 => (nw m217 (eI 4 (fun _ => 0))).bind fun m219 => (pR m219 x0 8 7 (m217.length)).bind fun m221 => (nw m221 (eI 144 (fun _ => 0))).bind fun m223 => (pR m223 x0 8 8 (m221.length)).bind fun m225 => (nw m225 (eI 1960 (fun _ => 0))).bind fun m227 => (pR m227 x0 8 10 (m225.length)).bind fun m229 => (nw m229 (eI 96 (fun _ => 0))).bind fun m231 => (pR m231 x0 8 11 (m229.length)).bind fun m233 => (nw m233 (eI 6 (fun _ => 0))).bind fun m235 => (pR m235 x0 8 12 (m233.length)).bind fun m237 => (nw m237 (eI 6 (fun _ => 0))).bind fun m239 => (pR m239 x0 8 13 (m237.length)).bind fun m241 => (nw m241 (eJ 192 (fun _ => 0))).bind fun m243 => (pR m243 x0 8 14 (m241.length)).bind fun m245 => (nw m245 (eJ 32 (fun _ => 0))).bind fun m247 => (pR m247 x0 8 15 (m245.length)).bind fun m249 => (nw m249 (eJ 32 (fun _ => 0))).bind fun m251 => (pR m251 x0 8 16 (m249.length)).bind fun m253 => (nw m253 (eJ 33 (fun _ => 0))).bind fun m255 => (pR m255 x0 8 17 (m253.length)).bind fun m257 => (nw m257 (eI 6 (fun _ => 0))).bind fun m259 => (pR m259 x0 8 18 (m257.length)).bind fun m261 => (nw m261 (eJ 32 (fun _ => 0))).bind fun m263 => (pR m263 x0 8 19 (m261.length)).bind fun m265 => (nw m265 (eJ 32 (fun _ => 0))).bind fun m267 => (pR m267 x0 8 20 (m265.length)).bind fun m269 => (nw m269 (eI 120 (fun _ => 0))).bind fun m271 => (pR m271 x0 8 21 (m269.length)).bind fun m273 => (nw m273 (eI 32 (fun _ => 0))).bind fun m275 => (pR m275 x0 8 26 (m273.length)).bind fun m277 => (nw m277 (eI 32 (fun _ => 0))).bind fun m279 => (pR m279 x0 8 27 (m277.length)).bind fun m281 => (nw m281 (eI 32 (fun _ => 0))).bind fun m283 => (pR m283 x0 8 28 (m281.length)).bind fun m285 => (nw m285 (eI 36 (fun _ => 0))).bind fun m287 => (pR m287 x0 8 30 (m285.length)).bind fun m289 => (nw m289 (eI 256 (fun _ => 0))).bind fun m291 => (pR m291 x0 8 32 (m289.length)).bind fun m293 => some m293
theorem dX4_init_0 : decode cX4_init 0 = .ok (.aload_n 0, 1) := by decide +kernel
theorem dX4_init_1 : decode cX4_init 1 = .ok (.invokespecial 3, 3) := by decide +kernel
theorem dX4_init_4 : decode cX4_init 4 = .ok (.aload_n 0, 1) := by decide +kernel
theorem dX4_init_5 : decode cX4_init 5 = .ok (.iconst 0, 1) := by decide +kernel
theorem dX4_init_6 : decode cX4_init 6 = .ok (.putfield 9, 3) := by decide +kernel
theorem dX4_init_9 : decode cX4_init 9 = .ok (.aload_n 0, 1) := by decide +kernel
theorem dX4_init_10 : decode cX4_init 10 = .ok (.bipush 32, 2) := by decide +kernel
theorem dX4_init_12 : decode cX4_init 12 = .ok (.newarray .int, 2) := by decide +kernel
theorem dX4_init_14 : decode cX4_init 14 = .ok (.putfield 15, 3) := by decide +kernel
theorem dX4_init_17 : decode cX4_init 17 = .ok (.aload_n 0, 1) := by decide +kernel
theorem dX4_init_18 : decode cX4_init 18 = .ok (.bipush 32, 2) := by decide +kernel
theorem dX4_init_20 : decode cX4_init 20 = .ok (.newarray .int, 2) := by decide +kernel
theorem dX4_init_22 : decode cX4_init 22 = .ok (.putfield 19, 3) := by decide +kernel
theorem dX4_init_25 : decode cX4_init 25 = .ok (.aload_n 0, 1) := by decide +kernel
theorem dX4_init_26 : decode cX4_init 26 = .ok (.bipush 32, 2) := by decide +kernel
theorem dX4_init_28 : decode cX4_init 28 = .ok (.newarray .int, 2) := by decide +kernel
theorem dX4_init_30 : decode cX4_init 30 = .ok (.putfield 22, 3) := by decide +kernel
theorem dX4_init_33 : decode cX4_init 33 = .ok (.aload_n 0, 1) := by decide +kernel
theorem dX4_init_34 : decode cX4_init 34 = .ok (.bipush 32, 2) := by decide +kernel
theorem dX4_init_36 : decode cX4_init 36 = .ok (.newarray .int, 2) := by decide +kernel
theorem dX4_init_38 : decode cX4_init 38 = .ok (.putfield 25, 3) := by decide +kernel
theorem dX4_init_41 : decode cX4_init 41 = .ok (.aload_n 0, 1) := by decide +kernel
theorem dX4_init_42 : decode cX4_init 42 = .ok (.bipush 32, 2) := by decide +kernel
theorem dX4_init_44 : decode cX4_init 44 = .ok (.newarray .int, 2) := by decide +kernel
theorem dX4_init_46 : decode cX4_init 46 = .ok (.putfield 28, 3) := by decide +kernel
theorem dX4_init_49 : decode cX4_init 49 = .ok (.return_, 1) := by decide +kernel
set_option maxHeartbeats 8000000 in
set_option maxRecDepth 100000 in
theorem c_X4_init (l : Launch) (B : Nat) (D : va_G) (cA : Nat → ClassId) (m : Mm) (x0 : Nat) (mZ : Mm) (hf : f_X4_init m x0 = some mZ) : Mt l B D cA yX4_init cX4_init 1 none 1 24 5 160 [.ref (B + x0)] m none mZ := by
  refine r_start (by decide) (Nat.le_of_ble_eq_true rfl) ?_
  intro p e s mt args below meth c ls H locs X hr hlocks hnm hR hl hS
  have hx := X.1
  have hb := X.2.1
  have hl : lv_has ls 1 [(0, .ref (B + x0))] := hl
  unfold f_X4_init at hf
  refine lv_aload_n hx hb dX4_init_0 rfl (lv_at hl 0 rfl) ?_
  refine W.objInit hx hb X.2.2.2.1 (X.2.2.2.2.1 _ (tb1 31 rfl rfl)) (X.2.2.2.2.1 _ (tb1 18 rfl rfl)) (X.2.2.2.2.1 _ (tb1 19 rfl rfl)) rfl (by rw [X.2.2.1]; exact hl.1) rfl dX4_init_1 (Nat.le_of_ble_eq_true rfl) (Nat.le_of_ble_eq_true rfl) ?_
  refine W.eq (g2 := F0 mt 4 ls []) rfl ?_
  refine lv_aload_n hx hb dX4_init_4 rfl (lv_at hl 0 rfl) ?_
  refine lv_iconst (v := 0) hx hb dX4_init_5 (by decide) ?_
  obtain ⟨m1, g2, hf⟩ := ob hf
  refine pI_X4_9 X hR hS g2 dX4_init_6 (fun H locs hR hS => ?_)
  refine lv_aload_n hx hb dX4_init_9 rfl (lv_at hl 0 rfl) ?_
  refine lv_bipush (v := 32) hx hb dX4_init_10 (by decide) ?_
  obtain ⟨m3, g4, hf⟩ := ob hf
  refine r_newI X (tb1 66 rfl rfl) hR hS g4 (by decide) (by decide) (Nat.le_of_ble_eq_true rfl) (Nat.le_of_ble_eq_true rfl) (Nat.le_of_ble_eq_true rfl) dX4_init_12 (fun H hR hS => ?_)
  obtain ⟨m5, g6, hf⟩ := ob hf
  refine pR_X4_15 X hnm hR hS g6 dX4_init_14 (fun H locs hR hS => ?_)
  refine lv_aload_n hx hb dX4_init_17 rfl (lv_at hl 0 rfl) ?_
  refine lv_bipush (v := 32) hx hb dX4_init_18 (by decide) ?_
  obtain ⟨m7, g8, hf⟩ := ob hf
  refine r_newI X (tb1 66 rfl rfl) hR hS g8 (by decide) (by decide) (Nat.le_of_ble_eq_true rfl) (Nat.le_of_ble_eq_true rfl) (Nat.le_of_ble_eq_true rfl) dX4_init_20 (fun H hR hS => ?_)
  obtain ⟨m9, g10, hf⟩ := ob hf
  refine pR_X4_19 X hnm hR hS g10 dX4_init_22 (fun H locs hR hS => ?_)
  refine lv_aload_n hx hb dX4_init_25 rfl (lv_at hl 0 rfl) ?_
  refine lv_bipush (v := 32) hx hb dX4_init_26 (by decide) ?_
  obtain ⟨m11, g12, hf⟩ := ob hf
  refine r_newI X (tb1 66 rfl rfl) hR hS g12 (by decide) (by decide) (Nat.le_of_ble_eq_true rfl) (Nat.le_of_ble_eq_true rfl) (Nat.le_of_ble_eq_true rfl) dX4_init_28 (fun H hR hS => ?_)
  obtain ⟨m13, g14, hf⟩ := ob hf
  refine pR_X4_22 X hnm hR hS g14 dX4_init_30 (fun H locs hR hS => ?_)
  refine lv_aload_n hx hb dX4_init_33 rfl (lv_at hl 0 rfl) ?_
  refine lv_bipush (v := 32) hx hb dX4_init_34 (by decide) ?_
  obtain ⟨m15, g16, hf⟩ := ob hf
  refine r_newI X (tb1 66 rfl rfl) hR hS g16 (by decide) (by decide) (Nat.le_of_ble_eq_true rfl) (Nat.le_of_ble_eq_true rfl) (Nat.le_of_ble_eq_true rfl) dX4_init_36 (fun H hR hS => ?_)
  obtain ⟨m17, g18, hf⟩ := ob hf
  refine pR_X4_25 X hnm hR hS g18 dX4_init_38 (fun H locs hR hS => ?_)
  refine lv_aload_n hx hb dX4_init_41 rfl (lv_at hl 0 rfl) ?_
  refine lv_bipush (v := 32) hx hb dX4_init_42 (by decide) ?_
  obtain ⟨m19, g20, hf⟩ := ob hf
  refine r_newI X (tb1 66 rfl rfl) hR hS g20 (by decide) (by decide) (Nat.le_of_ble_eq_true rfl) (Nat.le_of_ble_eq_true rfl) (Nat.le_of_ble_eq_true rfl) dX4_init_44 (fun H hR hS => ?_)
  obtain ⟨m21, g22, hf⟩ := ob hf
  refine pR_X4_28 X hnm hR hS g22 dX4_init_46 (fun H locs hR hS => ?_)
  obtain rfl := Option.some.inj hf
  exact r_vret X hr hlocks hR hS dX4_init_49
theorem dX5_init_0 : decode cX5_init 0 = .ok (.aload_n 0, 1) := by decide +kernel
theorem dX5_init_1 : decode cX5_init 1 = .ok (.invokespecial 3, 3) := by decide +kernel
theorem dX5_init_4 : decode cX5_init 4 = .ok (.aload_n 0, 1) := by decide +kernel
theorem dX5_init_5 : decode cX5_init 5 = .ok (.iconst 0, 1) := by decide +kernel
theorem dX5_init_6 : decode cX5_init 6 = .ok (.putfield 9, 3) := by decide +kernel
theorem dX5_init_9 : decode cX5_init 9 = .ok (.aload_n 0, 1) := by decide +kernel
theorem dX5_init_10 : decode cX5_init 10 = .ok (.bipush 6, 2) := by decide +kernel
theorem dX5_init_12 : decode cX5_init 12 = .ok (.newarray .int, 2) := by decide +kernel
theorem dX5_init_14 : decode cX5_init 14 = .ok (.putfield 15, 3) := by decide +kernel
theorem dX5_init_17 : decode cX5_init 17 = .ok (.aload_n 0, 1) := by decide +kernel
theorem dX5_init_18 : decode cX5_init 18 = .ok (.bipush 6, 2) := by decide +kernel
theorem dX5_init_20 : decode cX5_init 20 = .ok (.newarray .int, 2) := by decide +kernel
theorem dX5_init_22 : decode cX5_init 22 = .ok (.putfield 19, 3) := by decide +kernel
theorem dX5_init_25 : decode cX5_init 25 = .ok (.aload_n 0, 1) := by decide +kernel
theorem dX5_init_26 : decode cX5_init 26 = .ok (.bipush 6, 2) := by decide +kernel
theorem dX5_init_28 : decode cX5_init 28 = .ok (.newarray .int, 2) := by decide +kernel
theorem dX5_init_30 : decode cX5_init 30 = .ok (.putfield 22, 3) := by decide +kernel
theorem dX5_init_33 : decode cX5_init 33 = .ok (.aload_n 0, 1) := by decide +kernel
theorem dX5_init_34 : decode cX5_init 34 = .ok (.bipush 6, 2) := by decide +kernel
theorem dX5_init_36 : decode cX5_init 36 = .ok (.newarray .int, 2) := by decide +kernel
theorem dX5_init_38 : decode cX5_init 38 = .ok (.putfield 25, 3) := by decide +kernel
theorem dX5_init_41 : decode cX5_init 41 = .ok (.aload_n 0, 1) := by decide +kernel
theorem dX5_init_42 : decode cX5_init 42 = .ok (.bipush 6, 2) := by decide +kernel
theorem dX5_init_44 : decode cX5_init 44 = .ok (.newarray .int, 2) := by decide +kernel
theorem dX5_init_46 : decode cX5_init 46 = .ok (.putfield 28, 3) := by decide +kernel
theorem dX5_init_49 : decode cX5_init 49 = .ok (.aload_n 0, 1) := by decide +kernel
theorem dX5_init_50 : decode cX5_init 50 = .ok (.bipush 6, 2) := by decide +kernel
theorem dX5_init_52 : decode cX5_init 52 = .ok (.newarray .int, 2) := by decide +kernel
theorem dX5_init_54 : decode cX5_init 54 = .ok (.putfield 31, 3) := by decide +kernel
theorem dX5_init_57 : decode cX5_init 57 = .ok (.return_, 1) := by decide +kernel
set_option maxHeartbeats 8000000 in
set_option maxRecDepth 100000 in
theorem c_X5_init (l : Launch) (B : Nat) (D : va_G) (cA : Nat → ClassId) (m : Mm) (x0 : Nat) (mZ : Mm) (hf : f_X5_init m x0 = some mZ) : Mt l B D cA yX5_init cX5_init 1 none 1 24 6 36 [.ref (B + x0)] m none mZ := by
  refine r_start (by decide) (Nat.le_of_ble_eq_true rfl) ?_
  intro p e s mt args below meth c ls H locs X hr hlocks hnm hR hl hS
  have hx := X.1
  have hb := X.2.1
  have hl : lv_has ls 1 [(0, .ref (B + x0))] := hl
  unfold f_X5_init at hf
  refine lv_aload_n hx hb dX5_init_0 rfl (lv_at hl 0 rfl) ?_
  refine W.objInit hx hb X.2.2.2.1 (X.2.2.2.2.1 _ (tb1 73 rfl rfl)) (X.2.2.2.2.1 _ (tb1 18 rfl rfl)) (X.2.2.2.2.1 _ (tb1 19 rfl rfl)) rfl (by rw [X.2.2.1]; exact hl.1) rfl dX5_init_1 (Nat.le_of_ble_eq_true rfl) (Nat.le_of_ble_eq_true rfl) ?_
  refine W.eq (g2 := F0 mt 4 ls []) rfl ?_
  refine lv_aload_n hx hb dX5_init_4 rfl (lv_at hl 0 rfl) ?_
  refine lv_iconst (v := 0) hx hb dX5_init_5 (by decide) ?_
  obtain ⟨m1, g2, hf⟩ := ob hf
  refine pI_X5_9 X hR hS g2 dX5_init_6 (fun H locs hR hS => ?_)
  refine lv_aload_n hx hb dX5_init_9 rfl (lv_at hl 0 rfl) ?_
  refine lv_bipush (v := 6) hx hb dX5_init_10 (by decide) ?_
  obtain ⟨m3, g4, hf⟩ := ob hf
  refine r_newI X (tb1 66 rfl rfl) hR hS g4 (by decide) (by decide) (Nat.le_of_ble_eq_true rfl) (Nat.le_of_ble_eq_true rfl) (Nat.le_of_ble_eq_true rfl) dX5_init_12 (fun H hR hS => ?_)
  obtain ⟨m5, g6, hf⟩ := ob hf
  refine pR_X5_15 X hnm hR hS g6 dX5_init_14 (fun H locs hR hS => ?_)
  refine lv_aload_n hx hb dX5_init_17 rfl (lv_at hl 0 rfl) ?_
  refine lv_bipush (v := 6) hx hb dX5_init_18 (by decide) ?_
  obtain ⟨m7, g8, hf⟩ := ob hf
  refine r_newI X (tb1 66 rfl rfl) hR hS g8 (by decide) (by decide) (Nat.le_of_ble_eq_true rfl) (Nat.le_of_ble_eq_true rfl) (Nat.le_of_ble_eq_true rfl) dX5_init_20 (fun H hR hS => ?_)
  obtain ⟨m9, g10, hf⟩ := ob hf
  refine pR_X5_19 X hnm hR hS g10 dX5_init_22 (fun H locs hR hS => ?_)
  refine lv_aload_n hx hb dX5_init_25 rfl (lv_at hl 0 rfl) ?_
  refine lv_bipush (v := 6) hx hb dX5_init_26 (by decide) ?_
  obtain ⟨m11, g12, hf⟩ := ob hf
  refine r_newI X (tb1 66 rfl rfl) hR hS g12 (by decide) (by decide) (Nat.le_of_ble_eq_true rfl) (Nat.le_of_ble_eq_true rfl) (Nat.le_of_ble_eq_true rfl) dX5_init_28 (fun H hR hS => ?_)
  obtain ⟨m13, g14, hf⟩ := ob hf
  refine pR_X5_22 X hnm hR hS g14 dX5_init_30 (fun H locs hR hS => ?_)
  refine lv_aload_n hx hb dX5_init_33 rfl (lv_at hl 0 rfl) ?_
  refine lv_bipush (v := 6) hx hb dX5_init_34 (by decide) ?_
  obtain ⟨m15, g16, hf⟩ := ob hf
  refine r_newI X (tb1 66 rfl rfl) hR hS g16 (by decide) (by decide) (Nat.le_of_ble_eq_true rfl) (Nat.le_of_ble_eq_true rfl) (Nat.le_of_ble_eq_true rfl) dX5_init_36 (fun H hR hS => ?_)
  obtain ⟨m17, g18, hf⟩ := ob hf
  refine pR_X5_25 X hnm hR hS g18 dX5_init_38 (fun H locs hR hS => ?_)
  refine lv_aload_n hx hb dX5_init_41 rfl (lv_at hl 0 rfl) ?_
  refine lv_bipush (v := 6) hx hb dX5_init_42 (by decide) ?_
  obtain ⟨m19, g20, hf⟩ := ob hf
  refine r_newI X (tb1 66 rfl rfl) hR hS g20 (by decide) (by decide) (Nat.le_of_ble_eq_true rfl) (Nat.le_of_ble_eq_true rfl) (Nat.le_of_ble_eq_true rfl) dX5_init_44 (fun H hR hS => ?_)
  obtain ⟨m21, g22, hf⟩ := ob hf
  refine pR_X5_28 X hnm hR hS g22 dX5_init_46 (fun H locs hR hS => ?_)
  refine lv_aload_n hx hb dX5_init_49 rfl (lv_at hl 0 rfl) ?_
  refine lv_bipush (v := 6) hx hb dX5_init_50 (by decide) ?_
  obtain ⟨m23, g24, hf⟩ := ob hf
  refine r_newI X (tb1 66 rfl rfl) hR hS g24 (by decide) (by decide) (Nat.le_of_ble_eq_true rfl) (Nat.le_of_ble_eq_true rfl) (Nat.le_of_ble_eq_true rfl) dX5_init_52 (fun H hR hS => ?_)
  obtain ⟨m25, g26, hf⟩ := ob hf
  refine pR_X5_31 X hnm hR hS g26 dX5_init_54 (fun H locs hR hS => ?_)
  obtain rfl := Option.some.inj hf
  exact r_vret X hr hlocks hR hS dX5_init_57
theorem dX2_init_0 : decode cX2_init 0 = .ok (.aload_n 0, 1) := by decide +kernel
theorem dX2_init_1 : decode cX2_init 1 = .ok (.invokespecial 3, 3) := by decide +kernel
theorem dX2_init_4 : decode cX2_init 4 = .ok (.aload_n 0, 1) := by decide +kernel
theorem dX2_init_5 : decode cX2_init 5 = .ok (.new 9, 3) := by decide +kernel
theorem dX2_init_8 : decode cX2_init 8 = .ok (.dup, 1) := by decide +kernel
theorem dX2_init_9 : decode cX2_init 9 = .ok (.invokespecial 11, 3) := by decide +kernel
theorem dX2_init_12 : decode cX2_init 12 = .ok (.putfield 12, 3) := by decide +kernel
theorem dX2_init_15 : decode cX2_init 15 = .ok (.aload_n 0, 1) := by decide +kernel
theorem dX2_init_16 : decode cX2_init 16 = .ok (.iconst 4, 1) := by decide +kernel
theorem dX2_init_17 : decode cX2_init 17 = .ok (.anewarray 18, 3) := by decide +kernel
theorem dX2_init_20 : decode cX2_init 20 = .ok (.putfield 20, 3) := by decide +kernel
theorem dX2_init_23 : decode cX2_init 23 = .ok (.iconst 0, 1) := by decide +kernel
theorem dX2_init_24 : decode cX2_init 24 = .ok (.istore_n 1, 1) := by decide +kernel
theorem dX2_init_25 : decode cX2_init 25 = .ok (.iload_n 1, 1) := by decide +kernel
theorem dX2_init_26 : decode cX2_init 26 = .ok (.iconst 4, 1) := by decide +kernel
theorem dX2_init_27 : decode cX2_init 27 = .ok (.if_icmp .ge 22, 3) := by decide +kernel
theorem dX2_init_30 : decode cX2_init 30 = .ok (.aload_n 0, 1) := by decide +kernel
theorem dX2_init_31 : decode cX2_init 31 = .ok (.getfield 20, 3) := by decide +kernel
theorem dX2_init_34 : decode cX2_init 34 = .ok (.iload_n 1, 1) := by decide +kernel
theorem dX2_init_35 : decode cX2_init 35 = .ok (.new 18, 3) := by decide +kernel
theorem dX2_init_38 : decode cX2_init 38 = .ok (.dup, 1) := by decide +kernel
theorem dX2_init_39 : decode cX2_init 39 = .ok (.invokespecial 24, 3) := by decide +kernel
theorem dX2_init_42 : decode cX2_init 42 = .ok (.aastore, 1) := by decide +kernel
theorem dX2_init_43 : decode cX2_init 43 = .ok (.iinc 1 1, 3) := by decide +kernel
theorem dX2_init_46 : decode cX2_init 46 = .ok (.goto (-21), 3) := by decide +kernel
theorem dX2_init_49 : decode cX2_init 49 = .ok (.return_, 1) := by decide +kernel
set_option maxHeartbeats 8000000 in
set_option maxRecDepth 100000 in
theorem c_X2_init (l : Launch) (B : Nat) (D : va_G) (cA : Nat → ClassId) (m : Mm) (x0 : Nat) (mZ : Mm) (hf : f_X2_init m x0 = some mZ) : Mt l B D cA yX2_init cX2_init 2 none 2 44 35 342 [.ref (B + x0)] m none mZ := by
  refine r_start (by decide) (Nat.le_of_ble_eq_true rfl) ?_
  intro p e s mt args below meth c ls H locs X hr hlocks hnm hR hl hS
  have hx := X.1
  have hb := X.2.1
  have hl : lv_has ls 2 [(0, .ref (B + x0))] := hl
  unfold f_X2_init at hf
  refine lv_aload_n hx hb dX2_init_0 rfl (lv_at hl 0 rfl) ?_
  refine W.objInit hx hb X.2.2.2.1 (X.2.2.2.2.1 _ (tb1 25 rfl rfl)) (X.2.2.2.2.1 _ (tb1 18 rfl rfl)) (X.2.2.2.2.1 _ (tb1 19 rfl rfl)) rfl (by rw [X.2.2.1]; exact hl.1) rfl dX2_init_1 (Nat.le_of_ble_eq_true rfl) (Nat.le_of_ble_eq_true rfl) ?_
  refine W.eq (g2 := F0 mt 4 ls []) rfl ?_
  refine lv_aload_n hx hb dX2_init_4 rfl (lv_at hl 0 rfl) ?_
  obtain ⟨m1, g2, hf⟩ := ob hf
  refine r_newO X (ci := 4) (C := RX4) (T := TX4) (N := 6) (fs := [.int 0, .null, .null, .null, .null, .null]) rfl ut_X4 tyX4 tyX4_ok (tb1 26 rfl rfl) (tb1 27 rfl rfl) (tb1 3 rfl rfl) hR hS df_X4 g2 (Nat.le_of_ble_eq_true rfl) (Nat.le_of_ble_eq_true rfl) dX2_init_5 (fun H hR hS => ?_)
  refine lv_dup hx hb dX2_init_8 rfl ?_
  obtain ⟨m4, g3, hf⟩ := ob hf
  refine r_callIN X kw_X2_11 (c_X4_init l B D cA m1 (m.length) m4 g3) ⟨Nat.le_of_ble_eq_true rfl, Nat.le_of_ble_eq_true rfl⟩ hR hS hl.1 rfl rfl (Nat.le_of_ble_eq_true rfl) ⟨Nat.le_of_ble_eq_true rfl, Nat.le_of_ble_eq_true rfl⟩ dX2_init_9 (fun H locs hR hS => ?_)
  refine W.eq (g2 := F0 mt 12 ls [.ref (B + (m.length)), .ref (B + x0)]) rfl ?_
  obtain ⟨m5, g6, hf⟩ := ob hf
  refine pR_X2_12 X hnm hR hS g6 dX2_init_12 (fun H locs hR hS => ?_)
  refine lv_aload_n hx hb dX2_init_15 rfl (lv_at hl 0 rfl) ?_
  refine lv_iconst (v := 4) hx hb dX2_init_16 (by decide) ?_
  obtain ⟨m7, g8, hf⟩ := ob hf
  refine r_newA X (k := 3) (C := RX5) rfl (tb1 67 rfl rfl) X.2.2.2.2.2.2.2.2.1 hR hS g8 (by decide) (by decide) (Nat.le_of_ble_eq_true rfl) (Nat.le_of_ble_eq_true rfl) (Nat.le_of_ble_eq_true rfl) dX2_init_17 (fun H hR hS => ?_)
  obtain ⟨m9, g10, hf⟩ := ob hf
  refine pR_X2_20 X hnm hR hS g10 dX2_init_20 (fun H locs hR hS => ?_)
  refine lv_iconst (v := 0) hx hb dX2_init_23 (by decide) ?_
  refine lv_istore_n (lv' := [(1, .int (0 : Int32)), (0, .ref (B + x0))]) hx hb dX2_init_24 rfl hl (by decide) rfl (fun ls hl => ?_)
  refine lv_iload_n hx hb dX2_init_25 rfl (lv_at hl 0 rfl) ?_
  refine lv_iconst (v := 4) hx hb dX2_init_26 (by decide) ?_
  refine lv_icmp_ge (tgt := 49) hx hb dX2_init_27 (by decide) (fun cz => absurd cz (by decide)) (fun _ => ?_)
  refine lv_aload_n hx hb dX2_init_30 rfl (lv_at hl 1 rfl) ?_
  obtain ⟨v11, g12, hf⟩ := ob hf
  refine gR_X2_20 X hR g12 dX2_init_31 ?_
  refine lv_iload_n hx hb dX2_init_34 rfl (lv_at hl 0 rfl) ?_
  obtain ⟨m13, g14, hf⟩ := ob hf
  refine r_newO X (ci := 5) (C := RX5) (T := TX5) (N := 7) (fs := [.int 0, .null, .null, .null, .null, .null, .null]) rfl ut_X5 tyX5 tyX5_ok (tb1 67 rfl rfl) (tb1 69 rfl rfl) (tb1 4 rfl rfl) hR hS df_X5 g14 (Nat.le_of_ble_eq_true rfl) (Nat.le_of_ble_eq_true rfl) dX2_init_35 (fun H hR hS => ?_)
  refine lv_dup hx hb dX2_init_38 rfl ?_
  obtain ⟨m16, g15, hf⟩ := ob hf
  refine r_callIN X kw_X2_24 (c_X5_init l B D cA m13 (m9.length) m16 g15) ⟨Nat.le_of_ble_eq_true rfl, Nat.le_of_ble_eq_true rfl⟩ hR hS hl.1 rfl rfl (Nat.le_of_ble_eq_true rfl) ⟨Nat.le_of_ble_eq_true rfl, Nat.le_of_ble_eq_true rfl⟩ dX2_init_39 (fun H locs hR hS => ?_)
  refine W.eq (g2 := F0 mt 42 ls [.ref (B + (m9.length)), .int (0 : Int32), .ref (B + v11)]) rfl ?_
  obtain ⟨o17, h18, hf⟩ := obO hf
  obtain ⟨m19, g20, hf⟩ := ob hf
  refine r_sR X hR hS (k := 3) (ci := 5) (r := (RX5, TX5, 7)) rfl rfl h18 g20 dX2_init_42 (fun H locs hR hS => ?_)
  refine lv_iinc (v := 1) (lv' := [(1, .int (1 : Int32)), (0, .ref (B + x0))]) hx hb dX2_init_43 hl (k := 0) rfl (by decide) (by decide) rfl (fun ls hl => ?_)
  refine lv_goto (tgt := 25) hx hb dX2_init_46 (by decide) ?_
  refine lv_iload_n hx hb dX2_init_25 rfl (lv_at hl 0 rfl) ?_
  refine lv_iconst (v := 4) hx hb dX2_init_26 (by decide) ?_
  refine lv_icmp_ge (tgt := 49) hx hb dX2_init_27 (by decide) (fun cz => absurd cz (by decide)) (fun _ => ?_)
  refine lv_aload_n hx hb dX2_init_30 rfl (lv_at hl 1 rfl) ?_
  obtain ⟨v21, g22, hf⟩ := ob hf
  refine gR_X2_20 X hR g22 dX2_init_31 ?_
  refine lv_iload_n hx hb dX2_init_34 rfl (lv_at hl 0 rfl) ?_
  obtain ⟨m23, g24, hf⟩ := ob hf
  refine r_newO X (ci := 5) (C := RX5) (T := TX5) (N := 7) (fs := [.int 0, .null, .null, .null, .null, .null, .null]) rfl ut_X5 tyX5 tyX5_ok (tb1 67 rfl rfl) (tb1 69 rfl rfl) (tb1 4 rfl rfl) hR hS df_X5 g24 (Nat.le_of_ble_eq_true rfl) (Nat.le_of_ble_eq_true rfl) dX2_init_35 (fun H hR hS => ?_)
  refine lv_dup hx hb dX2_init_38 rfl ?_
  obtain ⟨m26, g25, hf⟩ := ob hf
  refine r_callIN X kw_X2_24 (c_X5_init l B D cA m23 (m19.length) m26 g25) ⟨Nat.le_of_ble_eq_true rfl, Nat.le_of_ble_eq_true rfl⟩ hR hS hl.1 rfl rfl (Nat.le_of_ble_eq_true rfl) ⟨Nat.le_of_ble_eq_true rfl, Nat.le_of_ble_eq_true rfl⟩ dX2_init_39 (fun H locs hR hS => ?_)
  refine W.eq (g2 := F0 mt 42 ls [.ref (B + (m19.length)), .int (1 : Int32), .ref (B + v21)]) rfl ?_
  obtain ⟨o27, h28, hf⟩ := obO hf
  obtain ⟨m29, g30, hf⟩ := ob hf
  refine r_sR X hR hS (k := 3) (ci := 5) (r := (RX5, TX5, 7)) rfl rfl h28 g30 dX2_init_42 (fun H locs hR hS => ?_)
  refine lv_iinc (v := 2) (lv' := [(1, .int (2 : Int32)), (0, .ref (B + x0))]) hx hb dX2_init_43 hl (k := 0) rfl (by decide) (by decide) rfl (fun ls hl => ?_)
  refine lv_goto (tgt := 25) hx hb dX2_init_46 (by decide) ?_
  refine lv_iload_n hx hb dX2_init_25 rfl (lv_at hl 0 rfl) ?_
  refine lv_iconst (v := 4) hx hb dX2_init_26 (by decide) ?_
  refine lv_icmp_ge (tgt := 49) hx hb dX2_init_27 (by decide) (fun cz => absurd cz (by decide)) (fun _ => ?_)
  refine lv_aload_n hx hb dX2_init_30 rfl (lv_at hl 1 rfl) ?_
  obtain ⟨v31, g32, hf⟩ := ob hf
  refine gR_X2_20 X hR g32 dX2_init_31 ?_
  refine lv_iload_n hx hb dX2_init_34 rfl (lv_at hl 0 rfl) ?_
  obtain ⟨m33, g34, hf⟩ := ob hf
  refine r_newO X (ci := 5) (C := RX5) (T := TX5) (N := 7) (fs := [.int 0, .null, .null, .null, .null, .null, .null]) rfl ut_X5 tyX5 tyX5_ok (tb1 67 rfl rfl) (tb1 69 rfl rfl) (tb1 4 rfl rfl) hR hS df_X5 g34 (Nat.le_of_ble_eq_true rfl) (Nat.le_of_ble_eq_true rfl) dX2_init_35 (fun H hR hS => ?_)
  refine lv_dup hx hb dX2_init_38 rfl ?_
  obtain ⟨m36, g35, hf⟩ := ob hf
  refine r_callIN X kw_X2_24 (c_X5_init l B D cA m33 (m29.length) m36 g35) ⟨Nat.le_of_ble_eq_true rfl, Nat.le_of_ble_eq_true rfl⟩ hR hS hl.1 rfl rfl (Nat.le_of_ble_eq_true rfl) ⟨Nat.le_of_ble_eq_true rfl, Nat.le_of_ble_eq_true rfl⟩ dX2_init_39 (fun H locs hR hS => ?_)
  refine W.eq (g2 := F0 mt 42 ls [.ref (B + (m29.length)), .int (2 : Int32), .ref (B + v31)]) rfl ?_
  obtain ⟨o37, h38, hf⟩ := obO hf
  obtain ⟨m39, g40, hf⟩ := ob hf
  refine r_sR X hR hS (k := 3) (ci := 5) (r := (RX5, TX5, 7)) rfl rfl h38 g40 dX2_init_42 (fun H locs hR hS => ?_)
  refine lv_iinc (v := 3) (lv' := [(1, .int (3 : Int32)), (0, .ref (B + x0))]) hx hb dX2_init_43 hl (k := 0) rfl (by decide) (by decide) rfl (fun ls hl => ?_)
  refine lv_goto (tgt := 25) hx hb dX2_init_46 (by decide) ?_
  refine lv_iload_n hx hb dX2_init_25 rfl (lv_at hl 0 rfl) ?_
  refine lv_iconst (v := 4) hx hb dX2_init_26 (by decide) ?_
  refine lv_icmp_ge (tgt := 49) hx hb dX2_init_27 (by decide) (fun cz => absurd cz (by decide)) (fun _ => ?_)
  refine lv_aload_n hx hb dX2_init_30 rfl (lv_at hl 1 rfl) ?_
  obtain ⟨v41, g42, hf⟩ := ob hf
  refine gR_X2_20 X hR g42 dX2_init_31 ?_
  refine lv_iload_n hx hb dX2_init_34 rfl (lv_at hl 0 rfl) ?_
  obtain ⟨m43, g44, hf⟩ := ob hf
  refine r_newO X (ci := 5) (C := RX5) (T := TX5) (N := 7) (fs := [.int 0, .null, .null, .null, .null, .null, .null]) rfl ut_X5 tyX5 tyX5_ok (tb1 67 rfl rfl) (tb1 69 rfl rfl) (tb1 4 rfl rfl) hR hS df_X5 g44 (Nat.le_of_ble_eq_true rfl) (Nat.le_of_ble_eq_true rfl) dX2_init_35 (fun H hR hS => ?_)
  refine lv_dup hx hb dX2_init_38 rfl ?_
  obtain ⟨m46, g45, hf⟩ := ob hf
  refine r_callIN X kw_X2_24 (c_X5_init l B D cA m43 (m39.length) m46 g45) ⟨Nat.le_of_ble_eq_true rfl, Nat.le_of_ble_eq_true rfl⟩ hR hS hl.1 rfl rfl (Nat.le_of_ble_eq_true rfl) ⟨Nat.le_of_ble_eq_true rfl, Nat.le_of_ble_eq_true rfl⟩ dX2_init_39 (fun H locs hR hS => ?_)
  refine W.eq (g2 := F0 mt 42 ls [.ref (B + (m39.length)), .int (3 : Int32), .ref (B + v41)]) rfl ?_
  obtain ⟨o47, h48, hf⟩ := obO hf
  obtain ⟨m49, g50, hf⟩ := ob hf
  refine r_sR X hR hS (k := 3) (ci := 5) (r := (RX5, TX5, 7)) rfl rfl h48 g50 dX2_init_42 (fun H locs hR hS => ?_)
  refine lv_iinc (v := 4) (lv' := [(1, .int (4 : Int32)), (0, .ref (B + x0))]) hx hb dX2_init_43 hl (k := 0) rfl (by decide) (by decide) rfl (fun ls hl => ?_)
  refine lv_goto (tgt := 25) hx hb dX2_init_46 (by decide) ?_
  refine lv_iload_n hx hb dX2_init_25 rfl (lv_at hl 0 rfl) ?_
  refine lv_iconst (v := 4) hx hb dX2_init_26 (by decide) ?_
  refine lv_icmp_ge (tgt := 49) hx hb dX2_init_27 (by decide) (fun _ => ?_) (fun cz => absurd (by decide) cz)
  obtain rfl := Option.some.inj hf
  exact r_vret X hr hlocks hR hS dX2_init_49
theorem dX3_init_0 : decode cX3_init 0 = .ok (.aload_n 0, 1) := by decide +kernel
theorem dX3_init_1 : decode cX3_init 1 = .ok (.invokespecial 3, 3) := by decide +kernel
theorem dX3_init_4 : decode cX3_init 4 = .ok (.aload_n 0, 1) := by decide +kernel
theorem dX3_init_5 : decode cX3_init 5 = .ok (.bipush 120, 2) := by decide +kernel
theorem dX3_init_7 : decode cX3_init 7 = .ok (.newarray .int, 2) := by decide +kernel
theorem dX3_init_9 : decode cX3_init 9 = .ok (.putfield 9, 3) := by decide +kernel
theorem dX3_init_12 : decode cX3_init 12 = .ok (.aload_n 0, 1) := by decide +kernel
theorem dX3_init_13 : decode cX3_init 13 = .ok (.iconst 0, 1) := by decide +kernel
theorem dX3_init_14 : decode cX3_init 14 = .ok (.putfield 15, 3) := by decide +kernel
theorem dX3_init_17 : decode cX3_init 17 = .ok (.aload_n 0, 1) := by decide +kernel
theorem dX3_init_18 : decode cX3_init 18 = .ok (.iconst 0, 1) := by decide +kernel
theorem dX3_init_19 : decode cX3_init 19 = .ok (.putfield 19, 3) := by decide +kernel
theorem dX3_init_22 : decode cX3_init 22 = .ok (.return_, 1) := by decide +kernel
set_option maxHeartbeats 8000000 in
set_option maxRecDepth 100000 in
theorem c_X3_init (l : Launch) (B : Nat) (D : va_G) (cA : Nat → ClassId) (m : Mm) (x0 : Nat) (mZ : Mm) (hf : f_X3_init m x0 = some mZ) : Mt l B D cA yX3_init cX3_init 1 none 1 24 1 120 [.ref (B + x0)] m none mZ := by
  refine r_start (by decide) (Nat.le_of_ble_eq_true rfl) ?_
  intro p e s mt args below meth c ls H locs X hr hlocks hnm hR hl hS
  have hx := X.1
  have hb := X.2.1
  have hl : lv_has ls 1 [(0, .ref (B + x0))] := hl
  unfold f_X3_init at hf
  refine lv_aload_n hx hb dX3_init_0 rfl (lv_at hl 0 rfl) ?_
  refine W.objInit hx hb X.2.2.2.1 (X.2.2.2.2.1 _ (tb1 132 rfl rfl)) (X.2.2.2.2.1 _ (tb1 18 rfl rfl)) (X.2.2.2.2.1 _ (tb1 19 rfl rfl)) rfl (by rw [X.2.2.1]; exact hl.1) rfl dX3_init_1 (Nat.le_of_ble_eq_true rfl) (Nat.le_of_ble_eq_true rfl) ?_
  refine W.eq (g2 := F0 mt 4 ls []) rfl ?_
  refine lv_aload_n hx hb dX3_init_4 rfl (lv_at hl 0 rfl) ?_
  refine lv_bipush (v := 120) hx hb dX3_init_5 (by decide) ?_
  obtain ⟨m1, g2, hf⟩ := ob hf
  refine r_newI X (tb1 66 rfl rfl) hR hS g2 (by decide) (by decide) (Nat.le_of_ble_eq_true rfl) (Nat.le_of_ble_eq_true rfl) (Nat.le_of_ble_eq_true rfl) dX3_init_7 (fun H hR hS => ?_)
  obtain ⟨m3, g4, hf⟩ := ob hf
  refine pR_X3_9 X hnm hR hS g4 dX3_init_9 (fun H locs hR hS => ?_)
  refine lv_aload_n hx hb dX3_init_12 rfl (lv_at hl 0 rfl) ?_
  refine lv_iconst (v := 0) hx hb dX3_init_13 (by decide) ?_
  obtain ⟨m5, g6, hf⟩ := ob hf
  refine pI_X3_15 X hR hS g6 dX3_init_14 (fun H locs hR hS => ?_)
  refine lv_aload_n hx hb dX3_init_17 rfl (lv_at hl 0 rfl) ?_
  refine lv_iconst (v := 0) hx hb dX3_init_18 (by decide) ?_
  obtain ⟨m7, g8, hf⟩ := ob hf
  refine pI_X3_19 X hR hS g8 dX3_init_19 (fun H locs hR hS => ?_)
  obtain rfl := Option.some.inj hf
  exact r_vret X hr hlocks hR hS dX3_init_22
theorem dX6_init_0 : decode cX6_init 0 = .ok (.aload_n 0, 1) := by decide +kernel
theorem dX6_init_1 : decode cX6_init 1 = .ok (.invokespecial 3, 3) := by decide +kernel
theorem dX6_init_4 : decode cX6_init 4 = .ok (.aload_n 0, 1) := by decide +kernel
theorem dX6_init_5 : decode cX6_init 5 = .ok (.iconst 0, 1) := by decide +kernel
theorem dX6_init_6 : decode cX6_init 6 = .ok (.putfield 9, 3) := by decide +kernel
theorem dX6_init_9 : decode cX6_init 9 = .ok (.aload_n 0, 1) := by decide +kernel
theorem dX6_init_10 : decode cX6_init 10 = .ok (.iconst 0, 1) := by decide +kernel
theorem dX6_init_11 : decode cX6_init 11 = .ok (.putfield 15, 3) := by decide +kernel
theorem dX6_init_14 : decode cX6_init 14 = .ok (.aload_n 0, 1) := by decide +kernel
theorem dX6_init_15 : decode cX6_init 15 = .ok (.iconst (-1), 1) := by decide +kernel
theorem dX6_init_16 : decode cX6_init 16 = .ok (.putfield 18, 3) := by decide +kernel
theorem dX6_init_19 : decode cX6_init 19 = .ok (.return_, 1) := by decide +kernel
set_option maxHeartbeats 8000000 in
set_option maxRecDepth 100000 in
theorem c_X6_init (l : Launch) (B : Nat) (D : va_G) (cA : Nat → ClassId) (m : Mm) (x0 : Nat) (mZ : Mm) (hf : f_X6_init m x0 = some mZ) : Mt l B D cA yX6_init cX6_init 1 none 1 24 0 0 [.ref (B + x0)] m none mZ := by
  refine r_start (by decide) (Nat.le_of_ble_eq_true rfl) ?_
  intro p e s mt args below meth c ls H locs X hr hlocks hnm hR hl hS
  have hx := X.1
  have hb := X.2.1
  have hl : lv_has ls 1 [(0, .ref (B + x0))] := hl
  unfold f_X6_init at hf
  refine lv_aload_n hx hb dX6_init_0 rfl (lv_at hl 0 rfl) ?_
  refine W.objInit hx hb X.2.2.2.1 (X.2.2.2.2.1 _ (tb1 202 rfl rfl)) (X.2.2.2.2.1 _ (tb1 18 rfl rfl)) (X.2.2.2.2.1 _ (tb1 19 rfl rfl)) rfl (by rw [X.2.2.1]; exact hl.1) rfl dX6_init_1 (Nat.le_of_ble_eq_true rfl) (Nat.le_of_ble_eq_true rfl) ?_
  refine W.eq (g2 := F0 mt 4 ls []) rfl ?_
  refine lv_aload_n hx hb dX6_init_4 rfl (lv_at hl 0 rfl) ?_
  refine lv_iconst (v := 0) hx hb dX6_init_5 (by decide) ?_
  obtain ⟨m1, g2, hf⟩ := ob hf
  refine pI_X6_9 X hR hS g2 dX6_init_6 (fun H locs hR hS => ?_)
  refine lv_aload_n hx hb dX6_init_9 rfl (lv_at hl 0 rfl) ?_
  refine lv_iconst (v := 0) hx hb dX6_init_10 (by decide) ?_
  obtain ⟨m3, g4, hf⟩ := ob hf
  refine pI_X6_15 X hR hS g4 dX6_init_11 (fun H locs hR hS => ?_)
  refine lv_aload_n hx hb dX6_init_14 rfl (lv_at hl 0 rfl) ?_
  refine lv_iconst (v := -1) hx hb dX6_init_15 (by decide) ?_
  obtain ⟨m5, g6, hf⟩ := ob hf
  refine pI_X6_18 X hR hS g6 dX6_init_16 (fun H locs hR hS => ?_)
  obtain rfl := Option.some.inj hf
  exact r_vret X hr hlocks hR hS dX6_init_19
theorem dX0_init_0 : decode cX0_init 0 = .ok (.aload_n 0, 1) := by decide +kernel
theorem dX0_init_1 : decode cX0_init 1 = .ok (.invokespecial 3, 3) := by decide +kernel
theorem dX0_init_4 : decode cX0_init 4 = .ok (.aload_n 0, 1) := by decide +kernel
theorem dX0_init_5 : decode cX0_init 5 = .ok (.bipush 6, 2) := by decide +kernel
theorem dX0_init_7 : decode cX0_init 7 = .ok (.newarray .int, 2) := by decide +kernel
theorem dX0_init_9 : decode cX0_init 9 = .ok (.putfield 9, 3) := by decide +kernel
theorem dX0_init_12 : decode cX0_init 12 = .ok (.return_, 1) := by decide +kernel
set_option maxHeartbeats 8000000 in
set_option maxRecDepth 100000 in
theorem c_X0_init (l : Launch) (B : Nat) (D : va_G) (cA : Nat → ClassId) (m : Mm) (x0 : Nat) (mZ : Mm) (hf : f_X0_init m x0 = some mZ) : Mt l B D cA yX0_init cX0_init 1 none 1 24 1 6 [.ref (B + x0)] m none mZ := by
  refine r_start (by decide) (Nat.le_of_ble_eq_true rfl) ?_
  intro p e s mt args below meth c ls H locs X hr hlocks hnm hR hl hS
  have hx := X.1
  have hb := X.2.1
  have hl : lv_has ls 1 [(0, .ref (B + x0))] := hl
  unfold f_X0_init at hf
  refine lv_aload_n hx hb dX0_init_0 rfl (lv_at hl 0 rfl) ?_
  refine W.objInit hx hb X.2.2.2.1 (X.2.2.2.2.1 _ (tb1 192 rfl rfl)) (X.2.2.2.2.1 _ (tb1 18 rfl rfl)) (X.2.2.2.2.1 _ (tb1 19 rfl rfl)) rfl (by rw [X.2.2.1]; exact hl.1) rfl dX0_init_1 (Nat.le_of_ble_eq_true rfl) (Nat.le_of_ble_eq_true rfl) ?_
  refine W.eq (g2 := F0 mt 4 ls []) rfl ?_
  refine lv_aload_n hx hb dX0_init_4 rfl (lv_at hl 0 rfl) ?_
  refine lv_bipush (v := 6) hx hb dX0_init_5 (by decide) ?_
  obtain ⟨m1, g2, hf⟩ := ob hf
  refine r_newI X (tb1 66 rfl rfl) hR hS g2 (by decide) (by decide) (Nat.le_of_ble_eq_true rfl) (Nat.le_of_ble_eq_true rfl) (Nat.le_of_ble_eq_true rfl) dX0_init_7 (fun H hR hS => ?_)
  obtain ⟨m3, g4, hf⟩ := ob hf
  refine pR_X0_9 X hnm hR hS g4 dX0_init_9 (fun H locs hR hS => ?_)
  obtain rfl := Option.some.inj hf
  exact r_vret X hr hlocks hR hS dX0_init_12
theorem dX1_init_0 : decode cX1_init 0 = .ok (.aload_n 0, 1) := by decide +kernel
theorem dX1_init_1 : decode cX1_init 1 = .ok (.invokespecial 3, 3) := by decide +kernel
theorem dX1_init_4 : decode cX1_init 4 = .ok (.aload_n 0, 1) := by decide +kernel
theorem dX1_init_5 : decode cX1_init 5 = .ok (.bipush 6, 2) := by decide +kernel
theorem dX1_init_7 : decode cX1_init 7 = .ok (.newarray .int, 2) := by decide +kernel
theorem dX1_init_9 : decode cX1_init 9 = .ok (.putfield 9, 3) := by decide +kernel
theorem dX1_init_12 : decode cX1_init 12 = .ok (.aload_n 0, 1) := by decide +kernel
theorem dX1_init_13 : decode cX1_init 13 = .ok (.bipush 6, 2) := by decide +kernel
theorem dX1_init_15 : decode cX1_init 15 = .ok (.bipush 32, 2) := by decide +kernel
theorem dX1_init_17 : decode cX1_init 17 = .ok (.multianewarray 15 2, 4) := by decide +kernel
theorem dX1_init_21 : decode cX1_init 21 = .ok (.putfield 17, 3) := by decide +kernel
theorem dX1_init_24 : decode cX1_init 24 = .ok (.aload_n 0, 1) := by decide +kernel
theorem dX1_init_25 : decode cX1_init 25 = .ok (.bipush 6, 2) := by decide +kernel
theorem dX1_init_27 : decode cX1_init 27 = .ok (.bipush 33, 2) := by decide +kernel
theorem dX1_init_29 : decode cX1_init 29 = .ok (.multianewarray 15 2, 4) := by decide +kernel
theorem dX1_init_33 : decode cX1_init 33 = .ok (.putfield 20, 3) := by decide +kernel
theorem dX1_init_36 : decode cX1_init 36 = .ok (.aload_n 0, 1) := by decide +kernel
theorem dX1_init_37 : decode cX1_init 37 = .ok (.bipush 6, 2) := by decide +kernel
theorem dX1_init_39 : decode cX1_init 39 = .ok (.bipush 33, 2) := by decide +kernel
theorem dX1_init_41 : decode cX1_init 41 = .ok (.multianewarray 15 2, 4) := by decide +kernel
theorem dX1_init_45 : decode cX1_init 45 = .ok (.putfield 23, 3) := by decide +kernel
theorem dX1_init_48 : decode cX1_init 48 = .ok (.aload_n 0, 1) := by decide +kernel
theorem dX1_init_49 : decode cX1_init 49 = .ok (.bipush 6, 2) := by decide +kernel
theorem dX1_init_51 : decode cX1_init 51 = .ok (.bipush 32, 2) := by decide +kernel
theorem dX1_init_53 : decode cX1_init 53 = .ok (.multianewarray 15 2, 4) := by decide +kernel
theorem dX1_init_57 : decode cX1_init 57 = .ok (.putfield 26, 3) := by decide +kernel
theorem dX1_init_60 : decode cX1_init 60 = .ok (.aload_n 0, 1) := by decide +kernel
theorem dX1_init_61 : decode cX1_init 61 = .ok (.bipush 6, 2) := by decide +kernel
theorem dX1_init_63 : decode cX1_init 63 = .ok (.newarray .int, 2) := by decide +kernel
theorem dX1_init_65 : decode cX1_init 65 = .ok (.putfield 29, 3) := by decide +kernel
theorem dX1_init_68 : decode cX1_init 68 = .ok (.aload_n 0, 1) := by decide +kernel
theorem dX1_init_69 : decode cX1_init 69 = .ok (.bipush 6, 2) := by decide +kernel
theorem dX1_init_71 : decode cX1_init 71 = .ok (.newarray .long, 2) := by decide +kernel
theorem dX1_init_73 : decode cX1_init 73 = .ok (.putfield 32, 3) := by decide +kernel
theorem dX1_init_76 : decode cX1_init 76 = .ok (.aload_n 0, 1) := by decide +kernel
theorem dX1_init_77 : decode cX1_init 77 = .ok (.aload_n 1, 1) := by decide +kernel
theorem dX1_init_78 : decode cX1_init 78 = .ok (.putfield 36, 3) := by decide +kernel
theorem dX1_init_81 : decode cX1_init 81 = .ok (.aload_n 0, 1) := by decide +kernel
theorem dX1_init_82 : decode cX1_init 82 = .ok (.aload_n 2, 1) := by decide +kernel
theorem dX1_init_83 : decode cX1_init 83 = .ok (.putfield 40, 3) := by decide +kernel
theorem dX1_init_86 : decode cX1_init 86 = .ok (.return_, 1) := by decide +kernel
set_option maxHeartbeats 8000000 in
set_option maxRecDepth 100000 in
theorem c_X1_init (l : Launch) (B : Nat) (D : va_G) (cA : Nat → ClassId) (m : Mm) (x0 : Nat) (x1 : Nat) (x2 : Nat) (mZ : Mm) (hf : f_X1_init m x0 x1 x2 = some mZ) : Mt l B D cA yX1_init cX1_init 3 none 1 24 31 822 [.ref (B + x0), .ref (B + x1), .ref (B + x2)] m none mZ := by
  refine r_start (by decide) (Nat.le_of_ble_eq_true rfl) ?_
  intro p e s mt args below meth c ls H locs X hr hlocks hnm hR hl hS
  have hx := X.1
  have hb := X.2.1
  have hl : lv_has ls 3 [(0, .ref (B + x0)), (1, .ref (B + x1)), (2, .ref (B + x2))] := hl
  unfold f_X1_init at hf
  refine lv_aload_n hx hb dX1_init_0 rfl (lv_at hl 0 rfl) ?_
  refine W.objInit hx hb X.2.2.2.1 (X.2.2.2.2.1 _ (tb1 155 rfl rfl)) (X.2.2.2.2.1 _ (tb1 18 rfl rfl)) (X.2.2.2.2.1 _ (tb1 19 rfl rfl)) rfl (by rw [X.2.2.1]; exact hl.1) rfl dX1_init_1 (Nat.le_of_ble_eq_true rfl) (Nat.le_of_ble_eq_true rfl) ?_
  refine W.eq (g2 := F0 mt 4 ls []) rfl ?_
  refine lv_aload_n hx hb dX1_init_4 rfl (lv_at hl 0 rfl) ?_
  refine lv_bipush (v := 6) hx hb dX1_init_5 (by decide) ?_
  obtain ⟨m1, g2, hf⟩ := ob hf
  refine r_newI X (tb1 66 rfl rfl) hR hS g2 (by decide) (by decide) (Nat.le_of_ble_eq_true rfl) (Nat.le_of_ble_eq_true rfl) (Nat.le_of_ble_eq_true rfl) dX1_init_7 (fun H hR hS => ?_)
  obtain ⟨m3, g4, hf⟩ := ob hf
  refine pR_X1_9 X hnm hR hS g4 dX1_init_9 (fun H locs hR hS => ?_)
  refine lv_aload_n hx hb dX1_init_12 rfl (lv_at hl 0 rfl) ?_
  refine lv_bipush (v := 6) hx hb dX1_init_13 (by decide) ?_
  refine lv_bipush (v := 32) hx hb dX1_init_15 (by decide) ?_
  obtain ⟨m5, g6, hf⟩ := ob hf
  refine r_newM X (tb1 156 rfl rfl) (tb1 186 rfl rfl) hR hS g6 (by decide) (by decide) (by decide) (by decide) (Nat.le_of_ble_eq_true rfl) (Nat.le_of_ble_eq_true rfl) (Nat.le_of_ble_eq_true rfl) (Nat.le_of_ble_eq_true rfl) dX1_init_17 (fun H hR hS => ?_)
  obtain ⟨m7, g8, hf⟩ := ob hf
  refine pR_X1_17 X hnm hR hS g8 dX1_init_21 (fun H locs hR hS => ?_)
  refine lv_aload_n hx hb dX1_init_24 rfl (lv_at hl 0 rfl) ?_
  refine lv_bipush (v := 6) hx hb dX1_init_25 (by decide) ?_
  refine lv_bipush (v := 33) hx hb dX1_init_27 (by decide) ?_
  obtain ⟨m9, g10, hf⟩ := ob hf
  refine r_newM X (tb1 156 rfl rfl) (tb1 186 rfl rfl) hR hS g10 (by decide) (by decide) (by decide) (by decide) (Nat.le_of_ble_eq_true rfl) (Nat.le_of_ble_eq_true rfl) (Nat.le_of_ble_eq_true rfl) (Nat.le_of_ble_eq_true rfl) dX1_init_29 (fun H hR hS => ?_)
  obtain ⟨m11, g12, hf⟩ := ob hf
  refine pR_X1_20 X hnm hR hS g12 dX1_init_33 (fun H locs hR hS => ?_)
  refine lv_aload_n hx hb dX1_init_36 rfl (lv_at hl 0 rfl) ?_
  refine lv_bipush (v := 6) hx hb dX1_init_37 (by decide) ?_
  refine lv_bipush (v := 33) hx hb dX1_init_39 (by decide) ?_
  obtain ⟨m13, g14, hf⟩ := ob hf
  refine r_newM X (tb1 156 rfl rfl) (tb1 186 rfl rfl) hR hS g14 (by decide) (by decide) (by decide) (by decide) (Nat.le_of_ble_eq_true rfl) (Nat.le_of_ble_eq_true rfl) (Nat.le_of_ble_eq_true rfl) (Nat.le_of_ble_eq_true rfl) dX1_init_41 (fun H hR hS => ?_)
  obtain ⟨m15, g16, hf⟩ := ob hf
  refine pR_X1_23 X hnm hR hS g16 dX1_init_45 (fun H locs hR hS => ?_)
  refine lv_aload_n hx hb dX1_init_48 rfl (lv_at hl 0 rfl) ?_
  refine lv_bipush (v := 6) hx hb dX1_init_49 (by decide) ?_
  refine lv_bipush (v := 32) hx hb dX1_init_51 (by decide) ?_
  obtain ⟨m17, g18, hf⟩ := ob hf
  refine r_newM X (tb1 156 rfl rfl) (tb1 186 rfl rfl) hR hS g18 (by decide) (by decide) (by decide) (by decide) (Nat.le_of_ble_eq_true rfl) (Nat.le_of_ble_eq_true rfl) (Nat.le_of_ble_eq_true rfl) (Nat.le_of_ble_eq_true rfl) dX1_init_53 (fun H hR hS => ?_)
  obtain ⟨m19, g20, hf⟩ := ob hf
  refine pR_X1_26 X hnm hR hS g20 dX1_init_57 (fun H locs hR hS => ?_)
  refine lv_aload_n hx hb dX1_init_60 rfl (lv_at hl 0 rfl) ?_
  refine lv_bipush (v := 6) hx hb dX1_init_61 (by decide) ?_
  obtain ⟨m21, g22, hf⟩ := ob hf
  refine r_newI X (tb1 66 rfl rfl) hR hS g22 (by decide) (by decide) (Nat.le_of_ble_eq_true rfl) (Nat.le_of_ble_eq_true rfl) (Nat.le_of_ble_eq_true rfl) dX1_init_63 (fun H hR hS => ?_)
  obtain ⟨m23, g24, hf⟩ := ob hf
  refine pR_X1_29 X hnm hR hS g24 dX1_init_65 (fun H locs hR hS => ?_)
  refine lv_aload_n hx hb dX1_init_68 rfl (lv_at hl 0 rfl) ?_
  refine lv_bipush (v := 6) hx hb dX1_init_69 (by decide) ?_
  obtain ⟨m25, g26, hf⟩ := ob hf
  refine r_newJ X (tb1 186 rfl rfl) hR hS g26 (by decide) (by decide) (Nat.le_of_ble_eq_true rfl) (Nat.le_of_ble_eq_true rfl) (Nat.le_of_ble_eq_true rfl) dX1_init_71 (fun H hR hS => ?_)
  obtain ⟨m27, g28, hf⟩ := ob hf
  refine pR_X1_32 X hnm hR hS g28 dX1_init_73 (fun H locs hR hS => ?_)
  refine lv_aload_n hx hb dX1_init_76 rfl (lv_at hl 0 rfl) ?_
  refine lv_aload_n hx hb dX1_init_77 rfl (lv_at hl 1 rfl) ?_
  obtain ⟨m29, g30, hf⟩ := ob hf
  refine pR_X1_36 X hnm hR hS g30 dX1_init_78 (fun H locs hR hS => ?_)
  refine lv_aload_n hx hb dX1_init_81 rfl (lv_at hl 0 rfl) ?_
  refine lv_aload_n hx hb dX1_init_82 rfl (lv_at hl 2 rfl) ?_
  obtain ⟨m31, g32, hf⟩ := ob hf
  refine pR_X1_40 X hR hS g32 dX1_init_83 (fun H locs hR hS => ?_)
  obtain rfl := Option.some.inj hf
  exact r_vret X hr hlocks hR hS dX1_init_86
theorem dX7_init_0 : decode cX7_init 0 = .ok (.aload_n 0, 1) := by decide +kernel
theorem dX7_init_1 : decode cX7_init 1 = .ok (.invokespecial 3, 3) := by decide +kernel
theorem dX7_init_4 : decode cX7_init 4 = .ok (.aload_n 0, 1) := by decide +kernel
theorem dX7_init_5 : decode cX7_init 5 = .ok (.new 9, 3) := by decide +kernel
theorem dX7_init_8 : decode cX7_init 8 = .ok (.dup, 1) := by decide +kernel
theorem dX7_init_9 : decode cX7_init 9 = .ok (.invokespecial 11, 3) := by decide +kernel
theorem dX7_init_12 : decode cX7_init 12 = .ok (.putfield 12, 3) := by decide +kernel
theorem dX7_init_15 : decode cX7_init 15 = .ok (.aload_n 0, 1) := by decide +kernel
theorem dX7_init_16 : decode cX7_init 16 = .ok (.bipush 8, 2) := by decide +kernel
theorem dX7_init_18 : decode cX7_init 18 = .ok (.anewarray 9, 3) := by decide +kernel
theorem dX7_init_21 : decode cX7_init 21 = .ok (.putfield 16, 3) := by decide +kernel
theorem dX7_init_24 : decode cX7_init 24 = .ok (.aload_n 0, 1) := by decide +kernel
theorem dX7_init_25 : decode cX7_init 25 = .ok (.iconst 0, 1) := by decide +kernel
theorem dX7_init_26 : decode cX7_init 26 = .ok (.putfield 20, 3) := by decide +kernel
theorem dX7_init_29 : decode cX7_init 29 = .ok (.aload_n 0, 1) := by decide +kernel
theorem dX7_init_30 : decode cX7_init 30 = .ok (.iconst 0, 1) := by decide +kernel
theorem dX7_init_31 : decode cX7_init 31 = .ok (.putfield 24, 3) := by decide +kernel
theorem dX7_init_34 : decode cX7_init 34 = .ok (.aload_n 0, 1) := by decide +kernel
theorem dX7_init_35 : decode cX7_init 35 = .ok (.new 27, 3) := by decide +kernel
theorem dX7_init_38 : decode cX7_init 38 = .ok (.dup, 1) := by decide +kernel
theorem dX7_init_39 : decode cX7_init 39 = .ok (.invokespecial 29, 3) := by decide +kernel
theorem dX7_init_42 : decode cX7_init 42 = .ok (.putfield 30, 3) := by decide +kernel
theorem dX7_init_45 : decode cX7_init 45 = .ok (.aload_n 0, 1) := by decide +kernel
theorem dX7_init_46 : decode cX7_init 46 = .ok (.new 34, 3) := by decide +kernel
theorem dX7_init_49 : decode cX7_init 49 = .ok (.dup, 1) := by decide +kernel
theorem dX7_init_50 : decode cX7_init 50 = .ok (.invokespecial 36, 3) := by decide +kernel
theorem dX7_init_53 : decode cX7_init 53 = .ok (.putfield 37, 3) := by decide +kernel
theorem dX7_init_56 : decode cX7_init 56 = .ok (.aload_n 0, 1) := by decide +kernel
theorem dX7_init_57 : decode cX7_init 57 = .ok (.new 41, 3) := by decide +kernel
theorem dX7_init_60 : decode cX7_init 60 = .ok (.dup, 1) := by decide +kernel
theorem dX7_init_61 : decode cX7_init 61 = .ok (.invokespecial 43, 3) := by decide +kernel
theorem dX7_init_64 : decode cX7_init 64 = .ok (.putfield 44, 3) := by decide +kernel
theorem dX7_init_67 : decode cX7_init 67 = .ok (.aload_n 0, 1) := by decide +kernel
theorem dX7_init_68 : decode cX7_init 68 = .ok (.new 48, 3) := by decide +kernel
theorem dX7_init_71 : decode cX7_init 71 = .ok (.dup, 1) := by decide +kernel
theorem dX7_init_72 : decode cX7_init 72 = .ok (.aload_n 0, 1) := by decide +kernel
theorem dX7_init_73 : decode cX7_init 73 = .ok (.getfield 12, 3) := by decide +kernel
theorem dX7_init_76 : decode cX7_init 76 = .ok (.getfield 50, 3) := by decide +kernel
theorem dX7_init_79 : decode cX7_init 79 = .ok (.aload_n 0, 1) := by decide +kernel
theorem dX7_init_80 : decode cX7_init 80 = .ok (.getfield 44, 3) := by decide +kernel
theorem dX7_init_83 : decode cX7_init 83 = .ok (.invokespecial 53, 3) := by decide +kernel
theorem dX7_init_86 : decode cX7_init 86 = .ok (.putfield 56, 3) := by decide +kernel
theorem dX7_init_89 : decode cX7_init 89 = .ok (.aload_n 0, 1) := by decide +kernel
theorem dX7_init_90 : decode cX7_init 90 = .ok (.new 60, 3) := by decide +kernel
theorem dX7_init_93 : decode cX7_init 93 = .ok (.dup, 1) := by decide +kernel
theorem dX7_init_94 : decode cX7_init 94 = .ok (.invokespecial 62, 3) := by decide +kernel
theorem dX7_init_97 : decode cX7_init 97 = .ok (.putfield 63, 3) := by decide +kernel
theorem dX7_init_100 : decode cX7_init 100 = .ok (.aload_n 0, 1) := by decide +kernel
theorem dX7_init_101 : decode cX7_init 101 = .ok (.new 67, 3) := by decide +kernel
theorem dX7_init_104 : decode cX7_init 104 = .ok (.dup, 1) := by decide +kernel
theorem dX7_init_105 : decode cX7_init 105 = .ok (.invokespecial 69, 3) := by decide +kernel
theorem dX7_init_108 : decode cX7_init 108 = .ok (.putfield 70, 3) := by decide +kernel
theorem dX7_init_111 : decode cX7_init 111 = .ok (.aload_n 0, 1) := by decide +kernel
theorem dX7_init_112 : decode cX7_init 112 = .ok (.iconst 0, 1) := by decide +kernel
theorem dX7_init_113 : decode cX7_init 113 = .ok (.putfield 74, 3) := by decide +kernel
theorem dX7_init_116 : decode cX7_init 116 = .ok (.aload_n 0, 1) := by decide +kernel
theorem dX7_init_117 : decode cX7_init 117 = .ok (.iconst 0, 1) := by decide +kernel
theorem dX7_init_118 : decode cX7_init 118 = .ok (.putfield 77, 3) := by decide +kernel
theorem dX7_init_121 : decode cX7_init 121 = .ok (.aload_n 0, 1) := by decide +kernel
theorem dX7_init_122 : decode cX7_init 122 = .ok (.iconst 0, 1) := by decide +kernel
theorem dX7_init_123 : decode cX7_init 123 = .ok (.putfield 80, 3) := by decide +kernel
theorem dX7_init_126 : decode cX7_init 126 = .ok (.iconst 0, 1) := by decide +kernel
theorem dX7_init_127 : decode cX7_init 127 = .ok (.istore_n 1, 1) := by decide +kernel
theorem dX7_init_128 : decode cX7_init 128 = .ok (.iload_n 1, 1) := by decide +kernel
theorem dX7_init_129 : decode cX7_init 129 = .ok (.bipush 8, 2) := by decide +kernel
theorem dX7_init_131 : decode cX7_init 131 = .ok (.if_icmp .ge 22, 3) := by decide +kernel
theorem dX7_init_134 : decode cX7_init 134 = .ok (.aload_n 0, 1) := by decide +kernel
theorem dX7_init_135 : decode cX7_init 135 = .ok (.getfield 16, 3) := by decide +kernel
theorem dX7_init_138 : decode cX7_init 138 = .ok (.iload_n 1, 1) := by decide +kernel
theorem dX7_init_139 : decode cX7_init 139 = .ok (.new 9, 3) := by decide +kernel
theorem dX7_init_142 : decode cX7_init 142 = .ok (.dup, 1) := by decide +kernel
theorem dX7_init_143 : decode cX7_init 143 = .ok (.invokespecial 11, 3) := by decide +kernel
theorem dX7_init_146 : decode cX7_init 146 = .ok (.aastore, 1) := by decide +kernel
theorem dX7_init_147 : decode cX7_init 147 = .ok (.iinc 1 1, 3) := by decide +kernel
theorem dX7_init_150 : decode cX7_init 150 = .ok (.goto (-22), 3) := by decide +kernel
theorem dX7_init_153 : decode cX7_init 153 = .ok (.aload_n 0, 1) := by decide +kernel
theorem dX7_init_154 : decode cX7_init 154 = .ok (.getfield 12, 3) := by decide +kernel
theorem dX7_init_157 : decode cX7_init 157 = .ok (.getfield 50, 3) := by decide +kernel
theorem dX7_init_160 : decode cX7_init 160 = .ok (.iconst 0, 1) := by decide +kernel
theorem dX7_init_161 : decode cX7_init 161 = .ok (.iconst 1, 1) := by decide +kernel
theorem dX7_init_162 : decode cX7_init 162 = .ok (.invokevirtual 83, 3) := by decide +kernel
theorem dX7_init_165 : decode cX7_init 165 = .ok (.aload_n 0, 1) := by decide +kernel
theorem dX7_init_166 : decode cX7_init 166 = .ok (.getfield 12, 3) := by decide +kernel
theorem dX7_init_169 : decode cX7_init 169 = .ok (.getfield 50, 3) := by decide +kernel
theorem dX7_init_172 : decode cX7_init 172 = .ok (.invokevirtual 87, 3) := by decide +kernel
theorem dX7_init_175 : decode cX7_init 175 = .ok (.return_, 1) := by decide +kernel
set_option maxHeartbeats 8000000 in
set_option maxRecDepth 100000 in
theorem c_X7_init (l : Launch) (B : Nat) (D : va_G) (cA : Nat → ClassId) (m : Mm) (x0 : Nat) (mZ : Mm) (hf : f_X7_init m x0 = some mZ) : Mt l B D cA yX7_init cX7_init 2 none 3 65 375 4277 [.ref (B + x0)] m none mZ := by
  refine r_start (by decide) (Nat.le_of_ble_eq_true rfl) ?_
  intro p e s mt args below meth c ls H locs X hr hlocks hnm hR hl hS
  have hx := X.1
  have hb := X.2.1
  have hl : lv_has ls 2 [(0, .ref (B + x0))] := hl
  unfold f_X7_init at hf
  refine lv_aload_n hx hb dX7_init_0 rfl (lv_at hl 0 rfl) ?_
  refine W.objInit hx hb X.2.2.2.1 (X.2.2.2.2.1 _ (tb1 17 rfl rfl)) (X.2.2.2.2.1 _ (tb1 18 rfl rfl)) (X.2.2.2.2.1 _ (tb1 19 rfl rfl)) rfl (by rw [X.2.2.1]; exact hl.1) rfl dX7_init_1 (Nat.le_of_ble_eq_true rfl) (Nat.le_of_ble_eq_true rfl) ?_
  refine W.eq (g2 := F0 mt 4 ls []) rfl ?_
  refine lv_aload_n hx hb dX7_init_4 rfl (lv_at hl 0 rfl) ?_
  obtain ⟨m1, g2, hf⟩ := ob hf
  refine r_newO X (ci := 2) (C := RX2) (T := TX2) (N := 2) (fs := [.null, .null]) rfl ut_X2 tyX2 tyX2_ok (tb1 20 rfl rfl) (tb1 21 rfl rfl) (tb1 2 rfl rfl) hR hS df_X2 g2 (Nat.le_of_ble_eq_true rfl) (Nat.le_of_ble_eq_true rfl) dX7_init_5 (fun H hR hS => ?_)
  refine lv_dup hx hb dX7_init_8 rfl ?_
  obtain ⟨m4, g3, hf⟩ := ob hf
  refine r_callI X kw_X7_11 (c_X2_init l B D cA m1 (m.length) m4 g3) ⟨Nat.le_of_ble_eq_true rfl, Nat.le_of_ble_eq_true rfl⟩ hR hS hl.1 rfl rfl (Nat.le_of_ble_eq_true rfl) ⟨Nat.le_of_ble_eq_true rfl, Nat.le_of_ble_eq_true rfl⟩ dX7_init_9 (fun H locs hR hS => ?_)
  refine W.eq (g2 := F0 mt 12 ls [.ref (B + (m.length)), .ref (B + x0)]) rfl ?_
  obtain ⟨m5, g6, hf⟩ := ob hf
  refine pR_X7_12 X hnm hR hS g6 dX7_init_12 (fun H locs hR hS => ?_)
  refine lv_aload_n hx hb dX7_init_15 rfl (lv_at hl 0 rfl) ?_
  refine lv_bipush (v := 8) hx hb dX7_init_16 (by decide) ?_
  obtain ⟨m7, g8, hf⟩ := ob hf
  refine r_newA X (k := 2) (C := RX2) rfl (tb1 20 rfl rfl) X.2.2.2.2.2.2.2.1 hR hS g8 (by decide) (by decide) (Nat.le_of_ble_eq_true rfl) (Nat.le_of_ble_eq_true rfl) (Nat.le_of_ble_eq_true rfl) dX7_init_18 (fun H hR hS => ?_)
  obtain ⟨m9, g10, hf⟩ := ob hf
  refine pR_X7_16 X hnm hR hS g10 dX7_init_21 (fun H locs hR hS => ?_)
  refine lv_aload_n hx hb dX7_init_24 rfl (lv_at hl 0 rfl) ?_
  refine lv_iconst (v := 0) hx hb dX7_init_25 (by decide) ?_
  obtain ⟨m11, g12, hf⟩ := ob hf
  refine pI_X7_20 X hR hS g12 dX7_init_26 (fun H locs hR hS => ?_)
  refine lv_aload_n hx hb dX7_init_29 rfl (lv_at hl 0 rfl) ?_
  refine lv_iconst (v := 0) hx hb dX7_init_30 (by decide) ?_
  obtain ⟨m13, g14, hf⟩ := ob hf
  refine pI_X7_24 X hR hS g14 dX7_init_31 (fun H locs hR hS => ?_)
  refine lv_aload_n hx hb dX7_init_34 rfl (lv_at hl 0 rfl) ?_
  obtain ⟨m15, g16, hf⟩ := ob hf
  refine r_newO X (ci := 3) (C := RX3) (T := TX3) (N := 3) (fs := [.null, .int 0, .int 0]) rfl ut_X3 tyX3 tyX3_ok (tb1 127 rfl rfl) (tb1 128 rfl rfl) (tb1 5 rfl rfl) hR hS df_X3 g16 (Nat.le_of_ble_eq_true rfl) (Nat.le_of_ble_eq_true rfl) dX7_init_35 (fun H hR hS => ?_)
  refine lv_dup hx hb dX7_init_38 rfl ?_
  obtain ⟨m18, g17, hf⟩ := ob hf
  refine r_callIN X kw_X7_29 (c_X3_init l B D cA m15 (m13.length) m18 g17) ⟨Nat.le_of_ble_eq_true rfl, Nat.le_of_ble_eq_true rfl⟩ hR hS hl.1 rfl rfl (Nat.le_of_ble_eq_true rfl) ⟨Nat.le_of_ble_eq_true rfl, Nat.le_of_ble_eq_true rfl⟩ dX7_init_39 (fun H locs hR hS => ?_)
  refine W.eq (g2 := F0 mt 42 ls [.ref (B + (m13.length)), .ref (B + x0)]) rfl ?_
  obtain ⟨m19, g20, hf⟩ := ob hf
  refine pR_X7_30 X hnm hR hS g20 dX7_init_42 (fun H locs hR hS => ?_)
  refine lv_aload_n hx hb dX7_init_45 rfl (lv_at hl 0 rfl) ?_
  obtain ⟨m21, g22, hf⟩ := ob hf
  refine r_newO X (ci := 4) (C := RX4) (T := TX4) (N := 6) (fs := [.int 0, .null, .null, .null, .null, .null]) rfl ut_X4 tyX4 tyX4_ok (tb1 146 rfl rfl) (tb1 27 rfl rfl) (tb1 3 rfl rfl) hR hS df_X4 g22 (Nat.le_of_ble_eq_true rfl) (Nat.le_of_ble_eq_true rfl) dX7_init_46 (fun H hR hS => ?_)
  refine lv_dup hx hb dX7_init_49 rfl ?_
  obtain ⟨m24, g23, hf⟩ := ob hf
  refine r_callIN X kw_X7_36 (c_X4_init l B D cA m21 (m19.length) m24 g23) ⟨Nat.le_of_ble_eq_true rfl, Nat.le_of_ble_eq_true rfl⟩ hR hS hl.1 rfl rfl (Nat.le_of_ble_eq_true rfl) ⟨Nat.le_of_ble_eq_true rfl, Nat.le_of_ble_eq_true rfl⟩ dX7_init_50 (fun H locs hR hS => ?_)
  refine W.eq (g2 := F0 mt 53 ls [.ref (B + (m19.length)), .ref (B + x0)]) rfl ?_
  obtain ⟨m25, g26, hf⟩ := ob hf
  refine pR_X7_37 X hnm hR hS g26 dX7_init_53 (fun H locs hR hS => ?_)
  refine lv_aload_n hx hb dX7_init_56 rfl (lv_at hl 0 rfl) ?_
  obtain ⟨m27, g28, hf⟩ := ob hf
  refine r_newO X (ci := 5) (C := RX5) (T := TX5) (N := 7) (fs := [.int 0, .null, .null, .null, .null, .null, .null]) rfl ut_X5 tyX5 tyX5_ok (tb1 148 rfl rfl) (tb1 69 rfl rfl) (tb1 4 rfl rfl) hR hS df_X5 g28 (Nat.le_of_ble_eq_true rfl) (Nat.le_of_ble_eq_true rfl) dX7_init_57 (fun H hR hS => ?_)
  refine lv_dup hx hb dX7_init_60 rfl ?_
  obtain ⟨m30, g29, hf⟩ := ob hf
  refine r_callIN X kw_X7_43 (c_X5_init l B D cA m27 (m25.length) m30 g29) ⟨Nat.le_of_ble_eq_true rfl, Nat.le_of_ble_eq_true rfl⟩ hR hS hl.1 rfl rfl (Nat.le_of_ble_eq_true rfl) ⟨Nat.le_of_ble_eq_true rfl, Nat.le_of_ble_eq_true rfl⟩ dX7_init_61 (fun H locs hR hS => ?_)
  refine W.eq (g2 := F0 mt 64 ls [.ref (B + (m25.length)), .ref (B + x0)]) rfl ?_
  obtain ⟨m31, g32, hf⟩ := ob hf
  refine pR_X7_44 X hnm hR hS g32 dX7_init_64 (fun H locs hR hS => ?_)
  refine lv_aload_n hx hb dX7_init_67 rfl (lv_at hl 0 rfl) ?_
  obtain ⟨m33, g34, hf⟩ := ob hf
  refine r_newO X (ci := 1) (C := RX1) (T := TX1) (N := 9) (fs := [.null, .null, .null, .null, .null, .null, .null, .null, .null]) rfl ut_X1 tyX1 tyX1_ok (tb1 150 rfl rfl) (tb1 151 rfl rfl) (tb1 6 rfl rfl) hR hS df_X1 g34 (Nat.le_of_ble_eq_true rfl) (Nat.le_of_ble_eq_true rfl) dX7_init_68 (fun H hR hS => ?_)
  refine lv_dup hx hb dX7_init_71 rfl ?_
  refine lv_aload_n hx hb dX7_init_72 rfl (lv_at hl 0 rfl) ?_
  obtain ⟨v35, g36, hf⟩ := ob hf
  refine gR_X7_12 X hR g36 dX7_init_73 ?_
  obtain ⟨v37, g38, hf⟩ := ob hf
  refine gR_X7_50 X hR g38 dX7_init_76 ?_
  refine lv_aload_n hx hb dX7_init_79 rfl (lv_at hl 0 rfl) ?_
  obtain ⟨v39, g40, hf⟩ := ob hf
  refine gR_X7_44 X hR g40 dX7_init_80 ?_
  obtain ⟨m42, g41, hf⟩ := ob hf
  refine r_callI X kw_X7_53 (c_X1_init l B D cA m33 (m31.length) v37 v39 m42 g41) ⟨Nat.le_of_ble_eq_true rfl, Nat.le_of_ble_eq_true rfl⟩ hR hS hl.1 rfl rfl (Nat.le_of_ble_eq_true rfl) ⟨Nat.le_of_ble_eq_true rfl, Nat.le_of_ble_eq_true rfl⟩ dX7_init_83 (fun H locs hR hS => ?_)
  refine W.eq (g2 := F0 mt 86 ls [.ref (B + (m31.length)), .ref (B + x0)]) rfl ?_
  obtain ⟨m43, g44, hf⟩ := ob hf
  refine pR_X7_56 X hnm hR hS g44 dX7_init_86 (fun H locs hR hS => ?_)
  refine lv_aload_n hx hb dX7_init_89 rfl (lv_at hl 0 rfl) ?_
  obtain ⟨m45, g46, hf⟩ := ob hf
  refine r_newO X (ci := 0) (C := RX0) (T := TX0) (N := 1) (fs := [.null]) rfl ut_X0 tyX0 tyX0_ok (tb1 187 rfl rfl) (tb1 188 rfl rfl) (tb1 7 rfl rfl) hR hS df_X0 g46 (Nat.le_of_ble_eq_true rfl) (Nat.le_of_ble_eq_true rfl) dX7_init_90 (fun H hR hS => ?_)
  refine lv_dup hx hb dX7_init_93 rfl ?_
  obtain ⟨m48, g47, hf⟩ := ob hf
  refine r_callIN X kw_X7_62 (c_X0_init l B D cA m45 (m43.length) m48 g47) ⟨Nat.le_of_ble_eq_true rfl, Nat.le_of_ble_eq_true rfl⟩ hR hS hl.1 rfl rfl (Nat.le_of_ble_eq_true rfl) ⟨Nat.le_of_ble_eq_true rfl, Nat.le_of_ble_eq_true rfl⟩ dX7_init_94 (fun H locs hR hS => ?_)
  refine W.eq (g2 := F0 mt 97 ls [.ref (B + (m43.length)), .ref (B + x0)]) rfl ?_
  obtain ⟨m49, g50, hf⟩ := ob hf
  refine pR_X7_63 X hnm hR hS g50 dX7_init_97 (fun H locs hR hS => ?_)
  refine lv_aload_n hx hb dX7_init_100 rfl (lv_at hl 0 rfl) ?_
  obtain ⟨m51, g52, hf⟩ := ob hf
  refine r_newO X (ci := 6) (C := RX6) (T := TX6) (N := 3) (fs := [.int 0, .int 0, .int 0]) rfl ut_X6 tyX6 tyX6_ok (tb1 197 rfl rfl) (tb1 198 rfl rfl) (tb1 8 rfl rfl) hR hS df_X6 g52 (Nat.le_of_ble_eq_true rfl) (Nat.le_of_ble_eq_true rfl) dX7_init_101 (fun H hR hS => ?_)
  refine lv_dup hx hb dX7_init_104 rfl ?_
  obtain ⟨m54, g53, hf⟩ := ob hf
  refine r_callIN X kw_X7_69 (c_X6_init l B D cA m51 (m49.length) m54 g53) ⟨Nat.le_of_ble_eq_true rfl, Nat.le_of_ble_eq_true rfl⟩ hR hS hl.1 rfl rfl (Nat.le_of_ble_eq_true rfl) ⟨Nat.le_of_ble_eq_true rfl, Nat.le_of_ble_eq_true rfl⟩ dX7_init_105 (fun H locs hR hS => ?_)
  refine W.eq (g2 := F0 mt 108 ls [.ref (B + (m49.length)), .ref (B + x0)]) rfl ?_
  obtain ⟨m55, g56, hf⟩ := ob hf
  refine pR_X7_70 X hnm hR hS g56 dX7_init_108 (fun H locs hR hS => ?_)
  refine lv_aload_n hx hb dX7_init_111 rfl (lv_at hl 0 rfl) ?_
  refine lv_iconst (v := 0) hx hb dX7_init_112 (by decide) ?_
  obtain ⟨m57, g58, hf⟩ := ob hf
  refine pI_X7_74 X hR hS g58 dX7_init_113 (fun H locs hR hS => ?_)
  refine lv_aload_n hx hb dX7_init_116 rfl (lv_at hl 0 rfl) ?_
  refine lv_iconst (v := 0) hx hb dX7_init_117 (by decide) ?_
  obtain ⟨m59, g60, hf⟩ := ob hf
  refine pI_X7_77 X hR hS g60 dX7_init_118 (fun H locs hR hS => ?_)
  refine lv_aload_n hx hb dX7_init_121 rfl (lv_at hl 0 rfl) ?_
  refine lv_iconst (v := 0) hx hb dX7_init_122 (by decide) ?_
  obtain ⟨m61, g62, hf⟩ := ob hf
  refine pI_X7_80 X hR hS g62 dX7_init_123 (fun H locs hR hS => ?_)
  refine lv_iconst (v := 0) hx hb dX7_init_126 (by decide) ?_
  refine lv_istore_n (lv' := [(1, .int (0 : Int32)), (0, .ref (B + x0))]) hx hb dX7_init_127 rfl hl (by decide) rfl (fun ls hl => ?_)
  refine lv_iload_n hx hb dX7_init_128 rfl (lv_at hl 0 rfl) ?_
  refine lv_bipush (v := 8) hx hb dX7_init_129 (by decide) ?_
  refine lv_icmp_ge (tgt := 153) hx hb dX7_init_131 (by decide) (fun cz => absurd cz (by decide)) (fun _ => ?_)
  refine lv_aload_n hx hb dX7_init_134 rfl (lv_at hl 1 rfl) ?_
  obtain ⟨v63, g64, hf⟩ := ob hf
  refine gR_X7_16 X hR g64 dX7_init_135 ?_
  refine lv_iload_n hx hb dX7_init_138 rfl (lv_at hl 0 rfl) ?_
  obtain ⟨m65, g66, hf⟩ := ob hf
  refine r_newO X (ci := 2) (C := RX2) (T := TX2) (N := 2) (fs := [.null, .null]) rfl ut_X2 tyX2 tyX2_ok (tb1 20 rfl rfl) (tb1 21 rfl rfl) (tb1 2 rfl rfl) hR hS df_X2 g66 (Nat.le_of_ble_eq_true rfl) (Nat.le_of_ble_eq_true rfl) dX7_init_139 (fun H hR hS => ?_)
  refine lv_dup hx hb dX7_init_142 rfl ?_
  obtain ⟨m68, g67, hf⟩ := ob hf
  refine r_callI X kw_X7_11 (c_X2_init l B D cA m65 (m61.length) m68 g67) ⟨Nat.le_of_ble_eq_true rfl, Nat.le_of_ble_eq_true rfl⟩ hR hS hl.1 rfl rfl (Nat.le_of_ble_eq_true rfl) ⟨Nat.le_of_ble_eq_true rfl, Nat.le_of_ble_eq_true rfl⟩ dX7_init_143 (fun H locs hR hS => ?_)
  refine W.eq (g2 := F0 mt 146 ls [.ref (B + (m61.length)), .int (0 : Int32), .ref (B + v63)]) rfl ?_
  obtain ⟨o69, h70, hf⟩ := obO hf
  obtain ⟨m71, g72, hf⟩ := ob hf
  refine r_sR X hR hS (k := 2) (ci := 2) (r := (RX2, TX2, 2)) rfl rfl h70 g72 dX7_init_146 (fun H locs hR hS => ?_)
  refine lv_iinc (v := 1) (lv' := [(1, .int (1 : Int32)), (0, .ref (B + x0))]) hx hb dX7_init_147 hl (k := 0) rfl (by decide) (by decide) rfl (fun ls hl => ?_)
  refine lv_goto (tgt := 128) hx hb dX7_init_150 (by decide) ?_
  refine lv_iload_n hx hb dX7_init_128 rfl (lv_at hl 0 rfl) ?_
  refine lv_bipush (v := 8) hx hb dX7_init_129 (by decide) ?_
  refine lv_icmp_ge (tgt := 153) hx hb dX7_init_131 (by decide) (fun cz => absurd cz (by decide)) (fun _ => ?_)
  refine lv_aload_n hx hb dX7_init_134 rfl (lv_at hl 1 rfl) ?_
  obtain ⟨v73, g74, hf⟩ := ob hf
  refine gR_X7_16 X hR g74 dX7_init_135 ?_
  refine lv_iload_n hx hb dX7_init_138 rfl (lv_at hl 0 rfl) ?_
  obtain ⟨m75, g76, hf⟩ := ob hf
  refine r_newO X (ci := 2) (C := RX2) (T := TX2) (N := 2) (fs := [.null, .null]) rfl ut_X2 tyX2 tyX2_ok (tb1 20 rfl rfl) (tb1 21 rfl rfl) (tb1 2 rfl rfl) hR hS df_X2 g76 (Nat.le_of_ble_eq_true rfl) (Nat.le_of_ble_eq_true rfl) dX7_init_139 (fun H hR hS => ?_)
  refine lv_dup hx hb dX7_init_142 rfl ?_
  obtain ⟨m78, g77, hf⟩ := ob hf
  refine r_callI X kw_X7_11 (c_X2_init l B D cA m75 (m71.length) m78 g77) ⟨Nat.le_of_ble_eq_true rfl, Nat.le_of_ble_eq_true rfl⟩ hR hS hl.1 rfl rfl (Nat.le_of_ble_eq_true rfl) ⟨Nat.le_of_ble_eq_true rfl, Nat.le_of_ble_eq_true rfl⟩ dX7_init_143 (fun H locs hR hS => ?_)
  refine W.eq (g2 := F0 mt 146 ls [.ref (B + (m71.length)), .int (1 : Int32), .ref (B + v73)]) rfl ?_
  obtain ⟨o79, h80, hf⟩ := obO hf
  obtain ⟨m81, g82, hf⟩ := ob hf
  refine r_sR X hR hS (k := 2) (ci := 2) (r := (RX2, TX2, 2)) rfl rfl h80 g82 dX7_init_146 (fun H locs hR hS => ?_)
  refine lv_iinc (v := 2) (lv' := [(1, .int (2 : Int32)), (0, .ref (B + x0))]) hx hb dX7_init_147 hl (k := 0) rfl (by decide) (by decide) rfl (fun ls hl => ?_)
  refine lv_goto (tgt := 128) hx hb dX7_init_150 (by decide) ?_
  refine lv_iload_n hx hb dX7_init_128 rfl (lv_at hl 0 rfl) ?_
  refine lv_bipush (v := 8) hx hb dX7_init_129 (by decide) ?_
  refine lv_icmp_ge (tgt := 153) hx hb dX7_init_131 (by decide) (fun cz => absurd cz (by decide)) (fun _ => ?_)
  refine lv_aload_n hx hb dX7_init_134 rfl (lv_at hl 1 rfl) ?_
  obtain ⟨v83, g84, hf⟩ := ob hf
  refine gR_X7_16 X hR g84 dX7_init_135 ?_
  refine lv_iload_n hx hb dX7_init_138 rfl (lv_at hl 0 rfl) ?_
  obtain ⟨m85, g86, hf⟩ := ob hf
  refine r_newO X (ci := 2) (C := RX2) (T := TX2) (N := 2) (fs := [.null, .null]) rfl ut_X2 tyX2 tyX2_ok (tb1 20 rfl rfl) (tb1 21 rfl rfl) (tb1 2 rfl rfl) hR hS df_X2 g86 (Nat.le_of_ble_eq_true rfl) (Nat.le_of_ble_eq_true rfl) dX7_init_139 (fun H hR hS => ?_)
  refine lv_dup hx hb dX7_init_142 rfl ?_
  obtain ⟨m88, g87, hf⟩ := ob hf
  refine r_callI X kw_X7_11 (c_X2_init l B D cA m85 (m81.length) m88 g87) ⟨Nat.le_of_ble_eq_true rfl, Nat.le_of_ble_eq_true rfl⟩ hR hS hl.1 rfl rfl (Nat.le_of_ble_eq_true rfl) ⟨Nat.le_of_ble_eq_true rfl, Nat.le_of_ble_eq_true rfl⟩ dX7_init_143 (fun H locs hR hS => ?_)
  refine W.eq (g2 := F0 mt 146 ls [.ref (B + (m81.length)), .int (2 : Int32), .ref (B + v83)]) rfl ?_
  obtain ⟨o89, h90, hf⟩ := obO hf
  obtain ⟨m91, g92, hf⟩ := ob hf
  refine r_sR X hR hS (k := 2) (ci := 2) (r := (RX2, TX2, 2)) rfl rfl h90 g92 dX7_init_146 (fun H locs hR hS => ?_)
  refine lv_iinc (v := 3) (lv' := [(1, .int (3 : Int32)), (0, .ref (B + x0))]) hx hb dX7_init_147 hl (k := 0) rfl (by decide) (by decide) rfl (fun ls hl => ?_)
  refine lv_goto (tgt := 128) hx hb dX7_init_150 (by decide) ?_
  refine lv_iload_n hx hb dX7_init_128 rfl (lv_at hl 0 rfl) ?_
  refine lv_bipush (v := 8) hx hb dX7_init_129 (by decide) ?_
  refine lv_icmp_ge (tgt := 153) hx hb dX7_init_131 (by decide) (fun cz => absurd cz (by decide)) (fun _ => ?_)
  refine lv_aload_n hx hb dX7_init_134 rfl (lv_at hl 1 rfl) ?_
  obtain ⟨v93, g94, hf⟩ := ob hf
  refine gR_X7_16 X hR g94 dX7_init_135 ?_
  refine lv_iload_n hx hb dX7_init_138 rfl (lv_at hl 0 rfl) ?_
  obtain ⟨m95, g96, hf⟩ := ob hf
  refine r_newO X (ci := 2) (C := RX2) (T := TX2) (N := 2) (fs := [.null, .null]) rfl ut_X2 tyX2 tyX2_ok (tb1 20 rfl rfl) (tb1 21 rfl rfl) (tb1 2 rfl rfl) hR hS df_X2 g96 (Nat.le_of_ble_eq_true rfl) (Nat.le_of_ble_eq_true rfl) dX7_init_139 (fun H hR hS => ?_)
  refine lv_dup hx hb dX7_init_142 rfl ?_
  obtain ⟨m98, g97, hf⟩ := ob hf
  refine r_callI X kw_X7_11 (c_X2_init l B D cA m95 (m91.length) m98 g97) ⟨Nat.le_of_ble_eq_true rfl, Nat.le_of_ble_eq_true rfl⟩ hR hS hl.1 rfl rfl (Nat.le_of_ble_eq_true rfl) ⟨Nat.le_of_ble_eq_true rfl, Nat.le_of_ble_eq_true rfl⟩ dX7_init_143 (fun H locs hR hS => ?_)
  refine W.eq (g2 := F0 mt 146 ls [.ref (B + (m91.length)), .int (3 : Int32), .ref (B + v93)]) rfl ?_
  obtain ⟨o99, h100, hf⟩ := obO hf
  obtain ⟨m101, g102, hf⟩ := ob hf
  refine r_sR X hR hS (k := 2) (ci := 2) (r := (RX2, TX2, 2)) rfl rfl h100 g102 dX7_init_146 (fun H locs hR hS => ?_)
  refine lv_iinc (v := 4) (lv' := [(1, .int (4 : Int32)), (0, .ref (B + x0))]) hx hb dX7_init_147 hl (k := 0) rfl (by decide) (by decide) rfl (fun ls hl => ?_)
  refine lv_goto (tgt := 128) hx hb dX7_init_150 (by decide) ?_
  refine lv_iload_n hx hb dX7_init_128 rfl (lv_at hl 0 rfl) ?_
  refine lv_bipush (v := 8) hx hb dX7_init_129 (by decide) ?_
  refine lv_icmp_ge (tgt := 153) hx hb dX7_init_131 (by decide) (fun cz => absurd cz (by decide)) (fun _ => ?_)
  refine lv_aload_n hx hb dX7_init_134 rfl (lv_at hl 1 rfl) ?_
  obtain ⟨v103, g104, hf⟩ := ob hf
  refine gR_X7_16 X hR g104 dX7_init_135 ?_
  refine lv_iload_n hx hb dX7_init_138 rfl (lv_at hl 0 rfl) ?_
  obtain ⟨m105, g106, hf⟩ := ob hf
  refine r_newO X (ci := 2) (C := RX2) (T := TX2) (N := 2) (fs := [.null, .null]) rfl ut_X2 tyX2 tyX2_ok (tb1 20 rfl rfl) (tb1 21 rfl rfl) (tb1 2 rfl rfl) hR hS df_X2 g106 (Nat.le_of_ble_eq_true rfl) (Nat.le_of_ble_eq_true rfl) dX7_init_139 (fun H hR hS => ?_)
  refine lv_dup hx hb dX7_init_142 rfl ?_
  obtain ⟨m108, g107, hf⟩ := ob hf
  refine r_callI X kw_X7_11 (c_X2_init l B D cA m105 (m101.length) m108 g107) ⟨Nat.le_of_ble_eq_true rfl, Nat.le_of_ble_eq_true rfl⟩ hR hS hl.1 rfl rfl (Nat.le_of_ble_eq_true rfl) ⟨Nat.le_of_ble_eq_true rfl, Nat.le_of_ble_eq_true rfl⟩ dX7_init_143 (fun H locs hR hS => ?_)
  refine W.eq (g2 := F0 mt 146 ls [.ref (B + (m101.length)), .int (4 : Int32), .ref (B + v103)]) rfl ?_
  obtain ⟨o109, h110, hf⟩ := obO hf
  obtain ⟨m111, g112, hf⟩ := ob hf
  refine r_sR X hR hS (k := 2) (ci := 2) (r := (RX2, TX2, 2)) rfl rfl h110 g112 dX7_init_146 (fun H locs hR hS => ?_)
  refine lv_iinc (v := 5) (lv' := [(1, .int (5 : Int32)), (0, .ref (B + x0))]) hx hb dX7_init_147 hl (k := 0) rfl (by decide) (by decide) rfl (fun ls hl => ?_)
  refine lv_goto (tgt := 128) hx hb dX7_init_150 (by decide) ?_
  refine lv_iload_n hx hb dX7_init_128 rfl (lv_at hl 0 rfl) ?_
  refine lv_bipush (v := 8) hx hb dX7_init_129 (by decide) ?_
  refine lv_icmp_ge (tgt := 153) hx hb dX7_init_131 (by decide) (fun cz => absurd cz (by decide)) (fun _ => ?_)
  refine lv_aload_n hx hb dX7_init_134 rfl (lv_at hl 1 rfl) ?_
  obtain ⟨v113, g114, hf⟩ := ob hf
  refine gR_X7_16 X hR g114 dX7_init_135 ?_
  refine lv_iload_n hx hb dX7_init_138 rfl (lv_at hl 0 rfl) ?_
  obtain ⟨m115, g116, hf⟩ := ob hf
  refine r_newO X (ci := 2) (C := RX2) (T := TX2) (N := 2) (fs := [.null, .null]) rfl ut_X2 tyX2 tyX2_ok (tb1 20 rfl rfl) (tb1 21 rfl rfl) (tb1 2 rfl rfl) hR hS df_X2 g116 (Nat.le_of_ble_eq_true rfl) (Nat.le_of_ble_eq_true rfl) dX7_init_139 (fun H hR hS => ?_)
  refine lv_dup hx hb dX7_init_142 rfl ?_
  obtain ⟨m118, g117, hf⟩ := ob hf
  refine r_callI X kw_X7_11 (c_X2_init l B D cA m115 (m111.length) m118 g117) ⟨Nat.le_of_ble_eq_true rfl, Nat.le_of_ble_eq_true rfl⟩ hR hS hl.1 rfl rfl (Nat.le_of_ble_eq_true rfl) ⟨Nat.le_of_ble_eq_true rfl, Nat.le_of_ble_eq_true rfl⟩ dX7_init_143 (fun H locs hR hS => ?_)
  refine W.eq (g2 := F0 mt 146 ls [.ref (B + (m111.length)), .int (5 : Int32), .ref (B + v113)]) rfl ?_
  obtain ⟨o119, h120, hf⟩ := obO hf
  obtain ⟨m121, g122, hf⟩ := ob hf
  refine r_sR X hR hS (k := 2) (ci := 2) (r := (RX2, TX2, 2)) rfl rfl h120 g122 dX7_init_146 (fun H locs hR hS => ?_)
  refine lv_iinc (v := 6) (lv' := [(1, .int (6 : Int32)), (0, .ref (B + x0))]) hx hb dX7_init_147 hl (k := 0) rfl (by decide) (by decide) rfl (fun ls hl => ?_)
  refine lv_goto (tgt := 128) hx hb dX7_init_150 (by decide) ?_
  refine lv_iload_n hx hb dX7_init_128 rfl (lv_at hl 0 rfl) ?_
  refine lv_bipush (v := 8) hx hb dX7_init_129 (by decide) ?_
  refine lv_icmp_ge (tgt := 153) hx hb dX7_init_131 (by decide) (fun cz => absurd cz (by decide)) (fun _ => ?_)
  refine lv_aload_n hx hb dX7_init_134 rfl (lv_at hl 1 rfl) ?_
  obtain ⟨v123, g124, hf⟩ := ob hf
  refine gR_X7_16 X hR g124 dX7_init_135 ?_
  refine lv_iload_n hx hb dX7_init_138 rfl (lv_at hl 0 rfl) ?_
  obtain ⟨m125, g126, hf⟩ := ob hf
  refine r_newO X (ci := 2) (C := RX2) (T := TX2) (N := 2) (fs := [.null, .null]) rfl ut_X2 tyX2 tyX2_ok (tb1 20 rfl rfl) (tb1 21 rfl rfl) (tb1 2 rfl rfl) hR hS df_X2 g126 (Nat.le_of_ble_eq_true rfl) (Nat.le_of_ble_eq_true rfl) dX7_init_139 (fun H hR hS => ?_)
  refine lv_dup hx hb dX7_init_142 rfl ?_
  obtain ⟨m128, g127, hf⟩ := ob hf
  refine r_callI X kw_X7_11 (c_X2_init l B D cA m125 (m121.length) m128 g127) ⟨Nat.le_of_ble_eq_true rfl, Nat.le_of_ble_eq_true rfl⟩ hR hS hl.1 rfl rfl (Nat.le_of_ble_eq_true rfl) ⟨Nat.le_of_ble_eq_true rfl, Nat.le_of_ble_eq_true rfl⟩ dX7_init_143 (fun H locs hR hS => ?_)
  refine W.eq (g2 := F0 mt 146 ls [.ref (B + (m121.length)), .int (6 : Int32), .ref (B + v123)]) rfl ?_
  obtain ⟨o129, h130, hf⟩ := obO hf
  obtain ⟨m131, g132, hf⟩ := ob hf
  refine r_sR X hR hS (k := 2) (ci := 2) (r := (RX2, TX2, 2)) rfl rfl h130 g132 dX7_init_146 (fun H locs hR hS => ?_)
  refine lv_iinc (v := 7) (lv' := [(1, .int (7 : Int32)), (0, .ref (B + x0))]) hx hb dX7_init_147 hl (k := 0) rfl (by decide) (by decide) rfl (fun ls hl => ?_)
  refine lv_goto (tgt := 128) hx hb dX7_init_150 (by decide) ?_
  refine lv_iload_n hx hb dX7_init_128 rfl (lv_at hl 0 rfl) ?_
  refine lv_bipush (v := 8) hx hb dX7_init_129 (by decide) ?_
  refine lv_icmp_ge (tgt := 153) hx hb dX7_init_131 (by decide) (fun cz => absurd cz (by decide)) (fun _ => ?_)
  refine lv_aload_n hx hb dX7_init_134 rfl (lv_at hl 1 rfl) ?_
  obtain ⟨v133, g134, hf⟩ := ob hf
  refine gR_X7_16 X hR g134 dX7_init_135 ?_
  refine lv_iload_n hx hb dX7_init_138 rfl (lv_at hl 0 rfl) ?_
  obtain ⟨m135, g136, hf⟩ := ob hf
  refine r_newO X (ci := 2) (C := RX2) (T := TX2) (N := 2) (fs := [.null, .null]) rfl ut_X2 tyX2 tyX2_ok (tb1 20 rfl rfl) (tb1 21 rfl rfl) (tb1 2 rfl rfl) hR hS df_X2 g136 (Nat.le_of_ble_eq_true rfl) (Nat.le_of_ble_eq_true rfl) dX7_init_139 (fun H hR hS => ?_)
  refine lv_dup hx hb dX7_init_142 rfl ?_
  obtain ⟨m138, g137, hf⟩ := ob hf
  refine r_callI X kw_X7_11 (c_X2_init l B D cA m135 (m131.length) m138 g137) ⟨Nat.le_of_ble_eq_true rfl, Nat.le_of_ble_eq_true rfl⟩ hR hS hl.1 rfl rfl (Nat.le_of_ble_eq_true rfl) ⟨Nat.le_of_ble_eq_true rfl, Nat.le_of_ble_eq_true rfl⟩ dX7_init_143 (fun H locs hR hS => ?_)
  refine W.eq (g2 := F0 mt 146 ls [.ref (B + (m131.length)), .int (7 : Int32), .ref (B + v133)]) rfl ?_
  obtain ⟨o139, h140, hf⟩ := obO hf
  obtain ⟨m141, g142, hf⟩ := ob hf
  refine r_sR X hR hS (k := 2) (ci := 2) (r := (RX2, TX2, 2)) rfl rfl h140 g142 dX7_init_146 (fun H locs hR hS => ?_)
  refine lv_iinc (v := 8) (lv' := [(1, .int (8 : Int32)), (0, .ref (B + x0))]) hx hb dX7_init_147 hl (k := 0) rfl (by decide) (by decide) rfl (fun ls hl => ?_)
  refine lv_goto (tgt := 128) hx hb dX7_init_150 (by decide) ?_
  refine lv_iload_n hx hb dX7_init_128 rfl (lv_at hl 0 rfl) ?_
  refine lv_bipush (v := 8) hx hb dX7_init_129 (by decide) ?_
  refine lv_icmp_ge (tgt := 153) hx hb dX7_init_131 (by decide) (fun _ => ?_) (fun cz => absurd (by decide) cz)
  refine lv_aload_n hx hb dX7_init_153 rfl (lv_at hl 1 rfl) ?_
  obtain ⟨v143, g144, hf⟩ := ob hf
  refine gR_X7_12 X hR g144 dX7_init_154 ?_
  obtain ⟨v145, g146, hf⟩ := ob hf
  refine gR_X7_50 X hR g146 dX7_init_157 ?_
  refine lv_iconst (v := 0) hx hb dX7_init_160 (by decide) ?_
  refine lv_iconst (v := 1) hx hb dX7_init_161 (by decide) ?_
  obtain ⟨o147, h148, hf⟩ := obO hf
  obtain ⟨m150, g149, hf⟩ := ob hf
  refine r_callV X kw_X7_83 (ci := 4) rfl (c_X4_append l B D cA m141 v145 (0 : Int32) (1 : Int32) m150 g149) ⟨Nat.le_of_ble_eq_true rfl, Nat.le_of_ble_eq_true rfl⟩ h148 hR hS hl.1 rfl rfl (Nat.le_of_ble_eq_true rfl) ⟨Nat.le_of_ble_eq_true rfl, Nat.le_of_ble_eq_true rfl⟩ dX7_init_162 (fun H locs hR hS => ?_)
  refine W.eq (g2 := F0 mt 165 ls []) rfl ?_
  refine lv_aload_n hx hb dX7_init_165 rfl (lv_at hl 1 rfl) ?_
  obtain ⟨v151, g152, hf⟩ := ob hf
  refine gR_X7_12 X hR g152 dX7_init_166 ?_
  obtain ⟨v153, g154, hf⟩ := ob hf
  refine gR_X7_50 X hR g154 dX7_init_169 ?_
  obtain ⟨o155, h156, hf⟩ := obO hf
  obtain ⟨m158, g157, hf⟩ := ob hf
  refine r_callV X kw_X7_87 (ci := 4) rfl (c_X4_link l B D cA m150 v153 m158 g157) ⟨Nat.le_of_ble_eq_true rfl, Nat.le_of_ble_eq_true rfl⟩ h156 hR hS hl.1 rfl rfl (Nat.le_of_ble_eq_true rfl) ⟨Nat.le_of_ble_eq_true rfl, Nat.le_of_ble_eq_true rfl⟩ dX7_init_172 (fun H locs hR hS => ?_)
  refine W.eq (g2 := F0 mt 175 ls []) rfl ?_
  obtain rfl := Option.some.inj hf
  exact r_vret X hr hlocks hR hS dX7_init_175
theorem dX8_init_0 : decode cX8_init 0 = .ok (.aload_n 0, 1) := by decide +kernel
theorem dX8_init_1 : decode cX8_init 1 = .ok (.invokespecial 1, 3) := by decide +kernel
theorem dX8_init_4 : decode cX8_init 4 = .ok (.aload_n 0, 1) := by decide +kernel
theorem dX8_init_5 : decode cX8_init 5 = .ok (.iconst 3, 1) := by decide +kernel
theorem dX8_init_6 : decode cX8_init 6 = .ok (.newarray .int, 2) := by decide +kernel
theorem dX8_init_8 : decode cX8_init 8 = .ok (.putfield 7, 3) := by decide +kernel
theorem dX8_init_11 : decode cX8_init 11 = .ok (.aload_n 0, 1) := by decide +kernel
theorem dX8_init_12 : decode cX8_init 12 = .ok (.iconst 1, 1) := by decide +kernel
theorem dX8_init_13 : decode cX8_init 13 = .ok (.putfield 13, 3) := by decide +kernel
theorem dX8_init_16 : decode cX8_init 16 = .ok (.aload_n 0, 1) := by decide +kernel
theorem dX8_init_17 : decode cX8_init 17 = .ok (.bipush 32, 2) := by decide +kernel
theorem dX8_init_19 : decode cX8_init 19 = .ok (.newarray .int, 2) := by decide +kernel
theorem dX8_init_21 : decode cX8_init 21 = .ok (.putfield 17, 3) := by decide +kernel
theorem dX8_init_24 : decode cX8_init 24 = .ok (.aload_n 0, 1) := by decide +kernel
theorem dX8_init_25 : decode cX8_init 25 = .ok (.bipush 32, 2) := by decide +kernel
theorem dX8_init_27 : decode cX8_init 27 = .ok (.newarray .int, 2) := by decide +kernel
theorem dX8_init_29 : decode cX8_init 29 = .ok (.putfield 20, 3) := by decide +kernel
theorem dX8_init_32 : decode cX8_init 32 = .ok (.aload_n 0, 1) := by decide +kernel
theorem dX8_init_33 : decode cX8_init 33 = .ok (.bipush 32, 2) := by decide +kernel
theorem dX8_init_35 : decode cX8_init 35 = .ok (.newarray .int, 2) := by decide +kernel
theorem dX8_init_37 : decode cX8_init 37 = .ok (.dup, 1) := by decide +kernel
theorem dX8_init_38 : decode cX8_init 38 = .ok (.iconst 0, 1) := by decide +kernel
theorem dX8_init_39 : decode cX8_init 39 = .ok (.iconst 1, 1) := by decide +kernel
theorem dX8_init_40 : decode cX8_init 40 = .ok (.iastore, 1) := by decide +kernel
theorem dX8_init_41 : decode cX8_init 41 = .ok (.dup, 1) := by decide +kernel
theorem dX8_init_42 : decode cX8_init 42 = .ok (.iconst 1, 1) := by decide +kernel
theorem dX8_init_43 : decode cX8_init 43 = .ok (.iconst 0, 1) := by decide +kernel
theorem dX8_init_44 : decode cX8_init 44 = .ok (.iastore, 1) := by decide +kernel
theorem dX8_init_45 : decode cX8_init 45 = .ok (.dup, 1) := by decide +kernel
theorem dX8_init_46 : decode cX8_init 46 = .ok (.iconst 2, 1) := by decide +kernel
theorem dX8_init_47 : decode cX8_init 47 = .ok (.iconst 0, 1) := by decide +kernel
theorem dX8_init_48 : decode cX8_init 48 = .ok (.iastore, 1) := by decide +kernel
theorem dX8_init_49 : decode cX8_init 49 = .ok (.dup, 1) := by decide +kernel
theorem dX8_init_50 : decode cX8_init 50 = .ok (.iconst 3, 1) := by decide +kernel
theorem dX8_init_51 : decode cX8_init 51 = .ok (.iconst 0, 1) := by decide +kernel
theorem dX8_init_52 : decode cX8_init 52 = .ok (.iastore, 1) := by decide +kernel
theorem dX8_init_53 : decode cX8_init 53 = .ok (.dup, 1) := by decide +kernel
theorem dX8_init_54 : decode cX8_init 54 = .ok (.iconst 4, 1) := by decide +kernel
theorem dX8_init_55 : decode cX8_init 55 = .ok (.iconst 0, 1) := by decide +kernel
theorem dX8_init_56 : decode cX8_init 56 = .ok (.iastore, 1) := by decide +kernel
theorem dX8_init_57 : decode cX8_init 57 = .ok (.dup, 1) := by decide +kernel
theorem dX8_init_58 : decode cX8_init 58 = .ok (.iconst 5, 1) := by decide +kernel
theorem dX8_init_59 : decode cX8_init 59 = .ok (.iconst 0, 1) := by decide +kernel
theorem dX8_init_60 : decode cX8_init 60 = .ok (.iastore, 1) := by decide +kernel
theorem dX8_init_61 : decode cX8_init 61 = .ok (.dup, 1) := by decide +kernel
theorem dX8_init_62 : decode cX8_init 62 = .ok (.bipush 6, 2) := by decide +kernel
theorem dX8_init_64 : decode cX8_init 64 = .ok (.iconst 0, 1) := by decide +kernel
theorem dX8_init_65 : decode cX8_init 65 = .ok (.iastore, 1) := by decide +kernel
theorem dX8_init_66 : decode cX8_init 66 = .ok (.dup, 1) := by decide +kernel
theorem dX8_init_67 : decode cX8_init 67 = .ok (.bipush 7, 2) := by decide +kernel
theorem dX8_init_69 : decode cX8_init 69 = .ok (.iconst 0, 1) := by decide +kernel
theorem dX8_init_70 : decode cX8_init 70 = .ok (.iastore, 1) := by decide +kernel
theorem dX8_init_71 : decode cX8_init 71 = .ok (.dup, 1) := by decide +kernel
theorem dX8_init_72 : decode cX8_init 72 = .ok (.bipush 8, 2) := by decide +kernel
theorem dX8_init_74 : decode cX8_init 74 = .ok (.iconst 0, 1) := by decide +kernel
theorem dX8_init_75 : decode cX8_init 75 = .ok (.iastore, 1) := by decide +kernel
theorem dX8_init_76 : decode cX8_init 76 = .ok (.dup, 1) := by decide +kernel
theorem dX8_init_77 : decode cX8_init 77 = .ok (.bipush 9, 2) := by decide +kernel
theorem dX8_init_79 : decode cX8_init 79 = .ok (.iconst 0, 1) := by decide +kernel
theorem dX8_init_80 : decode cX8_init 80 = .ok (.iastore, 1) := by decide +kernel
theorem dX8_init_81 : decode cX8_init 81 = .ok (.dup, 1) := by decide +kernel
theorem dX8_init_82 : decode cX8_init 82 = .ok (.bipush 10, 2) := by decide +kernel
theorem dX8_init_84 : decode cX8_init 84 = .ok (.iconst 0, 1) := by decide +kernel
theorem dX8_init_85 : decode cX8_init 85 = .ok (.iastore, 1) := by decide +kernel
theorem dX8_init_86 : decode cX8_init 86 = .ok (.dup, 1) := by decide +kernel
theorem dX8_init_87 : decode cX8_init 87 = .ok (.bipush 11, 2) := by decide +kernel
theorem dX8_init_89 : decode cX8_init 89 = .ok (.iconst 0, 1) := by decide +kernel
theorem dX8_init_90 : decode cX8_init 90 = .ok (.iastore, 1) := by decide +kernel
theorem dX8_init_91 : decode cX8_init 91 = .ok (.dup, 1) := by decide +kernel
theorem dX8_init_92 : decode cX8_init 92 = .ok (.bipush 12, 2) := by decide +kernel
theorem dX8_init_94 : decode cX8_init 94 = .ok (.iconst 0, 1) := by decide +kernel
theorem dX8_init_95 : decode cX8_init 95 = .ok (.iastore, 1) := by decide +kernel
theorem dX8_init_96 : decode cX8_init 96 = .ok (.dup, 1) := by decide +kernel
theorem dX8_init_97 : decode cX8_init 97 = .ok (.bipush 13, 2) := by decide +kernel
theorem dX8_init_99 : decode cX8_init 99 = .ok (.iconst 0, 1) := by decide +kernel
theorem dX8_init_100 : decode cX8_init 100 = .ok (.iastore, 1) := by decide +kernel
theorem dX8_init_101 : decode cX8_init 101 = .ok (.dup, 1) := by decide +kernel
theorem dX8_init_102 : decode cX8_init 102 = .ok (.bipush 14, 2) := by decide +kernel
theorem dX8_init_104 : decode cX8_init 104 = .ok (.iconst 0, 1) := by decide +kernel
theorem dX8_init_105 : decode cX8_init 105 = .ok (.iastore, 1) := by decide +kernel
theorem dX8_init_106 : decode cX8_init 106 = .ok (.dup, 1) := by decide +kernel
theorem dX8_init_107 : decode cX8_init 107 = .ok (.bipush 15, 2) := by decide +kernel
theorem dX8_init_109 : decode cX8_init 109 = .ok (.iconst 0, 1) := by decide +kernel
theorem dX8_init_110 : decode cX8_init 110 = .ok (.iastore, 1) := by decide +kernel
theorem dX8_init_111 : decode cX8_init 111 = .ok (.dup, 1) := by decide +kernel
theorem dX8_init_112 : decode cX8_init 112 = .ok (.bipush 16, 2) := by decide +kernel
theorem dX8_init_114 : decode cX8_init 114 = .ok (.iconst 0, 1) := by decide +kernel
theorem dX8_init_115 : decode cX8_init 115 = .ok (.iastore, 1) := by decide +kernel
theorem dX8_init_116 : decode cX8_init 116 = .ok (.dup, 1) := by decide +kernel
theorem dX8_init_117 : decode cX8_init 117 = .ok (.bipush 17, 2) := by decide +kernel
theorem dX8_init_119 : decode cX8_init 119 = .ok (.iconst 0, 1) := by decide +kernel
theorem dX8_init_120 : decode cX8_init 120 = .ok (.iastore, 1) := by decide +kernel
theorem dX8_init_121 : decode cX8_init 121 = .ok (.dup, 1) := by decide +kernel
theorem dX8_init_122 : decode cX8_init 122 = .ok (.bipush 18, 2) := by decide +kernel
theorem dX8_init_124 : decode cX8_init 124 = .ok (.iconst 0, 1) := by decide +kernel
theorem dX8_init_125 : decode cX8_init 125 = .ok (.iastore, 1) := by decide +kernel
theorem dX8_init_126 : decode cX8_init 126 = .ok (.dup, 1) := by decide +kernel
theorem dX8_init_127 : decode cX8_init 127 = .ok (.bipush 19, 2) := by decide +kernel
theorem dX8_init_129 : decode cX8_init 129 = .ok (.iconst 0, 1) := by decide +kernel
theorem dX8_init_130 : decode cX8_init 130 = .ok (.iastore, 1) := by decide +kernel
theorem dX8_init_131 : decode cX8_init 131 = .ok (.dup, 1) := by decide +kernel
theorem dX8_init_132 : decode cX8_init 132 = .ok (.bipush 20, 2) := by decide +kernel
theorem dX8_init_134 : decode cX8_init 134 = .ok (.iconst 0, 1) := by decide +kernel
theorem dX8_init_135 : decode cX8_init 135 = .ok (.iastore, 1) := by decide +kernel
theorem dX8_init_136 : decode cX8_init 136 = .ok (.dup, 1) := by decide +kernel
theorem dX8_init_137 : decode cX8_init 137 = .ok (.bipush 21, 2) := by decide +kernel
theorem dX8_init_139 : decode cX8_init 139 = .ok (.iconst 0, 1) := by decide +kernel
theorem dX8_init_140 : decode cX8_init 140 = .ok (.iastore, 1) := by decide +kernel
theorem dX8_init_141 : decode cX8_init 141 = .ok (.dup, 1) := by decide +kernel
theorem dX8_init_142 : decode cX8_init 142 = .ok (.bipush 22, 2) := by decide +kernel
theorem dX8_init_144 : decode cX8_init 144 = .ok (.iconst 0, 1) := by decide +kernel
theorem dX8_init_145 : decode cX8_init 145 = .ok (.iastore, 1) := by decide +kernel
theorem dX8_init_146 : decode cX8_init 146 = .ok (.dup, 1) := by decide +kernel
theorem dX8_init_147 : decode cX8_init 147 = .ok (.bipush 23, 2) := by decide +kernel
theorem dX8_init_149 : decode cX8_init 149 = .ok (.iconst 0, 1) := by decide +kernel
theorem dX8_init_150 : decode cX8_init 150 = .ok (.iastore, 1) := by decide +kernel
theorem dX8_init_151 : decode cX8_init 151 = .ok (.dup, 1) := by decide +kernel
theorem dX8_init_152 : decode cX8_init 152 = .ok (.bipush 24, 2) := by decide +kernel
theorem dX8_init_154 : decode cX8_init 154 = .ok (.iconst 0, 1) := by decide +kernel
theorem dX8_init_155 : decode cX8_init 155 = .ok (.iastore, 1) := by decide +kernel
theorem dX8_init_156 : decode cX8_init 156 = .ok (.dup, 1) := by decide +kernel
theorem dX8_init_157 : decode cX8_init 157 = .ok (.bipush 25, 2) := by decide +kernel
theorem dX8_init_159 : decode cX8_init 159 = .ok (.iconst 0, 1) := by decide +kernel
theorem dX8_init_160 : decode cX8_init 160 = .ok (.iastore, 1) := by decide +kernel
theorem dX8_init_161 : decode cX8_init 161 = .ok (.dup, 1) := by decide +kernel
theorem dX8_init_162 : decode cX8_init 162 = .ok (.bipush 26, 2) := by decide +kernel
theorem dX8_init_164 : decode cX8_init 164 = .ok (.iconst 0, 1) := by decide +kernel
theorem dX8_init_165 : decode cX8_init 165 = .ok (.iastore, 1) := by decide +kernel
theorem dX8_init_166 : decode cX8_init 166 = .ok (.dup, 1) := by decide +kernel
theorem dX8_init_167 : decode cX8_init 167 = .ok (.bipush 27, 2) := by decide +kernel
theorem dX8_init_169 : decode cX8_init 169 = .ok (.iconst 0, 1) := by decide +kernel
theorem dX8_init_170 : decode cX8_init 170 = .ok (.iastore, 1) := by decide +kernel
theorem dX8_init_171 : decode cX8_init 171 = .ok (.dup, 1) := by decide +kernel
theorem dX8_init_172 : decode cX8_init 172 = .ok (.bipush 28, 2) := by decide +kernel
theorem dX8_init_174 : decode cX8_init 174 = .ok (.iconst 0, 1) := by decide +kernel
theorem dX8_init_175 : decode cX8_init 175 = .ok (.iastore, 1) := by decide +kernel
theorem dX8_init_176 : decode cX8_init 176 = .ok (.dup, 1) := by decide +kernel
theorem dX8_init_177 : decode cX8_init 177 = .ok (.bipush 29, 2) := by decide +kernel
theorem dX8_init_179 : decode cX8_init 179 = .ok (.iconst 0, 1) := by decide +kernel
theorem dX8_init_180 : decode cX8_init 180 = .ok (.iastore, 1) := by decide +kernel
theorem dX8_init_181 : decode cX8_init 181 = .ok (.dup, 1) := by decide +kernel
theorem dX8_init_182 : decode cX8_init 182 = .ok (.bipush 30, 2) := by decide +kernel
theorem dX8_init_184 : decode cX8_init 184 = .ok (.iconst 0, 1) := by decide +kernel
theorem dX8_init_185 : decode cX8_init 185 = .ok (.iastore, 1) := by decide +kernel
theorem dX8_init_186 : decode cX8_init 186 = .ok (.dup, 1) := by decide +kernel
theorem dX8_init_187 : decode cX8_init 187 = .ok (.bipush 31, 2) := by decide +kernel
theorem dX8_init_189 : decode cX8_init 189 = .ok (.iconst 0, 1) := by decide +kernel
theorem dX8_init_190 : decode cX8_init 190 = .ok (.iastore, 1) := by decide +kernel
theorem dX8_init_191 : decode cX8_init 191 = .ok (.putfield 23, 3) := by decide +kernel
theorem dX8_init_194 : decode cX8_init 194 = .ok (.aload_n 0, 1) := by decide +kernel
theorem dX8_init_195 : decode cX8_init 195 = .ok (.bipush 32, 2) := by decide +kernel
theorem dX8_init_197 : decode cX8_init 197 = .ok (.newarray .int, 2) := by decide +kernel
theorem dX8_init_199 : decode cX8_init 199 = .ok (.dup, 1) := by decide +kernel
theorem dX8_init_200 : decode cX8_init 200 = .ok (.iconst 0, 1) := by decide +kernel
theorem dX8_init_201 : decode cX8_init 201 = .ok (.iconst 1, 1) := by decide +kernel
theorem dX8_init_202 : decode cX8_init 202 = .ok (.iastore, 1) := by decide +kernel
theorem dX8_init_203 : decode cX8_init 203 = .ok (.dup, 1) := by decide +kernel
theorem dX8_init_204 : decode cX8_init 204 = .ok (.iconst 1, 1) := by decide +kernel
theorem dX8_init_205 : decode cX8_init 205 = .ok (.iconst 0, 1) := by decide +kernel
theorem dX8_init_206 : decode cX8_init 206 = .ok (.iastore, 1) := by decide +kernel
theorem dX8_init_207 : decode cX8_init 207 = .ok (.dup, 1) := by decide +kernel
theorem dX8_init_208 : decode cX8_init 208 = .ok (.iconst 2, 1) := by decide +kernel
theorem dX8_init_209 : decode cX8_init 209 = .ok (.iconst 0, 1) := by decide +kernel
theorem dX8_init_210 : decode cX8_init 210 = .ok (.iastore, 1) := by decide +kernel
theorem dX8_init_211 : decode cX8_init 211 = .ok (.dup, 1) := by decide +kernel
theorem dX8_init_212 : decode cX8_init 212 = .ok (.iconst 3, 1) := by decide +kernel
theorem dX8_init_213 : decode cX8_init 213 = .ok (.iconst 0, 1) := by decide +kernel
theorem dX8_init_214 : decode cX8_init 214 = .ok (.iastore, 1) := by decide +kernel
theorem dX8_init_215 : decode cX8_init 215 = .ok (.dup, 1) := by decide +kernel
theorem dX8_init_216 : decode cX8_init 216 = .ok (.iconst 4, 1) := by decide +kernel
theorem dX8_init_217 : decode cX8_init 217 = .ok (.iconst 0, 1) := by decide +kernel
theorem dX8_init_218 : decode cX8_init 218 = .ok (.iastore, 1) := by decide +kernel
theorem dX8_init_219 : decode cX8_init 219 = .ok (.dup, 1) := by decide +kernel
theorem dX8_init_220 : decode cX8_init 220 = .ok (.iconst 5, 1) := by decide +kernel
theorem dX8_init_221 : decode cX8_init 221 = .ok (.iconst 0, 1) := by decide +kernel
theorem dX8_init_222 : decode cX8_init 222 = .ok (.iastore, 1) := by decide +kernel
theorem dX8_init_223 : decode cX8_init 223 = .ok (.dup, 1) := by decide +kernel
theorem dX8_init_224 : decode cX8_init 224 = .ok (.bipush 6, 2) := by decide +kernel
theorem dX8_init_226 : decode cX8_init 226 = .ok (.iconst 0, 1) := by decide +kernel
theorem dX8_init_227 : decode cX8_init 227 = .ok (.iastore, 1) := by decide +kernel
theorem dX8_init_228 : decode cX8_init 228 = .ok (.dup, 1) := by decide +kernel
theorem dX8_init_229 : decode cX8_init 229 = .ok (.bipush 7, 2) := by decide +kernel
theorem dX8_init_231 : decode cX8_init 231 = .ok (.iconst 0, 1) := by decide +kernel
theorem dX8_init_232 : decode cX8_init 232 = .ok (.iastore, 1) := by decide +kernel
theorem dX8_init_233 : decode cX8_init 233 = .ok (.dup, 1) := by decide +kernel
theorem dX8_init_234 : decode cX8_init 234 = .ok (.bipush 8, 2) := by decide +kernel
theorem dX8_init_236 : decode cX8_init 236 = .ok (.iconst 0, 1) := by decide +kernel
theorem dX8_init_237 : decode cX8_init 237 = .ok (.iastore, 1) := by decide +kernel
theorem dX8_init_238 : decode cX8_init 238 = .ok (.dup, 1) := by decide +kernel
theorem dX8_init_239 : decode cX8_init 239 = .ok (.bipush 9, 2) := by decide +kernel
theorem dX8_init_241 : decode cX8_init 241 = .ok (.iconst 0, 1) := by decide +kernel
theorem dX8_init_242 : decode cX8_init 242 = .ok (.iastore, 1) := by decide +kernel
theorem dX8_init_243 : decode cX8_init 243 = .ok (.dup, 1) := by decide +kernel
theorem dX8_init_244 : decode cX8_init 244 = .ok (.bipush 10, 2) := by decide +kernel
theorem dX8_init_246 : decode cX8_init 246 = .ok (.iconst 0, 1) := by decide +kernel
theorem dX8_init_247 : decode cX8_init 247 = .ok (.iastore, 1) := by decide +kernel
theorem dX8_init_248 : decode cX8_init 248 = .ok (.dup, 1) := by decide +kernel
theorem dX8_init_249 : decode cX8_init 249 = .ok (.bipush 11, 2) := by decide +kernel
theorem dX8_init_251 : decode cX8_init 251 = .ok (.iconst 0, 1) := by decide +kernel
theorem dX8_init_252 : decode cX8_init 252 = .ok (.iastore, 1) := by decide +kernel
theorem dX8_init_253 : decode cX8_init 253 = .ok (.dup, 1) := by decide +kernel
theorem dX8_init_254 : decode cX8_init 254 = .ok (.bipush 12, 2) := by decide +kernel
theorem dX8_init_256 : decode cX8_init 256 = .ok (.iconst 0, 1) := by decide +kernel
theorem dX8_init_257 : decode cX8_init 257 = .ok (.iastore, 1) := by decide +kernel
theorem dX8_init_258 : decode cX8_init 258 = .ok (.dup, 1) := by decide +kernel
theorem dX8_init_259 : decode cX8_init 259 = .ok (.bipush 13, 2) := by decide +kernel
theorem dX8_init_261 : decode cX8_init 261 = .ok (.iconst 0, 1) := by decide +kernel
theorem dX8_init_262 : decode cX8_init 262 = .ok (.iastore, 1) := by decide +kernel
theorem dX8_init_263 : decode cX8_init 263 = .ok (.dup, 1) := by decide +kernel
theorem dX8_init_264 : decode cX8_init 264 = .ok (.bipush 14, 2) := by decide +kernel
theorem dX8_init_266 : decode cX8_init 266 = .ok (.iconst 0, 1) := by decide +kernel
theorem dX8_init_267 : decode cX8_init 267 = .ok (.iastore, 1) := by decide +kernel
theorem dX8_init_268 : decode cX8_init 268 = .ok (.dup, 1) := by decide +kernel
theorem dX8_init_269 : decode cX8_init 269 = .ok (.bipush 15, 2) := by decide +kernel
theorem dX8_init_271 : decode cX8_init 271 = .ok (.iconst 0, 1) := by decide +kernel
theorem dX8_init_272 : decode cX8_init 272 = .ok (.iastore, 1) := by decide +kernel
theorem dX8_init_273 : decode cX8_init 273 = .ok (.dup, 1) := by decide +kernel
theorem dX8_init_274 : decode cX8_init 274 = .ok (.bipush 16, 2) := by decide +kernel
theorem dX8_init_276 : decode cX8_init 276 = .ok (.iconst 0, 1) := by decide +kernel
theorem dX8_init_277 : decode cX8_init 277 = .ok (.iastore, 1) := by decide +kernel
theorem dX8_init_278 : decode cX8_init 278 = .ok (.dup, 1) := by decide +kernel
theorem dX8_init_279 : decode cX8_init 279 = .ok (.bipush 17, 2) := by decide +kernel
theorem dX8_init_281 : decode cX8_init 281 = .ok (.iconst 0, 1) := by decide +kernel
theorem dX8_init_282 : decode cX8_init 282 = .ok (.iastore, 1) := by decide +kernel
theorem dX8_init_283 : decode cX8_init 283 = .ok (.dup, 1) := by decide +kernel
theorem dX8_init_284 : decode cX8_init 284 = .ok (.bipush 18, 2) := by decide +kernel
theorem dX8_init_286 : decode cX8_init 286 = .ok (.iconst 0, 1) := by decide +kernel
theorem dX8_init_287 : decode cX8_init 287 = .ok (.iastore, 1) := by decide +kernel
theorem dX8_init_288 : decode cX8_init 288 = .ok (.dup, 1) := by decide +kernel
theorem dX8_init_289 : decode cX8_init 289 = .ok (.bipush 19, 2) := by decide +kernel
theorem dX8_init_291 : decode cX8_init 291 = .ok (.iconst 0, 1) := by decide +kernel
theorem dX8_init_292 : decode cX8_init 292 = .ok (.iastore, 1) := by decide +kernel
theorem dX8_init_293 : decode cX8_init 293 = .ok (.dup, 1) := by decide +kernel
theorem dX8_init_294 : decode cX8_init 294 = .ok (.bipush 20, 2) := by decide +kernel
theorem dX8_init_296 : decode cX8_init 296 = .ok (.iconst 0, 1) := by decide +kernel
theorem dX8_init_297 : decode cX8_init 297 = .ok (.iastore, 1) := by decide +kernel
theorem dX8_init_298 : decode cX8_init 298 = .ok (.dup, 1) := by decide +kernel
theorem dX8_init_299 : decode cX8_init 299 = .ok (.bipush 21, 2) := by decide +kernel
theorem dX8_init_301 : decode cX8_init 301 = .ok (.iconst 0, 1) := by decide +kernel
theorem dX8_init_302 : decode cX8_init 302 = .ok (.iastore, 1) := by decide +kernel
theorem dX8_init_303 : decode cX8_init 303 = .ok (.dup, 1) := by decide +kernel
theorem dX8_init_304 : decode cX8_init 304 = .ok (.bipush 22, 2) := by decide +kernel
theorem dX8_init_306 : decode cX8_init 306 = .ok (.iconst 0, 1) := by decide +kernel
theorem dX8_init_307 : decode cX8_init 307 = .ok (.iastore, 1) := by decide +kernel
theorem dX8_init_308 : decode cX8_init 308 = .ok (.dup, 1) := by decide +kernel
theorem dX8_init_309 : decode cX8_init 309 = .ok (.bipush 23, 2) := by decide +kernel
theorem dX8_init_311 : decode cX8_init 311 = .ok (.iconst 0, 1) := by decide +kernel
theorem dX8_init_312 : decode cX8_init 312 = .ok (.iastore, 1) := by decide +kernel
theorem dX8_init_313 : decode cX8_init 313 = .ok (.dup, 1) := by decide +kernel
theorem dX8_init_314 : decode cX8_init 314 = .ok (.bipush 24, 2) := by decide +kernel
theorem dX8_init_316 : decode cX8_init 316 = .ok (.iconst 0, 1) := by decide +kernel
theorem dX8_init_317 : decode cX8_init 317 = .ok (.iastore, 1) := by decide +kernel
theorem dX8_init_318 : decode cX8_init 318 = .ok (.dup, 1) := by decide +kernel
theorem dX8_init_319 : decode cX8_init 319 = .ok (.bipush 25, 2) := by decide +kernel
theorem dX8_init_321 : decode cX8_init 321 = .ok (.iconst 0, 1) := by decide +kernel
theorem dX8_init_322 : decode cX8_init 322 = .ok (.iastore, 1) := by decide +kernel
theorem dX8_init_323 : decode cX8_init 323 = .ok (.dup, 1) := by decide +kernel
theorem dX8_init_324 : decode cX8_init 324 = .ok (.bipush 26, 2) := by decide +kernel
theorem dX8_init_326 : decode cX8_init 326 = .ok (.iconst 0, 1) := by decide +kernel
theorem dX8_init_327 : decode cX8_init 327 = .ok (.iastore, 1) := by decide +kernel
theorem dX8_init_328 : decode cX8_init 328 = .ok (.dup, 1) := by decide +kernel
theorem dX8_init_329 : decode cX8_init 329 = .ok (.bipush 27, 2) := by decide +kernel
theorem dX8_init_331 : decode cX8_init 331 = .ok (.iconst 0, 1) := by decide +kernel
theorem dX8_init_332 : decode cX8_init 332 = .ok (.iastore, 1) := by decide +kernel
theorem dX8_init_333 : decode cX8_init 333 = .ok (.dup, 1) := by decide +kernel
theorem dX8_init_334 : decode cX8_init 334 = .ok (.bipush 28, 2) := by decide +kernel
theorem dX8_init_336 : decode cX8_init 336 = .ok (.iconst 0, 1) := by decide +kernel
theorem dX8_init_337 : decode cX8_init 337 = .ok (.iastore, 1) := by decide +kernel
theorem dX8_init_338 : decode cX8_init 338 = .ok (.dup, 1) := by decide +kernel
theorem dX8_init_339 : decode cX8_init 339 = .ok (.bipush 29, 2) := by decide +kernel
theorem dX8_init_341 : decode cX8_init 341 = .ok (.iconst 0, 1) := by decide +kernel
theorem dX8_init_342 : decode cX8_init 342 = .ok (.iastore, 1) := by decide +kernel
theorem dX8_init_343 : decode cX8_init 343 = .ok (.dup, 1) := by decide +kernel
theorem dX8_init_344 : decode cX8_init 344 = .ok (.bipush 30, 2) := by decide +kernel
theorem dX8_init_346 : decode cX8_init 346 = .ok (.iconst 0, 1) := by decide +kernel
theorem dX8_init_347 : decode cX8_init 347 = .ok (.iastore, 1) := by decide +kernel
theorem dX8_init_348 : decode cX8_init 348 = .ok (.dup, 1) := by decide +kernel
theorem dX8_init_349 : decode cX8_init 349 = .ok (.bipush 31, 2) := by decide +kernel
theorem dX8_init_351 : decode cX8_init 351 = .ok (.iconst 0, 1) := by decide +kernel
theorem dX8_init_352 : decode cX8_init 352 = .ok (.iastore, 1) := by decide +kernel
theorem dX8_init_353 : decode cX8_init 353 = .ok (.putfield 26, 3) := by decide +kernel
theorem dX8_init_356 : decode cX8_init 356 = .ok (.aload_n 0, 1) := by decide +kernel
theorem dX8_init_357 : decode cX8_init 357 = .ok (.bipush 32, 2) := by decide +kernel
theorem dX8_init_359 : decode cX8_init 359 = .ok (.newarray .int, 2) := by decide +kernel
theorem dX8_init_361 : decode cX8_init 361 = .ok (.dup, 1) := by decide +kernel
theorem dX8_init_362 : decode cX8_init 362 = .ok (.iconst 0, 1) := by decide +kernel
theorem dX8_init_363 : decode cX8_init 363 = .ok (.iconst (-1), 1) := by decide +kernel
theorem dX8_init_364 : decode cX8_init 364 = .ok (.iastore, 1) := by decide +kernel
theorem dX8_init_365 : decode cX8_init 365 = .ok (.dup, 1) := by decide +kernel
theorem dX8_init_366 : decode cX8_init 366 = .ok (.iconst 1, 1) := by decide +kernel
theorem dX8_init_367 : decode cX8_init 367 = .ok (.iconst 0, 1) := by decide +kernel
theorem dX8_init_368 : decode cX8_init 368 = .ok (.iastore, 1) := by decide +kernel
theorem dX8_init_369 : decode cX8_init 369 = .ok (.dup, 1) := by decide +kernel
theorem dX8_init_370 : decode cX8_init 370 = .ok (.iconst 2, 1) := by decide +kernel
theorem dX8_init_371 : decode cX8_init 371 = .ok (.iconst 0, 1) := by decide +kernel
theorem dX8_init_372 : decode cX8_init 372 = .ok (.iastore, 1) := by decide +kernel
theorem dX8_init_373 : decode cX8_init 373 = .ok (.dup, 1) := by decide +kernel
theorem dX8_init_374 : decode cX8_init 374 = .ok (.iconst 3, 1) := by decide +kernel
theorem dX8_init_375 : decode cX8_init 375 = .ok (.iconst 0, 1) := by decide +kernel
theorem dX8_init_376 : decode cX8_init 376 = .ok (.iastore, 1) := by decide +kernel
theorem dX8_init_377 : decode cX8_init 377 = .ok (.dup, 1) := by decide +kernel
theorem dX8_init_378 : decode cX8_init 378 = .ok (.iconst 4, 1) := by decide +kernel
theorem dX8_init_379 : decode cX8_init 379 = .ok (.iconst 0, 1) := by decide +kernel
theorem dX8_init_380 : decode cX8_init 380 = .ok (.iastore, 1) := by decide +kernel
theorem dX8_init_381 : decode cX8_init 381 = .ok (.dup, 1) := by decide +kernel
theorem dX8_init_382 : decode cX8_init 382 = .ok (.iconst 5, 1) := by decide +kernel
theorem dX8_init_383 : decode cX8_init 383 = .ok (.iconst 0, 1) := by decide +kernel
theorem dX8_init_384 : decode cX8_init 384 = .ok (.iastore, 1) := by decide +kernel
theorem dX8_init_385 : decode cX8_init 385 = .ok (.dup, 1) := by decide +kernel
theorem dX8_init_386 : decode cX8_init 386 = .ok (.bipush 6, 2) := by decide +kernel
theorem dX8_init_388 : decode cX8_init 388 = .ok (.iconst 0, 1) := by decide +kernel
theorem dX8_init_389 : decode cX8_init 389 = .ok (.iastore, 1) := by decide +kernel
theorem dX8_init_390 : decode cX8_init 390 = .ok (.dup, 1) := by decide +kernel
theorem dX8_init_391 : decode cX8_init 391 = .ok (.bipush 7, 2) := by decide +kernel
theorem dX8_init_393 : decode cX8_init 393 = .ok (.iconst 0, 1) := by decide +kernel
theorem dX8_init_394 : decode cX8_init 394 = .ok (.iastore, 1) := by decide +kernel
theorem dX8_init_395 : decode cX8_init 395 = .ok (.dup, 1) := by decide +kernel
theorem dX8_init_396 : decode cX8_init 396 = .ok (.bipush 8, 2) := by decide +kernel
theorem dX8_init_398 : decode cX8_init 398 = .ok (.iconst 0, 1) := by decide +kernel
theorem dX8_init_399 : decode cX8_init 399 = .ok (.iastore, 1) := by decide +kernel
theorem dX8_init_400 : decode cX8_init 400 = .ok (.dup, 1) := by decide +kernel
theorem dX8_init_401 : decode cX8_init 401 = .ok (.bipush 9, 2) := by decide +kernel
theorem dX8_init_403 : decode cX8_init 403 = .ok (.iconst 0, 1) := by decide +kernel
theorem dX8_init_404 : decode cX8_init 404 = .ok (.iastore, 1) := by decide +kernel
theorem dX8_init_405 : decode cX8_init 405 = .ok (.dup, 1) := by decide +kernel
theorem dX8_init_406 : decode cX8_init 406 = .ok (.bipush 10, 2) := by decide +kernel
theorem dX8_init_408 : decode cX8_init 408 = .ok (.iconst 0, 1) := by decide +kernel
theorem dX8_init_409 : decode cX8_init 409 = .ok (.iastore, 1) := by decide +kernel
theorem dX8_init_410 : decode cX8_init 410 = .ok (.dup, 1) := by decide +kernel
theorem dX8_init_411 : decode cX8_init 411 = .ok (.bipush 11, 2) := by decide +kernel
theorem dX8_init_413 : decode cX8_init 413 = .ok (.iconst 0, 1) := by decide +kernel
theorem dX8_init_414 : decode cX8_init 414 = .ok (.iastore, 1) := by decide +kernel
theorem dX8_init_415 : decode cX8_init 415 = .ok (.dup, 1) := by decide +kernel
theorem dX8_init_416 : decode cX8_init 416 = .ok (.bipush 12, 2) := by decide +kernel
theorem dX8_init_418 : decode cX8_init 418 = .ok (.iconst 0, 1) := by decide +kernel
theorem dX8_init_419 : decode cX8_init 419 = .ok (.iastore, 1) := by decide +kernel
theorem dX8_init_420 : decode cX8_init 420 = .ok (.dup, 1) := by decide +kernel
theorem dX8_init_421 : decode cX8_init 421 = .ok (.bipush 13, 2) := by decide +kernel
theorem dX8_init_423 : decode cX8_init 423 = .ok (.iconst 0, 1) := by decide +kernel
theorem dX8_init_424 : decode cX8_init 424 = .ok (.iastore, 1) := by decide +kernel
theorem dX8_init_425 : decode cX8_init 425 = .ok (.dup, 1) := by decide +kernel
theorem dX8_init_426 : decode cX8_init 426 = .ok (.bipush 14, 2) := by decide +kernel
theorem dX8_init_428 : decode cX8_init 428 = .ok (.iconst 0, 1) := by decide +kernel
theorem dX8_init_429 : decode cX8_init 429 = .ok (.iastore, 1) := by decide +kernel
theorem dX8_init_430 : decode cX8_init 430 = .ok (.dup, 1) := by decide +kernel
theorem dX8_init_431 : decode cX8_init 431 = .ok (.bipush 15, 2) := by decide +kernel
theorem dX8_init_433 : decode cX8_init 433 = .ok (.iconst 0, 1) := by decide +kernel
theorem dX8_init_434 : decode cX8_init 434 = .ok (.iastore, 1) := by decide +kernel
theorem dX8_init_435 : decode cX8_init 435 = .ok (.dup, 1) := by decide +kernel
theorem dX8_init_436 : decode cX8_init 436 = .ok (.bipush 16, 2) := by decide +kernel
theorem dX8_init_438 : decode cX8_init 438 = .ok (.iconst 0, 1) := by decide +kernel
theorem dX8_init_439 : decode cX8_init 439 = .ok (.iastore, 1) := by decide +kernel
theorem dX8_init_440 : decode cX8_init 440 = .ok (.dup, 1) := by decide +kernel
theorem dX8_init_441 : decode cX8_init 441 = .ok (.bipush 17, 2) := by decide +kernel
theorem dX8_init_443 : decode cX8_init 443 = .ok (.iconst 0, 1) := by decide +kernel
theorem dX8_init_444 : decode cX8_init 444 = .ok (.iastore, 1) := by decide +kernel
theorem dX8_init_445 : decode cX8_init 445 = .ok (.dup, 1) := by decide +kernel
theorem dX8_init_446 : decode cX8_init 446 = .ok (.bipush 18, 2) := by decide +kernel
theorem dX8_init_448 : decode cX8_init 448 = .ok (.iconst 0, 1) := by decide +kernel
theorem dX8_init_449 : decode cX8_init 449 = .ok (.iastore, 1) := by decide +kernel
theorem dX8_init_450 : decode cX8_init 450 = .ok (.dup, 1) := by decide +kernel
theorem dX8_init_451 : decode cX8_init 451 = .ok (.bipush 19, 2) := by decide +kernel
theorem dX8_init_453 : decode cX8_init 453 = .ok (.iconst 0, 1) := by decide +kernel
theorem dX8_init_454 : decode cX8_init 454 = .ok (.iastore, 1) := by decide +kernel
theorem dX8_init_455 : decode cX8_init 455 = .ok (.dup, 1) := by decide +kernel
theorem dX8_init_456 : decode cX8_init 456 = .ok (.bipush 20, 2) := by decide +kernel
theorem dX8_init_458 : decode cX8_init 458 = .ok (.iconst 0, 1) := by decide +kernel
theorem dX8_init_459 : decode cX8_init 459 = .ok (.iastore, 1) := by decide +kernel
theorem dX8_init_460 : decode cX8_init 460 = .ok (.dup, 1) := by decide +kernel
theorem dX8_init_461 : decode cX8_init 461 = .ok (.bipush 21, 2) := by decide +kernel
theorem dX8_init_463 : decode cX8_init 463 = .ok (.iconst 0, 1) := by decide +kernel
theorem dX8_init_464 : decode cX8_init 464 = .ok (.iastore, 1) := by decide +kernel
theorem dX8_init_465 : decode cX8_init 465 = .ok (.dup, 1) := by decide +kernel
theorem dX8_init_466 : decode cX8_init 466 = .ok (.bipush 22, 2) := by decide +kernel
theorem dX8_init_468 : decode cX8_init 468 = .ok (.iconst 0, 1) := by decide +kernel
theorem dX8_init_469 : decode cX8_init 469 = .ok (.iastore, 1) := by decide +kernel
theorem dX8_init_470 : decode cX8_init 470 = .ok (.dup, 1) := by decide +kernel
theorem dX8_init_471 : decode cX8_init 471 = .ok (.bipush 23, 2) := by decide +kernel
theorem dX8_init_473 : decode cX8_init 473 = .ok (.iconst 0, 1) := by decide +kernel
theorem dX8_init_474 : decode cX8_init 474 = .ok (.iastore, 1) := by decide +kernel
theorem dX8_init_475 : decode cX8_init 475 = .ok (.dup, 1) := by decide +kernel
theorem dX8_init_476 : decode cX8_init 476 = .ok (.bipush 24, 2) := by decide +kernel
theorem dX8_init_478 : decode cX8_init 478 = .ok (.iconst 0, 1) := by decide +kernel
theorem dX8_init_479 : decode cX8_init 479 = .ok (.iastore, 1) := by decide +kernel
theorem dX8_init_480 : decode cX8_init 480 = .ok (.dup, 1) := by decide +kernel
theorem dX8_init_481 : decode cX8_init 481 = .ok (.bipush 25, 2) := by decide +kernel
theorem dX8_init_483 : decode cX8_init 483 = .ok (.iconst 0, 1) := by decide +kernel
theorem dX8_init_484 : decode cX8_init 484 = .ok (.iastore, 1) := by decide +kernel
theorem dX8_init_485 : decode cX8_init 485 = .ok (.dup, 1) := by decide +kernel
theorem dX8_init_486 : decode cX8_init 486 = .ok (.bipush 26, 2) := by decide +kernel
theorem dX8_init_488 : decode cX8_init 488 = .ok (.iconst 0, 1) := by decide +kernel
theorem dX8_init_489 : decode cX8_init 489 = .ok (.iastore, 1) := by decide +kernel
theorem dX8_init_490 : decode cX8_init 490 = .ok (.dup, 1) := by decide +kernel
theorem dX8_init_491 : decode cX8_init 491 = .ok (.bipush 27, 2) := by decide +kernel
theorem dX8_init_493 : decode cX8_init 493 = .ok (.iconst 0, 1) := by decide +kernel
theorem dX8_init_494 : decode cX8_init 494 = .ok (.iastore, 1) := by decide +kernel
theorem dX8_init_495 : decode cX8_init 495 = .ok (.dup, 1) := by decide +kernel
theorem dX8_init_496 : decode cX8_init 496 = .ok (.bipush 28, 2) := by decide +kernel
theorem dX8_init_498 : decode cX8_init 498 = .ok (.iconst 0, 1) := by decide +kernel
theorem dX8_init_499 : decode cX8_init 499 = .ok (.iastore, 1) := by decide +kernel
theorem dX8_init_500 : decode cX8_init 500 = .ok (.dup, 1) := by decide +kernel
theorem dX8_init_501 : decode cX8_init 501 = .ok (.bipush 29, 2) := by decide +kernel
theorem dX8_init_503 : decode cX8_init 503 = .ok (.iconst 0, 1) := by decide +kernel
theorem dX8_init_504 : decode cX8_init 504 = .ok (.iastore, 1) := by decide +kernel
theorem dX8_init_505 : decode cX8_init 505 = .ok (.dup, 1) := by decide +kernel
theorem dX8_init_506 : decode cX8_init 506 = .ok (.bipush 30, 2) := by decide +kernel
theorem dX8_init_508 : decode cX8_init 508 = .ok (.iconst 0, 1) := by decide +kernel
theorem dX8_init_509 : decode cX8_init 509 = .ok (.iastore, 1) := by decide +kernel
theorem dX8_init_510 : decode cX8_init 510 = .ok (.dup, 1) := by decide +kernel
theorem dX8_init_511 : decode cX8_init 511 = .ok (.bipush 31, 2) := by decide +kernel
theorem dX8_init_513 : decode cX8_init 513 = .ok (.iconst 0, 1) := by decide +kernel
theorem dX8_init_514 : decode cX8_init 514 = .ok (.iastore, 1) := by decide +kernel
theorem dX8_init_515 : decode cX8_init 515 = .ok (.putfield 29, 3) := by decide +kernel
theorem dX8_init_518 : decode cX8_init 518 = .ok (.aload_n 0, 1) := by decide +kernel
theorem dX8_init_519 : decode cX8_init 519 = .ok (.iconst 4, 1) := by decide +kernel
theorem dX8_init_520 : decode cX8_init 520 = .ok (.newarray .int, 2) := by decide +kernel
theorem dX8_init_522 : decode cX8_init 522 = .ok (.putfield 32, 3) := by decide +kernel
theorem dX8_init_525 : decode cX8_init 525 = .ok (.aload_n 0, 1) := by decide +kernel
theorem dX8_init_526 : decode cX8_init 526 = .ok (.sipush 144, 3) := by decide +kernel
theorem dX8_init_529 : decode cX8_init 529 = .ok (.newarray .int, 2) := by decide +kernel
theorem dX8_init_531 : decode cX8_init 531 = .ok (.putfield 35, 3) := by decide +kernel
theorem dX8_init_534 : decode cX8_init 534 = .ok (.aload_n 0, 1) := by decide +kernel
theorem dX8_init_535 : decode cX8_init 535 = .ok (.sipush 1960, 3) := by decide +kernel
theorem dX8_init_538 : decode cX8_init 538 = .ok (.newarray .int, 2) := by decide +kernel
theorem dX8_init_540 : decode cX8_init 540 = .ok (.putfield 38, 3) := by decide +kernel
theorem dX8_init_543 : decode cX8_init 543 = .ok (.aload_n 0, 1) := by decide +kernel
theorem dX8_init_544 : decode cX8_init 544 = .ok (.bipush 96, 2) := by decide +kernel
theorem dX8_init_546 : decode cX8_init 546 = .ok (.newarray .int, 2) := by decide +kernel
theorem dX8_init_548 : decode cX8_init 548 = .ok (.putfield 41, 3) := by decide +kernel
theorem dX8_init_551 : decode cX8_init 551 = .ok (.aload_n 0, 1) := by decide +kernel
theorem dX8_init_552 : decode cX8_init 552 = .ok (.bipush 6, 2) := by decide +kernel
theorem dX8_init_554 : decode cX8_init 554 = .ok (.newarray .int, 2) := by decide +kernel
theorem dX8_init_556 : decode cX8_init 556 = .ok (.putfield 44, 3) := by decide +kernel
theorem dX8_init_559 : decode cX8_init 559 = .ok (.aload_n 0, 1) := by decide +kernel
theorem dX8_init_560 : decode cX8_init 560 = .ok (.bipush 6, 2) := by decide +kernel
theorem dX8_init_562 : decode cX8_init 562 = .ok (.newarray .int, 2) := by decide +kernel
theorem dX8_init_564 : decode cX8_init 564 = .ok (.putfield 47, 3) := by decide +kernel
theorem dX8_init_567 : decode cX8_init 567 = .ok (.aload_n 0, 1) := by decide +kernel
theorem dX8_init_568 : decode cX8_init 568 = .ok (.sipush 192, 3) := by decide +kernel
theorem dX8_init_571 : decode cX8_init 571 = .ok (.newarray .long, 2) := by decide +kernel
theorem dX8_init_573 : decode cX8_init 573 = .ok (.putfield 50, 3) := by decide +kernel
theorem dX8_init_576 : decode cX8_init 576 = .ok (.aload_n 0, 1) := by decide +kernel
theorem dX8_init_577 : decode cX8_init 577 = .ok (.bipush 32, 2) := by decide +kernel
theorem dX8_init_579 : decode cX8_init 579 = .ok (.newarray .long, 2) := by decide +kernel
theorem dX8_init_581 : decode cX8_init 581 = .ok (.putfield 54, 3) := by decide +kernel
theorem dX8_init_584 : decode cX8_init 584 = .ok (.aload_n 0, 1) := by decide +kernel
theorem dX8_init_585 : decode cX8_init 585 = .ok (.bipush 32, 2) := by decide +kernel
theorem dX8_init_587 : decode cX8_init 587 = .ok (.newarray .long, 2) := by decide +kernel
theorem dX8_init_589 : decode cX8_init 589 = .ok (.putfield 57, 3) := by decide +kernel
theorem dX8_init_592 : decode cX8_init 592 = .ok (.aload_n 0, 1) := by decide +kernel
theorem dX8_init_593 : decode cX8_init 593 = .ok (.bipush 33, 2) := by decide +kernel
theorem dX8_init_595 : decode cX8_init 595 = .ok (.newarray .long, 2) := by decide +kernel
theorem dX8_init_597 : decode cX8_init 597 = .ok (.putfield 60, 3) := by decide +kernel
theorem dX8_init_600 : decode cX8_init 600 = .ok (.aload_n 0, 1) := by decide +kernel
theorem dX8_init_601 : decode cX8_init 601 = .ok (.bipush 6, 2) := by decide +kernel
theorem dX8_init_603 : decode cX8_init 603 = .ok (.newarray .int, 2) := by decide +kernel
theorem dX8_init_605 : decode cX8_init 605 = .ok (.putfield 63, 3) := by decide +kernel
theorem dX8_init_608 : decode cX8_init 608 = .ok (.aload_n 0, 1) := by decide +kernel
theorem dX8_init_609 : decode cX8_init 609 = .ok (.bipush 32, 2) := by decide +kernel
theorem dX8_init_611 : decode cX8_init 611 = .ok (.newarray .long, 2) := by decide +kernel
theorem dX8_init_613 : decode cX8_init 613 = .ok (.putfield 66, 3) := by decide +kernel
theorem dX8_init_616 : decode cX8_init 616 = .ok (.aload_n 0, 1) := by decide +kernel
theorem dX8_init_617 : decode cX8_init 617 = .ok (.bipush 32, 2) := by decide +kernel
theorem dX8_init_619 : decode cX8_init 619 = .ok (.newarray .long, 2) := by decide +kernel
theorem dX8_init_621 : decode cX8_init 621 = .ok (.putfield 69, 3) := by decide +kernel
theorem dX8_init_624 : decode cX8_init 624 = .ok (.aload_n 0, 1) := by decide +kernel
theorem dX8_init_625 : decode cX8_init 625 = .ok (.bipush 120, 2) := by decide +kernel
theorem dX8_init_627 : decode cX8_init 627 = .ok (.newarray .int, 2) := by decide +kernel
theorem dX8_init_629 : decode cX8_init 629 = .ok (.putfield 72, 3) := by decide +kernel
theorem dX8_init_632 : decode cX8_init 632 = .ok (.aload_n 0, 1) := by decide +kernel
theorem dX8_init_633 : decode cX8_init 633 = .ok (.bipush 32, 2) := by decide +kernel
theorem dX8_init_635 : decode cX8_init 635 = .ok (.newarray .int, 2) := by decide +kernel
theorem dX8_init_637 : decode cX8_init 637 = .ok (.putfield 75, 3) := by decide +kernel
theorem dX8_init_640 : decode cX8_init 640 = .ok (.aload_n 0, 1) := by decide +kernel
theorem dX8_init_641 : decode cX8_init 641 = .ok (.bipush 32, 2) := by decide +kernel
theorem dX8_init_643 : decode cX8_init 643 = .ok (.newarray .int, 2) := by decide +kernel
theorem dX8_init_645 : decode cX8_init 645 = .ok (.putfield 78, 3) := by decide +kernel
theorem dX8_init_648 : decode cX8_init 648 = .ok (.aload_n 0, 1) := by decide +kernel
theorem dX8_init_649 : decode cX8_init 649 = .ok (.bipush 32, 2) := by decide +kernel
theorem dX8_init_651 : decode cX8_init 651 = .ok (.newarray .int, 2) := by decide +kernel
theorem dX8_init_653 : decode cX8_init 653 = .ok (.putfield 81, 3) := by decide +kernel
theorem dX8_init_656 : decode cX8_init 656 = .ok (.aload_n 0, 1) := by decide +kernel
theorem dX8_init_657 : decode cX8_init 657 = .ok (.bipush 36, 2) := by decide +kernel
theorem dX8_init_659 : decode cX8_init 659 = .ok (.newarray .int, 2) := by decide +kernel
theorem dX8_init_661 : decode cX8_init 661 = .ok (.putfield 84, 3) := by decide +kernel
theorem dX8_init_664 : decode cX8_init 664 = .ok (.aload_n 0, 1) := by decide +kernel
theorem dX8_init_665 : decode cX8_init 665 = .ok (.sipush 256, 3) := by decide +kernel
theorem dX8_init_668 : decode cX8_init 668 = .ok (.newarray .int, 2) := by decide +kernel
theorem dX8_init_670 : decode cX8_init 670 = .ok (.putfield 87, 3) := by decide +kernel
theorem dX8_init_673 : decode cX8_init 673 = .ok (.return_, 1) := by decide +kernel
set_option maxHeartbeats 8000000 in
set_option maxRecDepth 100000 in
theorem c_X8_init (l : Launch) (B : Nat) (D : va_G) (cA : Nat → ClassId) (m : Mm) (x0 : Nat) (mZ : Mm) (hf : f_X8_init m x0 = some mZ) : Mt l B D cA yX8_init cX8_init 1 none 1 24 25 3246 [.ref (B + x0)] m none mZ := by
  refine r_start (by decide) (Nat.le_of_ble_eq_true rfl) ?_
  intro p e s mt args below meth c ls H locs X hr hlocks hnm hR hl hS
  have hx := X.1
  have hb := X.2.1
  have hl : lv_has ls 1 [(0, .ref (B + x0))] := hl
  unfold f_X8_init at hf
  refine lv_aload_n hx hb dX8_init_0 rfl (lv_at hl 0 rfl) ?_
  refine W.objInit hx hb X.2.2.2.1 (X.2.2.2.2.1 _ (tb3 218 rfl rfl)) (X.2.2.2.2.1 _ (tb1 18 rfl rfl)) (X.2.2.2.2.1 _ (tb1 19 rfl rfl)) rfl (by rw [X.2.2.1]; exact hl.1) rfl dX8_init_1 (Nat.le_of_ble_eq_true rfl) (Nat.le_of_ble_eq_true rfl) ?_
  refine W.eq (g2 := F0 mt 4 ls []) rfl ?_
  refine lv_aload_n hx hb dX8_init_4 rfl (lv_at hl 0 rfl) ?_
  refine lv_iconst (v := 3) hx hb dX8_init_5 (by decide) ?_
  obtain ⟨m1, g2, hf⟩ := ob hf
  refine r_newI X (tb1 66 rfl rfl) hR hS g2 (by decide) (by decide) (Nat.le_of_ble_eq_true rfl) (Nat.le_of_ble_eq_true rfl) (Nat.le_of_ble_eq_true rfl) dX8_init_6 (fun H hR hS => ?_)
  obtain ⟨m3, g4, hf⟩ := ob hf
  refine pR_X8_7 X hnm hR hS g4 dX8_init_8 (fun H locs hR hS => ?_)
  refine lv_aload_n hx hb dX8_init_11 rfl (lv_at hl 0 rfl) ?_
  refine lv_iconst (v := 1) hx hb dX8_init_12 (by decide) ?_
  obtain ⟨m5, g6, hf⟩ := ob hf
  refine pI_X8_13 X hR hS g6 dX8_init_13 (fun H locs hR hS => ?_)
  refine lv_aload_n hx hb dX8_init_16 rfl (lv_at hl 0 rfl) ?_
  refine lv_bipush (v := 32) hx hb dX8_init_17 (by decide) ?_
  obtain ⟨m7, g8, hf⟩ := ob hf
  refine r_newI X (tb1 66 rfl rfl) hR hS g8 (by decide) (by decide) (Nat.le_of_ble_eq_true rfl) (Nat.le_of_ble_eq_true rfl) (Nat.le_of_ble_eq_true rfl) dX8_init_19 (fun H hR hS => ?_)
  obtain ⟨m9, g10, hf⟩ := ob hf
  refine pR_X8_17 X hnm hR hS g10 dX8_init_21 (fun H locs hR hS => ?_)
  refine lv_aload_n hx hb dX8_init_24 rfl (lv_at hl 0 rfl) ?_
  refine lv_bipush (v := 32) hx hb dX8_init_25 (by decide) ?_
  obtain ⟨m11, g12, hf⟩ := ob hf
  refine r_newI X (tb1 66 rfl rfl) hR hS g12 (by decide) (by decide) (Nat.le_of_ble_eq_true rfl) (Nat.le_of_ble_eq_true rfl) (Nat.le_of_ble_eq_true rfl) dX8_init_27 (fun H hR hS => ?_)
  obtain ⟨m13, g14, hf⟩ := ob hf
  refine pR_X8_20 X hnm hR hS g14 dX8_init_29 (fun H locs hR hS => ?_)
  refine lv_aload_n hx hb dX8_init_32 rfl (lv_at hl 0 rfl) ?_
  refine lv_bipush (v := 32) hx hb dX8_init_33 (by decide) ?_
  obtain ⟨m15, g16, hf⟩ := ob hf
  refine r_newI X (tb1 66 rfl rfl) hR hS g16 (by decide) (by decide) (Nat.le_of_ble_eq_true rfl) (Nat.le_of_ble_eq_true rfl) (Nat.le_of_ble_eq_true rfl) dX8_init_35 (fun H hR hS => ?_)
  refine lv_dup hx hb dX8_init_37 rfl ?_
  refine lv_iconst (v := 0) hx hb dX8_init_38 (by decide) ?_
  refine lv_iconst (v := 1) hx hb dX8_init_39 (by decide) ?_
  obtain ⟨m17, g18, hf⟩ := ob hf
  refine r_sI X hR hS g18 dX8_init_40 (fun H locs hR hS => ?_)
  refine lv_dup hx hb dX8_init_41 rfl ?_
  refine lv_iconst (v := 1) hx hb dX8_init_42 (by decide) ?_
  refine lv_iconst (v := 0) hx hb dX8_init_43 (by decide) ?_
  obtain ⟨m19, g20, hf⟩ := ob hf
  refine r_sI X hR hS g20 dX8_init_44 (fun H locs hR hS => ?_)
  refine lv_dup hx hb dX8_init_45 rfl ?_
  refine lv_iconst (v := 2) hx hb dX8_init_46 (by decide) ?_
  refine lv_iconst (v := 0) hx hb dX8_init_47 (by decide) ?_
  obtain ⟨m21, g22, hf⟩ := ob hf
  refine r_sI X hR hS g22 dX8_init_48 (fun H locs hR hS => ?_)
  refine lv_dup hx hb dX8_init_49 rfl ?_
  refine lv_iconst (v := 3) hx hb dX8_init_50 (by decide) ?_
  refine lv_iconst (v := 0) hx hb dX8_init_51 (by decide) ?_
  obtain ⟨m23, g24, hf⟩ := ob hf
  refine r_sI X hR hS g24 dX8_init_52 (fun H locs hR hS => ?_)
  refine lv_dup hx hb dX8_init_53 rfl ?_
  refine lv_iconst (v := 4) hx hb dX8_init_54 (by decide) ?_
  refine lv_iconst (v := 0) hx hb dX8_init_55 (by decide) ?_
  obtain ⟨m25, g26, hf⟩ := ob hf
  refine r_sI X hR hS g26 dX8_init_56 (fun H locs hR hS => ?_)
  refine lv_dup hx hb dX8_init_57 rfl ?_
  refine lv_iconst (v := 5) hx hb dX8_init_58 (by decide) ?_
  refine lv_iconst (v := 0) hx hb dX8_init_59 (by decide) ?_
  obtain ⟨m27, g28, hf⟩ := ob hf
  refine r_sI X hR hS g28 dX8_init_60 (fun H locs hR hS => ?_)
  refine lv_dup hx hb dX8_init_61 rfl ?_
  refine lv_bipush (v := 6) hx hb dX8_init_62 (by decide) ?_
  refine lv_iconst (v := 0) hx hb dX8_init_64 (by decide) ?_
  obtain ⟨m29, g30, hf⟩ := ob hf
  refine r_sI X hR hS g30 dX8_init_65 (fun H locs hR hS => ?_)
  refine lv_dup hx hb dX8_init_66 rfl ?_
  refine lv_bipush (v := 7) hx hb dX8_init_67 (by decide) ?_
  refine lv_iconst (v := 0) hx hb dX8_init_69 (by decide) ?_
  obtain ⟨m31, g32, hf⟩ := ob hf
  refine r_sI X hR hS g32 dX8_init_70 (fun H locs hR hS => ?_)
  refine lv_dup hx hb dX8_init_71 rfl ?_
  refine lv_bipush (v := 8) hx hb dX8_init_72 (by decide) ?_
  refine lv_iconst (v := 0) hx hb dX8_init_74 (by decide) ?_
  obtain ⟨m33, g34, hf⟩ := ob hf
  refine r_sI X hR hS g34 dX8_init_75 (fun H locs hR hS => ?_)
  refine lv_dup hx hb dX8_init_76 rfl ?_
  refine lv_bipush (v := 9) hx hb dX8_init_77 (by decide) ?_
  refine lv_iconst (v := 0) hx hb dX8_init_79 (by decide) ?_
  obtain ⟨m35, g36, hf⟩ := ob hf
  refine r_sI X hR hS g36 dX8_init_80 (fun H locs hR hS => ?_)
  refine lv_dup hx hb dX8_init_81 rfl ?_
  refine lv_bipush (v := 10) hx hb dX8_init_82 (by decide) ?_
  refine lv_iconst (v := 0) hx hb dX8_init_84 (by decide) ?_
  obtain ⟨m37, g38, hf⟩ := ob hf
  refine r_sI X hR hS g38 dX8_init_85 (fun H locs hR hS => ?_)
  refine lv_dup hx hb dX8_init_86 rfl ?_
  refine lv_bipush (v := 11) hx hb dX8_init_87 (by decide) ?_
  refine lv_iconst (v := 0) hx hb dX8_init_89 (by decide) ?_
  obtain ⟨m39, g40, hf⟩ := ob hf
  refine r_sI X hR hS g40 dX8_init_90 (fun H locs hR hS => ?_)
  refine lv_dup hx hb dX8_init_91 rfl ?_
  refine lv_bipush (v := 12) hx hb dX8_init_92 (by decide) ?_
  refine lv_iconst (v := 0) hx hb dX8_init_94 (by decide) ?_
  obtain ⟨m41, g42, hf⟩ := ob hf
  refine r_sI X hR hS g42 dX8_init_95 (fun H locs hR hS => ?_)
  refine lv_dup hx hb dX8_init_96 rfl ?_
  refine lv_bipush (v := 13) hx hb dX8_init_97 (by decide) ?_
  refine lv_iconst (v := 0) hx hb dX8_init_99 (by decide) ?_
  obtain ⟨m43, g44, hf⟩ := ob hf
  refine r_sI X hR hS g44 dX8_init_100 (fun H locs hR hS => ?_)
  refine lv_dup hx hb dX8_init_101 rfl ?_
  refine lv_bipush (v := 14) hx hb dX8_init_102 (by decide) ?_
  refine lv_iconst (v := 0) hx hb dX8_init_104 (by decide) ?_
  obtain ⟨m45, g46, hf⟩ := ob hf
  refine r_sI X hR hS g46 dX8_init_105 (fun H locs hR hS => ?_)
  refine lv_dup hx hb dX8_init_106 rfl ?_
  refine lv_bipush (v := 15) hx hb dX8_init_107 (by decide) ?_
  refine lv_iconst (v := 0) hx hb dX8_init_109 (by decide) ?_
  obtain ⟨m47, g48, hf⟩ := ob hf
  refine r_sI X hR hS g48 dX8_init_110 (fun H locs hR hS => ?_)
  refine lv_dup hx hb dX8_init_111 rfl ?_
  refine lv_bipush (v := 16) hx hb dX8_init_112 (by decide) ?_
  refine lv_iconst (v := 0) hx hb dX8_init_114 (by decide) ?_
  obtain ⟨m49, g50, hf⟩ := ob hf
  refine r_sI X hR hS g50 dX8_init_115 (fun H locs hR hS => ?_)
  refine lv_dup hx hb dX8_init_116 rfl ?_
  refine lv_bipush (v := 17) hx hb dX8_init_117 (by decide) ?_
  refine lv_iconst (v := 0) hx hb dX8_init_119 (by decide) ?_
  obtain ⟨m51, g52, hf⟩ := ob hf
  refine r_sI X hR hS g52 dX8_init_120 (fun H locs hR hS => ?_)
  refine lv_dup hx hb dX8_init_121 rfl ?_
  refine lv_bipush (v := 18) hx hb dX8_init_122 (by decide) ?_
  refine lv_iconst (v := 0) hx hb dX8_init_124 (by decide) ?_
  obtain ⟨m53, g54, hf⟩ := ob hf
  refine r_sI X hR hS g54 dX8_init_125 (fun H locs hR hS => ?_)
  refine lv_dup hx hb dX8_init_126 rfl ?_
  refine lv_bipush (v := 19) hx hb dX8_init_127 (by decide) ?_
  refine lv_iconst (v := 0) hx hb dX8_init_129 (by decide) ?_
  obtain ⟨m55, g56, hf⟩ := ob hf
  refine r_sI X hR hS g56 dX8_init_130 (fun H locs hR hS => ?_)
  refine lv_dup hx hb dX8_init_131 rfl ?_
  refine lv_bipush (v := 20) hx hb dX8_init_132 (by decide) ?_
  refine lv_iconst (v := 0) hx hb dX8_init_134 (by decide) ?_
  obtain ⟨m57, g58, hf⟩ := ob hf
  refine r_sI X hR hS g58 dX8_init_135 (fun H locs hR hS => ?_)
  refine lv_dup hx hb dX8_init_136 rfl ?_
  refine lv_bipush (v := 21) hx hb dX8_init_137 (by decide) ?_
  refine lv_iconst (v := 0) hx hb dX8_init_139 (by decide) ?_
  obtain ⟨m59, g60, hf⟩ := ob hf
  refine r_sI X hR hS g60 dX8_init_140 (fun H locs hR hS => ?_)
  refine lv_dup hx hb dX8_init_141 rfl ?_
  refine lv_bipush (v := 22) hx hb dX8_init_142 (by decide) ?_
  refine lv_iconst (v := 0) hx hb dX8_init_144 (by decide) ?_
  obtain ⟨m61, g62, hf⟩ := ob hf
  refine r_sI X hR hS g62 dX8_init_145 (fun H locs hR hS => ?_)
  refine lv_dup hx hb dX8_init_146 rfl ?_
  refine lv_bipush (v := 23) hx hb dX8_init_147 (by decide) ?_
  refine lv_iconst (v := 0) hx hb dX8_init_149 (by decide) ?_
  obtain ⟨m63, g64, hf⟩ := ob hf
  refine r_sI X hR hS g64 dX8_init_150 (fun H locs hR hS => ?_)
  refine lv_dup hx hb dX8_init_151 rfl ?_
  refine lv_bipush (v := 24) hx hb dX8_init_152 (by decide) ?_
  refine lv_iconst (v := 0) hx hb dX8_init_154 (by decide) ?_
  obtain ⟨m65, g66, hf⟩ := ob hf
  refine r_sI X hR hS g66 dX8_init_155 (fun H locs hR hS => ?_)
  refine lv_dup hx hb dX8_init_156 rfl ?_
  refine lv_bipush (v := 25) hx hb dX8_init_157 (by decide) ?_
  refine lv_iconst (v := 0) hx hb dX8_init_159 (by decide) ?_
  obtain ⟨m67, g68, hf⟩ := ob hf
  refine r_sI X hR hS g68 dX8_init_160 (fun H locs hR hS => ?_)
  refine lv_dup hx hb dX8_init_161 rfl ?_
  refine lv_bipush (v := 26) hx hb dX8_init_162 (by decide) ?_
  refine lv_iconst (v := 0) hx hb dX8_init_164 (by decide) ?_
  obtain ⟨m69, g70, hf⟩ := ob hf
  refine r_sI X hR hS g70 dX8_init_165 (fun H locs hR hS => ?_)
  refine lv_dup hx hb dX8_init_166 rfl ?_
  refine lv_bipush (v := 27) hx hb dX8_init_167 (by decide) ?_
  refine lv_iconst (v := 0) hx hb dX8_init_169 (by decide) ?_
  obtain ⟨m71, g72, hf⟩ := ob hf
  refine r_sI X hR hS g72 dX8_init_170 (fun H locs hR hS => ?_)
  refine lv_dup hx hb dX8_init_171 rfl ?_
  refine lv_bipush (v := 28) hx hb dX8_init_172 (by decide) ?_
  refine lv_iconst (v := 0) hx hb dX8_init_174 (by decide) ?_
  obtain ⟨m73, g74, hf⟩ := ob hf
  refine r_sI X hR hS g74 dX8_init_175 (fun H locs hR hS => ?_)
  refine lv_dup hx hb dX8_init_176 rfl ?_
  refine lv_bipush (v := 29) hx hb dX8_init_177 (by decide) ?_
  refine lv_iconst (v := 0) hx hb dX8_init_179 (by decide) ?_
  obtain ⟨m75, g76, hf⟩ := ob hf
  refine r_sI X hR hS g76 dX8_init_180 (fun H locs hR hS => ?_)
  refine lv_dup hx hb dX8_init_181 rfl ?_
  refine lv_bipush (v := 30) hx hb dX8_init_182 (by decide) ?_
  refine lv_iconst (v := 0) hx hb dX8_init_184 (by decide) ?_
  obtain ⟨m77, g78, hf⟩ := ob hf
  refine r_sI X hR hS g78 dX8_init_185 (fun H locs hR hS => ?_)
  refine lv_dup hx hb dX8_init_186 rfl ?_
  refine lv_bipush (v := 31) hx hb dX8_init_187 (by decide) ?_
  refine lv_iconst (v := 0) hx hb dX8_init_189 (by decide) ?_
  obtain ⟨m79, g80, hf⟩ := ob hf
  refine r_sI X hR hS g80 dX8_init_190 (fun H locs hR hS => ?_)
  obtain ⟨m81, g82, hf⟩ := ob hf
  refine pR_X8_23 X hnm hR hS g82 dX8_init_191 (fun H locs hR hS => ?_)
  refine lv_aload_n hx hb dX8_init_194 rfl (lv_at hl 0 rfl) ?_
  refine lv_bipush (v := 32) hx hb dX8_init_195 (by decide) ?_
  obtain ⟨m83, g84, hf⟩ := ob hf
  refine r_newI X (tb1 66 rfl rfl) hR hS g84 (by decide) (by decide) (Nat.le_of_ble_eq_true rfl) (Nat.le_of_ble_eq_true rfl) (Nat.le_of_ble_eq_true rfl) dX8_init_197 (fun H hR hS => ?_)
  refine lv_dup hx hb dX8_init_199 rfl ?_
  refine lv_iconst (v := 0) hx hb dX8_init_200 (by decide) ?_
  refine lv_iconst (v := 1) hx hb dX8_init_201 (by decide) ?_
  obtain ⟨m85, g86, hf⟩ := ob hf
  refine r_sI X hR hS g86 dX8_init_202 (fun H locs hR hS => ?_)
  refine lv_dup hx hb dX8_init_203 rfl ?_
  refine lv_iconst (v := 1) hx hb dX8_init_204 (by decide) ?_
  refine lv_iconst (v := 0) hx hb dX8_init_205 (by decide) ?_
  obtain ⟨m87, g88, hf⟩ := ob hf
  refine r_sI X hR hS g88 dX8_init_206 (fun H locs hR hS => ?_)
  refine lv_dup hx hb dX8_init_207 rfl ?_
  refine lv_iconst (v := 2) hx hb dX8_init_208 (by decide) ?_
  refine lv_iconst (v := 0) hx hb dX8_init_209 (by decide) ?_
  obtain ⟨m89, g90, hf⟩ := ob hf
  refine r_sI X hR hS g90 dX8_init_210 (fun H locs hR hS => ?_)
  refine lv_dup hx hb dX8_init_211 rfl ?_
  refine lv_iconst (v := 3) hx hb dX8_init_212 (by decide) ?_
  refine lv_iconst (v := 0) hx hb dX8_init_213 (by decide) ?_
  obtain ⟨m91, g92, hf⟩ := ob hf
  refine r_sI X hR hS g92 dX8_init_214 (fun H locs hR hS => ?_)
  refine lv_dup hx hb dX8_init_215 rfl ?_
  refine lv_iconst (v := 4) hx hb dX8_init_216 (by decide) ?_
  refine lv_iconst (v := 0) hx hb dX8_init_217 (by decide) ?_
  obtain ⟨m93, g94, hf⟩ := ob hf
  refine r_sI X hR hS g94 dX8_init_218 (fun H locs hR hS => ?_)
  refine lv_dup hx hb dX8_init_219 rfl ?_
  refine lv_iconst (v := 5) hx hb dX8_init_220 (by decide) ?_
  refine lv_iconst (v := 0) hx hb dX8_init_221 (by decide) ?_
  obtain ⟨m95, g96, hf⟩ := ob hf
  refine r_sI X hR hS g96 dX8_init_222 (fun H locs hR hS => ?_)
  refine lv_dup hx hb dX8_init_223 rfl ?_
  refine lv_bipush (v := 6) hx hb dX8_init_224 (by decide) ?_
  refine lv_iconst (v := 0) hx hb dX8_init_226 (by decide) ?_
  obtain ⟨m97, g98, hf⟩ := ob hf
  refine r_sI X hR hS g98 dX8_init_227 (fun H locs hR hS => ?_)
  refine lv_dup hx hb dX8_init_228 rfl ?_
  refine lv_bipush (v := 7) hx hb dX8_init_229 (by decide) ?_
  refine lv_iconst (v := 0) hx hb dX8_init_231 (by decide) ?_
  obtain ⟨m99, g100, hf⟩ := ob hf
  refine r_sI X hR hS g100 dX8_init_232 (fun H locs hR hS => ?_)
  refine lv_dup hx hb dX8_init_233 rfl ?_
  refine lv_bipush (v := 8) hx hb dX8_init_234 (by decide) ?_
  refine lv_iconst (v := 0) hx hb dX8_init_236 (by decide) ?_
  obtain ⟨m101, g102, hf⟩ := ob hf
  refine r_sI X hR hS g102 dX8_init_237 (fun H locs hR hS => ?_)
  refine lv_dup hx hb dX8_init_238 rfl ?_
  refine lv_bipush (v := 9) hx hb dX8_init_239 (by decide) ?_
  refine lv_iconst (v := 0) hx hb dX8_init_241 (by decide) ?_
  obtain ⟨m103, g104, hf⟩ := ob hf
  refine r_sI X hR hS g104 dX8_init_242 (fun H locs hR hS => ?_)
  refine lv_dup hx hb dX8_init_243 rfl ?_
  refine lv_bipush (v := 10) hx hb dX8_init_244 (by decide) ?_
  refine lv_iconst (v := 0) hx hb dX8_init_246 (by decide) ?_
  obtain ⟨m105, g106, hf⟩ := ob hf
  refine r_sI X hR hS g106 dX8_init_247 (fun H locs hR hS => ?_)
  refine lv_dup hx hb dX8_init_248 rfl ?_
  refine lv_bipush (v := 11) hx hb dX8_init_249 (by decide) ?_
  refine lv_iconst (v := 0) hx hb dX8_init_251 (by decide) ?_
  obtain ⟨m107, g108, hf⟩ := ob hf
  refine r_sI X hR hS g108 dX8_init_252 (fun H locs hR hS => ?_)
  refine lv_dup hx hb dX8_init_253 rfl ?_
  refine lv_bipush (v := 12) hx hb dX8_init_254 (by decide) ?_
  refine lv_iconst (v := 0) hx hb dX8_init_256 (by decide) ?_
  obtain ⟨m109, g110, hf⟩ := ob hf
  refine r_sI X hR hS g110 dX8_init_257 (fun H locs hR hS => ?_)
  refine lv_dup hx hb dX8_init_258 rfl ?_
  refine lv_bipush (v := 13) hx hb dX8_init_259 (by decide) ?_
  refine lv_iconst (v := 0) hx hb dX8_init_261 (by decide) ?_
  obtain ⟨m111, g112, hf⟩ := ob hf
  refine r_sI X hR hS g112 dX8_init_262 (fun H locs hR hS => ?_)
  refine lv_dup hx hb dX8_init_263 rfl ?_
  refine lv_bipush (v := 14) hx hb dX8_init_264 (by decide) ?_
  refine lv_iconst (v := 0) hx hb dX8_init_266 (by decide) ?_
  obtain ⟨m113, g114, hf⟩ := ob hf
  refine r_sI X hR hS g114 dX8_init_267 (fun H locs hR hS => ?_)
  refine lv_dup hx hb dX8_init_268 rfl ?_
  refine lv_bipush (v := 15) hx hb dX8_init_269 (by decide) ?_
  refine lv_iconst (v := 0) hx hb dX8_init_271 (by decide) ?_
  obtain ⟨m115, g116, hf⟩ := ob hf
  refine r_sI X hR hS g116 dX8_init_272 (fun H locs hR hS => ?_)
  refine lv_dup hx hb dX8_init_273 rfl ?_
  refine lv_bipush (v := 16) hx hb dX8_init_274 (by decide) ?_
  refine lv_iconst (v := 0) hx hb dX8_init_276 (by decide) ?_
  obtain ⟨m117, g118, hf⟩ := ob hf
  refine r_sI X hR hS g118 dX8_init_277 (fun H locs hR hS => ?_)
  refine lv_dup hx hb dX8_init_278 rfl ?_
  refine lv_bipush (v := 17) hx hb dX8_init_279 (by decide) ?_
  refine lv_iconst (v := 0) hx hb dX8_init_281 (by decide) ?_
  obtain ⟨m119, g120, hf⟩ := ob hf
  refine r_sI X hR hS g120 dX8_init_282 (fun H locs hR hS => ?_)
  refine lv_dup hx hb dX8_init_283 rfl ?_
  refine lv_bipush (v := 18) hx hb dX8_init_284 (by decide) ?_
  refine lv_iconst (v := 0) hx hb dX8_init_286 (by decide) ?_
  obtain ⟨m121, g122, hf⟩ := ob hf
  refine r_sI X hR hS g122 dX8_init_287 (fun H locs hR hS => ?_)
  refine lv_dup hx hb dX8_init_288 rfl ?_
  refine lv_bipush (v := 19) hx hb dX8_init_289 (by decide) ?_
  refine lv_iconst (v := 0) hx hb dX8_init_291 (by decide) ?_
  obtain ⟨m123, g124, hf⟩ := ob hf
  refine r_sI X hR hS g124 dX8_init_292 (fun H locs hR hS => ?_)
  refine lv_dup hx hb dX8_init_293 rfl ?_
  refine lv_bipush (v := 20) hx hb dX8_init_294 (by decide) ?_
  refine lv_iconst (v := 0) hx hb dX8_init_296 (by decide) ?_
  obtain ⟨m125, g126, hf⟩ := ob hf
  refine r_sI X hR hS g126 dX8_init_297 (fun H locs hR hS => ?_)
  refine lv_dup hx hb dX8_init_298 rfl ?_
  refine lv_bipush (v := 21) hx hb dX8_init_299 (by decide) ?_
  refine lv_iconst (v := 0) hx hb dX8_init_301 (by decide) ?_
  obtain ⟨m127, g128, hf⟩ := ob hf
  refine r_sI X hR hS g128 dX8_init_302 (fun H locs hR hS => ?_)
  refine lv_dup hx hb dX8_init_303 rfl ?_
  refine lv_bipush (v := 22) hx hb dX8_init_304 (by decide) ?_
  refine lv_iconst (v := 0) hx hb dX8_init_306 (by decide) ?_
  obtain ⟨m129, g130, hf⟩ := ob hf
  refine r_sI X hR hS g130 dX8_init_307 (fun H locs hR hS => ?_)
  refine lv_dup hx hb dX8_init_308 rfl ?_
  refine lv_bipush (v := 23) hx hb dX8_init_309 (by decide) ?_
  refine lv_iconst (v := 0) hx hb dX8_init_311 (by decide) ?_
  obtain ⟨m131, g132, hf⟩ := ob hf
  refine r_sI X hR hS g132 dX8_init_312 (fun H locs hR hS => ?_)
  refine lv_dup hx hb dX8_init_313 rfl ?_
  refine lv_bipush (v := 24) hx hb dX8_init_314 (by decide) ?_
  refine lv_iconst (v := 0) hx hb dX8_init_316 (by decide) ?_
  obtain ⟨m133, g134, hf⟩ := ob hf
  refine r_sI X hR hS g134 dX8_init_317 (fun H locs hR hS => ?_)
  refine lv_dup hx hb dX8_init_318 rfl ?_
  refine lv_bipush (v := 25) hx hb dX8_init_319 (by decide) ?_
  refine lv_iconst (v := 0) hx hb dX8_init_321 (by decide) ?_
  obtain ⟨m135, g136, hf⟩ := ob hf
  refine r_sI X hR hS g136 dX8_init_322 (fun H locs hR hS => ?_)
  refine lv_dup hx hb dX8_init_323 rfl ?_
  refine lv_bipush (v := 26) hx hb dX8_init_324 (by decide) ?_
  refine lv_iconst (v := 0) hx hb dX8_init_326 (by decide) ?_
  obtain ⟨m137, g138, hf⟩ := ob hf
  refine r_sI X hR hS g138 dX8_init_327 (fun H locs hR hS => ?_)
  refine lv_dup hx hb dX8_init_328 rfl ?_
  refine lv_bipush (v := 27) hx hb dX8_init_329 (by decide) ?_
  refine lv_iconst (v := 0) hx hb dX8_init_331 (by decide) ?_
  obtain ⟨m139, g140, hf⟩ := ob hf
  refine r_sI X hR hS g140 dX8_init_332 (fun H locs hR hS => ?_)
  refine lv_dup hx hb dX8_init_333 rfl ?_
  refine lv_bipush (v := 28) hx hb dX8_init_334 (by decide) ?_
  refine lv_iconst (v := 0) hx hb dX8_init_336 (by decide) ?_
  obtain ⟨m141, g142, hf⟩ := ob hf
  refine r_sI X hR hS g142 dX8_init_337 (fun H locs hR hS => ?_)
  refine lv_dup hx hb dX8_init_338 rfl ?_
  refine lv_bipush (v := 29) hx hb dX8_init_339 (by decide) ?_
  refine lv_iconst (v := 0) hx hb dX8_init_341 (by decide) ?_
  obtain ⟨m143, g144, hf⟩ := ob hf
  refine r_sI X hR hS g144 dX8_init_342 (fun H locs hR hS => ?_)
  refine lv_dup hx hb dX8_init_343 rfl ?_
  refine lv_bipush (v := 30) hx hb dX8_init_344 (by decide) ?_
  refine lv_iconst (v := 0) hx hb dX8_init_346 (by decide) ?_
  obtain ⟨m145, g146, hf⟩ := ob hf
  refine r_sI X hR hS g146 dX8_init_347 (fun H locs hR hS => ?_)
  refine lv_dup hx hb dX8_init_348 rfl ?_
  refine lv_bipush (v := 31) hx hb dX8_init_349 (by decide) ?_
  refine lv_iconst (v := 0) hx hb dX8_init_351 (by decide) ?_
  obtain ⟨m147, g148, hf⟩ := ob hf
  refine r_sI X hR hS g148 dX8_init_352 (fun H locs hR hS => ?_)
  obtain ⟨m149, g150, hf⟩ := ob hf
  refine pR_X8_26 X hnm hR hS g150 dX8_init_353 (fun H locs hR hS => ?_)
  refine lv_aload_n hx hb dX8_init_356 rfl (lv_at hl 0 rfl) ?_
  refine lv_bipush (v := 32) hx hb dX8_init_357 (by decide) ?_
  obtain ⟨m151, g152, hf⟩ := ob hf
  refine r_newI X (tb1 66 rfl rfl) hR hS g152 (by decide) (by decide) (Nat.le_of_ble_eq_true rfl) (Nat.le_of_ble_eq_true rfl) (Nat.le_of_ble_eq_true rfl) dX8_init_359 (fun H hR hS => ?_)
  refine lv_dup hx hb dX8_init_361 rfl ?_
  refine lv_iconst (v := 0) hx hb dX8_init_362 (by decide) ?_
  refine lv_iconst (v := -1) hx hb dX8_init_363 (by decide) ?_
  obtain ⟨m153, g154, hf⟩ := ob hf
  refine r_sI X hR hS g154 dX8_init_364 (fun H locs hR hS => ?_)
  refine lv_dup hx hb dX8_init_365 rfl ?_
  refine lv_iconst (v := 1) hx hb dX8_init_366 (by decide) ?_
  refine lv_iconst (v := 0) hx hb dX8_init_367 (by decide) ?_
  obtain ⟨m155, g156, hf⟩ := ob hf
  refine r_sI X hR hS g156 dX8_init_368 (fun H locs hR hS => ?_)
  refine lv_dup hx hb dX8_init_369 rfl ?_
  refine lv_iconst (v := 2) hx hb dX8_init_370 (by decide) ?_
  refine lv_iconst (v := 0) hx hb dX8_init_371 (by decide) ?_
  obtain ⟨m157, g158, hf⟩ := ob hf
  refine r_sI X hR hS g158 dX8_init_372 (fun H locs hR hS => ?_)
  refine lv_dup hx hb dX8_init_373 rfl ?_
  refine lv_iconst (v := 3) hx hb dX8_init_374 (by decide) ?_
  refine lv_iconst (v := 0) hx hb dX8_init_375 (by decide) ?_
  obtain ⟨m159, g160, hf⟩ := ob hf
  refine r_sI X hR hS g160 dX8_init_376 (fun H locs hR hS => ?_)
  refine lv_dup hx hb dX8_init_377 rfl ?_
  refine lv_iconst (v := 4) hx hb dX8_init_378 (by decide) ?_
  refine lv_iconst (v := 0) hx hb dX8_init_379 (by decide) ?_
  obtain ⟨m161, g162, hf⟩ := ob hf
  refine r_sI X hR hS g162 dX8_init_380 (fun H locs hR hS => ?_)
  refine lv_dup hx hb dX8_init_381 rfl ?_
  refine lv_iconst (v := 5) hx hb dX8_init_382 (by decide) ?_
  refine lv_iconst (v := 0) hx hb dX8_init_383 (by decide) ?_
  obtain ⟨m163, g164, hf⟩ := ob hf
  refine r_sI X hR hS g164 dX8_init_384 (fun H locs hR hS => ?_)
  refine lv_dup hx hb dX8_init_385 rfl ?_
  refine lv_bipush (v := 6) hx hb dX8_init_386 (by decide) ?_
  refine lv_iconst (v := 0) hx hb dX8_init_388 (by decide) ?_
  obtain ⟨m165, g166, hf⟩ := ob hf
  refine r_sI X hR hS g166 dX8_init_389 (fun H locs hR hS => ?_)
  refine lv_dup hx hb dX8_init_390 rfl ?_
  refine lv_bipush (v := 7) hx hb dX8_init_391 (by decide) ?_
  refine lv_iconst (v := 0) hx hb dX8_init_393 (by decide) ?_
  obtain ⟨m167, g168, hf⟩ := ob hf
  refine r_sI X hR hS g168 dX8_init_394 (fun H locs hR hS => ?_)
  refine lv_dup hx hb dX8_init_395 rfl ?_
  refine lv_bipush (v := 8) hx hb dX8_init_396 (by decide) ?_
  refine lv_iconst (v := 0) hx hb dX8_init_398 (by decide) ?_
  obtain ⟨m169, g170, hf⟩ := ob hf
  refine r_sI X hR hS g170 dX8_init_399 (fun H locs hR hS => ?_)
  refine lv_dup hx hb dX8_init_400 rfl ?_
  refine lv_bipush (v := 9) hx hb dX8_init_401 (by decide) ?_
  refine lv_iconst (v := 0) hx hb dX8_init_403 (by decide) ?_
  obtain ⟨m171, g172, hf⟩ := ob hf
  refine r_sI X hR hS g172 dX8_init_404 (fun H locs hR hS => ?_)
  refine lv_dup hx hb dX8_init_405 rfl ?_
  refine lv_bipush (v := 10) hx hb dX8_init_406 (by decide) ?_
  refine lv_iconst (v := 0) hx hb dX8_init_408 (by decide) ?_
  obtain ⟨m173, g174, hf⟩ := ob hf
  refine r_sI X hR hS g174 dX8_init_409 (fun H locs hR hS => ?_)
  refine lv_dup hx hb dX8_init_410 rfl ?_
  refine lv_bipush (v := 11) hx hb dX8_init_411 (by decide) ?_
  refine lv_iconst (v := 0) hx hb dX8_init_413 (by decide) ?_
  obtain ⟨m175, g176, hf⟩ := ob hf
  refine r_sI X hR hS g176 dX8_init_414 (fun H locs hR hS => ?_)
  refine lv_dup hx hb dX8_init_415 rfl ?_
  refine lv_bipush (v := 12) hx hb dX8_init_416 (by decide) ?_
  refine lv_iconst (v := 0) hx hb dX8_init_418 (by decide) ?_
  obtain ⟨m177, g178, hf⟩ := ob hf
  refine r_sI X hR hS g178 dX8_init_419 (fun H locs hR hS => ?_)
  refine lv_dup hx hb dX8_init_420 rfl ?_
  refine lv_bipush (v := 13) hx hb dX8_init_421 (by decide) ?_
  refine lv_iconst (v := 0) hx hb dX8_init_423 (by decide) ?_
  obtain ⟨m179, g180, hf⟩ := ob hf
  refine r_sI X hR hS g180 dX8_init_424 (fun H locs hR hS => ?_)
  refine lv_dup hx hb dX8_init_425 rfl ?_
  refine lv_bipush (v := 14) hx hb dX8_init_426 (by decide) ?_
  refine lv_iconst (v := 0) hx hb dX8_init_428 (by decide) ?_
  obtain ⟨m181, g182, hf⟩ := ob hf
  refine r_sI X hR hS g182 dX8_init_429 (fun H locs hR hS => ?_)
  refine lv_dup hx hb dX8_init_430 rfl ?_
  refine lv_bipush (v := 15) hx hb dX8_init_431 (by decide) ?_
  refine lv_iconst (v := 0) hx hb dX8_init_433 (by decide) ?_
  obtain ⟨m183, g184, hf⟩ := ob hf
  refine r_sI X hR hS g184 dX8_init_434 (fun H locs hR hS => ?_)
  refine lv_dup hx hb dX8_init_435 rfl ?_
  refine lv_bipush (v := 16) hx hb dX8_init_436 (by decide) ?_
  refine lv_iconst (v := 0) hx hb dX8_init_438 (by decide) ?_
  obtain ⟨m185, g186, hf⟩ := ob hf
  refine r_sI X hR hS g186 dX8_init_439 (fun H locs hR hS => ?_)
  refine lv_dup hx hb dX8_init_440 rfl ?_
  refine lv_bipush (v := 17) hx hb dX8_init_441 (by decide) ?_
  refine lv_iconst (v := 0) hx hb dX8_init_443 (by decide) ?_
  obtain ⟨m187, g188, hf⟩ := ob hf
  refine r_sI X hR hS g188 dX8_init_444 (fun H locs hR hS => ?_)
  refine lv_dup hx hb dX8_init_445 rfl ?_
  refine lv_bipush (v := 18) hx hb dX8_init_446 (by decide) ?_
  refine lv_iconst (v := 0) hx hb dX8_init_448 (by decide) ?_
  obtain ⟨m189, g190, hf⟩ := ob hf
  refine r_sI X hR hS g190 dX8_init_449 (fun H locs hR hS => ?_)
  refine lv_dup hx hb dX8_init_450 rfl ?_
  refine lv_bipush (v := 19) hx hb dX8_init_451 (by decide) ?_
  refine lv_iconst (v := 0) hx hb dX8_init_453 (by decide) ?_
  obtain ⟨m191, g192, hf⟩ := ob hf
  refine r_sI X hR hS g192 dX8_init_454 (fun H locs hR hS => ?_)
  refine lv_dup hx hb dX8_init_455 rfl ?_
  refine lv_bipush (v := 20) hx hb dX8_init_456 (by decide) ?_
  refine lv_iconst (v := 0) hx hb dX8_init_458 (by decide) ?_
  obtain ⟨m193, g194, hf⟩ := ob hf
  refine r_sI X hR hS g194 dX8_init_459 (fun H locs hR hS => ?_)
  refine lv_dup hx hb dX8_init_460 rfl ?_
  refine lv_bipush (v := 21) hx hb dX8_init_461 (by decide) ?_
  refine lv_iconst (v := 0) hx hb dX8_init_463 (by decide) ?_
  obtain ⟨m195, g196, hf⟩ := ob hf
  refine r_sI X hR hS g196 dX8_init_464 (fun H locs hR hS => ?_)
  refine lv_dup hx hb dX8_init_465 rfl ?_
  refine lv_bipush (v := 22) hx hb dX8_init_466 (by decide) ?_
  refine lv_iconst (v := 0) hx hb dX8_init_468 (by decide) ?_
  obtain ⟨m197, g198, hf⟩ := ob hf
  refine r_sI X hR hS g198 dX8_init_469 (fun H locs hR hS => ?_)
  refine lv_dup hx hb dX8_init_470 rfl ?_
  refine lv_bipush (v := 23) hx hb dX8_init_471 (by decide) ?_
  refine lv_iconst (v := 0) hx hb dX8_init_473 (by decide) ?_
  obtain ⟨m199, g200, hf⟩ := ob hf
  refine r_sI X hR hS g200 dX8_init_474 (fun H locs hR hS => ?_)
  refine lv_dup hx hb dX8_init_475 rfl ?_
  refine lv_bipush (v := 24) hx hb dX8_init_476 (by decide) ?_
  refine lv_iconst (v := 0) hx hb dX8_init_478 (by decide) ?_
  obtain ⟨m201, g202, hf⟩ := ob hf
  refine r_sI X hR hS g202 dX8_init_479 (fun H locs hR hS => ?_)
  refine lv_dup hx hb dX8_init_480 rfl ?_
  refine lv_bipush (v := 25) hx hb dX8_init_481 (by decide) ?_
  refine lv_iconst (v := 0) hx hb dX8_init_483 (by decide) ?_
  obtain ⟨m203, g204, hf⟩ := ob hf
  refine r_sI X hR hS g204 dX8_init_484 (fun H locs hR hS => ?_)
  refine lv_dup hx hb dX8_init_485 rfl ?_
  refine lv_bipush (v := 26) hx hb dX8_init_486 (by decide) ?_
  refine lv_iconst (v := 0) hx hb dX8_init_488 (by decide) ?_
  obtain ⟨m205, g206, hf⟩ := ob hf
  refine r_sI X hR hS g206 dX8_init_489 (fun H locs hR hS => ?_)
  refine lv_dup hx hb dX8_init_490 rfl ?_
  refine lv_bipush (v := 27) hx hb dX8_init_491 (by decide) ?_
  refine lv_iconst (v := 0) hx hb dX8_init_493 (by decide) ?_
  obtain ⟨m207, g208, hf⟩ := ob hf
  refine r_sI X hR hS g208 dX8_init_494 (fun H locs hR hS => ?_)
  refine lv_dup hx hb dX8_init_495 rfl ?_
  refine lv_bipush (v := 28) hx hb dX8_init_496 (by decide) ?_
  refine lv_iconst (v := 0) hx hb dX8_init_498 (by decide) ?_
  obtain ⟨m209, g210, hf⟩ := ob hf
  refine r_sI X hR hS g210 dX8_init_499 (fun H locs hR hS => ?_)
  refine lv_dup hx hb dX8_init_500 rfl ?_
  refine lv_bipush (v := 29) hx hb dX8_init_501 (by decide) ?_
  refine lv_iconst (v := 0) hx hb dX8_init_503 (by decide) ?_
  obtain ⟨m211, g212, hf⟩ := ob hf
  refine r_sI X hR hS g212 dX8_init_504 (fun H locs hR hS => ?_)
  refine lv_dup hx hb dX8_init_505 rfl ?_
  refine lv_bipush (v := 30) hx hb dX8_init_506 (by decide) ?_
  refine lv_iconst (v := 0) hx hb dX8_init_508 (by decide) ?_
  obtain ⟨m213, g214, hf⟩ := ob hf
  refine r_sI X hR hS g214 dX8_init_509 (fun H locs hR hS => ?_)
  refine lv_dup hx hb dX8_init_510 rfl ?_
  refine lv_bipush (v := 31) hx hb dX8_init_511 (by decide) ?_
  refine lv_iconst (v := 0) hx hb dX8_init_513 (by decide) ?_
  obtain ⟨m215, g216, hf⟩ := ob hf
  refine r_sI X hR hS g216 dX8_init_514 (fun H locs hR hS => ?_)
  obtain ⟨m217, g218, hf⟩ := ob hf
  refine pR_X8_29 X hnm hR hS g218 dX8_init_515 (fun H locs hR hS => ?_)
  refine lv_aload_n hx hb dX8_init_518 rfl (lv_at hl 0 rfl) ?_
  refine lv_iconst (v := 4) hx hb dX8_init_519 (by decide) ?_
  obtain ⟨m219, g220, hf⟩ := ob hf
  refine r_newI X (tb1 66 rfl rfl) hR hS g220 (by decide) (by decide) (Nat.le_of_ble_eq_true rfl) (Nat.le_of_ble_eq_true rfl) (Nat.le_of_ble_eq_true rfl) dX8_init_520 (fun H hR hS => ?_)
  obtain ⟨m221, g222, hf⟩ := ob hf
  refine pR_X8_32 X hnm hR hS g222 dX8_init_522 (fun H locs hR hS => ?_)
  refine lv_aload_n hx hb dX8_init_525 rfl (lv_at hl 0 rfl) ?_
  refine lv_sipush (v := 144) hx hb dX8_init_526 (by decide) ?_
  obtain ⟨m223, g224, hf⟩ := ob hf
  refine r_newI X (tb1 66 rfl rfl) hR hS g224 (by decide) (by decide) (Nat.le_of_ble_eq_true rfl) (Nat.le_of_ble_eq_true rfl) (Nat.le_of_ble_eq_true rfl) dX8_init_529 (fun H hR hS => ?_)
  obtain ⟨m225, g226, hf⟩ := ob hf
  refine pR_X8_35 X hnm hR hS g226 dX8_init_531 (fun H locs hR hS => ?_)
  refine lv_aload_n hx hb dX8_init_534 rfl (lv_at hl 0 rfl) ?_
  refine lv_sipush (v := 1960) hx hb dX8_init_535 (by decide) ?_
  obtain ⟨m227, g228, hf⟩ := ob hf
  refine r_newI X (tb1 66 rfl rfl) hR hS g228 (by decide) (by decide) (Nat.le_of_ble_eq_true rfl) (Nat.le_of_ble_eq_true rfl) (Nat.le_of_ble_eq_true rfl) dX8_init_538 (fun H hR hS => ?_)
  obtain ⟨m229, g230, hf⟩ := ob hf
  refine pR_X8_38 X hnm hR hS g230 dX8_init_540 (fun H locs hR hS => ?_)
  refine lv_aload_n hx hb dX8_init_543 rfl (lv_at hl 0 rfl) ?_
  refine lv_bipush (v := 96) hx hb dX8_init_544 (by decide) ?_
  obtain ⟨m231, g232, hf⟩ := ob hf
  refine r_newI X (tb1 66 rfl rfl) hR hS g232 (by decide) (by decide) (Nat.le_of_ble_eq_true rfl) (Nat.le_of_ble_eq_true rfl) (Nat.le_of_ble_eq_true rfl) dX8_init_546 (fun H hR hS => ?_)
  obtain ⟨m233, g234, hf⟩ := ob hf
  refine pR_X8_41 X hnm hR hS g234 dX8_init_548 (fun H locs hR hS => ?_)
  refine lv_aload_n hx hb dX8_init_551 rfl (lv_at hl 0 rfl) ?_
  refine lv_bipush (v := 6) hx hb dX8_init_552 (by decide) ?_
  obtain ⟨m235, g236, hf⟩ := ob hf
  refine r_newI X (tb1 66 rfl rfl) hR hS g236 (by decide) (by decide) (Nat.le_of_ble_eq_true rfl) (Nat.le_of_ble_eq_true rfl) (Nat.le_of_ble_eq_true rfl) dX8_init_554 (fun H hR hS => ?_)
  obtain ⟨m237, g238, hf⟩ := ob hf
  refine pR_X8_44 X hnm hR hS g238 dX8_init_556 (fun H locs hR hS => ?_)
  refine lv_aload_n hx hb dX8_init_559 rfl (lv_at hl 0 rfl) ?_
  refine lv_bipush (v := 6) hx hb dX8_init_560 (by decide) ?_
  obtain ⟨m239, g240, hf⟩ := ob hf
  refine r_newI X (tb1 66 rfl rfl) hR hS g240 (by decide) (by decide) (Nat.le_of_ble_eq_true rfl) (Nat.le_of_ble_eq_true rfl) (Nat.le_of_ble_eq_true rfl) dX8_init_562 (fun H hR hS => ?_)
  obtain ⟨m241, g242, hf⟩ := ob hf
  refine pR_X8_47 X hnm hR hS g242 dX8_init_564 (fun H locs hR hS => ?_)
  refine lv_aload_n hx hb dX8_init_567 rfl (lv_at hl 0 rfl) ?_
  refine lv_sipush (v := 192) hx hb dX8_init_568 (by decide) ?_
  obtain ⟨m243, g244, hf⟩ := ob hf
  refine r_newJ X (tb1 186 rfl rfl) hR hS g244 (by decide) (by decide) (Nat.le_of_ble_eq_true rfl) (Nat.le_of_ble_eq_true rfl) (Nat.le_of_ble_eq_true rfl) dX8_init_571 (fun H hR hS => ?_)
  obtain ⟨m245, g246, hf⟩ := ob hf
  refine pR_X8_50 X hnm hR hS g246 dX8_init_573 (fun H locs hR hS => ?_)
  refine lv_aload_n hx hb dX8_init_576 rfl (lv_at hl 0 rfl) ?_
  refine lv_bipush (v := 32) hx hb dX8_init_577 (by decide) ?_
  obtain ⟨m247, g248, hf⟩ := ob hf
  refine r_newJ X (tb1 186 rfl rfl) hR hS g248 (by decide) (by decide) (Nat.le_of_ble_eq_true rfl) (Nat.le_of_ble_eq_true rfl) (Nat.le_of_ble_eq_true rfl) dX8_init_579 (fun H hR hS => ?_)
  obtain ⟨m249, g250, hf⟩ := ob hf
  refine pR_X8_54 X hnm hR hS g250 dX8_init_581 (fun H locs hR hS => ?_)
  refine lv_aload_n hx hb dX8_init_584 rfl (lv_at hl 0 rfl) ?_
  refine lv_bipush (v := 32) hx hb dX8_init_585 (by decide) ?_
  obtain ⟨m251, g252, hf⟩ := ob hf
  refine r_newJ X (tb1 186 rfl rfl) hR hS g252 (by decide) (by decide) (Nat.le_of_ble_eq_true rfl) (Nat.le_of_ble_eq_true rfl) (Nat.le_of_ble_eq_true rfl) dX8_init_587 (fun H hR hS => ?_)
  obtain ⟨m253, g254, hf⟩ := ob hf
  refine pR_X8_57 X hnm hR hS g254 dX8_init_589 (fun H locs hR hS => ?_)
  refine lv_aload_n hx hb dX8_init_592 rfl (lv_at hl 0 rfl) ?_
  refine lv_bipush (v := 33) hx hb dX8_init_593 (by decide) ?_
  obtain ⟨m255, g256, hf⟩ := ob hf
  refine r_newJ X (tb1 186 rfl rfl) hR hS g256 (by decide) (by decide) (Nat.le_of_ble_eq_true rfl) (Nat.le_of_ble_eq_true rfl) (Nat.le_of_ble_eq_true rfl) dX8_init_595 (fun H hR hS => ?_)
  obtain ⟨m257, g258, hf⟩ := ob hf
  refine pR_X8_60 X hnm hR hS g258 dX8_init_597 (fun H locs hR hS => ?_)
  refine lv_aload_n hx hb dX8_init_600 rfl (lv_at hl 0 rfl) ?_
  refine lv_bipush (v := 6) hx hb dX8_init_601 (by decide) ?_
  obtain ⟨m259, g260, hf⟩ := ob hf
  refine r_newI X (tb1 66 rfl rfl) hR hS g260 (by decide) (by decide) (Nat.le_of_ble_eq_true rfl) (Nat.le_of_ble_eq_true rfl) (Nat.le_of_ble_eq_true rfl) dX8_init_603 (fun H hR hS => ?_)
  obtain ⟨m261, g262, hf⟩ := ob hf
  refine pR_X8_63 X hnm hR hS g262 dX8_init_605 (fun H locs hR hS => ?_)
  refine lv_aload_n hx hb dX8_init_608 rfl (lv_at hl 0 rfl) ?_
  refine lv_bipush (v := 32) hx hb dX8_init_609 (by decide) ?_
  obtain ⟨m263, g264, hf⟩ := ob hf
  refine r_newJ X (tb1 186 rfl rfl) hR hS g264 (by decide) (by decide) (Nat.le_of_ble_eq_true rfl) (Nat.le_of_ble_eq_true rfl) (Nat.le_of_ble_eq_true rfl) dX8_init_611 (fun H hR hS => ?_)
  obtain ⟨m265, g266, hf⟩ := ob hf
  refine pR_X8_66 X hnm hR hS g266 dX8_init_613 (fun H locs hR hS => ?_)
  refine lv_aload_n hx hb dX8_init_616 rfl (lv_at hl 0 rfl) ?_
  refine lv_bipush (v := 32) hx hb dX8_init_617 (by decide) ?_
  obtain ⟨m267, g268, hf⟩ := ob hf
  refine r_newJ X (tb1 186 rfl rfl) hR hS g268 (by decide) (by decide) (Nat.le_of_ble_eq_true rfl) (Nat.le_of_ble_eq_true rfl) (Nat.le_of_ble_eq_true rfl) dX8_init_619 (fun H hR hS => ?_)
  obtain ⟨m269, g270, hf⟩ := ob hf
  refine pR_X8_69 X hnm hR hS g270 dX8_init_621 (fun H locs hR hS => ?_)
  refine lv_aload_n hx hb dX8_init_624 rfl (lv_at hl 0 rfl) ?_
  refine lv_bipush (v := 120) hx hb dX8_init_625 (by decide) ?_
  obtain ⟨m271, g272, hf⟩ := ob hf
  refine r_newI X (tb1 66 rfl rfl) hR hS g272 (by decide) (by decide) (Nat.le_of_ble_eq_true rfl) (Nat.le_of_ble_eq_true rfl) (Nat.le_of_ble_eq_true rfl) dX8_init_627 (fun H hR hS => ?_)
  obtain ⟨m273, g274, hf⟩ := ob hf
  refine pR_X8_72 X hnm hR hS g274 dX8_init_629 (fun H locs hR hS => ?_)
  refine lv_aload_n hx hb dX8_init_632 rfl (lv_at hl 0 rfl) ?_
  refine lv_bipush (v := 32) hx hb dX8_init_633 (by decide) ?_
  obtain ⟨m275, g276, hf⟩ := ob hf
  refine r_newI X (tb1 66 rfl rfl) hR hS g276 (by decide) (by decide) (Nat.le_of_ble_eq_true rfl) (Nat.le_of_ble_eq_true rfl) (Nat.le_of_ble_eq_true rfl) dX8_init_635 (fun H hR hS => ?_)
  obtain ⟨m277, g278, hf⟩ := ob hf
  refine pR_X8_75 X hnm hR hS g278 dX8_init_637 (fun H locs hR hS => ?_)
  refine lv_aload_n hx hb dX8_init_640 rfl (lv_at hl 0 rfl) ?_
  refine lv_bipush (v := 32) hx hb dX8_init_641 (by decide) ?_
  obtain ⟨m279, g280, hf⟩ := ob hf
  refine r_newI X (tb1 66 rfl rfl) hR hS g280 (by decide) (by decide) (Nat.le_of_ble_eq_true rfl) (Nat.le_of_ble_eq_true rfl) (Nat.le_of_ble_eq_true rfl) dX8_init_643 (fun H hR hS => ?_)
  obtain ⟨m281, g282, hf⟩ := ob hf
  refine pR_X8_78 X hnm hR hS g282 dX8_init_645 (fun H locs hR hS => ?_)
  refine lv_aload_n hx hb dX8_init_648 rfl (lv_at hl 0 rfl) ?_
  refine lv_bipush (v := 32) hx hb dX8_init_649 (by decide) ?_
  obtain ⟨m283, g284, hf⟩ := ob hf
  refine r_newI X (tb1 66 rfl rfl) hR hS g284 (by decide) (by decide) (Nat.le_of_ble_eq_true rfl) (Nat.le_of_ble_eq_true rfl) (Nat.le_of_ble_eq_true rfl) dX8_init_651 (fun H hR hS => ?_)
  obtain ⟨m285, g286, hf⟩ := ob hf
  refine pR_X8_81 X hnm hR hS g286 dX8_init_653 (fun H locs hR hS => ?_)
  refine lv_aload_n hx hb dX8_init_656 rfl (lv_at hl 0 rfl) ?_
  refine lv_bipush (v := 36) hx hb dX8_init_657 (by decide) ?_
  obtain ⟨m287, g288, hf⟩ := ob hf
  refine r_newI X (tb1 66 rfl rfl) hR hS g288 (by decide) (by decide) (Nat.le_of_ble_eq_true rfl) (Nat.le_of_ble_eq_true rfl) (Nat.le_of_ble_eq_true rfl) dX8_init_659 (fun H hR hS => ?_)
  obtain ⟨m289, g290, hf⟩ := ob hf
  refine pR_X8_84 X hnm hR hS g290 dX8_init_661 (fun H locs hR hS => ?_)
  refine lv_aload_n hx hb dX8_init_664 rfl (lv_at hl 0 rfl) ?_
  refine lv_sipush (v := 256) hx hb dX8_init_665 (by decide) ?_
  obtain ⟨m291, g292, hf⟩ := ob hf
  refine r_newI X (tb1 66 rfl rfl) hR hS g292 (by decide) (by decide) (Nat.le_of_ble_eq_true rfl) (Nat.le_of_ble_eq_true rfl) (Nat.le_of_ble_eq_true rfl) dX8_init_668 (fun H hR hS => ?_)
  obtain ⟨m293, g294, hf⟩ := ob hf
  refine pR_X8_87 X hnm hR hS g294 dX8_init_670 (fun H locs hR hS => ?_)
  obtain rfl := Option.some.inj hf
  exact r_vret X hr hlocks hR hS dX8_init_673
