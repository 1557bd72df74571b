noncomputable def F_X10_isStoodOn_3 (S : ST) (N : Nat) : Nat → Nat → Int32 → Int32 → Int32 → Int32 → DY → Option (Int32 × DY) := fun k => Nat.rec (motive := fun _ => Nat → Int32 → Int32 → Int32 → Int32 → DY → Option (Int32 × DY)) (fun _ _ _ _ _ _ => none) (fun _ ih x0 x1 x2 x3 x4 dy => if ib (((720 : Int32) * x1) + (2 : Int32)) 10080 then (if (gi dy (gr S x0 39) (((720 : Int32) * x1) + (2 : Int32)).toNatClampNeg) ≤ x4 then some ((0 : Int32), dy) else if ib x4 12 then (if (gi dy (gr S x0 48) x4.toNatClampNeg) = x2 then if ib x4 12 then (if (gi dy (gr S x0 49) x4.toNatClampNeg) = x3 then (if x2 = (-1 : Int32) then ih x0 x1 x2 x3 (x4 + (1 : Int32)) dy else some ((1 : Int32), dy)) else ih x0 x1 x2 x3 (x4 + (1 : Int32)) dy) else none else ih x0 x1 x2 x3 (x4 + (1 : Int32)) dy) else none) else none) k
theorem F_X10_isStoodOn_3_s (S : ST) (N : Nat) (k : Nat) (x0 : Nat) (x1 : Int32) (x2 : Int32) (x3 : Int32) (x4 : Int32) (dy : DY) : F_X10_isStoodOn_3 S N (k + 1) x0 x1 x2 x3 x4 dy = (if ib (((720 : Int32) * x1) + (2 : Int32)) 10080 then (if (gi dy (gr S x0 39) (((720 : Int32) * x1) + (2 : Int32)).toNatClampNeg) ≤ x4 then some ((0 : Int32), dy) else if ib x4 12 then (if (gi dy (gr S x0 48) x4.toNatClampNeg) = x2 then if ib x4 12 then (if (gi dy (gr S x0 49) x4.toNatClampNeg) = x3 then (if x2 = (-1 : Int32) then (F_X10_isStoodOn_3 S N k) x0 x1 x2 x3 (x4 + (1 : Int32)) dy else some ((1 : Int32), dy)) else (F_X10_isStoodOn_3 S N k) x0 x1 x2 x3 (x4 + (1 : Int32)) dy) else none else (F_X10_isStoodOn_3 S N k) x0 x1 x2 x3 (x4 + (1 : Int32)) dy) else none) else none) := rfl
noncomputable def F_X10_isStoodOn (S : ST) (N : Nat) (a0 : Nat) (a1 : Int32) (a2 : Int32) (a3 : Int32) (dy : DY) : Option (Int32 × DY) := (F_X10_isStoodOn_3 S N N) a0 a1 a2 a3 (0 : Int32) dy
theorem F_X10_isStoodOn_s (S : ST) (N : Nat) (a0 : Nat) (a1 : Int32) (a2 : Int32) (a3 : Int32) (dy : DY) : F_X10_isStoodOn S N a0 a1 a2 a3 dy = ((F_X10_isStoodOn_3 S N N) a0 a1 a2 a3 (0 : Int32) dy) := rfl
noncomputable def F_X10_passDoor_134 (S : ST) (N : Nat) (x0 : Nat) (x3 : Int32) (x4 : Int32) (y0 : Nat) (y1 : Int32) (y2 : Int32) (dy : DY) : Option DY := if ib y1 10080 then bd (si dy y0 y1.toNatClampNeg y2) fun dy1 => if ib x4 10080 then bd (si dy1 (gr S x0 39) x4.toNatClampNeg x3) fun dy3 => if ib (x4 + (4 : Int32)) 10080 then if ib (x4 + (4 : Int32)) 10080 then bd (si dy3 (gr S x0 39) (x4 + (4 : Int32)).toNatClampNeg ((gi dy3 (gr S x0 39) (x4 + (4 : Int32)).toNatClampNeg) + (1 : Int32))) fun dy5 => some dy5 else none else none else none else none
theorem F_X10_passDoor_134_s (S : ST) (N : Nat) (x0 : Nat) (x3 : Int32) (x4 : Int32) (y0 : Nat) (y1 : Int32) (y2 : Int32) (dy : DY) : F_X10_passDoor_134 S N x0 x3 x4 y0 y1 y2 dy = (if ib y1 10080 then bd (si dy y0 y1.toNatClampNeg y2) fun dy1 => if ib x4 10080 then bd (si dy1 (gr S x0 39) x4.toNatClampNeg x3) fun dy3 => if ib (x4 + (4 : Int32)) 10080 then if ib (x4 + (4 : Int32)) 10080 then bd (si dy3 (gr S x0 39) (x4 + (4 : Int32)).toNatClampNeg ((gi dy3 (gr S x0 39) (x4 + (4 : Int32)).toNatClampNeg) + (1 : Int32))) fun dy5 => some dy5 else none else none else none else none) := rfl
noncomputable def F_X10_passDoor_83 (S : ST) (N : Nat) (x0 : Nat) (x3 : Int32) (x4 : Int32) (y0 : Nat) (y1 : Int32) (y2 : Int32) (dy : DY) : Option DY := if ib y1 10080 then bd (si dy y0 y1.toNatClampNeg y2) fun dy1 => if ib (x4 + (1 : Int32)) 10080 then if ib (x4 + (2 : Int32)) 10080 then (if (gi dy1 (gr S x0 39) (x4 + (1 : Int32)).toNatClampNeg) ≤ (gi dy1 (gr S x0 39) (x4 + (2 : Int32)).toNatClampNeg) then if ib (x4 + (2 : Int32)) 10080 then (F_X10_passDoor_134 S N) x0 x3 x4 (gr S x0 39) (x4 + (2 : Int32)) (gi dy1 (gr S x0 39) (x4 + (2 : Int32)).toNatClampNeg) dy1 else none else if ib (x4 + (1 : Int32)) 10080 then (F_X10_passDoor_134 S N) x0 x3 x4 (gr S x0 39) (x4 + (2 : Int32)) (gi dy1 (gr S x0 39) (x4 + (1 : Int32)).toNatClampNeg) dy1 else none) else none else none else none
theorem F_X10_passDoor_83_s (S : ST) (N : Nat) (x0 : Nat) (x3 : Int32) (x4 : Int32) (y0 : Nat) (y1 : Int32) (y2 : Int32) (dy : DY) : F_X10_passDoor_83 S N x0 x3 x4 y0 y1 y2 dy = (if ib y1 10080 then bd (si dy y0 y1.toNatClampNeg y2) fun dy1 => if ib (x4 + (1 : Int32)) 10080 then if ib (x4 + (2 : Int32)) 10080 then (if (gi dy1 (gr S x0 39) (x4 + (1 : Int32)).toNatClampNeg) ≤ (gi dy1 (gr S x0 39) (x4 + (2 : Int32)).toNatClampNeg) then if ib (x4 + (2 : Int32)) 10080 then (F_X10_passDoor_134 S N) x0 x3 x4 (gr S x0 39) (x4 + (2 : Int32)) (gi dy1 (gr S x0 39) (x4 + (2 : Int32)).toNatClampNeg) dy1 else none else if ib (x4 + (1 : Int32)) 10080 then (F_X10_passDoor_134 S N) x0 x3 x4 (gr S x0 39) (x4 + (2 : Int32)) (gi dy1 (gr S x0 39) (x4 + (1 : Int32)).toNatClampNeg) dy1 else none) else none else none else none) := rfl
noncomputable def F_X10_passDoor_53 (S : ST) (N : Nat) (x0 : Nat) (x3 : Int32) (x4 : Int32) (x5 : Int32) (y0 : Nat) (y1 : Int32) (y2 : Int32) (y3 : Int32) (dy : DY) : Option DY := if ib y1 10080 then bd (si dy y0 y1.toNatClampNeg (y2 + y3)) fun dy1 => (if x5 = 0 then (F_X10_passDoor_83 S N) x0 x3 x4 (gr S x0 39) (x4 + (1 : Int32)) (1 : Int32) dy1 else if ib (x4 + (1 : Int32)) 10080 then (F_X10_passDoor_83 S N) x0 x3 x4 (gr S x0 39) (x4 + (1 : Int32)) ((gi dy1 (gr S x0 39) (x4 + (1 : Int32)).toNatClampNeg) + (1 : Int32)) dy1 else none) else none
theorem F_X10_passDoor_53_s (S : ST) (N : Nat) (x0 : Nat) (x3 : Int32) (x4 : Int32) (x5 : Int32) (y0 : Nat) (y1 : Int32) (y2 : Int32) (y3 : Int32) (dy : DY) : F_X10_passDoor_53 S N x0 x3 x4 x5 y0 y1 y2 y3 dy = (if ib y1 10080 then bd (si dy y0 y1.toNatClampNeg (y2 + y3)) fun dy1 => (if x5 = 0 then (F_X10_passDoor_83 S N) x0 x3 x4 (gr S x0 39) (x4 + (1 : Int32)) (1 : Int32) dy1 else if ib (x4 + (1 : Int32)) 10080 then (F_X10_passDoor_83 S N) x0 x3 x4 (gr S x0 39) (x4 + (1 : Int32)) ((gi dy1 (gr S x0 39) (x4 + (1 : Int32)).toNatClampNeg) + (1 : Int32)) dy1 else none) else none) := rfl
noncomputable def F_X10_passDoor_31 (S : ST) (N : Nat) (x0 : Nat) (x3 : Int32) (x4 : Int32) (y0 : Int32) (dy : DY) : Option DY := if ib (x4 + (3 : Int32)) 10080 then (if y0 = 0 then (F_X10_passDoor_53 S N) x0 x3 x4 y0 (gr S x0 39) (x4 + (3 : Int32)) (gi dy (gr S x0 39) (x4 + (3 : Int32)).toNatClampNeg) (1 : Int32) dy else (F_X10_passDoor_53 S N) x0 x3 x4 y0 (gr S x0 39) (x4 + (3 : Int32)) (gi dy (gr S x0 39) (x4 + (3 : Int32)).toNatClampNeg) (0 : Int32) dy) else none
theorem F_X10_passDoor_31_s (S : ST) (N : Nat) (x0 : Nat) (x3 : Int32) (x4 : Int32) (y0 : Int32) (dy : DY) : F_X10_passDoor_31 S N x0 x3 x4 y0 dy = (if ib (x4 + (3 : Int32)) 10080 then (if y0 = 0 then (F_X10_passDoor_53 S N) x0 x3 x4 y0 (gr S x0 39) (x4 + (3 : Int32)) (gi dy (gr S x0 39) (x4 + (3 : Int32)).toNatClampNeg) (1 : Int32) dy else (F_X10_passDoor_53 S N) x0 x3 x4 y0 (gr S x0 39) (x4 + (3 : Int32)) (gi dy (gr S x0 39) (x4 + (3 : Int32)).toNatClampNeg) (0 : Int32) dy) else none) := rfl
noncomputable def F_X10_passDoor (S : ST) (N : Nat) (a0 : Nat) (a1 : Int32) (a2 : Int32) (a3 : Int32) (dy : DY) : Option DY := if ib ((((720 : Int32) * a1) + (640 : Int32)) + ((5 : Int32) * a2)) 10080 then (if (gi dy (gr S a0 39) ((((720 : Int32) * a1) + (640 : Int32)) + ((5 : Int32) * a2)).toNatClampNeg) = a3 then (F_X10_passDoor_31 S N) a0 a3 ((((720 : Int32) * a1) + (640 : Int32)) + ((5 : Int32) * a2)) (1 : Int32) dy else (F_X10_passDoor_31 S N) a0 a3 ((((720 : Int32) * a1) + (640 : Int32)) + ((5 : Int32) * a2)) (0 : Int32) dy) else none
theorem F_X10_passDoor_s (S : ST) (N : Nat) (a0 : Nat) (a1 : Int32) (a2 : Int32) (a3 : Int32) (dy : DY) : F_X10_passDoor S N a0 a1 a2 a3 dy = (if ib ((((720 : Int32) * a1) + (640 : Int32)) + ((5 : Int32) * a2)) 10080 then (if (gi dy (gr S a0 39) ((((720 : Int32) * a1) + (640 : Int32)) + ((5 : Int32) * a2)).toNatClampNeg) = a3 then (F_X10_passDoor_31 S N) a0 a3 ((((720 : Int32) * a1) + (640 : Int32)) + ((5 : Int32) * a2)) (1 : Int32) dy else (F_X10_passDoor_31 S N) a0 a3 ((((720 : Int32) * a1) + (640 : Int32)) + ((5 : Int32) * a2)) (0 : Int32) dy) else none) := rfl
noncomputable def F_X10_goes_241 (S : ST) (N : Nat) (K246 : Nat → Int32 → Int32 → Int32 → Int32 → Int32 → Int32 → DY → Option DY) (x0 : Nat) (x1 : Int32) (x2 : Int32) (x3 : Int32) (x4 : Int32) (x5 : Int32) (x6 : Int32) (x7 : Int32) (y0 : Nat) (y1 : Int32) (y2 : Int32) (dy : DY) : Option DY := (F_X10_passDoor S N y0 y1 y2 x4 dy).bind fun u1 => K246 x0 x1 x2 x3 x5 x6 x7 u1
theorem F_X10_goes_241_s (S : ST) (N : Nat) (K246 : Nat → Int32 → Int32 → Int32 → Int32 → Int32 → Int32 → DY → Option DY) (x0 : Nat) (x1 : Int32) (x2 : Int32) (x3 : Int32) (x4 : Int32) (x5 : Int32) (x6 : Int32) (x7 : Int32) (y0 : Nat) (y1 : Int32) (y2 : Int32) (dy : DY) : F_X10_goes_241 S N K246 x0 x1 x2 x3 x4 x5 x6 x7 y0 y1 y2 dy = ((F_X10_passDoor S N y0 y1 y2 x4 dy).bind fun u1 => K246 x0 x1 x2 x3 x5 x6 x7 u1) := rfl
noncomputable def F_X10_goes_322 (S : ST) (N : Nat) (y0 : Nat) (y1 : Int32) (y2 : Int32) (dy : DY) : Option DY := if ib y1 12 then bd (si dy y0 y1.toNatClampNeg y2) fun dy1 => some dy1 else none
theorem F_X10_goes_322_s (S : ST) (N : Nat) (y0 : Nat) (y1 : Int32) (y2 : Int32) (dy : DY) : F_X10_goes_322 S N y0 y1 y2 dy = (if ib y1 12 then bd (si dy y0 y1.toNatClampNeg y2) fun dy1 => some dy1 else none) := rfl
noncomputable def F_X10_goes_305 (S : ST) (N : Nat) (x0 : Nat) (x2 : Int32) (x6 : Int32) (x7 : Int32) (y0 : Nat) (y1 : Int32) (y2 : Int32) (dy : DY) : Option DY := if ib y1 12 then bd (si dy y0 y1.toNatClampNeg y2) fun dy1 => (if x7 = 0 then (F_X10_goes_322 S N) (gr S x0 49) x2 (-1 : Int32) dy1 else (F_X10_goes_322 S N) (gr S x0 49) x2 x6 dy1) else none
theorem F_X10_goes_305_s (S : ST) (N : Nat) (x0 : Nat) (x2 : Int32) (x6 : Int32) (x7 : Int32) (y0 : Nat) (y1 : Int32) (y2 : Int32) (dy : DY) : F_X10_goes_305 S N x0 x2 x6 x7 y0 y1 y2 dy = (if ib y1 12 then bd (si dy y0 y1.toNatClampNeg y2) fun dy1 => (if x7 = 0 then (F_X10_goes_322 S N) (gr S x0 49) x2 (-1 : Int32) dy1 else (F_X10_goes_322 S N) (gr S x0 49) x2 x6 dy1) else none) := rfl
noncomputable def F_X10_goes_289 (S : ST) (N : Nat) (x0 : Nat) (x2 : Int32) (x5 : Int32) (x6 : Int32) (x7 : Int32) (dy : DY) : Option DY := (if x7 = 0 then (F_X10_goes_305 S N) x0 x2 x6 x7 (gr S x0 48) x2 (-1 : Int32) dy else (F_X10_goes_305 S N) x0 x2 x6 x7 (gr S x0 48) x2 x5 dy)
theorem F_X10_goes_289_s (S : ST) (N : Nat) (x0 : Nat) (x2 : Int32) (x5 : Int32) (x6 : Int32) (x7 : Int32) (dy : DY) : F_X10_goes_289 S N x0 x2 x5 x6 x7 dy = (if x7 = 0 then (F_X10_goes_305 S N) x0 x2 x6 x7 (gr S x0 48) x2 (-1 : Int32) dy else (F_X10_goes_305 S N) x0 x2 x6 x7 (gr S x0 48) x2 x5 dy) := rfl
noncomputable def F_X10_goes_246 (S : ST) (N : Nat) (x0 : Nat) (x1 : Int32) (x2 : Int32) (x3 : Int32) (x5 : Int32) (x6 : Int32) (x7 : Int32) (dy : DY) : Option DY := (if x7 = 0 then if ib (((720 : Int32) * x1) + (3 : Int32)) 10080 then if ib (x3 + (14 : Int32)) 10080 then bd (si dy (gr S x0 39) (x3 + (14 : Int32)).toNatClampNeg (gi dy (gr S x0 39) (((720 : Int32) * x1) + (3 : Int32)).toNatClampNeg)) fun dy3 => if ib (((720 : Int32) * x1) + (6 : Int32)) 10080 then if ib (((720 : Int32) * x1) + (6 : Int32)) 10080 then bd (si dy3 (gr S x0 39) (((720 : Int32) * x1) + (6 : Int32)).toNatClampNeg ((gi dy3 (gr S x0 39) (((720 : Int32) * x1) + (6 : Int32)).toNatClampNeg) + (1 : Int32))) fun dy5 => (F_X10_goes_289 S N) x0 x2 x5 x6 x7 dy5 else none else none else none else none else (F_X10_goes_289 S N) x0 x2 x5 x6 x7 dy)
theorem F_X10_goes_246_s (S : ST) (N : Nat) (x0 : Nat) (x1 : Int32) (x2 : Int32) (x3 : Int32) (x5 : Int32) (x6 : Int32) (x7 : Int32) (dy : DY) : F_X10_goes_246 S N x0 x1 x2 x3 x5 x6 x7 dy = (if x7 = 0 then if ib (((720 : Int32) * x1) + (3 : Int32)) 10080 then if ib (x3 + (14 : Int32)) 10080 then bd (si dy (gr S x0 39) (x3 + (14 : Int32)).toNatClampNeg (gi dy (gr S x0 39) (((720 : Int32) * x1) + (3 : Int32)).toNatClampNeg)) fun dy3 => if ib (((720 : Int32) * x1) + (6 : Int32)) 10080 then if ib (((720 : Int32) * x1) + (6 : Int32)) 10080 then bd (si dy3 (gr S x0 39) (((720 : Int32) * x1) + (6 : Int32)).toNatClampNeg ((gi dy3 (gr S x0 39) (((720 : Int32) * x1) + (6 : Int32)).toNatClampNeg) + (1 : Int32))) fun dy5 => (F_X10_goes_289 S N) x0 x2 x5 x6 x7 dy5 else none else none else none else none else (F_X10_goes_289 S N) x0 x2 x5 x6 x7 dy) := rfl
noncomputable def F_X10_goes_201 (S : ST) (N : Nat) (x0 : Nat) (x1 : Int32) (x2 : Int32) (x3 : Int32) (x4 : Int32) (x5 : Int32) (x6 : Int32) (x7 : Int32) (y0 : Nat) (y1 : Int32) (y2 : Int32) (y3 : Int32) (dy : DY) : Option DY := if ib y1 10080 then bd (si dy y0 y1.toNatClampNeg (y2 + y3)) fun dy1 => (if x7 = 0 then (F_X10_goes_246 S N) x0 x1 x2 x3 x5 x6 x7 dy1 else if ib x2 12 then (if (gi dy1 (gr S x0 43) x2.toNatClampNeg) = 0 then if ib x2 12 then (if (gi dy1 (gr S x0 48) x2.toNatClampNeg) ≤ x5 then if ib x2 12 then (F_X10_goes_241 S N (F_X10_goes_246 S N)) x0 x1 x2 x3 x4 x5 x6 x7 x0 x1 (gi dy1 (gr S x0 48) x2.toNatClampNeg) dy1 else none else (F_X10_goes_241 S N (F_X10_goes_246 S N)) x0 x1 x2 x3 x4 x5 x6 x7 x0 x1 x5 dy1) else none else (F_X10_goes_246 S N) x0 x1 x2 x3 x5 x6 x7 dy1) else none) else none
theorem F_X10_goes_201_s (S : ST) (N : Nat) (x0 : Nat) (x1 : Int32) (x2 : Int32) (x3 : Int32) (x4 : Int32) (x5 : Int32) (x6 : Int32) (x7 : Int32) (y0 : Nat) (y1 : Int32) (y2 : Int32) (y3 : Int32) (dy : DY) : F_X10_goes_201 S N x0 x1 x2 x3 x4 x5 x6 x7 y0 y1 y2 y3 dy = (if ib y1 10080 then bd (si dy y0 y1.toNatClampNeg (y2 + y3)) fun dy1 => (if x7 = 0 then (F_X10_goes_246 S N) x0 x1 x2 x3 x5 x6 x7 dy1 else if ib x2 12 then (if (gi dy1 (gr S x0 43) x2.toNatClampNeg) = 0 then if ib x2 12 then (if (gi dy1 (gr S x0 48) x2.toNatClampNeg) ≤ x5 then if ib x2 12 then (F_X10_goes_241 S N (F_X10_goes_246 S N)) x0 x1 x2 x3 x4 x5 x6 x7 x0 x1 (gi dy1 (gr S x0 48) x2.toNatClampNeg) dy1 else none else (F_X10_goes_241 S N (F_X10_goes_246 S N)) x0 x1 x2 x3 x4 x5 x6 x7 x0 x1 x5 dy1) else none else (F_X10_goes_246 S N) x0 x1 x2 x3 x5 x6 x7 dy1) else none) else none) := rfl
noncomputable def F_X10_goes_157 (S : ST) (N : Nat) (x0 : Nat) (x1 : Int32) (x2 : Int32) (x3 : Int32) (x4 : Int32) (x5 : Int32) (x6 : Int32) (x7 : Int32) (dy : DY) : Option DY := if ib x2 12 then bd (si dy (gr S x0 44) x2.toNatClampNeg (1 : Int32)) fun dy2 => if ib (x3 + (15 : Int32)) 10080 then if ib (x3 + (15 : Int32)) 10080 then bd (si dy2 (gr S x0 39) (x3 + (15 : Int32)).toNatClampNeg ((gi dy2 (gr S x0 39) (x3 + (15 : Int32)).toNatClampNeg) + (1 : Int32))) fun dy4 => if ib (x3 + (16 : Int32)) 10080 then if ib x2 12 then (if (gi dy4 (gr S x0 43) x2.toNatClampNeg) = 0 then (F_X10_goes_201 S N) x0 x1 x2 x3 x4 x5 x6 x7 (gr S x0 39) (x3 + (16 : Int32)) (gi dy4 (gr S x0 39) (x3 + (16 : Int32)).toNatClampNeg) (0 : Int32) dy4 else (F_X10_goes_201 S N) x0 x1 x2 x3 x4 x5 x6 x7 (gr S x0 39) (x3 + (16 : Int32)) (gi dy4 (gr S x0 39) (x3 + (16 : Int32)).toNatClampNeg) (1 : Int32) dy4) else none else none else none else none else none
theorem F_X10_goes_157_s (S : ST) (N : Nat) (x0 : Nat) (x1 : Int32) (x2 : Int32) (x3 : Int32) (x4 : Int32) (x5 : Int32) (x6 : Int32) (x7 : Int32) (dy : DY) : F_X10_goes_157 S N x0 x1 x2 x3 x4 x5 x6 x7 dy = (if ib x2 12 then bd (si dy (gr S x0 44) x2.toNatClampNeg (1 : Int32)) fun dy2 => if ib (x3 + (15 : Int32)) 10080 then if ib (x3 + (15 : Int32)) 10080 then bd (si dy2 (gr S x0 39) (x3 + (15 : Int32)).toNatClampNeg ((gi dy2 (gr S x0 39) (x3 + (15 : Int32)).toNatClampNeg) + (1 : Int32))) fun dy4 => if ib (x3 + (16 : Int32)) 10080 then if ib x2 12 then (if (gi dy4 (gr S x0 43) x2.toNatClampNeg) = 0 then (F_X10_goes_201 S N) x0 x1 x2 x3 x4 x5 x6 x7 (gr S x0 39) (x3 + (16 : Int32)) (gi dy4 (gr S x0 39) (x3 + (16 : Int32)).toNatClampNeg) (0 : Int32) dy4 else (F_X10_goes_201 S N) x0 x1 x2 x3 x4 x5 x6 x7 (gr S x0 39) (x3 + (16 : Int32)) (gi dy4 (gr S x0 39) (x3 + (16 : Int32)).toNatClampNeg) (1 : Int32) dy4) else none else none else none else none else none) := rfl
noncomputable def F_X10_goes_129 (S : ST) (N : Nat) (K143 : Nat → Int32 → DY → Option DY) (x0 : Nat) (x1 : Int32) (x2 : Int32) (x3 : Int32) (x4 : Int32) (x5 : Int32) (x6 : Int32) (x7 : Int32) (dy : DY) : Option DY := (if x7 = 0 then if ib x2 12 then (if (gi dy (gr S x0 43) x2.toNatClampNeg) = 0 then (F_X10_goes_157 S N) x0 x1 x2 x3 x4 x5 x6 x7 dy else K143 x0 x3 dy) else none else (F_X10_goes_157 S N) x0 x1 x2 x3 x4 x5 x6 x7 dy)
theorem F_X10_goes_129_s (S : ST) (N : Nat) (K143 : Nat → Int32 → DY → Option DY) (x0 : Nat) (x1 : Int32) (x2 : Int32) (x3 : Int32) (x4 : Int32) (x5 : Int32) (x6 : Int32) (x7 : Int32) (dy : DY) : F_X10_goes_129 S N K143 x0 x1 x2 x3 x4 x5 x6 x7 dy = (if x7 = 0 then if ib x2 12 then (if (gi dy (gr S x0 43) x2.toNatClampNeg) = 0 then (F_X10_goes_157 S N) x0 x1 x2 x3 x4 x5 x6 x7 dy else K143 x0 x3 dy) else none else (F_X10_goes_157 S N) x0 x1 x2 x3 x4 x5 x6 x7 dy) := rfl
noncomputable def F_X10_goes_143 (S : ST) (N : Nat) (x0 : Nat) (x3 : Int32) (dy : DY) : Option DY := if ib (x3 + (17 : Int32)) 10080 then if ib (x3 + (17 : Int32)) 10080 then bd (si dy (gr S x0 39) (x3 + (17 : Int32)).toNatClampNeg ((gi dy (gr S x0 39) (x3 + (17 : Int32)).toNatClampNeg) + (1 : Int32))) fun dy2 => some dy2 else none else none
theorem F_X10_goes_143_s (S : ST) (N : Nat) (x0 : Nat) (x3 : Int32) (dy : DY) : F_X10_goes_143 S N x0 x3 dy = (if ib (x3 + (17 : Int32)) 10080 then if ib (x3 + (17 : Int32)) 10080 then bd (si dy (gr S x0 39) (x3 + (17 : Int32)).toNatClampNeg ((gi dy (gr S x0 39) (x3 + (17 : Int32)).toNatClampNeg) + (1 : Int32))) fun dy2 => some dy2 else none else none) := rfl
noncomputable def F_X10_goes_86 (S : ST) (N : Nat) (x0 : Nat) (x1 : Int32) (x2 : Int32) (x3 : Int32) (x4 : Int32) (x5 : Int32) (y0 : Int32) (y1 : Int32) (dy : DY) : Option DY := (F_X10_isInside S N x0 x1 x5 (y0 + y1) dy).bind fun u1 => (if u1.1 = 0 then (F_X10_goes_129 S N (F_X10_goes_143 S N)) x0 x1 x2 x3 x4 x5 (y0 + y1) u1.1 u1.2 else (F_X10_isWall S N x0 x1 x5 (y0 + y1) u1.2).bind fun u3 => (if u3.1 = 0 then (F_X10_isStoodOn S N x0 x1 x5 (y0 + y1) u3.2).bind fun u5 => (if u5.1 = 0 then (F_X10_goes_129 S N (F_X10_goes_143 S N)) x0 x1 x2 x3 x4 x5 (y0 + y1) u1.1 u5.2 else (F_X10_goes_143 S N) x0 x3 u5.2) else (F_X10_goes_143 S N) x0 x3 u3.2))
theorem F_X10_goes_86_s (S : ST) (N : Nat) (x0 : Nat) (x1 : Int32) (x2 : Int32) (x3 : Int32) (x4 : Int32) (x5 : Int32) (y0 : Int32) (y1 : Int32) (dy : DY) : F_X10_goes_86 S N x0 x1 x2 x3 x4 x5 y0 y1 dy = ((F_X10_isInside S N x0 x1 x5 (y0 + y1) dy).bind fun u1 => (if u1.1 = 0 then (F_X10_goes_129 S N (F_X10_goes_143 S N)) x0 x1 x2 x3 x4 x5 (y0 + y1) u1.1 u1.2 else (F_X10_isWall S N x0 x1 x5 (y0 + y1) u1.2).bind fun u3 => (if u3.1 = 0 then (F_X10_isStoodOn S N x0 x1 x5 (y0 + y1) u3.2).bind fun u5 => (if u5.1 = 0 then (F_X10_goes_129 S N (F_X10_goes_143 S N)) x0 x1 x2 x3 x4 x5 (y0 + y1) u1.1 u5.2 else (F_X10_goes_143 S N) x0 x3 u5.2) else (F_X10_goes_143 S N) x0 x3 u3.2))) := rfl
noncomputable def F_X10_goes_46 (S : ST) (N : Nat) (x0 : Nat) (x1 : Int32) (x2 : Int32) (x3 : Int32) (x4 : Int32) (y0 : Int32) (y1 : Int32) (dy : DY) : Option DY := if ib x2 12 then if ib x2 12 then (if (gi dy (gr S x0 43) x2.toNatClampNeg) = 0 then (F_X10_goes_86 S N) x0 x1 x2 x3 x4 (y0 + y1) (gi dy (gr S x0 49) x2.toNatClampNeg) (0 : Int32) dy else if ib x2 12 then (if (gi dy (gr S x0 43) x2.toNatClampNeg) = (1 : Int32) then (F_X10_goes_86 S N) x0 x1 x2 x3 x4 (y0 + y1) (gi dy (gr S x0 49) x2.toNatClampNeg) x4 dy else (F_X10_goes_86 S N) x0 x1 x2 x3 x4 (y0 + y1) (gi dy (gr S x0 49) x2.toNatClampNeg) (-x4) dy) else none) else none else none
theorem F_X10_goes_46_s (S : ST) (N : Nat) (x0 : Nat) (x1 : Int32) (x2 : Int32) (x3 : Int32) (x4 : Int32) (y0 : Int32) (y1 : Int32) (dy : DY) : F_X10_goes_46 S N x0 x1 x2 x3 x4 y0 y1 dy = (if ib x2 12 then if ib x2 12 then (if (gi dy (gr S x0 43) x2.toNatClampNeg) = 0 then (F_X10_goes_86 S N) x0 x1 x2 x3 x4 (y0 + y1) (gi dy (gr S x0 49) x2.toNatClampNeg) (0 : Int32) dy else if ib x2 12 then (if (gi dy (gr S x0 43) x2.toNatClampNeg) = (1 : Int32) then (F_X10_goes_86 S N) x0 x1 x2 x3 x4 (y0 + y1) (gi dy (gr S x0 49) x2.toNatClampNeg) x4 dy else (F_X10_goes_86 S N) x0 x1 x2 x3 x4 (y0 + y1) (gi dy (gr S x0 49) x2.toNatClampNeg) (-x4) dy) else none) else none else none) := rfl
noncomputable def F_X10_goes (S : ST) (N : Nat) (a0 : Nat) (a1 : Int32) (a2 : Int32) (dy : DY) : Option DY := (F_X10_at S N a1 a2 dy).bind fun u1 => (F_X10_way S N a0 a1 a2 u1.2).bind fun u3 => if ib a2 12 then (if (gi u3.2 (gr S a0 43) a2.toNatClampNeg) = (5 : Int32) then some u3.2 else if ib a2 12 then if ib a2 12 then (if (gi u3.2 (gr S a0 43) a2.toNatClampNeg) = 0 then (F_X10_goes_46 S N) a0 a1 a2 u1.1 u3.1 (gi u3.2 (gr S a0 48) a2.toNatClampNeg) u3.1 u3.2 else (F_X10_goes_46 S N) a0 a1 a2 u1.1 u3.1 (gi u3.2 (gr S a0 48) a2.toNatClampNeg) (0 : Int32) u3.2) else none else none) else none
theorem F_X10_goes_s (S : ST) (N : Nat) (a0 : Nat) (a1 : Int32) (a2 : Int32) (dy : DY) : F_X10_goes S N a0 a1 a2 dy = ((F_X10_at S N a1 a2 dy).bind fun u1 => (F_X10_way S N a0 a1 a2 u1.2).bind fun u3 => if ib a2 12 then (if (gi u3.2 (gr S a0 43) a2.toNatClampNeg) = (5 : Int32) then some u3.2 else if ib a2 12 then if ib a2 12 then (if (gi u3.2 (gr S a0 43) a2.toNatClampNeg) = 0 then (F_X10_goes_46 S N) a0 a1 a2 u1.1 u3.1 (gi u3.2 (gr S a0 48) a2.toNatClampNeg) u3.1 u3.2 else (F_X10_goes_46 S N) a0 a1 a2 u1.1 u3.1 (gi u3.2 (gr S a0 48) a2.toNatClampNeg) (0 : Int32) u3.2) else none else none) else none) := rfl
noncomputable def F_X10_step_107 (S : ST) (N : Nat) (K99 : Nat → Int32 → Int32 → Int32 → Int32 → DY → Option (Int32 × DY)) : Nat → Nat → Int32 → Int32 → Int32 → Int32 → Int32 → DY → Option (Int32 × DY) := fun k => Nat.rec (motive := fun _ => Nat → Int32 → Int32 → Int32 → Int32 → Int32 → DY → Option (Int32 × DY)) (fun _ _ _ _ _ _ _ => none) (fun _ ih x0 x1 x2 x3 x4 x5 dy => (if x3 ≤ x5 then K99 x0 x1 x2 x3 (x4 + (-1 : Int32)) dy else (F_X10_at S N x1 x5 dy).bind fun u2 => if ib (u2.1 + (11 : Int32)) 10080 then (if (gi u2.2 (gr S x0 39) (u2.1 + (11 : Int32)).toNatClampNeg) = x4 then (F_X10_isThere S N x0 x1 x5 u2.2).bind fun u4 => (if u4.1 = 0 then ih x0 x1 x2 x3 x4 (x5 + (1 : Int32)) u4.2 else (F_X10_goes S N x0 x1 x5 u4.2).bind fun u6 => ih x0 x1 x2 x3 x4 (x5 + (1 : Int32)) u6) else ih x0 x1 x2 x3 x4 (x5 + (1 : Int32)) u2.2) else none)) k
theorem F_X10_step_107_s (S : ST) (N : Nat) (K99 : Nat → Int32 → Int32 → Int32 → Int32 → DY → Option (Int32 × DY)) (k : Nat) (x0 : Nat) (x1 : Int32) (x2 : Int32) (x3 : Int32) (x4 : Int32) (x5 : Int32) (dy : DY) : F_X10_step_107 S N K99 (k + 1) x0 x1 x2 x3 x4 x5 dy = (if x3 ≤ x5 then K99 x0 x1 x2 x3 (x4 + (-1 : Int32)) dy else (F_X10_at S N x1 x5 dy).bind fun u2 => if ib (u2.1 + (11 : Int32)) 10080 then (if (gi u2.2 (gr S x0 39) (u2.1 + (11 : Int32)).toNatClampNeg) = x4 then (F_X10_isThere S N x0 x1 x5 u2.2).bind fun u4 => (if u4.1 = 0 then (F_X10_step_107 S N K99 k) x0 x1 x2 x3 x4 (x5 + (1 : Int32)) u4.2 else (F_X10_goes S N x0 x1 x5 u4.2).bind fun u6 => (F_X10_step_107 S N K99 k) x0 x1 x2 x3 x4 (x5 + (1 : Int32)) u6) else (F_X10_step_107 S N K99 k) x0 x1 x2 x3 x4 (x5 + (1 : Int32)) u2.2) else none) := rfl
noncomputable def F_X10_step_222 (S : ST) (N : Nat) (K188 : Nat → Int32 → Int32 → Int32 → Int32 → Int32 → Int32 → DY → Option (Int32 × DY)) (x0 : Nat) (x1 : Int32) (x2 : Int32) (x3 : Int32) (x4 : Int32) (x5 : Int32) (x6 : Int32) (y0 : Nat) (y1 : Int32) (y2 : Int32) (y3 : Int32) (dy : DY) : Option (Int32 × DY) := if ib y1 10080 then bd (si dy y0 y1.toNatClampNeg (y2 + y3)) fun dy1 => K188 x0 x1 x2 x3 x4 x5 (x6 + (1 : Int32)) dy1 else none
theorem F_X10_step_222_s (S : ST) (N : Nat) (K188 : Nat → Int32 → Int32 → Int32 → Int32 → Int32 → Int32 → DY → Option (Int32 × DY)) (x0 : Nat) (x1 : Int32) (x2 : Int32) (x3 : Int32) (x4 : Int32) (x5 : Int32) (x6 : Int32) (y0 : Nat) (y1 : Int32) (y2 : Int32) (y3 : Int32) (dy : DY) : F_X10_step_222 S N K188 x0 x1 x2 x3 x4 x5 x6 y0 y1 y2 y3 dy = (if ib y1 10080 then bd (si dy y0 y1.toNatClampNeg (y2 + y3)) fun dy1 => K188 x0 x1 x2 x3 x4 x5 (x6 + (1 : Int32)) dy1 else none) := rfl
noncomputable def F_X10_step_188 (S : ST) (N : Nat) (K167 : Nat → Int32 → Int32 → Int32 → Int32 → Int32 → DY → Option (Int32 × DY)) : Nat → Nat → Int32 → Int32 → Int32 → Int32 → Int32 → Int32 → DY → Option (Int32 × DY) := fun k => Nat.rec (motive := fun _ => Nat → Int32 → Int32 → Int32 → Int32 → Int32 → Int32 → DY → Option (Int32 × DY)) (fun _ _ _ _ _ _ _ _ => none) (fun _ ih x0 x1 x2 x3 x4 x5 x6 dy => (if x5 ≤ x6 then K167 x0 x1 x2 x3 x4 (x5 + (1 : Int32)) dy else if ib (x2 + (8 : Int32)) 10080 then (F_X10_dance S N x0 x1 x5 x6 dy).bind fun u2 => (if u2.1 = 0 then (F_X10_step_222 S N ih) x0 x1 x2 x3 x4 x5 x6 (gr S x0 39) (x2 + (8 : Int32)) (gi dy (gr S x0 39) (x2 + (8 : Int32)).toNatClampNeg) (0 : Int32) u2.2 else (F_X10_step_222 S N ih) x0 x1 x2 x3 x4 x5 x6 (gr S x0 39) (x2 + (8 : Int32)) (gi dy (gr S x0 39) (x2 + (8 : Int32)).toNatClampNeg) (1 : Int32) u2.2) else none)) k
theorem F_X10_step_188_s (S : ST) (N : Nat) (K167 : Nat → Int32 → Int32 → Int32 → Int32 → Int32 → DY → Option (Int32 × DY)) (k : Nat) (x0 : Nat) (x1 : Int32) (x2 : Int32) (x3 : Int32) (x4 : Int32) (x5 : Int32) (x6 : Int32) (dy : DY) : F_X10_step_188 S N K167 (k + 1) x0 x1 x2 x3 x4 x5 x6 dy = (if x5 ≤ x6 then K167 x0 x1 x2 x3 x4 (x5 + (1 : Int32)) dy else if ib (x2 + (8 : Int32)) 10080 then (F_X10_dance S N x0 x1 x5 x6 dy).bind fun u2 => (if u2.1 = 0 then (F_X10_step_222 S N (F_X10_step_188 S N K167 k)) x0 x1 x2 x3 x4 x5 x6 (gr S x0 39) (x2 + (8 : Int32)) (gi dy (gr S x0 39) (x2 + (8 : Int32)).toNatClampNeg) (0 : Int32) u2.2 else (F_X10_step_222 S N (F_X10_step_188 S N K167 k)) x0 x1 x2 x3 x4 x5 x6 (gr S x0 39) (x2 + (8 : Int32)) (gi dy (gr S x0 39) (x2 + (8 : Int32)).toNatClampNeg) (1 : Int32) u2.2) else none) := rfl
noncomputable def F_X10_step_291 (S : ST) (N : Nat) (x0 : Nat) (x2 : Int32) (x4 : Int32) (y0 : Nat) (y1 : Int32) (y2 : Int32) (dy : DY) : Option (Int32 × DY) := if ib y1 10080 then bd (si dy y0 y1.toNatClampNeg y2) fun dy1 => if ib (x2 + (3 : Int32)) 10080 then if ib (x2 + (3 : Int32)) 10080 then bd (si dy1 (gr S x0 39) (x2 + (3 : Int32)).toNatClampNeg ((gi dy1 (gr S x0 39) (x2 + (3 : Int32)).toNatClampNeg) + (1 : Int32))) fun dy3 => some (x4, dy3) else none else none else none
theorem F_X10_step_291_s (S : ST) (N : Nat) (x0 : Nat) (x2 : Int32) (x4 : Int32) (y0 : Nat) (y1 : Int32) (y2 : Int32) (dy : DY) : F_X10_step_291 S N x0 x2 x4 y0 y1 y2 dy = (if ib y1 10080 then bd (si dy y0 y1.toNatClampNeg y2) fun dy1 => if ib (x2 + (3 : Int32)) 10080 then if ib (x2 + (3 : Int32)) 10080 then bd (si dy1 (gr S x0 39) (x2 + (3 : Int32)).toNatClampNeg ((gi dy1 (gr S x0 39) (x2 + (3 : Int32)).toNatClampNeg) + (1 : Int32))) fun dy3 => some (x4, dy3) else none else none else none) := rfl
noncomputable def F_X10_step_239 (S : ST) (N : Nat) : Nat → Nat → Int32 → Int32 → Int32 → Int32 → Int32 → DY → Option (Int32 × DY) := fun k => Nat.rec (motive := fun _ => Nat → Int32 → Int32 → Int32 → Int32 → Int32 → DY → Option (Int32 × DY)) (fun _ _ _ _ _ _ _ => none) (fun _ ih x0 x1 x2 x3 x4 x5 dy => (if x3 ≤ x5 then (if x4 ≤ 0 then if ib (x2 + (7 : Int32)) 10080 then (F_X10_step_291 S N) x0 x2 x4 (gr S x0 39) (x2 + (7 : Int32)) ((gi dy (gr S x0 39) (x2 + (7 : Int32)).toNatClampNeg) + (1 : Int32)) dy else none else (F_X10_step_291 S N) x0 x2 x4 (gr S x0 39) (x2 + (7 : Int32)) (0 : Int32) dy) else (F_X10_at S N x1 x5 dy).bind fun u3 => (F_X10_ends S N x0 u3.1 x5 u3.2).bind fun u5 => ih x0 x1 x2 x3 x4 (x5 + (1 : Int32)) u5)) k
theorem F_X10_step_239_s (S : ST) (N : Nat) (k : Nat) (x0 : Nat) (x1 : Int32) (x2 : Int32) (x3 : Int32) (x4 : Int32) (x5 : Int32) (dy : DY) : F_X10_step_239 S N (k + 1) x0 x1 x2 x3 x4 x5 dy = (if x3 ≤ x5 then (if x4 ≤ 0 then if ib (x2 + (7 : Int32)) 10080 then (F_X10_step_291 S N) x0 x2 x4 (gr S x0 39) (x2 + (7 : Int32)) ((gi dy (gr S x0 39) (x2 + (7 : Int32)).toNatClampNeg) + (1 : Int32)) dy else none else (F_X10_step_291 S N) x0 x2 x4 (gr S x0 39) (x2 + (7 : Int32)) (0 : Int32) dy) else (F_X10_at S N x1 x5 dy).bind fun u3 => (F_X10_ends S N x0 u3.1 x5 u3.2).bind fun u5 => (F_X10_step_239 S N k) x0 x1 x2 x3 x4 (x5 + (1 : Int32)) u5) := rfl
noncomputable def F_X10_step_167 (S : ST) (N : Nat) : Nat → Nat → Int32 → Int32 → Int32 → Int32 → Int32 → DY → Option (Int32 × DY) := fun k => Nat.rec (motive := fun _ => Nat → Int32 → Int32 → Int32 → Int32 → Int32 → DY → Option (Int32 × DY)) (fun _ _ _ _ _ _ _ => none) (fun _ ih x0 x1 x2 x3 x4 x5 dy => (if x3 ≤ x5 then (F_X10_step_239 S N N) x0 x1 x2 x3 x4 (0 : Int32) dy else if ib x5 12 then (F_X10_step_188 S N ih N) x0 x1 x2 x3 (x4 + (gi dy (gr S x0 44) x5.toNatClampNeg)) x5 (0 : Int32) dy else none)) k
theorem F_X10_step_167_s (S : ST) (N : Nat) (k : Nat) (x0 : Nat) (x1 : Int32) (x2 : Int32) (x3 : Int32) (x4 : Int32) (x5 : Int32) (dy : DY) : F_X10_step_167 S N (k + 1) x0 x1 x2 x3 x4 x5 dy = (if x3 ≤ x5 then (F_X10_step_239 S N N) x0 x1 x2 x3 x4 (0 : Int32) dy else if ib x5 12 then (F_X10_step_188 S N (F_X10_step_167 S N k) N) x0 x1 x2 x3 (x4 + (gi dy (gr S x0 44) x5.toNatClampNeg)) x5 (0 : Int32) dy else none) := rfl
noncomputable def F_X10_step_99 (S : ST) (N : Nat) : Nat → Nat → Int32 → Int32 → Int32 → Int32 → DY → Option (Int32 × DY) := fun k => Nat.rec (motive := fun _ => Nat → Int32 → Int32 → Int32 → Int32 → DY → Option (Int32 × DY)) (fun _ _ _ _ _ _ => none) (fun _ ih x0 x1 x2 x3 x4 dy => (if x4 < 0 then (F_X10_step_167 S N N) x0 x1 x2 x3 (0 : Int32) (0 : Int32) dy else (F_X10_step_107 S N ih N) x0 x1 x2 x3 x4 (0 : Int32) dy)) k
theorem F_X10_step_99_s (S : ST) (N : Nat) (k : Nat) (x0 : Nat) (x1 : Int32) (x2 : Int32) (x3 : Int32) (x4 : Int32) (dy : DY) : F_X10_step_99 S N (k + 1) x0 x1 x2 x3 x4 dy = (if x4 < 0 then (F_X10_step_167 S N N) x0 x1 x2 x3 (0 : Int32) (0 : Int32) dy else (F_X10_step_107 S N (F_X10_step_99 S N k) N) x0 x1 x2 x3 x4 (0 : Int32) dy) := rfl
noncomputable def F_X10_step_23 (S : ST) (N : Nat) : Nat → Nat → Int32 → Int32 → Int32 → Int32 → DY → Option (Int32 × DY) := fun k => Nat.rec (motive := fun _ => Nat → Int32 → Int32 → Int32 → Int32 → DY → Option (Int32 × DY)) (fun _ _ _ _ _ _ => none) (fun _ ih x0 x1 x2 x3 x4 dy => (if x3 ≤ x4 then (F_X10_step_99 S N N) x0 x1 x2 x3 (9 : Int32) dy else (F_X10_aimBy S N x0 x1 x4 dy).bind fun u2 => if ib x4 12 then bd (si u2.2 (gr S x0 43) x4.toNatClampNeg u2.1) fun dy4 => if ib x4 12 then bd (si dy4 (gr S x0 44) x4.toNatClampNeg (0 : Int32)) fun dy6 => (F_X10_at S N x1 x4 dy6).bind fun u9 => if ib u9.1 10080 then if ib x4 12 then bd (si u9.2 (gr S x0 48) x4.toNatClampNeg (gi u9.2 (gr S x0 39) u9.1.toNatClampNeg)) fun dy11 => (F_X10_at S N x1 x4 dy11).bind fun u14 => if ib (u14.1 + (4 : Int32)) 10080 then if ib x4 12 then bd (si u14.2 (gr S x0 49) x4.toNatClampNeg (gi u14.2 (gr S x0 39) (u14.1 + (4 : Int32)).toNatClampNeg)) fun dy16 => ih x0 x1 x2 x3 (x4 + (1 : Int32)) dy16 else none else none else none else none else none else none)) k
theorem F_X10_step_23_s (S : ST) (N : Nat) (k : Nat) (x0 : Nat) (x1 : Int32) (x2 : Int32) (x3 : Int32) (x4 : Int32) (dy : DY) : F_X10_step_23 S N (k + 1) x0 x1 x2 x3 x4 dy = (if x3 ≤ x4 then (F_X10_step_99 S N N) x0 x1 x2 x3 (9 : Int32) dy else (F_X10_aimBy S N x0 x1 x4 dy).bind fun u2 => if ib x4 12 then bd (si u2.2 (gr S x0 43) x4.toNatClampNeg u2.1) fun dy4 => if ib x4 12 then bd (si dy4 (gr S x0 44) x4.toNatClampNeg (0 : Int32)) fun dy6 => (F_X10_at S N x1 x4 dy6).bind fun u9 => if ib u9.1 10080 then if ib x4 12 then bd (si u9.2 (gr S x0 48) x4.toNatClampNeg (gi u9.2 (gr S x0 39) u9.1.toNatClampNeg)) fun dy11 => (F_X10_at S N x1 x4 dy11).bind fun u14 => if ib (u14.1 + (4 : Int32)) 10080 then if ib x4 12 then bd (si u14.2 (gr S x0 49) x4.toNatClampNeg (gi u14.2 (gr S x0 39) (u14.1 + (4 : Int32)).toNatClampNeg)) fun dy16 => (F_X10_step_23 S N k) x0 x1 x2 x3 (x4 + (1 : Int32)) dy16 else none else none else none else none else none else none) := rfl
noncomputable def F_X10_step (S : ST) (N : Nat) (a0 : Nat) (a1 : Int32) (dy : DY) : Option (Int32 × DY) := if ib (((720 : Int32) * a1) + (2 : Int32)) 10080 then bd (si dy a0 47 (0 : Int32)) fun dy2 => (F_X10_step_23 S N N) a0 a1 ((720 : Int32) * a1) (gi dy (gr S a0 39) (((720 : Int32) * a1) + (2 : Int32)).toNatClampNeg) (0 : Int32) dy2 else none
theorem F_X10_step_s (S : ST) (N : Nat) (a0 : Nat) (a1 : Int32) (dy : DY) : F_X10_step S N a0 a1 dy = (if ib (((720 : Int32) * a1) + (2 : Int32)) 10080 then bd (si dy a0 47 (0 : Int32)) fun dy2 => (F_X10_step_23 S N N) a0 a1 ((720 : Int32) * a1) (gi dy (gr S a0 39) (((720 : Int32) * a1) + (2 : Int32)).toNatClampNeg) (0 : Int32) dy2 else none) := rfl
noncomputable def F_X10_tryOn_7 (S : ST) (N : Nat) : Nat → Nat → Int32 → Int32 → DY → Option DY := fun k => Nat.rec (motive := fun _ => Nat → Int32 → Int32 → DY → Option DY) (fun _ _ _ _ => none) (fun _ ih x0 x1 x2 dy => (if x1 ≤ x2 then some dy else (F_X10_step S N x0 (4 : Int32) dy).bind fun u1 => ih x0 x1 (x2 + (1 : Int32)) u1.2)) k
theorem F_X10_tryOn_7_s (S : ST) (N : Nat) (k : Nat) (x0 : Nat) (x1 : Int32) (x2 : Int32) (dy : DY) : F_X10_tryOn_7 S N (k + 1) x0 x1 x2 dy = (if x1 ≤ x2 then some dy else (F_X10_step S N x0 (4 : Int32) dy).bind fun u1 => (F_X10_tryOn_7 S N k) x0 x1 (x2 + (1 : Int32)) u1.2) := rfl
noncomputable def F_X10_tryOn (S : ST) (N : Nat) (a0 : Nat) (a1 : Int32) (dy : DY) : Option DY := bd (si dy a0 45 (0 : Int32)) fun dy1 => (F_X10_tryOn_7 S N N) a0 a1 (0 : Int32) dy1
theorem F_X10_tryOn_s (S : ST) (N : Nat) (a0 : Nat) (a1 : Int32) (dy : DY) : F_X10_tryOn S N a0 a1 dy = (bd (si dy a0 45 (0 : Int32)) fun dy1 => (F_X10_tryOn_7 S N N) a0 a1 (0 : Int32) dy1) := rfl
noncomputable def F_X10_arrive (S : ST) (N : Nat) (a0 : Nat) (a1 : Int32) (a2 : Int32) (a3 : Int32) (a4 : Int32) (dy : DY) : Option (Int32 × DY) := (F_X10_lay S N a0 (4 : Int32) a1 a2 a3 (12 : Int32) (-1 : Int32) dy).bind fun u1 => (F_X10_tryOn S N a0 a4 u1).bind fun u3 => if ib (2886 : Int32) 10080 then some ((gi u3 (gr S a0 39) (2886 : Int32).toNatClampNeg), u3) else none
theorem F_X10_arrive_s (S : ST) (N : Nat) (a0 : Nat) (a1 : Int32) (a2 : Int32) (a3 : Int32) (a4 : Int32) (dy : DY) : F_X10_arrive S N a0 a1 a2 a3 a4 dy = ((F_X10_lay S N a0 (4 : Int32) a1 a2 a3 (12 : Int32) (-1 : Int32) dy).bind fun u1 => (F_X10_tryOn S N a0 a4 u1).bind fun u3 => if ib (2886 : Int32) 10080 then some ((gi u3 (gr S a0 39) (2886 : Int32).toNatClampNeg), u3) else none) := rfl
noncomputable def F_X10_better_71 (S : ST) (N : Nat) (K35 : Nat → Int32 → Int32 → Int32 → Int32 → Int32 → Int32 → DY → Option (Int32 × DY)) (x0 : Nat) (x1 : Int32) (x2 : Int32) (x3 : Int32) (x5 : Int32) (x6 : Int32) (x7 : Int32) (y0 : Int32) (dy : DY) : Option (Int32 × DY) := (if x7 ≤ x5 then K35 x0 x1 x2 x3 y0 x5 (x6 + (1 : Int32)) dy else K35 x0 x1 x2 x3 y0 x7 (x6 + (1 : Int32)) dy)
theorem F_X10_better_71_s (S : ST) (N : Nat) (K35 : Nat → Int32 → Int32 → Int32 → Int32 → Int32 → Int32 → DY → Option (Int32 × DY)) (x0 : Nat) (x1 : Int32) (x2 : Int32) (x3 : Int32) (x5 : Int32) (x6 : Int32) (x7 : Int32) (y0 : Int32) (dy : DY) : F_X10_better_71 S N K35 x0 x1 x2 x3 x5 x6 x7 y0 dy = (if x7 ≤ x5 then K35 x0 x1 x2 x3 y0 x5 (x6 + (1 : Int32)) dy else K35 x0 x1 x2 x3 y0 x7 (x6 + (1 : Int32)) dy) := rfl
noncomputable def F_X10_better_35 (S : ST) (N : Nat) : Nat → Nat → Int32 → Int32 → Int32 → Int32 → Int32 → Int32 → DY → Option (Int32 × DY) := fun k => Nat.rec (motive := fun _ => Nat → Int32 → Int32 → Int32 → Int32 → Int32 → Int32 → DY → Option (Int32 × DY)) (fun _ _ _ _ _ _ _ _ => none) (fun _ ih x0 x1 x2 x3 x4 x5 x6 dy => if ib (0 : Int32) 4 then (if (gi dy (gr S x0 12) (0 : Int32).toNatClampNeg) ≤ x6 then some (x4, dy) else (F_X10_arrive S N x0 x1 x6 x2 x3 dy).bind fun u2 => (if u2.1 ≤ x5 then (F_X10_better_71 S N ih) x0 x1 x2 x3 x5 x6 u2.1 x4 u2.2 else (F_X10_better_71 S N ih) x0 x1 x2 x3 x5 x6 u2.1 x6 u2.2)) else none) k
theorem F_X10_better_35_s (S : ST) (N : Nat) (k : Nat) (x0 : Nat) (x1 : Int32) (x2 : Int32) (x3 : Int32) (x4 : Int32) (x5 : Int32) (x6 : Int32) (dy : DY) : F_X10_better_35 S N (k + 1) x0 x1 x2 x3 x4 x5 x6 dy = (if ib (0 : Int32) 4 then (if (gi dy (gr S x0 12) (0 : Int32).toNatClampNeg) ≤ x6 then some (x4, dy) else (F_X10_arrive S N x0 x1 x6 x2 x3 dy).bind fun u2 => (if u2.1 ≤ x5 then (F_X10_better_71 S N (F_X10_better_35 S N k)) x0 x1 x2 x3 x5 x6 u2.1 x4 u2.2 else (F_X10_better_71 S N (F_X10_better_35 S N k)) x0 x1 x2 x3 x5 x6 u2.1 x6 u2.2)) else none) := rfl
noncomputable def F_X10_better (S : ST) (N : Nat) (a0 : Nat) (a1 : Int32) (a2 : Int32) (a3 : Int32) (dy : DY) : Option (Int32 × DY) := bd (si dy a0 0 (0 : Int32)) fun dy1 => (F_X10_isPassage S N a0 a1 dy1).bind fun u2 => (if u2.1 = 0 then some ((-1 : Int32), u2.2) else (F_X10_in S N a3 (1 : Int32) (200 : Int32) u2.2).bind fun u4 => (if u4.1 = 0 then some ((-1 : Int32), u4.2) else (F_X10_better_35 S N N) a0 a1 a2 a3 (-1 : Int32) (-1 : Int32) (0 : Int32) u4.2))
theorem F_X10_better_s (S : ST) (N : Nat) (a0 : Nat) (a1 : Int32) (a2 : Int32) (a3 : Int32) (dy : DY) : F_X10_better S N a0 a1 a2 a3 dy = (bd (si dy a0 0 (0 : Int32)) fun dy1 => (F_X10_isPassage S N a0 a1 dy1).bind fun u2 => (if u2.1 = 0 then some ((-1 : Int32), u2.2) else (F_X10_in S N a3 (1 : Int32) (200 : Int32) u2.2).bind fun u4 => (if u4.1 = 0 then some ((-1 : Int32), u4.2) else (F_X10_better_35 S N N) a0 a1 a2 a3 (-1 : Int32) (-1 : Int32) (0 : Int32) u4.2))) := rfl
noncomputable def F_X10_isLaw (S : ST) (N : Nat) (a0 : Nat) (a1 : Int32) (dy : DY) : Option (Int32 × DY) := if ib (0 : Int32) 4 then (F_X10_in S N a1 (0 : Int32) ((gi dy (gr S a0 12) (0 : Int32).toNatClampNeg) - (1 : Int32)) dy).bind fun u2 => if zb u2.1 then some (u2.1, u2.2) else none else none
theorem F_X10_isLaw_s (S : ST) (N : Nat) (a0 : Nat) (a1 : Int32) (dy : DY) : F_X10_isLaw S N a0 a1 dy = (if ib (0 : Int32) 4 then (F_X10_in S N a1 (0 : Int32) ((gi dy (gr S a0 12) (0 : Int32).toNatClampNeg) - (1 : Int32)) dy).bind fun u2 => if zb u2.1 then some (u2.1, u2.2) else none else none) := rfl
noncomputable def F_X10_isTried (S : ST) (N : Nat) (a0 : Nat) (a1 : Int32) (a2 : Int32) (a3 : Int32) (a4 : Int32) (dy : DY) : Option (Int32 × DY) := (F_X10_isPassage S N a0 a1 dy).bind fun u1 => (if u1.1 = 0 then some ((0 : Int32), u1.2) else (F_X10_isLaw S N a0 a2 u1.2).bind fun u3 => (if u3.1 = 0 then some ((0 : Int32), u3.2) else (F_X10_in S N a3 (1 : Int32) a4 u3.2).bind fun u5 => (if u5.1 = 0 then some ((0 : Int32), u5.2) else some ((1 : Int32), u5.2))))
theorem F_X10_isTried_s (S : ST) (N : Nat) (a0 : Nat) (a1 : Int32) (a2 : Int32) (a3 : Int32) (a4 : Int32) (dy : DY) : F_X10_isTried S N a0 a1 a2 a3 a4 dy = ((F_X10_isPassage S N a0 a1 dy).bind fun u1 => (if u1.1 = 0 then some ((0 : Int32), u1.2) else (F_X10_isLaw S N a0 a2 u1.2).bind fun u3 => (if u3.1 = 0 then some ((0 : Int32), u3.2) else (F_X10_in S N a3 (1 : Int32) a4 u3.2).bind fun u5 => (if u5.1 = 0 then some ((0 : Int32), u5.2) else some ((1 : Int32), u5.2))))) := rfl
noncomputable def F_X10_tenths_5 (S : ST) (N : Nat) : Nat → Nat → Int32 → Int32 → Int32 → Int32 → DY → Option (Int32 × DY) := fun k => Nat.rec (motive := fun _ => Nat → Int32 → Int32 → Int32 → Int32 → DY → Option (Int32 × DY)) (fun _ _ _ _ _ _ => none) (fun _ ih x0 x1 x2 x3 x4 dy => if ib (2882 : Int32) 10080 then (if (gi dy (gr S x0 39) (2882 : Int32).toNatClampNeg) ≤ x4 then some (x3, dy) else (F_X10_at S N (4 : Int32) x4 dy).bind fun u3 => if ib (u3.1 + (14 : Int32)) 10080 then (if x4 = x2 then ih x0 x1 x2 (x3 + (0 : Int32)) (x4 + (1 : Int32)) u3.2 else (if (gi u3.2 (gr S x0 39) (u3.1 + (14 : Int32)).toNatClampNeg) = (-1 : Int32) then ih x0 x1 x2 (x3 + x1) (x4 + (1 : Int32)) u3.2 else ih x0 x1 x2 (x3 + ((gi u3.2 (gr S x0 39) (u3.1 + (14 : Int32)).toNatClampNeg) + (1 : Int32))) (x4 + (1 : Int32)) u3.2)) else none) else none) k
theorem F_X10_tenths_5_s (S : ST) (N : Nat) (k : Nat) (x0 : Nat) (x1 : Int32) (x2 : Int32) (x3 : Int32) (x4 : Int32) (dy : DY) : F_X10_tenths_5 S N (k + 1) x0 x1 x2 x3 x4 dy = (if ib (2882 : Int32) 10080 then (if (gi dy (gr S x0 39) (2882 : Int32).toNatClampNeg) ≤ x4 then some (x3, dy) else (F_X10_at S N (4 : Int32) x4 dy).bind fun u3 => if ib (u3.1 + (14 : Int32)) 10080 then (if x4 = x2 then (F_X10_tenths_5 S N k) x0 x1 x2 (x3 + (0 : Int32)) (x4 + (1 : Int32)) u3.2 else (if (gi u3.2 (gr S x0 39) (u3.1 + (14 : Int32)).toNatClampNeg) = (-1 : Int32) then (F_X10_tenths_5 S N k) x0 x1 x2 (x3 + x1) (x4 + (1 : Int32)) u3.2 else (F_X10_tenths_5 S N k) x0 x1 x2 (x3 + ((gi u3.2 (gr S x0 39) (u3.1 + (14 : Int32)).toNatClampNeg) + (1 : Int32))) (x4 + (1 : Int32)) u3.2)) else none) else none) := rfl
noncomputable def F_X10_tenths (S : ST) (N : Nat) (a0 : Nat) (a1 : Int32) (a2 : Int32) (dy : DY) : Option (Int32 × DY) := (F_X10_tenths_5 S N N) a0 a1 a2 (0 : Int32) (0 : Int32) dy
theorem F_X10_tenths_s (S : ST) (N : Nat) (a0 : Nat) (a1 : Int32) (a2 : Int32) (dy : DY) : F_X10_tenths S N a0 a1 a2 dy = ((F_X10_tenths_5 S N N) a0 a1 a2 (0 : Int32) (0 : Int32) dy) := rfl
noncomputable def F_X10_cost (S : ST) (N : Nat) (a0 : Nat) (a1 : Int32) (a2 : Int32) (a3 : Int32) (a4 : Int32) (a5 : Int32) (dy : DY) : Option (Int32 × DY) := bd (si dy a0 0 (0 : Int32)) fun dy1 => (F_X10_isTried S N a0 a1 a2 a4 (200 : Int32) dy1).bind fun u2 => (if u2.1 = 0 then some ((-100000 : Int32), u2.2) else if ib a1 12 then (F_X10_in S N a5 (0 : Int32) ((gi u2.2 (gr S a0 8) a1.toNatClampNeg) - (1 : Int32)) u2.2).bind fun u5 => (if u5.1 = 0 then some ((-100000 : Int32), u5.2) else (F_X10_lay S N a0 (4 : Int32) a1 a2 a3 (12 : Int32) (-1 : Int32) u5.2).bind fun u7 => (F_X10_tryOn S N a0 a4 u7).bind fun u9 => (F_X10_tenths S N a0 a4 a5 u9).bind fun u11 => (F_X10_lay S N a0 (4 : Int32) a1 a2 a3 (12 : Int32) a5 u11.2).bind fun u13 => (F_X10_tryOn S N a0 a4 u13).bind fun u15 => (F_X10_tenths S N a0 a4 a5 u15).bind fun u17 => some ((u11.1 - u17.1), u17.2)) else none)
theorem F_X10_cost_s (S : ST) (N : Nat) (a0 : Nat) (a1 : Int32) (a2 : Int32) (a3 : Int32) (a4 : Int32) (a5 : Int32) (dy : DY) : F_X10_cost S N a0 a1 a2 a3 a4 a5 dy = (bd (si dy a0 0 (0 : Int32)) fun dy1 => (F_X10_isTried S N a0 a1 a2 a4 (200 : Int32) dy1).bind fun u2 => (if u2.1 = 0 then some ((-100000 : Int32), u2.2) else if ib a1 12 then (F_X10_in S N a5 (0 : Int32) ((gi u2.2 (gr S a0 8) a1.toNatClampNeg) - (1 : Int32)) u2.2).bind fun u5 => (if u5.1 = 0 then some ((-100000 : Int32), u5.2) else (F_X10_lay S N a0 (4 : Int32) a1 a2 a3 (12 : Int32) (-1 : Int32) u5.2).bind fun u7 => (F_X10_tryOn S N a0 a4 u7).bind fun u9 => (F_X10_tenths S N a0 a4 a5 u9).bind fun u11 => (F_X10_lay S N a0 (4 : Int32) a1 a2 a3 (12 : Int32) a5 u11.2).bind fun u13 => (F_X10_tryOn S N a0 a4 u13).bind fun u15 => (F_X10_tenths S N a0 a4 a5 u15).bind fun u17 => some ((u11.1 - u17.1), u17.2)) else none)) := rfl
noncomputable def F_X10_count (S : ST) (N : Nat) (a0 : Nat) (a1 : Int32) (dy : DY) : Option (Int32 × DY) := bd (si dy a0 0 (0 : Int32)) fun dy1 => (if a1 = 0 then if ib (0 : Int32) 4 then some ((gi dy1 (gr S a0 5) (0 : Int32).toNatClampNeg), dy1) else none else (if a1 = (1 : Int32) then if ib (0 : Int32) 4 then some ((gi dy1 (gr S a0 12) (0 : Int32).toNatClampNeg), dy1) else none else (F_X10_in S N a1 (2 : Int32) (9 : Int32) dy1).bind fun u2 => (if u2.1 = 0 then some ((-2 : Int32), u2.2) else if ib (a1 - (2 : Int32)) 32 then some ((gi u2.2 (gr S a0 15) (a1 - (2 : Int32)).toNatClampNeg), u2.2) else none)))
theorem F_X10_count_s (S : ST) (N : Nat) (a0 : Nat) (a1 : Int32) (dy : DY) : F_X10_count S N a0 a1 dy = (bd (si dy a0 0 (0 : Int32)) fun dy1 => (if a1 = 0 then if ib (0 : Int32) 4 then some ((gi dy1 (gr S a0 5) (0 : Int32).toNatClampNeg), dy1) else none else (if a1 = (1 : Int32) then if ib (0 : Int32) 4 then some ((gi dy1 (gr S a0 12) (0 : Int32).toNatClampNeg), dy1) else none else (F_X10_in S N a1 (2 : Int32) (9 : Int32) dy1).bind fun u2 => (if u2.1 = 0 then some ((-2 : Int32), u2.2) else if ib (a1 - (2 : Int32)) 32 then some ((gi u2.2 (gr S a0 15) (a1 - (2 : Int32)).toNatClampNeg), u2.2) else none)))) := rfl
noncomputable def F_X10_couple_67 (S : ST) (N : Nat) (x5 : Int32) (y0 : Int32) (dy : DY) : Option (Int32 × DY) := (if 0 ≤ x5 then some ((y0 + x5), dy) else some ((y0 + (-x5)), dy))
theorem F_X10_couple_67_s (S : ST) (N : Nat) (x5 : Int32) (y0 : Int32) (dy : DY) : F_X10_couple_67 S N x5 y0 dy = (if 0 ≤ x5 then some ((y0 + x5), dy) else some ((y0 + (-x5)), dy)) := rfl
noncomputable def F_X10_couple (S : ST) (N : Nat) (a0 : Nat) (a1 : Int32) (a2 : Int32) (a3 : Int32) (dy : DY) : Option (Int32 × DY) := if ib (((6 : Int32) * a1) + a2) 192 then if ib (((6 : Int32) * (a1 + (1 : Int32))) + a3) 192 then if ib (((6 : Int32) * a1) + a2) 192 then if ib (((6 : Int32) * (a1 + (1 : Int32))) + a3) 192 then (if 0 ≤ ((gi dy (gr S a0 16) (((6 : Int32) * a1) + a2).toNatClampNeg) - (gi dy (gr S a0 16) (((6 : Int32) * (a1 + (1 : Int32))) + a3).toNatClampNeg)) then (F_X10_couple_67 S N) ((gi dy (gr S a0 17) (((6 : Int32) * a1) + a2).toNatClampNeg) - (gi dy (gr S a0 17) (((6 : Int32) * (a1 + (1 : Int32))) + a3).toNatClampNeg)) ((gi dy (gr S a0 16) (((6 : Int32) * a1) + a2).toNatClampNeg) - (gi dy (gr S a0 16) (((6 : Int32) * (a1 + (1 : Int32))) + a3).toNatClampNeg)) dy else (F_X10_couple_67 S N) ((gi dy (gr S a0 17) (((6 : Int32) * a1) + a2).toNatClampNeg) - (gi dy (gr S a0 17) (((6 : Int32) * (a1 + (1 : Int32))) + a3).toNatClampNeg)) (-((gi dy (gr S a0 16) (((6 : Int32) * a1) + a2).toNatClampNeg) - (gi dy (gr S a0 16) (((6 : Int32) * (a1 + (1 : Int32))) + a3).toNatClampNeg))) dy) else none else none else none else none
theorem F_X10_couple_s (S : ST) (N : Nat) (a0 : Nat) (a1 : Int32) (a2 : Int32) (a3 : Int32) (dy : DY) : F_X10_couple S N a0 a1 a2 a3 dy = (if ib (((6 : Int32) * a1) + a2) 192 then if ib (((6 : Int32) * (a1 + (1 : Int32))) + a3) 192 then if ib (((6 : Int32) * a1) + a2) 192 then if ib (((6 : Int32) * (a1 + (1 : Int32))) + a3) 192 then (if 0 ≤ ((gi dy (gr S a0 16) (((6 : Int32) * a1) + a2).toNatClampNeg) - (gi dy (gr S a0 16) (((6 : Int32) * (a1 + (1 : Int32))) + a3).toNatClampNeg)) then (F_X10_couple_67 S N) ((gi dy (gr S a0 17) (((6 : Int32) * a1) + a2).toNatClampNeg) - (gi dy (gr S a0 17) (((6 : Int32) * (a1 + (1 : Int32))) + a3).toNatClampNeg)) ((gi dy (gr S a0 16) (((6 : Int32) * a1) + a2).toNatClampNeg) - (gi dy (gr S a0 16) (((6 : Int32) * (a1 + (1 : Int32))) + a3).toNatClampNeg)) dy else (F_X10_couple_67 S N) ((gi dy (gr S a0 17) (((6 : Int32) * a1) + a2).toNatClampNeg) - (gi dy (gr S a0 17) (((6 : Int32) * (a1 + (1 : Int32))) + a3).toNatClampNeg)) (-((gi dy (gr S a0 16) (((6 : Int32) * a1) + a2).toNatClampNeg) - (gi dy (gr S a0 16) (((6 : Int32) * (a1 + (1 : Int32))) + a3).toNatClampNeg))) dy) else none else none else none else none) := rfl
noncomputable def F_X10_dark_9 (S : ST) (N : Nat) : Nat → Nat → Int32 → Int32 → DY → Option (Int32 × DY) := fun k => Nat.rec (motive := fun _ => Nat → Int32 → Int32 → DY → Option (Int32 × DY)) (fun _ _ _ _ => none) (fun _ ih x0 x1 x2 dy => (if (8 : Int32) ≤ x2 then some (x1, dy) else if ib x2 32 then if ib x2 32 then bd (si dy (gr S x0 15) x2.toNatClampNeg (0 : Int32)) fun dy3 => ih x0 (x1 + (gi dy (gr S x0 15) x2.toNatClampNeg)) (x2 + (1 : Int32)) dy3 else none else none)) k
theorem F_X10_dark_9_s (S : ST) (N : Nat) (k : Nat) (x0 : Nat) (x1 : Int32) (x2 : Int32) (dy : DY) : F_X10_dark_9 S N (k + 1) x0 x1 x2 dy = (if (8 : Int32) ≤ x2 then some (x1, dy) else if ib x2 32 then if ib x2 32 then bd (si dy (gr S x0 15) x2.toNatClampNeg (0 : Int32)) fun dy3 => (F_X10_dark_9 S N k) x0 (x1 + (gi dy (gr S x0 15) x2.toNatClampNeg)) (x2 + (1 : Int32)) dy3 else none else none) := rfl
noncomputable def F_X10_dark (S : ST) (N : Nat) (a0 : Nat) (dy : DY) : Option (Int32 × DY) := bd (si dy a0 0 (0 : Int32)) fun dy1 => (F_X10_dark_9 S N N) a0 (0 : Int32) (0 : Int32) dy1
theorem F_X10_dark_s (S : ST) (N : Nat) (a0 : Nat) (dy : DY) : F_X10_dark S N a0 dy = (bd (si dy a0 0 (0 : Int32)) fun dy1 => (F_X10_dark_9 S N N) a0 (0 : Int32) (0 : Int32) dy1) := rfl
noncomputable def F_X10_isRunner (S : ST) (N : Nat) (a0 : Nat) (a1 : Int32) (dy : DY) : Option (Int32 × DY) := if ib (10 : Int32) 10080 then (if (gi dy (gr S a0 39) (10 : Int32).toNatClampNeg) = (1 : Int32) then if ib (2 : Int32) 10080 then (F_X10_in S N a1 (0 : Int32) ((gi dy (gr S a0 39) (2 : Int32).toNatClampNeg) - (1 : Int32)) dy).bind fun u3 => (if u3.1 = 0 then some ((0 : Int32), u3.2) else some ((1 : Int32), u3.2)) else none else some ((0 : Int32), dy)) else none
theorem F_X10_isRunner_s (S : ST) (N : Nat) (a0 : Nat) (a1 : Int32) (dy : DY) : F_X10_isRunner S N a0 a1 dy = (if ib (10 : Int32) 10080 then (if (gi dy (gr S a0 39) (10 : Int32).toNatClampNeg) = (1 : Int32) then if ib (2 : Int32) 10080 then (F_X10_in S N a1 (0 : Int32) ((gi dy (gr S a0 39) (2 : Int32).toNatClampNeg) - (1 : Int32)) dy).bind fun u3 => (if u3.1 = 0 then some ((0 : Int32), u3.2) else some ((1 : Int32), u3.2)) else none else some ((0 : Int32), dy)) else none) := rfl
noncomputable def F_X10_does (S : ST) (N : Nat) (a0 : Nat) (a1 : Int32) (dy : DY) : Option (Int32 × DY) := bd (si dy a0 0 (0 : Int32)) fun dy1 => (F_X10_isRunner S N a0 a1 dy1).bind fun u2 => (if u2.1 = 0 then some ((-1 : Int32), u2.2) else (F_X10_isThere S N a0 (0 : Int32) a1 u2.2).bind fun u4 => (if u4.1 = 0 then some ((-1 : Int32), u4.2) else (F_X10_actBy S N a0 (0 : Int32) a1 u4.2).bind fun u6 => some (u6.1, u6.2)))
theorem F_X10_does_s (S : ST) (N : Nat) (a0 : Nat) (a1 : Int32) (dy : DY) : F_X10_does S N a0 a1 dy = (bd (si dy a0 0 (0 : Int32)) fun dy1 => (F_X10_isRunner S N a0 a1 dy1).bind fun u2 => (if u2.1 = 0 then some ((-1 : Int32), u2.2) else (F_X10_isThere S N a0 (0 : Int32) a1 u2.2).bind fun u4 => (if u4.1 = 0 then some ((-1 : Int32), u4.2) else (F_X10_actBy S N a0 (0 : Int32) a1 u4.2).bind fun u6 => some (u6.1, u6.2)))) := rfl
noncomputable def F_X10_door (S : ST) (N : Nat) (a0 : Nat) (a1 : Int32) (a2 : Int32) (dy : DY) : Option (Int32 × DY) := bd (si dy a0 0 (0 : Int32)) fun dy1 => if ib (10 : Int32) 10080 then (if (gi dy1 (gr S a0 39) (10 : Int32).toNatClampNeg) = 0 then some ((-1 : Int32), dy1) else if ib (0 : Int32) 10080 then (F_X10_in S N a1 (0 : Int32) ((gi dy1 (gr S a0 39) (0 : Int32).toNatClampNeg) - (2 : Int32)) dy1).bind fun u4 => (if u4.1 = 0 then some ((-1 : Int32), u4.2) else (if a2 = 0 then if ib (((640 : Int32) + ((5 : Int32) * a1)) + (3 : Int32)) 10080 then some ((gi u4.2 (gr S a0 39) (((640 : Int32) + ((5 : Int32) * a1)) + (3 : Int32)).toNatClampNeg), u4.2) else none else (if a2 = (1 : Int32) then if ib (((640 : Int32) + ((5 : Int32) * a1)) + (2 : Int32)) 10080 then some ((gi u4.2 (gr S a0 39) (((640 : Int32) + ((5 : Int32) * a1)) + (2 : Int32)).toNatClampNeg), u4.2) else none else (if a2 = (2 : Int32) then if ib (((640 : Int32) + ((5 : Int32) * a1)) + (4 : Int32)) 10080 then some ((gi u4.2 (gr S a0 39) (((640 : Int32) + ((5 : Int32) * a1)) + (4 : Int32)).toNatClampNeg), u4.2) else none else some ((-1 : Int32), u4.2))))) else none) else none
theorem F_X10_door_s (S : ST) (N : Nat) (a0 : Nat) (a1 : Int32) (a2 : Int32) (dy : DY) : F_X10_door S N a0 a1 a2 dy = (bd (si dy a0 0 (0 : Int32)) fun dy1 => if ib (10 : Int32) 10080 then (if (gi dy1 (gr S a0 39) (10 : Int32).toNatClampNeg) = 0 then some ((-1 : Int32), dy1) else if ib (0 : Int32) 10080 then (F_X10_in S N a1 (0 : Int32) ((gi dy1 (gr S a0 39) (0 : Int32).toNatClampNeg) - (2 : Int32)) dy1).bind fun u4 => (if u4.1 = 0 then some ((-1 : Int32), u4.2) else (if a2 = 0 then if ib (((640 : Int32) + ((5 : Int32) * a1)) + (3 : Int32)) 10080 then some ((gi u4.2 (gr S a0 39) (((640 : Int32) + ((5 : Int32) * a1)) + (3 : Int32)).toNatClampNeg), u4.2) else none else (if a2 = (1 : Int32) then if ib (((640 : Int32) + ((5 : Int32) * a1)) + (2 : Int32)) 10080 then some ((gi u4.2 (gr S a0 39) (((640 : Int32) + ((5 : Int32) * a1)) + (2 : Int32)).toNatClampNeg), u4.2) else none else (if a2 = (2 : Int32) then if ib (((640 : Int32) + ((5 : Int32) * a1)) + (4 : Int32)) 10080 then some ((gi u4.2 (gr S a0 39) (((640 : Int32) + ((5 : Int32) * a1)) + (4 : Int32)).toNatClampNeg), u4.2) else none else some ((-1 : Int32), u4.2))))) else none) else none) := rfl
noncomputable def F_X10_end (S : ST) (N : Nat) (a0 : Nat) (a1 : Int32) (dy : DY) : Option (Int32 × DY) := bd (si dy a0 0 (0 : Int32)) fun dy1 => if ib (0 : Int32) 4 then (F_X10_in S N a1 (0 : Int32) (gi dy1 (gr S a0 2) (0 : Int32).toNatClampNeg) dy1).bind fun u3 => (if u3.1 = 0 then some ((-1 : Int32), u3.2) else if ib (0 : Int32) 4 then bd (si u3.2 (gr S a0 2) (0 : Int32).toNatClampNeg a1) fun dy6 => some (a1, dy6) else none) else none
theorem F_X10_end_s (S : ST) (N : Nat) (a0 : Nat) (a1 : Int32) (dy : DY) : F_X10_end S N a0 a1 dy = (bd (si dy a0 0 (0 : Int32)) fun dy1 => if ib (0 : Int32) 4 then (F_X10_in S N a1 (0 : Int32) (gi dy1 (gr S a0 2) (0 : Int32).toNatClampNeg) dy1).bind fun u3 => (if u3.1 = 0 then some ((-1 : Int32), u3.2) else if ib (0 : Int32) 4 then bd (si u3.2 (gr S a0 2) (0 : Int32).toNatClampNeg a1) fun dy6 => some (a1, dy6) else none) else none) := rfl
noncomputable def F_X10_fault (S : ST) (N : Nat) (a0 : Nat) (a1 : Int32) (dy : DY) : Option (Int32 × DY) := bd (si dy a0 0 (0 : Int32)) fun dy1 => (if a1 = 0 then if ib (0 : Int32) 4 then some ((gi dy1 (gr S a0 3) (0 : Int32).toNatClampNeg), dy1) else none else (if a1 = (1 : Int32) then if ib (0 : Int32) 4 then some ((gi dy1 (gr S a0 4) (0 : Int32).toNatClampNeg), dy1) else none else some ((-1 : Int32), dy1)))
theorem F_X10_fault_s (S : ST) (N : Nat) (a0 : Nat) (a1 : Int32) (dy : DY) : F_X10_fault S N a0 a1 dy = (bd (si dy a0 0 (0 : Int32)) fun dy1 => (if a1 = 0 then if ib (0 : Int32) 4 then some ((gi dy1 (gr S a0 3) (0 : Int32).toNatClampNeg), dy1) else none else (if a1 = (1 : Int32) then if ib (0 : Int32) 4 then some ((gi dy1 (gr S a0 4) (0 : Int32).toNatClampNeg), dy1) else none else some ((-1 : Int32), dy1)))) := rfl
noncomputable def F_X10_four_3 (S : ST) (N : Nat) : Nat → Nat → Int32 → Int32 → DY → Option DY := fun k => Nat.rec (motive := fun _ => Nat → Int32 → Int32 → DY → Option DY) (fun _ _ _ _ => none) (fun _ ih x0 x1 x2 dy => (if x2 < 0 then some dy else if ib (0 : Int32) 4 then if ib (gi dy (gr S x0 2) (0 : Int32).toNatClampNeg) 2000 then bd (si dy (gr S x0 1) (gi dy (gr S x0 2) (0 : Int32).toNatClampNeg).toNatClampNeg (((x1 >>> (x2 &&& 31))).toInt8.toInt32)) fun dy3 => if ib (0 : Int32) 4 then if ib (0 : Int32) 4 then bd (si dy3 (gr S x0 2) (0 : Int32).toNatClampNeg ((gi dy3 (gr S x0 2) (0 : Int32).toNatClampNeg) + (1 : Int32))) fun dy5 => ih x0 x1 (x2 + (-8 : Int32)) dy5 else none else none else none else none)) k
theorem F_X10_four_3_s (S : ST) (N : Nat) (k : Nat) (x0 : Nat) (x1 : Int32) (x2 : Int32) (dy : DY) : F_X10_four_3 S N (k + 1) x0 x1 x2 dy = (if x2 < 0 then some dy else if ib (0 : Int32) 4 then if ib (gi dy (gr S x0 2) (0 : Int32).toNatClampNeg) 2000 then bd (si dy (gr S x0 1) (gi dy (gr S x0 2) (0 : Int32).toNatClampNeg).toNatClampNeg (((x1 >>> (x2 &&& 31))).toInt8.toInt32)) fun dy3 => if ib (0 : Int32) 4 then if ib (0 : Int32) 4 then bd (si dy3 (gr S x0 2) (0 : Int32).toNatClampNeg ((gi dy3 (gr S x0 2) (0 : Int32).toNatClampNeg) + (1 : Int32))) fun dy5 => (F_X10_four_3 S N k) x0 x1 (x2 + (-8 : Int32)) dy5 else none else none else none else none) := rfl
noncomputable def F_X10_four (S : ST) (N : Nat) (a0 : Nat) (a1 : Int32) (dy : DY) : Option DY := (F_X10_four_3 S N N) a0 a1 (24 : Int32) dy
theorem F_X10_four_s (S : ST) (N : Nat) (a0 : Nat) (a1 : Int32) (dy : DY) : F_X10_four S N a0 a1 dy = ((F_X10_four_3 S N N) a0 a1 (24 : Int32) dy) := rfl
noncomputable def F_X10_feed (S : ST) (N : Nat) (a0 : Nat) (a1 : Int32) (a2 : Int32) (a3 : Int32) (a4 : Int32) (a5 : Int32) (dy : DY) : Option (Int32 × DY) := bd (si dy a0 0 (0 : Int32)) fun dy1 => if ib (0 : Int32) 4 then (if ((gi dy1 (gr S a0 2) (0 : Int32).toNatClampNeg) + (20 : Int32)) ≤ (500 : Int32) then (F_X10_four S N a0 a1 dy1).bind fun u3 => (F_X10_four S N a0 a2 u3).bind fun u5 => (F_X10_four S N a0 a3 u5).bind fun u7 => (F_X10_four S N a0 a4 u7).bind fun u9 => (F_X10_four S N a0 a5 u9).bind fun u11 => if ib (0 : Int32) 4 then some ((gi u11 (gr S a0 2) (0 : Int32).toNatClampNeg), u11) else none else some ((-1 : Int32), dy1)) else none
theorem F_X10_feed_s (S : ST) (N : Nat) (a0 : Nat) (a1 : Int32) (a2 : Int32) (a3 : Int32) (a4 : Int32) (a5 : Int32) (dy : DY) : F_X10_feed S N a0 a1 a2 a3 a4 a5 dy = (bd (si dy a0 0 (0 : Int32)) fun dy1 => if ib (0 : Int32) 4 then (if ((gi dy1 (gr S a0 2) (0 : Int32).toNatClampNeg) + (20 : Int32)) ≤ (500 : Int32) then (F_X10_four S N a0 a1 dy1).bind fun u3 => (F_X10_four S N a0 a2 u3).bind fun u5 => (F_X10_four S N a0 a3 u5).bind fun u7 => (F_X10_four S N a0 a4 u7).bind fun u9 => (F_X10_four S N a0 a5 u9).bind fun u11 => if ib (0 : Int32) 4 then some ((gi u11 (gr S a0 2) (0 : Int32).toNatClampNeg), u11) else none else some ((-1 : Int32), dy1)) else none) := rfl
noncomputable def F_X10_ones_4 (S : ST) (N : Nat) : Nat → Int32 → Int32 → Int32 → DY → Option (Int32 × DY) := fun k => Nat.rec (motive := fun _ => Int32 → Int32 → Int32 → DY → Option (Int32 × DY)) (fun _ _ _ _ => none) (fun _ ih x0 x1 x2 dy => (if (6 : Int32) ≤ x2 then some (x1, dy) else ih x0 (x1 + ((x0 >>> (x2 &&& 31)) &&& (1 : Int32))) (x2 + (1 : Int32)) dy)) k
theorem F_X10_ones_4_s (S : ST) (N : Nat) (k : Nat) (x0 : Int32) (x1 : Int32) (x2 : Int32) (dy : DY) : F_X10_ones_4 S N (k + 1) x0 x1 x2 dy = (if (6 : Int32) ≤ x2 then some (x1, dy) else (F_X10_ones_4 S N k) x0 (x1 + ((x0 >>> (x2 &&& 31)) &&& (1 : Int32))) (x2 + (1 : Int32)) dy) := rfl
noncomputable def F_X10_ones (S : ST) (N : Nat) (a0 : Int32) (dy : DY) : Option (Int32 × DY) := (F_X10_ones_4 S N N) a0 (0 : Int32) (0 : Int32) dy
theorem F_X10_ones_s (S : ST) (N : Nat) (a0 : Int32) (dy : DY) : F_X10_ones S N a0 dy = ((F_X10_ones_4 S N N) a0 (0 : Int32) (0 : Int32) dy) := rfl
noncomputable def F_X10_findMatch_154 (S : ST) (N : Nat) (K96 : Nat → Int32 → Int32 → Int32 → Int32 → Int32 → Int32 → Int32 → Int32 → DY → Option DY) (x0 : Nat) (x1 : Int32) (x2 : Int32) (x3 : Int32) (x4 : Int32) (x5 : Int32) (x6 : Int32) (x7 : Int32) (x8 : Int32) (y0 : Int32) (dy : DY) : Option DY := (if x7 ≤ y0 then K96 x0 x1 x2 x3 x4 x5 x6 x7 (x8 + (1 : Int32)) dy else K96 x0 x1 x2 x3 x4 x5 x6 y0 (x8 + (1 : Int32)) dy)
theorem F_X10_findMatch_154_s (S : ST) (N : Nat) (K96 : Nat → Int32 → Int32 → Int32 → Int32 → Int32 → Int32 → Int32 → Int32 → DY → Option DY) (x0 : Nat) (x1 : Int32) (x2 : Int32) (x3 : Int32) (x4 : Int32) (x5 : Int32) (x6 : Int32) (x7 : Int32) (x8 : Int32) (y0 : Int32) (dy : DY) : F_X10_findMatch_154 S N K96 x0 x1 x2 x3 x4 x5 x6 x7 x8 y0 dy = (if x7 ≤ y0 then K96 x0 x1 x2 x3 x4 x5 x6 x7 (x8 + (1 : Int32)) dy else K96 x0 x1 x2 x3 x4 x5 x6 y0 (x8 + (1 : Int32)) dy) := rfl
noncomputable def F_X10_findMatch_96 (S : ST) (N : Nat) (K67 : Nat → Int32 → Int32 → Int32 → Int32 → Int32 → Int32 → DY → Option DY) : Nat → Nat → Int32 → Int32 → Int32 → Int32 → Int32 → Int32 → Int32 → Int32 → DY → Option DY := fun k => Nat.rec (motive := fun _ => Nat → Int32 → Int32 → Int32 → Int32 → Int32 → Int32 → Int32 → Int32 → DY → Option DY) (fun _ _ _ _ _ _ _ _ _ _ => none) (fun _ ih x0 x1 x2 x3 x4 x5 x6 x7 x8 dy => if ib (x1 + (1 : Int32)) 32 then (if (gi dy (gr S x0 15) (x1 + (1 : Int32)).toNatClampNeg) ≤ x8 then if ib (((64 : Int32) * x5) + x6) 448 then bd (si dy (gr S x0 56) (((64 : Int32) * x5) + x6).toNatClampNeg x7) fun dy3 => K67 x0 x1 x2 x3 x4 x5 (x6 + (1 : Int32)) dy3 else none else (if ((x6 >>> (x8 &&& 31)) &&& (1 : Int32)) = 0 then (F_X10_findMatch_154 S N ih) x0 x1 x2 x3 x4 x5 x6 x7 x8 x7 dy else (F_X10_couple S N x0 x1 x5 x8 dy).bind fun u4 => if ib ((((64 : Int32) * (x5 + (1 : Int32))) + x6) - ((1 : Int32) <<< (x8 &&& 31))) 448 then (F_X10_findMatch_154 S N ih) x0 x1 x2 x3 x4 x5 x6 x7 x8 (u4.1 + (gi u4.2 (gr S x0 56) ((((64 : Int32) * (x5 + (1 : Int32))) + x6) - ((1 : Int32) <<< (x8 &&& 31))).toNatClampNeg)) u4.2 else none)) else none) k
theorem F_X10_findMatch_96_s (S : ST) (N : Nat) (K67 : Nat → Int32 → Int32 → Int32 → Int32 → Int32 → Int32 → DY → Option DY) (k : Nat) (x0 : Nat) (x1 : Int32) (x2 : Int32) (x3 : Int32) (x4 : Int32) (x5 : Int32) (x6 : Int32) (x7 : Int32) (x8 : Int32) (dy : DY) : F_X10_findMatch_96 S N K67 (k + 1) x0 x1 x2 x3 x4 x5 x6 x7 x8 dy = (if ib (x1 + (1 : Int32)) 32 then (if (gi dy (gr S x0 15) (x1 + (1 : Int32)).toNatClampNeg) ≤ x8 then if ib (((64 : Int32) * x5) + x6) 448 then bd (si dy (gr S x0 56) (((64 : Int32) * x5) + x6).toNatClampNeg x7) fun dy3 => K67 x0 x1 x2 x3 x4 x5 (x6 + (1 : Int32)) dy3 else none else (if ((x6 >>> (x8 &&& 31)) &&& (1 : Int32)) = 0 then (F_X10_findMatch_154 S N (F_X10_findMatch_96 S N K67 k)) x0 x1 x2 x3 x4 x5 x6 x7 x8 x7 dy else (F_X10_couple S N x0 x1 x5 x8 dy).bind fun u4 => if ib ((((64 : Int32) * (x5 + (1 : Int32))) + x6) - ((1 : Int32) <<< (x8 &&& 31))) 448 then (F_X10_findMatch_154 S N (F_X10_findMatch_96 S N K67 k)) x0 x1 x2 x3 x4 x5 x6 x7 x8 (u4.1 + (gi u4.2 (gr S x0 56) ((((64 : Int32) * (x5 + (1 : Int32))) + x6) - ((1 : Int32) <<< (x8 &&& 31))).toNatClampNeg)) u4.2 else none)) else none) := rfl
noncomputable def F_X10_findMatch_67 (S : ST) (N : Nat) (K59 : Nat → Int32 → Int32 → Int32 → Int32 → Int32 → DY → Option DY) : Nat → Nat → Int32 → Int32 → Int32 → Int32 → Int32 → Int32 → DY → Option DY := fun k => Nat.rec (motive := fun _ => Nat → Int32 → Int32 → Int32 → Int32 → Int32 → Int32 → DY → Option DY) (fun _ _ _ _ _ _ _ _ => none) (fun _ ih x0 x1 x2 x3 x4 x5 x6 dy => (if x4 ≤ x6 then K59 x0 x1 x2 x3 x4 (x5 + (-1 : Int32)) dy else if ib (((64 : Int32) * (x5 + (1 : Int32))) + x6) 448 then (F_X10_findMatch_96 S N ih N) x0 x1 x2 x3 x4 x5 x6 (x2 + (gi dy (gr S x0 56) (((64 : Int32) * (x5 + (1 : Int32))) + x6).toNatClampNeg)) (0 : Int32) dy else none)) k
theorem F_X10_findMatch_67_s (S : ST) (N : Nat) (K59 : Nat → Int32 → Int32 → Int32 → Int32 → Int32 → DY → Option DY) (k : Nat) (x0 : Nat) (x1 : Int32) (x2 : Int32) (x3 : Int32) (x4 : Int32) (x5 : Int32) (x6 : Int32) (dy : DY) : F_X10_findMatch_67 S N K59 (k + 1) x0 x1 x2 x3 x4 x5 x6 dy = (if x4 ≤ x6 then K59 x0 x1 x2 x3 x4 (x5 + (-1 : Int32)) dy else if ib (((64 : Int32) * (x5 + (1 : Int32))) + x6) 448 then (F_X10_findMatch_96 S N (F_X10_findMatch_67 S N K59 k) N) x0 x1 x2 x3 x4 x5 x6 (x2 + (gi dy (gr S x0 56) (((64 : Int32) * (x5 + (1 : Int32))) + x6).toNatClampNeg)) (0 : Int32) dy else none) := rfl
noncomputable def F_X10_findMatch_344 (S : ST) (N : Nat) (K253 : Nat → Int32 → Int32 → Int32 → Int32 → Int32 → DY → Option DY) (x0 : Nat) (x1 : Int32) (x3 : Int32) (x5 : Int32) (x6 : Int32) (x7 : Int32) (y0 : Nat) (y1 : Int32) (y2 : Int32) (dy : DY) : Option DY := if ib y1 6 then bd (si dy y0 y1.toNatClampNeg y2) fun dy1 => K253 x0 x1 x3 x5 x6 (x7 + (-1 : Int32)) dy1 else none
theorem F_X10_findMatch_344_s (S : ST) (N : Nat) (K253 : Nat → Int32 → Int32 → Int32 → Int32 → Int32 → DY → Option DY) (x0 : Nat) (x1 : Int32) (x3 : Int32) (x5 : Int32) (x6 : Int32) (x7 : Int32) (y0 : Nat) (y1 : Int32) (y2 : Int32) (dy : DY) : F_X10_findMatch_344 S N K253 x0 x1 x3 x5 x6 x7 y0 y1 y2 dy = (if ib y1 6 then bd (si dy y0 y1.toNatClampNeg y2) fun dy1 => K253 x0 x1 x3 x5 x6 (x7 + (-1 : Int32)) dy1 else none) := rfl
noncomputable def F_X10_findMatch_319 (S : ST) (N : Nat) (K253 : Nat → Int32 → Int32 → Int32 → Int32 → Int32 → DY → Option DY) (x0 : Nat) (x1 : Int32) (x3 : Int32) (x5 : Int32) (x6 : Int32) (x7 : Int32) (y0 : Int32) (dy : DY) : Option DY := (if y0 = 0 then if ib x6 6 then (F_X10_findMatch_344 S N K253) x0 x1 x3 x5 x6 x7 (gr S x0 57) x6 (gi dy (gr S x0 57) x6.toNatClampNeg) dy else none else (F_X10_findMatch_344 S N K253) x0 x1 x3 x5 x6 x7 (gr S x0 57) x6 x7 dy)
theorem F_X10_findMatch_319_s (S : ST) (N : Nat) (K253 : Nat → Int32 → Int32 → Int32 → Int32 → Int32 → DY → Option DY) (x0 : Nat) (x1 : Int32) (x3 : Int32) (x5 : Int32) (x6 : Int32) (x7 : Int32) (y0 : Int32) (dy : DY) : F_X10_findMatch_319 S N K253 x0 x1 x3 x5 x6 x7 y0 dy = (if y0 = 0 then if ib x6 6 then (F_X10_findMatch_344 S N K253) x0 x1 x3 x5 x6 x7 (gr S x0 57) x6 (gi dy (gr S x0 57) x6.toNatClampNeg) dy else none else (F_X10_findMatch_344 S N K253) x0 x1 x3 x5 x6 x7 (gr S x0 57) x6 x7 dy) := rfl
noncomputable def F_X10_findMatch_253 (S : ST) (N : Nat) (K227 : Nat → Int32 → Int32 → Int32 → Int32 → DY → Option DY) : Nat → Nat → Int32 → Int32 → Int32 → Int32 → Int32 → DY → Option DY := fun k => Nat.rec (motive := fun _ => Nat → Int32 → Int32 → Int32 → Int32 → Int32 → DY → Option DY) (fun _ _ _ _ _ _ _ => none) (fun _ ih x0 x1 x3 x5 x6 x7 dy => (if x7 < 0 then if ib x6 6 then (if (gi dy (gr S x0 57) x6.toNatClampNeg) = (-1 : Int32) then K227 x0 x1 x3 (x5 - (0 : Int32)) (x6 + (1 : Int32)) dy else if ib x6 6 then K227 x0 x1 x3 (x5 - ((1 : Int32) <<< ((gi dy (gr S x0 57) x6.toNatClampNeg) &&& 31))) (x6 + (1 : Int32)) dy else none) else none else (if ((x5 >>> (x7 &&& 31)) &&& (1 : Int32)) = 0 then (F_X10_findMatch_319 S N ih) x0 x1 x3 x5 x6 x7 (0 : Int32) dy else (F_X10_couple S N x0 x1 x6 x7 dy).bind fun u3 => if ib ((((64 : Int32) * (x6 + (1 : Int32))) + x5) - ((1 : Int32) <<< (x7 &&& 31))) 448 then if ib (((64 : Int32) * x6) + x5) 448 then (if (u3.1 + (gi u3.2 (gr S x0 56) ((((64 : Int32) * (x6 + (1 : Int32))) + x5) - ((1 : Int32) <<< (x7 &&& 31))).toNatClampNeg)) = (gi u3.2 (gr S x0 56) (((64 : Int32) * x6) + x5).toNatClampNeg) then (F_X10_findMatch_319 S N ih) x0 x1 x3 x5 x6 x7 (1 : Int32) u3.2 else (F_X10_findMatch_319 S N ih) x0 x1 x3 x5 x6 x7 (0 : Int32) u3.2) else none else none))) k
theorem F_X10_findMatch_253_s (S : ST) (N : Nat) (K227 : Nat → Int32 → Int32 → Int32 → Int32 → DY → Option DY) (k : Nat) (x0 : Nat) (x1 : Int32) (x3 : Int32) (x5 : Int32) (x6 : Int32) (x7 : Int32) (dy : DY) : F_X10_findMatch_253 S N K227 (k + 1) x0 x1 x3 x5 x6 x7 dy = (if x7 < 0 then if ib x6 6 then (if (gi dy (gr S x0 57) x6.toNatClampNeg) = (-1 : Int32) then K227 x0 x1 x3 (x5 - (0 : Int32)) (x6 + (1 : Int32)) dy else if ib x6 6 then K227 x0 x1 x3 (x5 - ((1 : Int32) <<< ((gi dy (gr S x0 57) x6.toNatClampNeg) &&& 31))) (x6 + (1 : Int32)) dy else none) else none else (if ((x5 >>> (x7 &&& 31)) &&& (1 : Int32)) = 0 then (F_X10_findMatch_319 S N (F_X10_findMatch_253 S N K227 k)) x0 x1 x3 x5 x6 x7 (0 : Int32) dy else (F_X10_couple S N x0 x1 x6 x7 dy).bind fun u3 => if ib ((((64 : Int32) * (x6 + (1 : Int32))) + x5) - ((1 : Int32) <<< (x7 &&& 31))) 448 then if ib (((64 : Int32) * x6) + x5) 448 then (if (u3.1 + (gi u3.2 (gr S x0 56) ((((64 : Int32) * (x6 + (1 : Int32))) + x5) - ((1 : Int32) <<< (x7 &&& 31))).toNatClampNeg)) = (gi u3.2 (gr S x0 56) (((64 : Int32) * x6) + x5).toNatClampNeg) then (F_X10_findMatch_319 S N (F_X10_findMatch_253 S N K227 k)) x0 x1 x3 x5 x6 x7 (1 : Int32) u3.2 else (F_X10_findMatch_319 S N (F_X10_findMatch_253 S N K227 k)) x0 x1 x3 x5 x6 x7 (0 : Int32) u3.2) else none else none)) := rfl
noncomputable def F_X10_findMatch_227 (S : ST) (N : Nat) : Nat → Nat → Int32 → Int32 → Int32 → Int32 → DY → Option DY := fun k => Nat.rec (motive := fun _ => Nat → Int32 → Int32 → Int32 → Int32 → DY → Option DY) (fun _ _ _ _ _ _ => none) (fun _ ih x0 x1 x3 x5 x6 dy => (if x3 ≤ x6 then some dy else if ib x6 6 then bd (si dy (gr S x0 57) x6.toNatClampNeg (-1 : Int32)) fun dy2 => if ib (x1 + (1 : Int32)) 32 then (F_X10_findMatch_253 S N ih N) x0 x1 x3 x5 x6 ((gi dy2 (gr S x0 15) (x1 + (1 : Int32)).toNatClampNeg) - (1 : Int32)) dy2 else none else none)) k
theorem F_X10_findMatch_227_s (S : ST) (N : Nat) (k : Nat) (x0 : Nat) (x1 : Int32) (x3 : Int32) (x5 : Int32) (x6 : Int32) (dy : DY) : F_X10_findMatch_227 S N (k + 1) x0 x1 x3 x5 x6 dy = (if x3 ≤ x6 then some dy else if ib x6 6 then bd (si dy (gr S x0 57) x6.toNatClampNeg (-1 : Int32)) fun dy2 => if ib (x1 + (1 : Int32)) 32 then (F_X10_findMatch_253 S N (F_X10_findMatch_227 S N k) N) x0 x1 x3 x5 x6 ((gi dy2 (gr S x0 15) (x1 + (1 : Int32)).toNatClampNeg) - (1 : Int32)) dy2 else none else none) := rfl
noncomputable def F_X10_findMatch_59 (S : ST) (N : Nat) : Nat → Nat → Int32 → Int32 → Int32 → Int32 → Int32 → DY → Option DY := fun k => Nat.rec (motive := fun _ => Nat → Int32 → Int32 → Int32 → Int32 → Int32 → DY → Option DY) (fun _ _ _ _ _ _ _ => none) (fun _ ih x0 x1 x2 x3 x4 x5 dy => (if x5 < 0 then if ib (x4 - (1 : Int32)) 448 then bd (si dy x0 58 (gi dy (gr S x0 56) (x4 - (1 : Int32)).toNatClampNeg)) fun dy2 => (F_X10_findMatch_227 S N N) x0 x1 x3 (x4 - (1 : Int32)) (0 : Int32) dy2 else none else (F_X10_findMatch_67 S N ih N) x0 x1 x2 x3 x4 x5 (0 : Int32) dy)) k
theorem F_X10_findMatch_59_s (S : ST) (N : Nat) (k : Nat) (x0 : Nat) (x1 : Int32) (x2 : Int32) (x3 : Int32) (x4 : Int32) (x5 : Int32) (dy : DY) : F_X10_findMatch_59 S N (k + 1) x0 x1 x2 x3 x4 x5 dy = (if x5 < 0 then if ib (x4 - (1 : Int32)) 448 then bd (si dy x0 58 (gi dy (gr S x0 56) (x4 - (1 : Int32)).toNatClampNeg)) fun dy2 => (F_X10_findMatch_227 S N N) x0 x1 x3 (x4 - (1 : Int32)) (0 : Int32) dy2 else none else (F_X10_findMatch_67 S N (F_X10_findMatch_59 S N k) N) x0 x1 x2 x3 x4 x5 (0 : Int32) dy) := rfl
noncomputable def F_X10_findMatch_22 (S : ST) (N : Nat) : Nat → Nat → Int32 → Int32 → Int32 → Int32 → Int32 → DY → Option DY := fun k => Nat.rec (motive := fun _ => Nat → Int32 → Int32 → Int32 → Int32 → Int32 → DY → Option DY) (fun _ _ _ _ _ _ _ => none) (fun _ ih x0 x1 x2 x3 x4 x5 dy => (if x4 ≤ x5 then (F_X10_findMatch_59 S N N) x0 x1 x2 x3 x4 (x3 - (1 : Int32)) dy else (F_X10_ones S N x5 dy).bind fun u2 => if ib (((64 : Int32) * x3) + x5) 448 then bd (si u2.2 (gr S x0 56) (((64 : Int32) * x3) + x5).toNatClampNeg (x2 * u2.1)) fun dy4 => ih x0 x1 x2 x3 x4 (x5 + (1 : Int32)) dy4 else none)) k
theorem F_X10_findMatch_22_s (S : ST) (N : Nat) (k : Nat) (x0 : Nat) (x1 : Int32) (x2 : Int32) (x3 : Int32) (x4 : Int32) (x5 : Int32) (dy : DY) : F_X10_findMatch_22 S N (k + 1) x0 x1 x2 x3 x4 x5 dy = (if x4 ≤ x5 then (F_X10_findMatch_59 S N N) x0 x1 x2 x3 x4 (x3 - (1 : Int32)) dy else (F_X10_ones S N x5 dy).bind fun u2 => if ib (((64 : Int32) * x3) + x5) 448 then bd (si u2.2 (gr S x0 56) (((64 : Int32) * x3) + x5).toNatClampNeg (x2 * u2.1)) fun dy4 => (F_X10_findMatch_22 S N k) x0 x1 x2 x3 x4 (x5 + (1 : Int32)) dy4 else none) := rfl
noncomputable def F_X10_findMatch (S : ST) (N : Nat) (a0 : Nat) (a1 : Int32) (a2 : Int32) (dy : DY) : Option DY := if ib a1 32 then if ib (a1 + (1 : Int32)) 32 then (F_X10_findMatch_22 S N N) a0 a1 a2 (gi dy (gr S a0 15) a1.toNatClampNeg) ((1 : Int32) <<< ((gi dy (gr S a0 15) (a1 + (1 : Int32)).toNatClampNeg) &&& 31)) (0 : Int32) dy else none else none
theorem F_X10_findMatch_s (S : ST) (N : Nat) (a0 : Nat) (a1 : Int32) (a2 : Int32) (dy : DY) : F_X10_findMatch S N a0 a1 a2 dy = (if ib a1 32 then if ib (a1 + (1 : Int32)) 32 then (F_X10_findMatch_22 S N N) a0 a1 a2 (gi dy (gr S a0 15) a1.toNatClampNeg) ((1 : Int32) <<< ((gi dy (gr S a0 15) (a1 + (1 : Int32)).toNatClampNeg) &&& 31)) (0 : Int32) dy else none else none) := rfl
noncomputable def F_X10_layOver_2 (S : ST) (N : Nat) : Nat → Nat → Int32 → Int32 → Int32 → DY → Option DY := fun k => Nat.rec (motive := fun _ => Nat → Int32 → Int32 → Int32 → DY → Option DY) (fun _ _ _ _ _ => none) (fun _ ih x0 x1 x2 x3 dy => (if (720 : Int32) ≤ x3 then some dy else if ib (((720 : Int32) * x1) + x3) 10080 then if ib (((720 : Int32) * x2) + x3) 10080 then bd (si dy (gr S x0 39) (((720 : Int32) * x2) + x3).toNatClampNeg (gi dy (gr S x0 39) (((720 : Int32) * x1) + x3).toNatClampNeg)) fun dy3 => ih x0 x1 x2 (x3 + (1 : Int32)) dy3 else none else none)) k
theorem F_X10_layOver_2_s (S : ST) (N : Nat) (k : Nat) (x0 : Nat) (x1 : Int32) (x2 : Int32) (x3 : Int32) (dy : DY) : F_X10_layOver_2 S N (k + 1) x0 x1 x2 x3 dy = (if (720 : Int32) ≤ x3 then some dy else if ib (((720 : Int32) * x1) + x3) 10080 then if ib (((720 : Int32) * x2) + x3) 10080 then bd (si dy (gr S x0 39) (((720 : Int32) * x2) + x3).toNatClampNeg (gi dy (gr S x0 39) (((720 : Int32) * x1) + x3).toNatClampNeg)) fun dy3 => (F_X10_layOver_2 S N k) x0 x1 x2 (x3 + (1 : Int32)) dy3 else none else none) := rfl
noncomputable def F_X10_layOver (S : ST) (N : Nat) (a0 : Nat) (a1 : Int32) (a2 : Int32) (dy : DY) : Option DY := (F_X10_layOver_2 S N N) a0 a1 a2 (0 : Int32) dy
theorem F_X10_layOver_s (S : ST) (N : Nat) (a0 : Nat) (a1 : Int32) (a2 : Int32) (dy : DY) : F_X10_layOver S N a0 a1 a2 dy = ((F_X10_layOver_2 S N N) a0 a1 a2 (0 : Int32) dy) := rfl
noncomputable def F_X10_findTwo_99 (S : ST) (N : Nat) (K54 : Nat → Int32 → Int32 → DY → Option DY) (x0 : Nat) (x1 : Int32) (x2 : Int32) (x3 : Int32) (y0 : Nat) (y1 : Int32) (y2 : Int32) (dy : DY) : Option DY := bd (si dy y0 53 (y1 + y2)) fun dy1 => if ib (x3 + (8 : Int32)) 10080 then if ib (gi dy1 (gr S x0 39) (x3 + (8 : Int32)).toNatClampNeg) 9 then if ib x2 9 then if ib (gi dy1 (gr S x0 39) (x3 + (8 : Int32)).toNatClampNeg) 9 then bd (si dy1 (gr S x0 54) (gi dy1 (gr S x0 39) (x3 + (8 : Int32)).toNatClampNeg).toNatClampNeg ((gi dy1 (gr S x0 54) (gi dy1 (gr S x0 39) (x3 + (8 : Int32)).toNatClampNeg).toNatClampNeg) + (gi dy1 (gr S x0 52) x2.toNatClampNeg))) fun dy5 => K54 x0 x1 (x2 + (-1 : Int32)) dy5 else none else none else none else none
theorem F_X10_findTwo_99_s (S : ST) (N : Nat) (K54 : Nat → Int32 → Int32 → DY → Option DY) (x0 : Nat) (x1 : Int32) (x2 : Int32) (x3 : Int32) (y0 : Nat) (y1 : Int32) (y2 : Int32) (dy : DY) : F_X10_findTwo_99 S N K54 x0 x1 x2 x3 y0 y1 y2 dy = (bd (si dy y0 53 (y1 + y2)) fun dy1 => if ib (x3 + (8 : Int32)) 10080 then if ib (gi dy1 (gr S x0 39) (x3 + (8 : Int32)).toNatClampNeg) 9 then if ib x2 9 then if ib (gi dy1 (gr S x0 39) (x3 + (8 : Int32)).toNatClampNeg) 9 then bd (si dy1 (gr S x0 54) (gi dy1 (gr S x0 39) (x3 + (8 : Int32)).toNatClampNeg).toNatClampNeg ((gi dy1 (gr S x0 54) (gi dy1 (gr S x0 39) (x3 + (8 : Int32)).toNatClampNeg).toNatClampNeg) + (gi dy1 (gr S x0 52) x2.toNatClampNeg))) fun dy5 => K54 x0 x1 (x2 + (-1 : Int32)) dy5 else none else none else none else none) := rfl
noncomputable def F_X10_findTwo_54 (S : ST) (N : Nat) : Nat → Nat → Int32 → Int32 → DY → Option DY := fun k => Nat.rec (motive := fun _ => Nat → Int32 → Int32 → DY → Option DY) (fun _ _ _ _ => none) (fun _ ih x0 x1 x2 dy => (if x2 < 0 then bd (si dy x0 45 (0 : Int32)) fun dy1 => some dy1 else (if x2 = x1 then if ib (((720 : Int32) * ((5 : Int32) + x2)) + (6 : Int32)) 10080 then (if (gi dy (gr S x0 39) (((720 : Int32) * ((5 : Int32) + x2)) + (6 : Int32)).toNatClampNeg) = (2 : Int32) then if ib x2 9 then (F_X10_findTwo_99 S N ih) x0 x1 x2 ((720 : Int32) * ((5 : Int32) + x2)) x0 (gi dy x0 53) (gi dy (gr S x0 52) x2.toNatClampNeg) dy else none else (F_X10_findTwo_99 S N ih) x0 x1 x2 ((720 : Int32) * ((5 : Int32) + x2)) x0 (gi dy x0 53) (0 : Int32) dy) else none else if ib x2 9 then if ib x2 9 then (if (gi dy (gr S x0 50) x2.toNatClampNeg) = (gi dy (gr S x0 51) x2.toNatClampNeg) then ih x0 x1 (x2 + (-1 : Int32)) dy else (F_X10_layOver S N x0 ((5 : Int32) + x2) (((5 : Int32) + x2) + (1 : Int32)) dy).bind fun u4 => if ib x2 9 then bd (si u4 x0 46 (gi u4 (gr S x0 50) x2.toNatClampNeg)) fun dy7 => (F_X10_step S N x0 (((5 : Int32) + x2) + (1 : Int32)) dy7).bind fun u8 => if ib x2 9 then bd (si u8.2 (gr S x0 51) x2.toNatClampNeg ((1 : Int32) <<< ((gi u8.2 x0 47) &&& 31))) fun dy11 => if ib x2 9 then if ib x2 9 then bd (si dy11 (gr S x0 50) x2.toNatClampNeg ((gi dy11 (gr S x0 50) x2.toNatClampNeg) + (1 : Int32))) fun dy13 => if ib x2 9 then if ib x2 9 then if (gi dy13 (gr S x0 51) x2.toNatClampNeg) = 0 then none else if ib (x2 + (1 : Int32)) 9 then bd (si dy13 (gr S x0 52) (x2 + (1 : Int32)).toNatClampNeg (((gi dy13 (gr S x0 52) x2.toNatClampNeg) * (4 : Int32)) / (gi dy13 (gr S x0 51) x2.toNatClampNeg))) fun dy17 => if ib (x2 + (1 : Int32)) 9 then bd (si dy17 (gr S x0 50) (x2 + (1 : Int32)).toNatClampNeg (0 : Int32)) fun dy19 => if ib (x2 + (1 : Int32)) 9 then bd (si dy19 (gr S x0 51) (x2 + (1 : Int32)).toNatClampNeg (1 : Int32)) fun dy21 => ih x0 x1 (x2 + (1 : Int32)) dy21 else none else none else none else none else none else none else none else none else none) else none else none))) k
theorem F_X10_findTwo_54_s (S : ST) (N : Nat) (k : Nat) (x0 : Nat) (x1 : Int32) (x2 : Int32) (dy : DY) : F_X10_findTwo_54 S N (k + 1) x0 x1 x2 dy = (if x2 < 0 then bd (si dy x0 45 (0 : Int32)) fun dy1 => some dy1 else (if x2 = x1 then if ib (((720 : Int32) * ((5 : Int32) + x2)) + (6 : Int32)) 10080 then (if (gi dy (gr S x0 39) (((720 : Int32) * ((5 : Int32) + x2)) + (6 : Int32)).toNatClampNeg) = (2 : Int32) then if ib x2 9 then (F_X10_findTwo_99 S N (F_X10_findTwo_54 S N k)) x0 x1 x2 ((720 : Int32) * ((5 : Int32) + x2)) x0 (gi dy x0 53) (gi dy (gr S x0 52) x2.toNatClampNeg) dy else none else (F_X10_findTwo_99 S N (F_X10_findTwo_54 S N k)) x0 x1 x2 ((720 : Int32) * ((5 : Int32) + x2)) x0 (gi dy x0 53) (0 : Int32) dy) else none else if ib x2 9 then if ib x2 9 then (if (gi dy (gr S x0 50) x2.toNatClampNeg) = (gi dy (gr S x0 51) x2.toNatClampNeg) then (F_X10_findTwo_54 S N k) x0 x1 (x2 + (-1 : Int32)) dy else (F_X10_layOver S N x0 ((5 : Int32) + x2) (((5 : Int32) + x2) + (1 : Int32)) dy).bind fun u4 => if ib x2 9 then bd (si u4 x0 46 (gi u4 (gr S x0 50) x2.toNatClampNeg)) fun dy7 => (F_X10_step S N x0 (((5 : Int32) + x2) + (1 : Int32)) dy7).bind fun u8 => if ib x2 9 then bd (si u8.2 (gr S x0 51) x2.toNatClampNeg ((1 : Int32) <<< ((gi u8.2 x0 47) &&& 31))) fun dy11 => if ib x2 9 then if ib x2 9 then bd (si dy11 (gr S x0 50) x2.toNatClampNeg ((gi dy11 (gr S x0 50) x2.toNatClampNeg) + (1 : Int32))) fun dy13 => if ib x2 9 then if ib x2 9 then if (gi dy13 (gr S x0 51) x2.toNatClampNeg) = 0 then none else if ib (x2 + (1 : Int32)) 9 then bd (si dy13 (gr S x0 52) (x2 + (1 : Int32)).toNatClampNeg (((gi dy13 (gr S x0 52) x2.toNatClampNeg) * (4 : Int32)) / (gi dy13 (gr S x0 51) x2.toNatClampNeg))) fun dy17 => if ib (x2 + (1 : Int32)) 9 then bd (si dy17 (gr S x0 50) (x2 + (1 : Int32)).toNatClampNeg (0 : Int32)) fun dy19 => if ib (x2 + (1 : Int32)) 9 then bd (si dy19 (gr S x0 51) (x2 + (1 : Int32)).toNatClampNeg (1 : Int32)) fun dy21 => (F_X10_findTwo_54 S N k) x0 x1 (x2 + (1 : Int32)) dy21 else none else none else none else none else none else none else none else none else none) else none else none)) := rfl
noncomputable def F_X10_findTwo_7 (S : ST) (N : Nat) : Nat → Nat → Int32 → Int32 → DY → Option DY := fun k => Nat.rec (motive := fun _ => Nat → Int32 → Int32 → DY → Option DY) (fun _ _ _ _ => none) (fun _ ih x0 x1 x2 dy => (if (9 : Int32) ≤ x2 then bd (si dy x0 45 (1 : Int32)) fun dy1 => if ib (0 : Int32) 9 then bd (si dy1 (gr S x0 52) (0 : Int32).toNatClampNeg (1 : Int32)) fun dy3 => if ib (0 : Int32) 9 then bd (si dy3 (gr S x0 50) (0 : Int32).toNatClampNeg (0 : Int32)) fun dy5 => if ib (0 : Int32) 9 then bd (si dy5 (gr S x0 51) (0 : Int32).toNatClampNeg (1 : Int32)) fun dy7 => (F_X10_findTwo_54 S N N) x0 x1 (0 : Int32) dy7 else none else none else none else if ib x2 9 then bd (si dy (gr S x0 54) x2.toNatClampNeg (0 : Int32)) fun dy9 => ih x0 x1 (x2 + (1 : Int32)) dy9 else none)) k
theorem F_X10_findTwo_7_s (S : ST) (N : Nat) (k : Nat) (x0 : Nat) (x1 : Int32) (x2 : Int32) (dy : DY) : F_X10_findTwo_7 S N (k + 1) x0 x1 x2 dy = (if (9 : Int32) ≤ x2 then bd (si dy x0 45 (1 : Int32)) fun dy1 => if ib (0 : Int32) 9 then bd (si dy1 (gr S x0 52) (0 : Int32).toNatClampNeg (1 : Int32)) fun dy3 => if ib (0 : Int32) 9 then bd (si dy3 (gr S x0 50) (0 : Int32).toNatClampNeg (0 : Int32)) fun dy5 => if ib (0 : Int32) 9 then bd (si dy5 (gr S x0 51) (0 : Int32).toNatClampNeg (1 : Int32)) fun dy7 => (F_X10_findTwo_54 S N N) x0 x1 (0 : Int32) dy7 else none else none else none else if ib x2 9 then bd (si dy (gr S x0 54) x2.toNatClampNeg (0 : Int32)) fun dy9 => (F_X10_findTwo_7 S N k) x0 x1 (x2 + (1 : Int32)) dy9 else none) := rfl
noncomputable def F_X10_findTwo (S : ST) (N : Nat) (a0 : Nat) (a1 : Int32) (dy : DY) : Option DY := bd (si dy a0 53 (0 : Int32)) fun dy1 => (F_X10_findTwo_7 S N N) a0 a1 (0 : Int32) dy1
theorem F_X10_findTwo_s (S : ST) (N : Nat) (a0 : Nat) (a1 : Int32) (dy : DY) : F_X10_findTwo S N a0 a1 dy = (bd (si dy a0 53 (0 : Int32)) fun dy1 => (F_X10_findTwo_7 S N N) a0 a1 (0 : Int32) dy1) := rfl
noncomputable def F_X10_finds (S : ST) (N : Nat) (a0 : Nat) (a1 : Int32) (a2 : Int32) (dy : DY) : Option (Int32 × DY) := bd (si dy a0 0 (0 : Int32)) fun dy1 => (F_X10_isRunner S N a0 a1 dy1).bind fun u2 => (if u2.1 = 0 then some ((-2 : Int32), u2.2) else (F_X10_isThere S N a0 (0 : Int32) a1 u2.2).bind fun u4 => (if u4.1 = 0 then some ((-2 : Int32), u4.2) else (F_X10_in S N a2 (0 : Int32) (10 : Int32) u4.2).bind fun u6 => (if u6.1 = 0 then some ((-2 : Int32), u6.2) else (F_X10_look S N a0 (0 : Int32) a1 u6.2).bind fun u8 => (F_X10_found S N a0 (0 : Int32) a1 a2 u8).bind fun u10 => some (u10.1, u10.2))))
theorem F_X10_finds_s (S : ST) (N : Nat) (a0 : Nat) (a1 : Int32) (a2 : Int32) (dy : DY) : F_X10_finds S N a0 a1 a2 dy = (bd (si dy a0 0 (0 : Int32)) fun dy1 => (F_X10_isRunner S N a0 a1 dy1).bind fun u2 => (if u2.1 = 0 then some ((-2 : Int32), u2.2) else (F_X10_isThere S N a0 (0 : Int32) a1 u2.2).bind fun u4 => (if u4.1 = 0 then some ((-2 : Int32), u4.2) else (F_X10_in S N a2 (0 : Int32) (10 : Int32) u4.2).bind fun u6 => (if u6.1 = 0 then some ((-2 : Int32), u6.2) else (F_X10_look S N a0 (0 : Int32) a1 u6.2).bind fun u8 => (F_X10_found S N a0 (0 : Int32) a1 a2 u8).bind fun u10 => some (u10.1, u10.2))))) := rfl
noncomputable def F_X10_hasHat_6 (S : ST) (N : Nat) : Nat → Nat → Int32 → Int32 → Int32 → Int32 → DY → Option (Int32 × DY) := fun k => Nat.rec (motive := fun _ => Nat → Int32 → Int32 → Int32 → Int32 → DY → Option (Int32 × DY)) (fun _ _ _ _ _ _ => none) (fun _ ih x0 x1 x2 x3 x4 dy => if ib x1 32 then (if (((6 : Int32) * x1) + (gi dy (gr S x0 15) x1.toNatClampNeg)) ≤ x4 then some ((0 : Int32), dy) else if ib x4 192 then (if (gi dy (gr S x0 16) x4.toNatClampNeg) = x2 then if ib x4 192 then (if (gi dy (gr S x0 17) x4.toNatClampNeg) = x3 then some ((1 : Int32), dy) else ih x0 x1 x2 x3 (x4 + (1 : Int32)) dy) else none else ih x0 x1 x2 x3 (x4 + (1 : Int32)) dy) else none) else none) k
theorem F_X10_hasHat_6_s (S : ST) (N : Nat) (k : Nat) (x0 : Nat) (x1 : Int32) (x2 : Int32) (x3 : Int32) (x4 : Int32) (dy : DY) : F_X10_hasHat_6 S N (k + 1) x0 x1 x2 x3 x4 dy = (if ib x1 32 then (if (((6 : Int32) * x1) + (gi dy (gr S x0 15) x1.toNatClampNeg)) ≤ x4 then some ((0 : Int32), dy) else if ib x4 192 then (if (gi dy (gr S x0 16) x4.toNatClampNeg) = x2 then if ib x4 192 then (if (gi dy (gr S x0 17) x4.toNatClampNeg) = x3 then some ((1 : Int32), dy) else (F_X10_hasHat_6 S N k) x0 x1 x2 x3 (x4 + (1 : Int32)) dy) else none else (F_X10_hasHat_6 S N k) x0 x1 x2 x3 (x4 + (1 : Int32)) dy) else none) else none) := rfl
noncomputable def F_X10_hasHat (S : ST) (N : Nat) (a0 : Nat) (a1 : Int32) (a2 : Int32) (a3 : Int32) (dy : DY) : Option (Int32 × DY) := (F_X10_hasHat_6 S N N) a0 a1 a2 a3 ((6 : Int32) * a1) dy
theorem F_X10_hasHat_s (S : ST) (N : Nat) (a0 : Nat) (a1 : Int32) (a2 : Int32) (a3 : Int32) (dy : DY) : F_X10_hasHat S N a0 a1 a2 a3 dy = ((F_X10_hasHat_6 S N N) a0 a1 a2 a3 ((6 : Int32) * a1) dy) := rfl
noncomputable def F_X10_isTrodden_2 (S : ST) (N : Nat) : Nat → Nat → Int32 → Int32 → Int32 → DY → Option (Int32 × DY) := fun k => Nat.rec (motive := fun _ => Nat → Int32 → Int32 → Int32 → DY → Option (Int32 × DY)) (fun _ _ _ _ _ => none) (fun _ ih x0 x1 x2 x3 dy => if ib (2882 : Int32) 10080 then (if (gi dy (gr S x0 39) (2882 : Int32).toNatClampNeg) ≤ x3 then some ((0 : Int32), dy) else (F_X10_at S N (4 : Int32) x3 dy).bind fun u3 => if ib u3.1 10080 then (if (gi u3.2 (gr S x0 39) u3.1.toNatClampNeg) = x1 then (F_X10_at S N (4 : Int32) x3 u3.2).bind fun u6 => if ib (u6.1 + (4 : Int32)) 10080 then (if (gi u6.2 (gr S x0 39) (u6.1 + (4 : Int32)).toNatClampNeg) = x2 then some ((1 : Int32), u6.2) else ih x0 x1 x2 (x3 + (1 : Int32)) u6.2) else none else ih x0 x1 x2 (x3 + (1 : Int32)) u3.2) else none) else none) k
theorem F_X10_isTrodden_2_s (S : ST) (N : Nat) (k : Nat) (x0 : Nat) (x1 : Int32) (x2 : Int32) (x3 : Int32) (dy : DY) : F_X10_isTrodden_2 S N (k + 1) x0 x1 x2 x3 dy = (if ib (2882 : Int32) 10080 then (if (gi dy (gr S x0 39) (2882 : Int32).toNatClampNeg) ≤ x3 then some ((0 : Int32), dy) else (F_X10_at S N (4 : Int32) x3 dy).bind fun u3 => if ib u3.1 10080 then (if (gi u3.2 (gr S x0 39) u3.1.toNatClampNeg) = x1 then (F_X10_at S N (4 : Int32) x3 u3.2).bind fun u6 => if ib (u6.1 + (4 : Int32)) 10080 then (if (gi u6.2 (gr S x0 39) (u6.1 + (4 : Int32)).toNatClampNeg) = x2 then some ((1 : Int32), u6.2) else (F_X10_isTrodden_2 S N k) x0 x1 x2 (x3 + (1 : Int32)) u6.2) else none else (F_X10_isTrodden_2 S N k) x0 x1 x2 (x3 + (1 : Int32)) u3.2) else none) else none) := rfl
noncomputable def F_X10_isTrodden (S : ST) (N : Nat) (a0 : Nat) (a1 : Int32) (a2 : Int32) (dy : DY) : Option (Int32 × DY) := (F_X10_isTrodden_2 S N N) a0 a1 a2 (0 : Int32) dy
theorem F_X10_isTrodden_s (S : ST) (N : Nat) (a0 : Nat) (a1 : Int32) (a2 : Int32) (dy : DY) : F_X10_isTrodden S N a0 a1 a2 dy = ((F_X10_isTrodden_2 S N N) a0 a1 a2 (0 : Int32) dy) := rfl
noncomputable def F_X10_fitsNow_49 (S : ST) (N : Nat) : Nat → Nat → Int32 → Int32 → DY → Option (Int32 × DY) := fun k => Nat.rec (motive := fun _ => Nat → Int32 → Int32 → DY → Option (Int32 × DY)) (fun _ _ _ _ => none) (fun _ ih x0 x1 x2 dy => if ib (2882 : Int32) 10080 then (if (gi dy (gr S x0 39) (2882 : Int32).toNatClampNeg) ≤ x2 then if ib x1 32 then (if (gi dy (gr S x0 15) x1.toNatClampNeg) ≤ 0 then some ((0 : Int32), dy) else some ((1 : Int32), dy)) else none else (F_X10_isThere S N x0 (4 : Int32) x2 dy).bind fun u3 => (if u3.1 = 0 then ih x0 x1 (x2 + (1 : Int32)) u3.2 else (F_X10_at S N (4 : Int32) x2 u3.2).bind fun u6 => if ib u6.1 10080 then (F_X10_at S N (4 : Int32) x2 u6.2).bind fun u9 => if ib (u9.1 + (4 : Int32)) 10080 then (F_X10_hasHat S N x0 x1 (gi u6.2 (gr S x0 39) u6.1.toNatClampNeg) (gi u9.2 (gr S x0 39) (u9.1 + (4 : Int32)).toNatClampNeg) u9.2).bind fun u11 => (if u11.1 = 0 then some ((0 : Int32), u11.2) else ih x0 x1 (x2 + (1 : Int32)) u11.2) else none else none)) else none) k
theorem F_X10_fitsNow_49_s (S : ST) (N : Nat) (k : Nat) (x0 : Nat) (x1 : Int32) (x2 : Int32) (dy : DY) : F_X10_fitsNow_49 S N (k + 1) x0 x1 x2 dy = (if ib (2882 : Int32) 10080 then (if (gi dy (gr S x0 39) (2882 : Int32).toNatClampNeg) ≤ x2 then if ib x1 32 then (if (gi dy (gr S x0 15) x1.toNatClampNeg) ≤ 0 then some ((0 : Int32), dy) else some ((1 : Int32), dy)) else none else (F_X10_isThere S N x0 (4 : Int32) x2 dy).bind fun u3 => (if u3.1 = 0 then (F_X10_fitsNow_49 S N k) x0 x1 (x2 + (1 : Int32)) u3.2 else (F_X10_at S N (4 : Int32) x2 u3.2).bind fun u6 => if ib u6.1 10080 then (F_X10_at S N (4 : Int32) x2 u6.2).bind fun u9 => if ib (u9.1 + (4 : Int32)) 10080 then (F_X10_hasHat S N x0 x1 (gi u6.2 (gr S x0 39) u6.1.toNatClampNeg) (gi u9.2 (gr S x0 39) (u9.1 + (4 : Int32)).toNatClampNeg) u9.2).bind fun u11 => (if u11.1 = 0 then some ((0 : Int32), u11.2) else (F_X10_fitsNow_49 S N k) x0 x1 (x2 + (1 : Int32)) u11.2) else none else none)) else none) := rfl
noncomputable def F_X10_fitsNow_5 (S : ST) (N : Nat) : Nat → Nat → Int32 → Int32 → DY → Option (Int32 × DY) := fun k => Nat.rec (motive := fun _ => Nat → Int32 → Int32 → DY → Option (Int32 × DY)) (fun _ _ _ _ => none) (fun _ ih x0 x1 x2 dy => if ib x1 32 then (if (((6 : Int32) * x1) + (gi dy (gr S x0 15) x1.toNatClampNeg)) ≤ x2 then (F_X10_fitsNow_49 S N N) x0 x1 (0 : Int32) dy else if ib x2 192 then if ib x2 192 then (F_X10_isTrodden S N x0 (gi dy (gr S x0 16) x2.toNatClampNeg) (gi dy (gr S x0 17) x2.toNatClampNeg) dy).bind fun u4 => (if u4.1 = 0 then some ((0 : Int32), u4.2) else ih x0 x1 (x2 + (1 : Int32)) u4.2) else none else none) else none) k
theorem F_X10_fitsNow_5_s (S : ST) (N : Nat) (k : Nat) (x0 : Nat) (x1 : Int32) (x2 : Int32) (dy : DY) : F_X10_fitsNow_5 S N (k + 1) x0 x1 x2 dy = (if ib x1 32 then (if (((6 : Int32) * x1) + (gi dy (gr S x0 15) x1.toNatClampNeg)) ≤ x2 then (F_X10_fitsNow_49 S N N) x0 x1 (0 : Int32) dy else if ib x2 192 then if ib x2 192 then (F_X10_isTrodden S N x0 (gi dy (gr S x0 16) x2.toNatClampNeg) (gi dy (gr S x0 17) x2.toNatClampNeg) dy).bind fun u4 => (if u4.1 = 0 then some ((0 : Int32), u4.2) else (F_X10_fitsNow_5 S N k) x0 x1 (x2 + (1 : Int32)) u4.2) else none else none) else none) := rfl
noncomputable def F_X10_fitsNow (S : ST) (N : Nat) (a0 : Nat) (a1 : Int32) (dy : DY) : Option (Int32 × DY) := (F_X10_fitsNow_5 S N N) a0 a1 ((6 : Int32) * a1) dy
theorem F_X10_fitsNow_s (S : ST) (N : Nat) (a0 : Nat) (a1 : Int32) (dy : DY) : F_X10_fitsNow S N a0 a1 dy = ((F_X10_fitsNow_5 S N N) a0 a1 ((6 : Int32) * a1) dy) := rfl
noncomputable def F_X10_fits_63 (S : ST) (N : Nat) (K40 : Nat → Int32 → Int32 → DY → Option (Int32 × DY)) (x0 : Nat) (x5 : Int32) (y0 : Int32) (y1 : Int32) (dy : DY) : Option (Int32 × DY) := (F_X10_tryOn S N x0 (1 : Int32) dy).bind fun u1 => K40 x0 (y0 + y1) (x5 + (1 : Int32)) u1
theorem F_X10_fits_63_s (S : ST) (N : Nat) (K40 : Nat → Int32 → Int32 → DY → Option (Int32 × DY)) (x0 : Nat) (x5 : Int32) (y0 : Int32) (y1 : Int32) (dy : DY) : F_X10_fits_63 S N K40 x0 x5 y0 y1 dy = ((F_X10_tryOn S N x0 (1 : Int32) dy).bind fun u1 => K40 x0 (y0 + y1) (x5 + (1 : Int32)) u1) := rfl
noncomputable def F_X10_fits_40 (S : ST) (N : Nat) : Nat → Nat → Int32 → Int32 → DY → Option (Int32 × DY) := fun k => Nat.rec (motive := fun _ => Nat → Int32 → Int32 → DY → Option (Int32 × DY)) (fun _ _ _ _ => none) (fun _ ih x0 x4 x5 dy => (if (8 : Int32) ≤ x5 then some (x4, dy) else (F_X10_fitsNow S N x0 x5 dy).bind fun u1 => (if u1.1 = 0 then (F_X10_fits_63 S N ih) x0 x5 x4 (0 : Int32) u1.2 else (F_X10_fits_63 S N ih) x0 x5 x4 (1 : Int32) u1.2))) k
theorem F_X10_fits_40_s (S : ST) (N : Nat) (k : Nat) (x0 : Nat) (x4 : Int32) (x5 : Int32) (dy : DY) : F_X10_fits_40 S N (k + 1) x0 x4 x5 dy = (if (8 : Int32) ≤ x5 then some (x4, dy) else (F_X10_fitsNow S N x0 x5 dy).bind fun u1 => (if u1.1 = 0 then (F_X10_fits_63 S N (F_X10_fits_40 S N k)) x0 x5 x4 (0 : Int32) u1.2 else (F_X10_fits_63 S N (F_X10_fits_40 S N k)) x0 x5 x4 (1 : Int32) u1.2)) := rfl
noncomputable def F_X10_fits (S : ST) (N : Nat) (a0 : Nat) (a1 : Int32) (a2 : Int32) (a3 : Int32) (dy : DY) : Option (Int32 × DY) := bd (si dy a0 0 (0 : Int32)) fun dy1 => (F_X10_isPassage S N a0 a1 dy1).bind fun u2 => (if u2.1 = 0 then some ((-1 : Int32), u2.2) else (F_X10_isLaw S N a0 a2 u2.2).bind fun u4 => (if u4.1 = 0 then some ((-1 : Int32), u4.2) else (F_X10_lay S N a0 (4 : Int32) a1 a2 a3 (12 : Int32) (-1 : Int32) u4.2).bind fun u6 => (F_X10_fits_40 S N N) a0 (0 : Int32) (0 : Int32) u6))
theorem F_X10_fits_s (S : ST) (N : Nat) (a0 : Nat) (a1 : Int32) (a2 : Int32) (a3 : Int32) (dy : DY) : F_X10_fits S N a0 a1 a2 a3 dy = (bd (si dy a0 0 (0 : Int32)) fun dy1 => (F_X10_isPassage S N a0 a1 dy1).bind fun u2 => (if u2.1 = 0 then some ((-1 : Int32), u2.2) else (F_X10_isLaw S N a0 a2 u2.2).bind fun u4 => (if u4.1 = 0 then some ((-1 : Int32), u4.2) else (F_X10_lay S N a0 (4 : Int32) a1 a2 a3 (12 : Int32) (-1 : Int32) u4.2).bind fun u6 => (F_X10_fits_40 S N N) a0 (0 : Int32) (0 : Int32) u6))) := rfl
theorem dX10_isStoodOn_0 : decode cX10_isStoodOn 0 = .ok (.iconst 0, 1) := by decide +kernel
theorem dX10_isStoodOn_1 : decode cX10_isStoodOn 1 = .ok (.istore 4, 2) := by decide +kernel
theorem dX10_isStoodOn_3 : decode cX10_isStoodOn 3 = .ok (.iload 4, 2) := by decide +kernel
theorem dX10_isStoodOn_5 : decode cX10_isStoodOn 5 = .ok (.aload_n 0, 1) := by decide +kernel
theorem dX10_isStoodOn_6 : decode cX10_isStoodOn 6 = .ok (.getfield 71, 3) := by decide +kernel
theorem dX10_isStoodOn_9 : decode cX10_isStoodOn 9 = .ok (.sipush 720, 3) := by decide +kernel
theorem dX10_isStoodOn_12 : decode cX10_isStoodOn 12 = .ok (.iload_n 1, 1) := by decide +kernel
theorem dX10_isStoodOn_13 : decode cX10_isStoodOn 13 = .ok (.imul, 1) := by decide +kernel
theorem dX10_isStoodOn_14 : decode cX10_isStoodOn 14 = .ok (.iconst 2, 1) := by decide +kernel
theorem dX10_isStoodOn_15 : decode cX10_isStoodOn 15 = .ok (.iadd, 1) := by decide +kernel
theorem dX10_isStoodOn_16 : decode cX10_isStoodOn 16 = .ok (.iaload, 1) := by decide +kernel
theorem dX10_isStoodOn_17 : decode cX10_isStoodOn 17 = .ok (.if_icmp .ge 38, 3) := by decide +kernel
theorem dX10_isStoodOn_20 : decode cX10_isStoodOn 20 = .ok (.aload_n 0, 1) := by decide +kernel
theorem dX10_isStoodOn_21 : decode cX10_isStoodOn 21 = .ok (.getfield 86, 3) := by decide +kernel
theorem dX10_isStoodOn_24 : decode cX10_isStoodOn 24 = .ok (.iload 4, 2) := by decide +kernel
theorem dX10_isStoodOn_26 : decode cX10_isStoodOn 26 = .ok (.iaload, 1) := by decide +kernel
theorem dX10_isStoodOn_27 : decode cX10_isStoodOn 27 = .ok (.iload_n 2, 1) := by decide +kernel
theorem dX10_isStoodOn_28 : decode cX10_isStoodOn 28 = .ok (.if_icmp .ne 21, 3) := by decide +kernel
theorem dX10_isStoodOn_31 : decode cX10_isStoodOn 31 = .ok (.aload_n 0, 1) := by decide +kernel
theorem dX10_isStoodOn_32 : decode cX10_isStoodOn 32 = .ok (.getfield 89, 3) := by decide +kernel
theorem dX10_isStoodOn_35 : decode cX10_isStoodOn 35 = .ok (.iload 4, 2) := by decide +kernel
theorem dX10_isStoodOn_37 : decode cX10_isStoodOn 37 = .ok (.iaload, 1) := by decide +kernel
theorem dX10_isStoodOn_38 : decode cX10_isStoodOn 38 = .ok (.iload_n 3, 1) := by decide +kernel
theorem dX10_isStoodOn_39 : decode cX10_isStoodOn 39 = .ok (.if_icmp .ne 10, 3) := by decide +kernel
theorem dX10_isStoodOn_42 : decode cX10_isStoodOn 42 = .ok (.iload_n 2, 1) := by decide +kernel
theorem dX10_isStoodOn_43 : decode cX10_isStoodOn 43 = .ok (.iconst (-1), 1) := by decide +kernel
theorem dX10_isStoodOn_44 : decode cX10_isStoodOn 44 = .ok (.if_icmp .eq 5, 3) := by decide +kernel
theorem dX10_isStoodOn_47 : decode cX10_isStoodOn 47 = .ok (.iconst 1, 1) := by decide +kernel
theorem dX10_isStoodOn_48 : decode cX10_isStoodOn 48 = .ok (.ireturn, 1) := by decide +kernel
theorem dX10_isStoodOn_49 : decode cX10_isStoodOn 49 = .ok (.iinc 4 1, 3) := by decide +kernel
theorem dX10_isStoodOn_52 : decode cX10_isStoodOn 52 = .ok (.goto (-49), 3) := by decide +kernel
theorem dX10_isStoodOn_55 : decode cX10_isStoodOn 55 = .ok (.iconst 0, 1) := by decide +kernel
theorem dX10_isStoodOn_56 : decode cX10_isStoodOn 56 = .ok (.ireturn, 1) := by decide +kernel
theorem dX10_passDoor_0 : decode cX10_passDoor 0 = .ok (.sipush 720, 3) := by decide +kernel
theorem dX10_passDoor_3 : decode cX10_passDoor 3 = .ok (.iload_n 1, 1) := by decide +kernel
theorem dX10_passDoor_4 : decode cX10_passDoor 4 = .ok (.imul, 1) := by decide +kernel
theorem dX10_passDoor_5 : decode cX10_passDoor 5 = .ok (.sipush 640, 3) := by decide +kernel
theorem dX10_passDoor_8 : decode cX10_passDoor 8 = .ok (.iadd, 1) := by decide +kernel
theorem dX10_passDoor_9 : decode cX10_passDoor 9 = .ok (.iconst 5, 1) := by decide +kernel
theorem dX10_passDoor_10 : decode cX10_passDoor 10 = .ok (.iload_n 2, 1) := by decide +kernel
theorem dX10_passDoor_11 : decode cX10_passDoor 11 = .ok (.imul, 1) := by decide +kernel
theorem dX10_passDoor_12 : decode cX10_passDoor 12 = .ok (.iadd, 1) := by decide +kernel
theorem dX10_passDoor_13 : decode cX10_passDoor 13 = .ok (.istore 4, 2) := by decide +kernel
theorem dX10_passDoor_15 : decode cX10_passDoor 15 = .ok (.aload_n 0, 1) := by decide +kernel
theorem dX10_passDoor_16 : decode cX10_passDoor 16 = .ok (.getfield 71, 3) := by decide +kernel
theorem dX10_passDoor_19 : decode cX10_passDoor 19 = .ok (.iload 4, 2) := by decide +kernel
theorem dX10_passDoor_21 : decode cX10_passDoor 21 = .ok (.iaload, 1) := by decide +kernel
theorem dX10_passDoor_22 : decode cX10_passDoor 22 = .ok (.iload_n 3, 1) := by decide +kernel
theorem dX10_passDoor_23 : decode cX10_passDoor 23 = .ok (.if_icmp .ne 7, 3) := by decide +kernel
theorem dX10_passDoor_26 : decode cX10_passDoor 26 = .ok (.iconst 1, 1) := by decide +kernel
theorem dX10_passDoor_27 : decode cX10_passDoor 27 = .ok (.goto 4, 3) := by decide +kernel
theorem dX10_passDoor_30 : decode cX10_passDoor 30 = .ok (.iconst 0, 1) := by decide +kernel
theorem dX10_passDoor_31 : decode cX10_passDoor 31 = .ok (.istore 5, 2) := by decide +kernel
theorem dX10_passDoor_33 : decode cX10_passDoor 33 = .ok (.aload_n 0, 1) := by decide +kernel
theorem dX10_passDoor_34 : decode cX10_passDoor 34 = .ok (.getfield 71, 3) := by decide +kernel
theorem dX10_passDoor_37 : decode cX10_passDoor 37 = .ok (.iload 4, 2) := by decide +kernel
theorem dX10_passDoor_39 : decode cX10_passDoor 39 = .ok (.iconst 3, 1) := by decide +kernel
theorem dX10_passDoor_40 : decode cX10_passDoor 40 = .ok (.iadd, 1) := by decide +kernel
theorem dX10_passDoor_41 : decode cX10_passDoor 41 = .ok (.dup2, 1) := by decide +kernel
theorem dX10_passDoor_42 : decode cX10_passDoor 42 = .ok (.iaload, 1) := by decide +kernel
theorem dX10_passDoor_43 : decode cX10_passDoor 43 = .ok (.iload 5, 2) := by decide +kernel
theorem dX10_passDoor_45 : decode cX10_passDoor 45 = .ok (.ifCond .eq 7, 3) := by decide +kernel
theorem dX10_passDoor_48 : decode cX10_passDoor 48 = .ok (.iconst 0, 1) := by decide +kernel
theorem dX10_passDoor_49 : decode cX10_passDoor 49 = .ok (.goto 4, 3) := by decide +kernel
theorem dX10_passDoor_52 : decode cX10_passDoor 52 = .ok (.iconst 1, 1) := by decide +kernel
theorem dX10_passDoor_53 : decode cX10_passDoor 53 = .ok (.iadd, 1) := by decide +kernel
theorem dX10_passDoor_54 : decode cX10_passDoor 54 = .ok (.iastore, 1) := by decide +kernel
theorem dX10_passDoor_55 : decode cX10_passDoor 55 = .ok (.aload_n 0, 1) := by decide +kernel
theorem dX10_passDoor_56 : decode cX10_passDoor 56 = .ok (.getfield 71, 3) := by decide +kernel
theorem dX10_passDoor_59 : decode cX10_passDoor 59 = .ok (.iload 4, 2) := by decide +kernel
theorem dX10_passDoor_61 : decode cX10_passDoor 61 = .ok (.iconst 1, 1) := by decide +kernel
theorem dX10_passDoor_62 : decode cX10_passDoor 62 = .ok (.iadd, 1) := by decide +kernel
theorem dX10_passDoor_63 : decode cX10_passDoor 63 = .ok (.iload 5, 2) := by decide +kernel
theorem dX10_passDoor_65 : decode cX10_passDoor 65 = .ok (.ifCond .eq 17, 3) := by decide +kernel
theorem dX10_passDoor_68 : decode cX10_passDoor 68 = .ok (.aload_n 0, 1) := by decide +kernel
theorem dX10_passDoor_69 : decode cX10_passDoor 69 = .ok (.getfield 71, 3) := by decide +kernel
theorem dX10_passDoor_72 : decode cX10_passDoor 72 = .ok (.iload 4, 2) := by decide +kernel
theorem dX10_passDoor_74 : decode cX10_passDoor 74 = .ok (.iconst 1, 1) := by decide +kernel
theorem dX10_passDoor_75 : decode cX10_passDoor 75 = .ok (.iadd, 1) := by decide +kernel
theorem dX10_passDoor_76 : decode cX10_passDoor 76 = .ok (.iaload, 1) := by decide +kernel
theorem dX10_passDoor_77 : decode cX10_passDoor 77 = .ok (.iconst 1, 1) := by decide +kernel
theorem dX10_passDoor_78 : decode cX10_passDoor 78 = .ok (.iadd, 1) := by decide +kernel
theorem dX10_passDoor_79 : decode cX10_passDoor 79 = .ok (.goto 4, 3) := by decide +kernel
theorem dX10_passDoor_82 : decode cX10_passDoor 82 = .ok (.iconst 1, 1) := by decide +kernel
theorem dX10_passDoor_83 : decode cX10_passDoor 83 = .ok (.iastore, 1) := by decide +kernel
theorem dX10_passDoor_84 : decode cX10_passDoor 84 = .ok (.aload_n 0, 1) := by decide +kernel
theorem dX10_passDoor_85 : decode cX10_passDoor 85 = .ok (.getfield 71, 3) := by decide +kernel
theorem dX10_passDoor_88 : decode cX10_passDoor 88 = .ok (.iload 4, 2) := by decide +kernel
theorem dX10_passDoor_90 : decode cX10_passDoor 90 = .ok (.iconst 2, 1) := by decide +kernel
theorem dX10_passDoor_91 : decode cX10_passDoor 91 = .ok (.iadd, 1) := by decide +kernel
theorem dX10_passDoor_92 : decode cX10_passDoor 92 = .ok (.aload_n 0, 1) := by decide +kernel
theorem dX10_passDoor_93 : decode cX10_passDoor 93 = .ok (.getfield 71, 3) := by decide +kernel
theorem dX10_passDoor_96 : decode cX10_passDoor 96 = .ok (.iload 4, 2) := by decide +kernel
theorem dX10_passDoor_98 : decode cX10_passDoor 98 = .ok (.iconst 1, 1) := by decide +kernel
theorem dX10_passDoor_99 : decode cX10_passDoor 99 = .ok (.iadd, 1) := by decide +kernel
theorem dX10_passDoor_100 : decode cX10_passDoor 100 = .ok (.iaload, 1) := by decide +kernel
theorem dX10_passDoor_101 : decode cX10_passDoor 101 = .ok (.aload_n 0, 1) := by decide +kernel
theorem dX10_passDoor_102 : decode cX10_passDoor 102 = .ok (.getfield 71, 3) := by decide +kernel
theorem dX10_passDoor_105 : decode cX10_passDoor 105 = .ok (.iload 4, 2) := by decide +kernel
theorem dX10_passDoor_107 : decode cX10_passDoor 107 = .ok (.iconst 2, 1) := by decide +kernel
theorem dX10_passDoor_108 : decode cX10_passDoor 108 = .ok (.iadd, 1) := by decide +kernel
theorem dX10_passDoor_109 : decode cX10_passDoor 109 = .ok (.iaload, 1) := by decide +kernel
theorem dX10_passDoor_110 : decode cX10_passDoor 110 = .ok (.if_icmp .le 15, 3) := by decide +kernel
theorem dX10_passDoor_113 : decode cX10_passDoor 113 = .ok (.aload_n 0, 1) := by decide +kernel
theorem dX10_passDoor_114 : decode cX10_passDoor 114 = .ok (.getfield 71, 3) := by decide +kernel
theorem dX10_passDoor_117 : decode cX10_passDoor 117 = .ok (.iload 4, 2) := by decide +kernel
theorem dX10_passDoor_119 : decode cX10_passDoor 119 = .ok (.iconst 1, 1) := by decide +kernel
theorem dX10_passDoor_120 : decode cX10_passDoor 120 = .ok (.iadd, 1) := by decide +kernel
theorem dX10_passDoor_121 : decode cX10_passDoor 121 = .ok (.iaload, 1) := by decide +kernel
theorem dX10_passDoor_122 : decode cX10_passDoor 122 = .ok (.goto 12, 3) := by decide +kernel
theorem dX10_passDoor_125 : decode cX10_passDoor 125 = .ok (.aload_n 0, 1) := by decide +kernel
theorem dX10_passDoor_126 : decode cX10_passDoor 126 = .ok (.getfield 71, 3) := by decide +kernel
theorem dX10_passDoor_129 : decode cX10_passDoor 129 = .ok (.iload 4, 2) := by decide +kernel
theorem dX10_passDoor_131 : decode cX10_passDoor 131 = .ok (.iconst 2, 1) := by decide +kernel
theorem dX10_passDoor_132 : decode cX10_passDoor 132 = .ok (.iadd, 1) := by decide +kernel
theorem dX10_passDoor_133 : decode cX10_passDoor 133 = .ok (.iaload, 1) := by decide +kernel
theorem dX10_passDoor_134 : decode cX10_passDoor 134 = .ok (.iastore, 1) := by decide +kernel
theorem dX10_passDoor_135 : decode cX10_passDoor 135 = .ok (.aload_n 0, 1) := by decide +kernel
theorem dX10_passDoor_136 : decode cX10_passDoor 136 = .ok (.getfield 71, 3) := by decide +kernel
theorem dX10_passDoor_139 : decode cX10_passDoor 139 = .ok (.iload 4, 2) := by decide +kernel
theorem dX10_passDoor_141 : decode cX10_passDoor 141 = .ok (.iload_n 3, 1) := by decide +kernel
theorem dX10_passDoor_142 : decode cX10_passDoor 142 = .ok (.iastore, 1) := by decide +kernel
theorem dX10_passDoor_143 : decode cX10_passDoor 143 = .ok (.aload_n 0, 1) := by decide +kernel
theorem dX10_passDoor_144 : decode cX10_passDoor 144 = .ok (.getfield 71, 3) := by decide +kernel
theorem dX10_passDoor_147 : decode cX10_passDoor 147 = .ok (.iload 4, 2) := by decide +kernel
theorem dX10_passDoor_149 : decode cX10_passDoor 149 = .ok (.iconst 4, 1) := by decide +kernel
theorem dX10_passDoor_150 : decode cX10_passDoor 150 = .ok (.iadd, 1) := by decide +kernel
theorem dX10_passDoor_151 : decode cX10_passDoor 151 = .ok (.dup2, 1) := by decide +kernel
theorem dX10_passDoor_152 : decode cX10_passDoor 152 = .ok (.iaload, 1) := by decide +kernel
theorem dX10_passDoor_153 : decode cX10_passDoor 153 = .ok (.iconst 1, 1) := by decide +kernel
theorem dX10_passDoor_154 : decode cX10_passDoor 154 = .ok (.iadd, 1) := by decide +kernel
theorem dX10_passDoor_155 : decode cX10_passDoor 155 = .ok (.iastore, 1) := by decide +kernel
theorem dX10_passDoor_156 : decode cX10_passDoor 156 = .ok (.return_, 1) := by decide +kernel
theorem dX10_goes_0 : decode cX10_goes 0 = .ok (.iload_n 1, 1) := by decide +kernel
theorem dX10_goes_1 : decode cX10_goes 1 = .ok (.iload_n 2, 1) := by decide +kernel
theorem dX10_goes_2 : decode cX10_goes 2 = .ok (.invokestatic 332, 3) := by decide +kernel
theorem dX10_goes_5 : decode cX10_goes 5 = .ok (.istore_n 3, 1) := by decide +kernel
theorem dX10_goes_6 : decode cX10_goes 6 = .ok (.aload_n 0, 1) := by decide +kernel
theorem dX10_goes_7 : decode cX10_goes 7 = .ok (.iload_n 1, 1) := by decide +kernel
theorem dX10_goes_8 : decode cX10_goes 8 = .ok (.iload_n 2, 1) := by decide +kernel
theorem dX10_goes_9 : decode cX10_goes 9 = .ok (.invokevirtual 349, 3) := by decide +kernel
theorem dX10_goes_12 : decode cX10_goes 12 = .ok (.istore 4, 2) := by decide +kernel
theorem dX10_goes_14 : decode cX10_goes 14 = .ok (.aload_n 0, 1) := by decide +kernel
theorem dX10_goes_15 : decode cX10_goes 15 = .ok (.getfield 80, 3) := by decide +kernel
theorem dX10_goes_18 : decode cX10_goes 18 = .ok (.iload_n 2, 1) := by decide +kernel
theorem dX10_goes_19 : decode cX10_goes 19 = .ok (.iaload, 1) := by decide +kernel
theorem dX10_goes_20 : decode cX10_goes 20 = .ok (.iconst 5, 1) := by decide +kernel
theorem dX10_goes_21 : decode cX10_goes 21 = .ok (.if_icmp .ne 4, 3) := by decide +kernel
theorem dX10_goes_24 : decode cX10_goes 24 = .ok (.return_, 1) := by decide +kernel
theorem dX10_goes_25 : decode cX10_goes 25 = .ok (.aload_n 0, 1) := by decide +kernel
theorem dX10_goes_26 : decode cX10_goes 26 = .ok (.getfield 86, 3) := by decide +kernel
theorem dX10_goes_29 : decode cX10_goes 29 = .ok (.iload_n 2, 1) := by decide +kernel
theorem dX10_goes_30 : decode cX10_goes 30 = .ok (.iaload, 1) := by decide +kernel
theorem dX10_goes_31 : decode cX10_goes 31 = .ok (.aload_n 0, 1) := by decide +kernel
theorem dX10_goes_32 : decode cX10_goes 32 = .ok (.getfield 80, 3) := by decide +kernel
theorem dX10_goes_35 : decode cX10_goes 35 = .ok (.iload_n 2, 1) := by decide +kernel
theorem dX10_goes_36 : decode cX10_goes 36 = .ok (.iaload, 1) := by decide +kernel
theorem dX10_goes_37 : decode cX10_goes 37 = .ok (.ifCond .ne 8, 3) := by decide +kernel
theorem dX10_goes_40 : decode cX10_goes 40 = .ok (.iload 4, 2) := by decide +kernel
theorem dX10_goes_42 : decode cX10_goes 42 = .ok (.goto 4, 3) := by decide +kernel
theorem dX10_goes_45 : decode cX10_goes 45 = .ok (.iconst 0, 1) := by decide +kernel
theorem dX10_goes_46 : decode cX10_goes 46 = .ok (.iadd, 1) := by decide +kernel
theorem dX10_goes_47 : decode cX10_goes 47 = .ok (.istore 5, 2) := by decide +kernel
theorem dX10_goes_49 : decode cX10_goes 49 = .ok (.aload_n 0, 1) := by decide +kernel
theorem dX10_goes_50 : decode cX10_goes 50 = .ok (.getfield 89, 3) := by decide +kernel
theorem dX10_goes_53 : decode cX10_goes 53 = .ok (.iload_n 2, 1) := by decide +kernel
theorem dX10_goes_54 : decode cX10_goes 54 = .ok (.iaload, 1) := by decide +kernel
theorem dX10_goes_55 : decode cX10_goes 55 = .ok (.aload_n 0, 1) := by decide +kernel
theorem dX10_goes_56 : decode cX10_goes 56 = .ok (.getfield 80, 3) := by decide +kernel
theorem dX10_goes_59 : decode cX10_goes 59 = .ok (.iload_n 2, 1) := by decide +kernel
theorem dX10_goes_60 : decode cX10_goes 60 = .ok (.iaload, 1) := by decide +kernel
theorem dX10_goes_61 : decode cX10_goes 61 = .ok (.ifCond .ne 7, 3) := by decide +kernel
theorem dX10_goes_64 : decode cX10_goes 64 = .ok (.iconst 0, 1) := by decide +kernel
theorem dX10_goes_65 : decode cX10_goes 65 = .ok (.goto 21, 3) := by decide +kernel
theorem dX10_goes_68 : decode cX10_goes 68 = .ok (.aload_n 0, 1) := by decide +kernel
theorem dX10_goes_69 : decode cX10_goes 69 = .ok (.getfield 80, 3) := by decide +kernel
theorem dX10_goes_72 : decode cX10_goes 72 = .ok (.iload_n 2, 1) := by decide +kernel
theorem dX10_goes_73 : decode cX10_goes 73 = .ok (.iaload, 1) := by decide +kernel
theorem dX10_goes_74 : decode cX10_goes 74 = .ok (.iconst 1, 1) := by decide +kernel
theorem dX10_goes_75 : decode cX10_goes 75 = .ok (.if_icmp .ne 8, 3) := by decide +kernel
theorem dX10_goes_78 : decode cX10_goes 78 = .ok (.iload 4, 2) := by decide +kernel
theorem dX10_goes_80 : decode cX10_goes 80 = .ok (.goto 6, 3) := by decide +kernel
theorem dX10_goes_83 : decode cX10_goes 83 = .ok (.iload 4, 2) := by decide +kernel
theorem dX10_goes_85 : decode cX10_goes 85 = .ok (.ineg, 1) := by decide +kernel
theorem dX10_goes_86 : decode cX10_goes 86 = .ok (.iadd, 1) := by decide +kernel
theorem dX10_goes_87 : decode cX10_goes 87 = .ok (.istore 6, 2) := by decide +kernel
theorem dX10_goes_89 : decode cX10_goes 89 = .ok (.aload_n 0, 1) := by decide +kernel
theorem dX10_goes_90 : decode cX10_goes 90 = .ok (.iload_n 1, 1) := by decide +kernel
theorem dX10_goes_91 : decode cX10_goes 91 = .ok (.iload 5, 2) := by decide +kernel
theorem dX10_goes_93 : decode cX10_goes 93 = .ok (.iload 6, 2) := by decide +kernel
theorem dX10_goes_95 : decode cX10_goes 95 = .ok (.invokevirtual 339, 3) := by decide +kernel
theorem dX10_goes_98 : decode cX10_goes 98 = .ok (.istore 7, 2) := by decide +kernel
theorem dX10_goes_100 : decode cX10_goes 100 = .ok (.iload 7, 2) := by decide +kernel
theorem dX10_goes_102 : decode cX10_goes 102 = .ok (.ifCond .eq 27, 3) := by decide +kernel
theorem dX10_goes_105 : decode cX10_goes 105 = .ok (.aload_n 0, 1) := by decide +kernel
theorem dX10_goes_106 : decode cX10_goes 106 = .ok (.iload_n 1, 1) := by decide +kernel
theorem dX10_goes_107 : decode cX10_goes 107 = .ok (.iload 5, 2) := by decide +kernel
theorem dX10_goes_109 : decode cX10_goes 109 = .ok (.iload 6, 2) := by decide +kernel
theorem dX10_goes_111 : decode cX10_goes 111 = .ok (.invokevirtual 342, 3) := by decide +kernel
theorem dX10_goes_114 : decode cX10_goes 114 = .ok (.ifCond .ne 29, 3) := by decide +kernel
theorem dX10_goes_117 : decode cX10_goes 117 = .ok (.aload_n 0, 1) := by decide +kernel
theorem dX10_goes_118 : decode cX10_goes 118 = .ok (.iload_n 1, 1) := by decide +kernel
theorem dX10_goes_119 : decode cX10_goes 119 = .ok (.iload 5, 2) := by decide +kernel
theorem dX10_goes_121 : decode cX10_goes 121 = .ok (.iload 6, 2) := by decide +kernel
theorem dX10_goes_123 : decode cX10_goes 123 = .ok (.invokevirtual 401, 3) := by decide +kernel
theorem dX10_goes_126 : decode cX10_goes 126 = .ok (.ifCond .ne 17, 3) := by decide +kernel
theorem dX10_goes_129 : decode cX10_goes 129 = .ok (.iload 7, 2) := by decide +kernel
theorem dX10_goes_131 : decode cX10_goes 131 = .ok (.ifCond .ne 26, 3) := by decide +kernel
theorem dX10_goes_134 : decode cX10_goes 134 = .ok (.aload_n 0, 1) := by decide +kernel
theorem dX10_goes_135 : decode cX10_goes 135 = .ok (.getfield 80, 3) := by decide +kernel
theorem dX10_goes_138 : decode cX10_goes 138 = .ok (.iload_n 2, 1) := by decide +kernel
theorem dX10_goes_139 : decode cX10_goes 139 = .ok (.iaload, 1) := by decide +kernel
theorem dX10_goes_140 : decode cX10_goes 140 = .ok (.ifCond .eq 17, 3) := by decide +kernel
theorem dX10_goes_143 : decode cX10_goes 143 = .ok (.aload_n 0, 1) := by decide +kernel
theorem dX10_goes_144 : decode cX10_goes 144 = .ok (.getfield 71, 3) := by decide +kernel
theorem dX10_goes_147 : decode cX10_goes 147 = .ok (.iload_n 3, 1) := by decide +kernel
theorem dX10_goes_148 : decode cX10_goes 148 = .ok (.bipush 17, 2) := by decide +kernel
theorem dX10_goes_150 : decode cX10_goes 150 = .ok (.iadd, 1) := by decide +kernel
theorem dX10_goes_151 : decode cX10_goes 151 = .ok (.dup2, 1) := by decide +kernel
theorem dX10_goes_152 : decode cX10_goes 152 = .ok (.iaload, 1) := by decide +kernel
theorem dX10_goes_153 : decode cX10_goes 153 = .ok (.iconst 1, 1) := by decide +kernel
theorem dX10_goes_154 : decode cX10_goes 154 = .ok (.iadd, 1) := by decide +kernel
theorem dX10_goes_155 : decode cX10_goes 155 = .ok (.iastore, 1) := by decide +kernel
theorem dX10_goes_156 : decode cX10_goes 156 = .ok (.return_, 1) := by decide +kernel
theorem dX10_goes_157 : decode cX10_goes 157 = .ok (.aload_n 0, 1) := by decide +kernel
theorem dX10_goes_158 : decode cX10_goes 158 = .ok (.getfield 83, 3) := by decide +kernel
theorem dX10_goes_161 : decode cX10_goes 161 = .ok (.iload_n 2, 1) := by decide +kernel
theorem dX10_goes_162 : decode cX10_goes 162 = .ok (.iconst 1, 1) := by decide +kernel
theorem dX10_goes_163 : decode cX10_goes 163 = .ok (.iastore, 1) := by decide +kernel
theorem dX10_goes_164 : decode cX10_goes 164 = .ok (.aload_n 0, 1) := by decide +kernel
theorem dX10_goes_165 : decode cX10_goes 165 = .ok (.getfield 71, 3) := by decide +kernel
theorem dX10_goes_168 : decode cX10_goes 168 = .ok (.iload_n 3, 1) := by decide +kernel
theorem dX10_goes_169 : decode cX10_goes 169 = .ok (.bipush 15, 2) := by decide +kernel
theorem dX10_goes_171 : decode cX10_goes 171 = .ok (.iadd, 1) := by decide +kernel
theorem dX10_goes_172 : decode cX10_goes 172 = .ok (.dup2, 1) := by decide +kernel
theorem dX10_goes_173 : decode cX10_goes 173 = .ok (.iaload, 1) := by decide +kernel
theorem dX10_goes_174 : decode cX10_goes 174 = .ok (.iconst 1, 1) := by decide +kernel
theorem dX10_goes_175 : decode cX10_goes 175 = .ok (.iadd, 1) := by decide +kernel
theorem dX10_goes_176 : decode cX10_goes 176 = .ok (.iastore, 1) := by decide +kernel
theorem dX10_goes_177 : decode cX10_goes 177 = .ok (.aload_n 0, 1) := by decide +kernel
theorem dX10_goes_178 : decode cX10_goes 178 = .ok (.getfield 71, 3) := by decide +kernel
theorem dX10_goes_181 : decode cX10_goes 181 = .ok (.iload_n 3, 1) := by decide +kernel
theorem dX10_goes_182 : decode cX10_goes 182 = .ok (.bipush 16, 2) := by decide +kernel
theorem dX10_goes_184 : decode cX10_goes 184 = .ok (.iadd, 1) := by decide +kernel
theorem dX10_goes_185 : decode cX10_goes 185 = .ok (.dup2, 1) := by decide +kernel
theorem dX10_goes_186 : decode cX10_goes 186 = .ok (.iaload, 1) := by decide +kernel
theorem dX10_goes_187 : decode cX10_goes 187 = .ok (.aload_n 0, 1) := by decide +kernel
theorem dX10_goes_188 : decode cX10_goes 188 = .ok (.getfield 80, 3) := by decide +kernel
theorem dX10_goes_191 : decode cX10_goes 191 = .ok (.iload_n 2, 1) := by decide +kernel
theorem dX10_goes_192 : decode cX10_goes 192 = .ok (.iaload, 1) := by decide +kernel
theorem dX10_goes_193 : decode cX10_goes 193 = .ok (.ifCond .ne 7, 3) := by decide +kernel
theorem dX10_goes_196 : decode cX10_goes 196 = .ok (.iconst 0, 1) := by decide +kernel
theorem dX10_goes_197 : decode cX10_goes 197 = .ok (.goto 4, 3) := by decide +kernel
theorem dX10_goes_200 : decode cX10_goes 200 = .ok (.iconst 1, 1) := by decide +kernel
theorem dX10_goes_201 : decode cX10_goes 201 = .ok (.iadd, 1) := by decide +kernel
theorem dX10_goes_202 : decode cX10_goes 202 = .ok (.iastore, 1) := by decide +kernel
theorem dX10_goes_203 : decode cX10_goes 203 = .ok (.iload 7, 2) := by decide +kernel
theorem dX10_goes_205 : decode cX10_goes 205 = .ok (.ifCond .eq 41, 3) := by decide +kernel
theorem dX10_goes_208 : decode cX10_goes 208 = .ok (.aload_n 0, 1) := by decide +kernel
theorem dX10_goes_209 : decode cX10_goes 209 = .ok (.getfield 80, 3) := by decide +kernel
theorem dX10_goes_212 : decode cX10_goes 212 = .ok (.iload_n 2, 1) := by decide +kernel
theorem dX10_goes_213 : decode cX10_goes 213 = .ok (.iaload, 1) := by decide +kernel
theorem dX10_goes_214 : decode cX10_goes 214 = .ok (.ifCond .ne 32, 3) := by decide +kernel
theorem dX10_goes_217 : decode cX10_goes 217 = .ok (.aload_n 0, 1) := by decide +kernel
theorem dX10_goes_218 : decode cX10_goes 218 = .ok (.iload_n 1, 1) := by decide +kernel
theorem dX10_goes_219 : decode cX10_goes 219 = .ok (.iload 5, 2) := by decide +kernel
theorem dX10_goes_221 : decode cX10_goes 221 = .ok (.aload_n 0, 1) := by decide +kernel
theorem dX10_goes_222 : decode cX10_goes 222 = .ok (.getfield 86, 3) := by decide +kernel
theorem dX10_goes_225 : decode cX10_goes 225 = .ok (.iload_n 2, 1) := by decide +kernel
theorem dX10_goes_226 : decode cX10_goes 226 = .ok (.iaload, 1) := by decide +kernel
theorem dX10_goes_227 : decode cX10_goes 227 = .ok (.if_icmp .ge 8, 3) := by decide +kernel
theorem dX10_goes_230 : decode cX10_goes 230 = .ok (.iload 5, 2) := by decide +kernel
theorem dX10_goes_232 : decode cX10_goes 232 = .ok (.goto 9, 3) := by decide +kernel
theorem dX10_goes_235 : decode cX10_goes 235 = .ok (.aload_n 0, 1) := by decide +kernel
theorem dX10_goes_236 : decode cX10_goes 236 = .ok (.getfield 86, 3) := by decide +kernel
theorem dX10_goes_239 : decode cX10_goes 239 = .ok (.iload_n 2, 1) := by decide +kernel
theorem dX10_goes_240 : decode cX10_goes 240 = .ok (.iaload, 1) := by decide +kernel
theorem dX10_goes_241 : decode cX10_goes 241 = .ok (.iload 4, 2) := by decide +kernel
theorem dX10_goes_243 : decode cX10_goes 243 = .ok (.invokevirtual 404, 3) := by decide +kernel
theorem dX10_goes_246 : decode cX10_goes 246 = .ok (.iload 7, 2) := by decide +kernel
theorem dX10_goes_248 : decode cX10_goes 248 = .ok (.ifCond .ne 41, 3) := by decide +kernel
theorem dX10_goes_251 : decode cX10_goes 251 = .ok (.aload_n 0, 1) := by decide +kernel
theorem dX10_goes_252 : decode cX10_goes 252 = .ok (.getfield 71, 3) := by decide +kernel
theorem dX10_goes_255 : decode cX10_goes 255 = .ok (.iload_n 3, 1) := by decide +kernel
theorem dX10_goes_256 : decode cX10_goes 256 = .ok (.bipush 14, 2) := by decide +kernel
theorem dX10_goes_258 : decode cX10_goes 258 = .ok (.iadd, 1) := by decide +kernel
theorem dX10_goes_259 : decode cX10_goes 259 = .ok (.aload_n 0, 1) := by decide +kernel
theorem dX10_goes_260 : decode cX10_goes 260 = .ok (.getfield 71, 3) := by decide +kernel
theorem dX10_goes_263 : decode cX10_goes 263 = .ok (.sipush 720, 3) := by decide +kernel
theorem dX10_goes_266 : decode cX10_goes 266 = .ok (.iload_n 1, 1) := by decide +kernel
theorem dX10_goes_267 : decode cX10_goes 267 = .ok (.imul, 1) := by decide +kernel
theorem dX10_goes_268 : decode cX10_goes 268 = .ok (.iconst 3, 1) := by decide +kernel
theorem dX10_goes_269 : decode cX10_goes 269 = .ok (.iadd, 1) := by decide +kernel
theorem dX10_goes_270 : decode cX10_goes 270 = .ok (.iaload, 1) := by decide +kernel
theorem dX10_goes_271 : decode cX10_goes 271 = .ok (.iastore, 1) := by decide +kernel
theorem dX10_goes_272 : decode cX10_goes 272 = .ok (.aload_n 0, 1) := by decide +kernel
theorem dX10_goes_273 : decode cX10_goes 273 = .ok (.getfield 71, 3) := by decide +kernel
theorem dX10_goes_276 : decode cX10_goes 276 = .ok (.sipush 720, 3) := by decide +kernel
theorem dX10_goes_279 : decode cX10_goes 279 = .ok (.iload_n 1, 1) := by decide +kernel
theorem dX10_goes_280 : decode cX10_goes 280 = .ok (.imul, 1) := by decide +kernel
theorem dX10_goes_281 : decode cX10_goes 281 = .ok (.bipush 6, 2) := by decide +kernel
theorem dX10_goes_283 : decode cX10_goes 283 = .ok (.iadd, 1) := by decide +kernel
theorem dX10_goes_284 : decode cX10_goes 284 = .ok (.dup2, 1) := by decide +kernel
theorem dX10_goes_285 : decode cX10_goes 285 = .ok (.iaload, 1) := by decide +kernel
theorem dX10_goes_286 : decode cX10_goes 286 = .ok (.iconst 1, 1) := by decide +kernel
theorem dX10_goes_287 : decode cX10_goes 287 = .ok (.iadd, 1) := by decide +kernel
theorem dX10_goes_288 : decode cX10_goes 288 = .ok (.iastore, 1) := by decide +kernel
theorem dX10_goes_289 : decode cX10_goes 289 = .ok (.aload_n 0, 1) := by decide +kernel
theorem dX10_goes_290 : decode cX10_goes 290 = .ok (.getfield 86, 3) := by decide +kernel
theorem dX10_goes_293 : decode cX10_goes 293 = .ok (.iload_n 2, 1) := by decide +kernel
theorem dX10_goes_294 : decode cX10_goes 294 = .ok (.iload 7, 2) := by decide +kernel
theorem dX10_goes_296 : decode cX10_goes 296 = .ok (.ifCond .eq 8, 3) := by decide +kernel
theorem dX10_goes_299 : decode cX10_goes 299 = .ok (.iload 5, 2) := by decide +kernel
theorem dX10_goes_301 : decode cX10_goes 301 = .ok (.goto 4, 3) := by decide +kernel
theorem dX10_goes_304 : decode cX10_goes 304 = .ok (.iconst (-1), 1) := by decide +kernel
theorem dX10_goes_305 : decode cX10_goes 305 = .ok (.iastore, 1) := by decide +kernel
theorem dX10_goes_306 : decode cX10_goes 306 = .ok (.aload_n 0, 1) := by decide +kernel
theorem dX10_goes_307 : decode cX10_goes 307 = .ok (.getfield 89, 3) := by decide +kernel
theorem dX10_goes_310 : decode cX10_goes 310 = .ok (.iload_n 2, 1) := by decide +kernel
theorem dX10_goes_311 : decode cX10_goes 311 = .ok (.iload 7, 2) := by decide +kernel
theorem dX10_goes_313 : decode cX10_goes 313 = .ok (.ifCond .eq 8, 3) := by decide +kernel
theorem dX10_goes_316 : decode cX10_goes 316 = .ok (.iload 6, 2) := by decide +kernel
theorem dX10_goes_318 : decode cX10_goes 318 = .ok (.goto 4, 3) := by decide +kernel
theorem dX10_goes_321 : decode cX10_goes 321 = .ok (.iconst (-1), 1) := by decide +kernel
theorem dX10_goes_322 : decode cX10_goes 322 = .ok (.iastore, 1) := by decide +kernel
theorem dX10_goes_323 : decode cX10_goes 323 = .ok (.return_, 1) := by decide +kernel
theorem dX10_step_0 : decode cX10_step 0 = .ok (.sipush 720, 3) := by decide +kernel
theorem dX10_step_3 : decode cX10_step 3 = .ok (.iload_n 1, 1) := by decide +kernel
theorem dX10_step_4 : decode cX10_step 4 = .ok (.imul, 1) := by decide +kernel
theorem dX10_step_5 : decode cX10_step 5 = .ok (.istore_n 2, 1) := by decide +kernel
theorem dX10_step_6 : decode cX10_step 6 = .ok (.aload_n 0, 1) := by decide +kernel
theorem dX10_step_7 : decode cX10_step 7 = .ok (.getfield 71, 3) := by decide +kernel
theorem dX10_step_10 : decode cX10_step 10 = .ok (.iload_n 2, 1) := by decide +kernel
theorem dX10_step_11 : decode cX10_step 11 = .ok (.iconst 2, 1) := by decide +kernel
theorem dX10_step_12 : decode cX10_step 12 = .ok (.iadd, 1) := by decide +kernel
theorem dX10_step_13 : decode cX10_step 13 = .ok (.iaload, 1) := by decide +kernel
theorem dX10_step_14 : decode cX10_step 14 = .ok (.istore_n 3, 1) := by decide +kernel
theorem dX10_step_15 : decode cX10_step 15 = .ok (.aload_n 0, 1) := by decide +kernel
theorem dX10_step_16 : decode cX10_step 16 = .ok (.iconst 0, 1) := by decide +kernel
theorem dX10_step_17 : decode cX10_step 17 = .ok (.putfield 382, 3) := by decide +kernel
theorem dX10_step_20 : decode cX10_step 20 = .ok (.iconst 0, 1) := by decide +kernel
theorem dX10_step_21 : decode cX10_step 21 = .ok (.istore 4, 2) := by decide +kernel
theorem dX10_step_23 : decode cX10_step 23 = .ok (.iload 4, 2) := by decide +kernel
theorem dX10_step_25 : decode cX10_step 25 = .ok (.iload_n 3, 1) := by decide +kernel
theorem dX10_step_26 : decode cX10_step 26 = .ok (.if_icmp .ge 69, 3) := by decide +kernel
theorem dX10_step_29 : decode cX10_step 29 = .ok (.aload_n 0, 1) := by decide +kernel
theorem dX10_step_30 : decode cX10_step 30 = .ok (.getfield 80, 3) := by decide +kernel
theorem dX10_step_33 : decode cX10_step 33 = .ok (.iload 4, 2) := by decide +kernel
theorem dX10_step_35 : decode cX10_step 35 = .ok (.aload_n 0, 1) := by decide +kernel
theorem dX10_step_36 : decode cX10_step 36 = .ok (.iload_n 1, 1) := by decide +kernel
theorem dX10_step_37 : decode cX10_step 37 = .ok (.iload 4, 2) := by decide +kernel
theorem dX10_step_39 : decode cX10_step 39 = .ok (.invokevirtual 408, 3) := by decide +kernel
theorem dX10_step_42 : decode cX10_step 42 = .ok (.iastore, 1) := by decide +kernel
theorem dX10_step_43 : decode cX10_step 43 = .ok (.aload_n 0, 1) := by decide +kernel
theorem dX10_step_44 : decode cX10_step 44 = .ok (.getfield 83, 3) := by decide +kernel
theorem dX10_step_47 : decode cX10_step 47 = .ok (.iload 4, 2) := by decide +kernel
theorem dX10_step_49 : decode cX10_step 49 = .ok (.iconst 0, 1) := by decide +kernel
theorem dX10_step_50 : decode cX10_step 50 = .ok (.iastore, 1) := by decide +kernel
theorem dX10_step_51 : decode cX10_step 51 = .ok (.aload_n 0, 1) := by decide +kernel
theorem dX10_step_52 : decode cX10_step 52 = .ok (.getfield 86, 3) := by decide +kernel
theorem dX10_step_55 : decode cX10_step 55 = .ok (.iload 4, 2) := by decide +kernel
theorem dX10_step_57 : decode cX10_step 57 = .ok (.aload_n 0, 1) := by decide +kernel
theorem dX10_step_58 : decode cX10_step 58 = .ok (.getfield 71, 3) := by decide +kernel
theorem dX10_step_61 : decode cX10_step 61 = .ok (.iload_n 1, 1) := by decide +kernel
theorem dX10_step_62 : decode cX10_step 62 = .ok (.iload 4, 2) := by decide +kernel
theorem dX10_step_64 : decode cX10_step 64 = .ok (.invokestatic 332, 3) := by decide +kernel
theorem dX10_step_67 : decode cX10_step 67 = .ok (.iaload, 1) := by decide +kernel
theorem dX10_step_68 : decode cX10_step 68 = .ok (.iastore, 1) := by decide +kernel
theorem dX10_step_69 : decode cX10_step 69 = .ok (.aload_n 0, 1) := by decide +kernel
theorem dX10_step_70 : decode cX10_step 70 = .ok (.getfield 89, 3) := by decide +kernel
theorem dX10_step_73 : decode cX10_step 73 = .ok (.iload 4, 2) := by decide +kernel
theorem dX10_step_75 : decode cX10_step 75 = .ok (.aload_n 0, 1) := by decide +kernel
theorem dX10_step_76 : decode cX10_step 76 = .ok (.getfield 71, 3) := by decide +kernel
theorem dX10_step_79 : decode cX10_step 79 = .ok (.iload_n 1, 1) := by decide +kernel
theorem dX10_step_80 : decode cX10_step 80 = .ok (.iload 4, 2) := by decide +kernel
theorem dX10_step_82 : decode cX10_step 82 = .ok (.invokestatic 332, 3) := by decide +kernel
theorem dX10_step_85 : decode cX10_step 85 = .ok (.iconst 4, 1) := by decide +kernel
theorem dX10_step_86 : decode cX10_step 86 = .ok (.iadd, 1) := by decide +kernel
theorem dX10_step_87 : decode cX10_step 87 = .ok (.iaload, 1) := by decide +kernel
theorem dX10_step_88 : decode cX10_step 88 = .ok (.iastore, 1) := by decide +kernel
theorem dX10_step_89 : decode cX10_step 89 = .ok (.iinc 4 1, 3) := by decide +kernel
theorem dX10_step_92 : decode cX10_step 92 = .ok (.goto (-69), 3) := by decide +kernel
theorem dX10_step_95 : decode cX10_step 95 = .ok (.bipush 9, 2) := by decide +kernel
theorem dX10_step_97 : decode cX10_step 97 = .ok (.istore 4, 2) := by decide +kernel
theorem dX10_step_99 : decode cX10_step 99 = .ok (.iload 4, 2) := by decide +kernel
theorem dX10_step_101 : decode cX10_step 101 = .ok (.ifCond .lt 60, 3) := by decide +kernel
theorem dX10_step_104 : decode cX10_step 104 = .ok (.iconst 0, 1) := by decide +kernel
theorem dX10_step_105 : decode cX10_step 105 = .ok (.istore 5, 2) := by decide +kernel
theorem dX10_step_107 : decode cX10_step 107 = .ok (.iload 5, 2) := by decide +kernel
theorem dX10_step_109 : decode cX10_step 109 = .ok (.iload_n 3, 1) := by decide +kernel
theorem dX10_step_110 : decode cX10_step 110 = .ok (.if_icmp .ge 45, 3) := by decide +kernel
theorem dX10_step_113 : decode cX10_step 113 = .ok (.aload_n 0, 1) := by decide +kernel
theorem dX10_step_114 : decode cX10_step 114 = .ok (.getfield 71, 3) := by decide +kernel
theorem dX10_step_117 : decode cX10_step 117 = .ok (.iload_n 1, 1) := by decide +kernel
theorem dX10_step_118 : decode cX10_step 118 = .ok (.iload 5, 2) := by decide +kernel
theorem dX10_step_120 : decode cX10_step 120 = .ok (.invokestatic 332, 3) := by decide +kernel
theorem dX10_step_123 : decode cX10_step 123 = .ok (.bipush 11, 2) := by decide +kernel
theorem dX10_step_125 : decode cX10_step 125 = .ok (.iadd, 1) := by decide +kernel
theorem dX10_step_126 : decode cX10_step 126 = .ok (.iaload, 1) := by decide +kernel
theorem dX10_step_127 : decode cX10_step 127 = .ok (.iload 4, 2) := by decide +kernel
theorem dX10_step_129 : decode cX10_step 129 = .ok (.if_icmp .ne 20, 3) := by decide +kernel
theorem dX10_step_132 : decode cX10_step 132 = .ok (.aload_n 0, 1) := by decide +kernel
theorem dX10_step_133 : decode cX10_step 133 = .ok (.iload_n 1, 1) := by decide +kernel
theorem dX10_step_134 : decode cX10_step 134 = .ok (.iload 5, 2) := by decide +kernel
theorem dX10_step_136 : decode cX10_step 136 = .ok (.invokevirtual 392, 3) := by decide +kernel
theorem dX10_step_139 : decode cX10_step 139 = .ok (.ifCond .eq 10, 3) := by decide +kernel
theorem dX10_step_142 : decode cX10_step 142 = .ok (.aload_n 0, 1) := by decide +kernel
theorem dX10_step_143 : decode cX10_step 143 = .ok (.iload_n 1, 1) := by decide +kernel
theorem dX10_step_144 : decode cX10_step 144 = .ok (.iload 5, 2) := by decide +kernel
theorem dX10_step_146 : decode cX10_step 146 = .ok (.invokevirtual 411, 3) := by decide +kernel
theorem dX10_step_149 : decode cX10_step 149 = .ok (.iinc 5 1, 3) := by decide +kernel
theorem dX10_step_152 : decode cX10_step 152 = .ok (.goto (-45), 3) := by decide +kernel
theorem dX10_step_155 : decode cX10_step 155 = .ok (.iinc 4 (-1), 3) := by decide +kernel
theorem dX10_step_158 : decode cX10_step 158 = .ok (.goto (-59), 3) := by decide +kernel
theorem dX10_step_161 : decode cX10_step 161 = .ok (.iconst 0, 1) := by decide +kernel
theorem dX10_step_162 : decode cX10_step 162 = .ok (.istore 4, 2) := by decide +kernel
theorem dX10_step_164 : decode cX10_step 164 = .ok (.iconst 0, 1) := by decide +kernel
theorem dX10_step_165 : decode cX10_step 165 = .ok (.istore 5, 2) := by decide +kernel
theorem dX10_step_167 : decode cX10_step 167 = .ok (.iload 5, 2) := by decide +kernel
theorem dX10_step_169 : decode cX10_step 169 = .ok (.iload_n 3, 1) := by decide +kernel
theorem dX10_step_170 : decode cX10_step 170 = .ok (.if_icmp .ge 66, 3) := by decide +kernel
theorem dX10_step_173 : decode cX10_step 173 = .ok (.iload 4, 2) := by decide +kernel
theorem dX10_step_175 : decode cX10_step 175 = .ok (.aload_n 0, 1) := by decide +kernel
theorem dX10_step_176 : decode cX10_step 176 = .ok (.getfield 83, 3) := by decide +kernel
theorem dX10_step_179 : decode cX10_step 179 = .ok (.iload 5, 2) := by decide +kernel
theorem dX10_step_181 : decode cX10_step 181 = .ok (.iaload, 1) := by decide +kernel
theorem dX10_step_182 : decode cX10_step 182 = .ok (.iadd, 1) := by decide +kernel
theorem dX10_step_183 : decode cX10_step 183 = .ok (.istore 4, 2) := by decide +kernel
theorem dX10_step_185 : decode cX10_step 185 = .ok (.iconst 0, 1) := by decide +kernel
theorem dX10_step_186 : decode cX10_step 186 = .ok (.istore 6, 2) := by decide +kernel
theorem dX10_step_188 : decode cX10_step 188 = .ok (.iload 6, 2) := by decide +kernel
theorem dX10_step_190 : decode cX10_step 190 = .ok (.iload 5, 2) := by decide +kernel
theorem dX10_step_192 : decode cX10_step 192 = .ok (.if_icmp .ge 38, 3) := by decide +kernel
theorem dX10_step_195 : decode cX10_step 195 = .ok (.aload_n 0, 1) := by decide +kernel
theorem dX10_step_196 : decode cX10_step 196 = .ok (.getfield 71, 3) := by decide +kernel
theorem dX10_step_199 : decode cX10_step 199 = .ok (.iload_n 2, 1) := by decide +kernel
theorem dX10_step_200 : decode cX10_step 200 = .ok (.bipush 8, 2) := by decide +kernel
theorem dX10_step_202 : decode cX10_step 202 = .ok (.iadd, 1) := by decide +kernel
theorem dX10_step_203 : decode cX10_step 203 = .ok (.dup2, 1) := by decide +kernel
theorem dX10_step_204 : decode cX10_step 204 = .ok (.iaload, 1) := by decide +kernel
theorem dX10_step_205 : decode cX10_step 205 = .ok (.aload_n 0, 1) := by decide +kernel
theorem dX10_step_206 : decode cX10_step 206 = .ok (.iload_n 1, 1) := by decide +kernel
theorem dX10_step_207 : decode cX10_step 207 = .ok (.iload 5, 2) := by decide +kernel
theorem dX10_step_209 : decode cX10_step 209 = .ok (.iload 6, 2) := by decide +kernel
theorem dX10_step_211 : decode cX10_step 211 = .ok (.invokevirtual 414, 3) := by decide +kernel
theorem dX10_step_214 : decode cX10_step 214 = .ok (.ifCond .eq 7, 3) := by decide +kernel
theorem dX10_step_217 : decode cX10_step 217 = .ok (.iconst 1, 1) := by decide +kernel
theorem dX10_step_218 : decode cX10_step 218 = .ok (.goto 4, 3) := by decide +kernel
theorem dX10_step_221 : decode cX10_step 221 = .ok (.iconst 0, 1) := by decide +kernel
theorem dX10_step_222 : decode cX10_step 222 = .ok (.iadd, 1) := by decide +kernel
theorem dX10_step_223 : decode cX10_step 223 = .ok (.iastore, 1) := by decide +kernel
theorem dX10_step_224 : decode cX10_step 224 = .ok (.iinc 6 1, 3) := by decide +kernel
theorem dX10_step_227 : decode cX10_step 227 = .ok (.goto (-39), 3) := by decide +kernel
theorem dX10_step_230 : decode cX10_step 230 = .ok (.iinc 5 1, 3) := by decide +kernel
theorem dX10_step_233 : decode cX10_step 233 = .ok (.goto (-66), 3) := by decide +kernel
theorem dX10_step_236 : decode cX10_step 236 = .ok (.iconst 0, 1) := by decide +kernel
theorem dX10_step_237 : decode cX10_step 237 = .ok (.istore 5, 2) := by decide +kernel
theorem dX10_step_239 : decode cX10_step 239 = .ok (.iload 5, 2) := by decide +kernel
theorem dX10_step_241 : decode cX10_step 241 = .ok (.iload_n 3, 1) := by decide +kernel
theorem dX10_step_242 : decode cX10_step 242 = .ok (.if_icmp .ge 21, 3) := by decide +kernel
theorem dX10_step_245 : decode cX10_step 245 = .ok (.aload_n 0, 1) := by decide +kernel
theorem dX10_step_246 : decode cX10_step 246 = .ok (.iload_n 1, 1) := by decide +kernel
theorem dX10_step_247 : decode cX10_step 247 = .ok (.iload 5, 2) := by decide +kernel
theorem dX10_step_249 : decode cX10_step 249 = .ok (.invokestatic 332, 3) := by decide +kernel
theorem dX10_step_252 : decode cX10_step 252 = .ok (.iload 5, 2) := by decide +kernel
theorem dX10_step_254 : decode cX10_step 254 = .ok (.invokevirtual 417, 3) := by decide +kernel
theorem dX10_step_257 : decode cX10_step 257 = .ok (.iinc 5 1, 3) := by decide +kernel
theorem dX10_step_260 : decode cX10_step 260 = .ok (.goto (-21), 3) := by decide +kernel
theorem dX10_step_263 : decode cX10_step 263 = .ok (.aload_n 0, 1) := by decide +kernel
theorem dX10_step_264 : decode cX10_step 264 = .ok (.getfield 71, 3) := by decide +kernel
theorem dX10_step_267 : decode cX10_step 267 = .ok (.iload_n 2, 1) := by decide +kernel
theorem dX10_step_268 : decode cX10_step 268 = .ok (.bipush 7, 2) := by decide +kernel
theorem dX10_step_270 : decode cX10_step 270 = .ok (.iadd, 1) := by decide +kernel
theorem dX10_step_271 : decode cX10_step 271 = .ok (.iload 4, 2) := by decide +kernel
theorem dX10_step_273 : decode cX10_step 273 = .ok (.ifCond .le 7, 3) := by decide +kernel
theorem dX10_step_276 : decode cX10_step 276 = .ok (.iconst 0, 1) := by decide +kernel
theorem dX10_step_277 : decode cX10_step 277 = .ok (.goto 14, 3) := by decide +kernel
theorem dX10_step_280 : decode cX10_step 280 = .ok (.aload_n 0, 1) := by decide +kernel
theorem dX10_step_281 : decode cX10_step 281 = .ok (.getfield 71, 3) := by decide +kernel
theorem dX10_step_284 : decode cX10_step 284 = .ok (.iload_n 2, 1) := by decide +kernel
theorem dX10_step_285 : decode cX10_step 285 = .ok (.bipush 7, 2) := by decide +kernel
theorem dX10_step_287 : decode cX10_step 287 = .ok (.iadd, 1) := by decide +kernel
theorem dX10_step_288 : decode cX10_step 288 = .ok (.iaload, 1) := by decide +kernel
theorem dX10_step_289 : decode cX10_step 289 = .ok (.iconst 1, 1) := by decide +kernel
theorem dX10_step_290 : decode cX10_step 290 = .ok (.iadd, 1) := by decide +kernel
theorem dX10_step_291 : decode cX10_step 291 = .ok (.iastore, 1) := by decide +kernel
theorem dX10_step_292 : decode cX10_step 292 = .ok (.aload_n 0, 1) := by decide +kernel
theorem dX10_step_293 : decode cX10_step 293 = .ok (.getfield 71, 3) := by decide +kernel
theorem dX10_step_296 : decode cX10_step 296 = .ok (.iload_n 2, 1) := by decide +kernel
theorem dX10_step_297 : decode cX10_step 297 = .ok (.iconst 3, 1) := by decide +kernel
theorem dX10_step_298 : decode cX10_step 298 = .ok (.iadd, 1) := by decide +kernel
theorem dX10_step_299 : decode cX10_step 299 = .ok (.dup2, 1) := by decide +kernel
theorem dX10_step_300 : decode cX10_step 300 = .ok (.iaload, 1) := by decide +kernel
theorem dX10_step_301 : decode cX10_step 301 = .ok (.iconst 1, 1) := by decide +kernel
theorem dX10_step_302 : decode cX10_step 302 = .ok (.iadd, 1) := by decide +kernel
theorem dX10_step_303 : decode cX10_step 303 = .ok (.iastore, 1) := by decide +kernel
theorem dX10_step_304 : decode cX10_step 304 = .ok (.iload 4, 2) := by decide +kernel
theorem dX10_step_306 : decode cX10_step 306 = .ok (.ireturn, 1) := by decide +kernel
theorem dX10_tryOn_0 : decode cX10_tryOn 0 = .ok (.aload_n 0, 1) := by decide +kernel
theorem dX10_tryOn_1 : decode cX10_tryOn 1 = .ok (.iconst 0, 1) := by decide +kernel
theorem dX10_tryOn_2 : decode cX10_tryOn 2 = .ok (.putfield 385, 3) := by decide +kernel
theorem dX10_tryOn_5 : decode cX10_tryOn 5 = .ok (.iconst 0, 1) := by decide +kernel
theorem dX10_tryOn_6 : decode cX10_tryOn 6 = .ok (.istore_n 2, 1) := by decide +kernel
theorem dX10_tryOn_7 : decode cX10_tryOn 7 = .ok (.iload_n 2, 1) := by decide +kernel
theorem dX10_tryOn_8 : decode cX10_tryOn 8 = .ok (.iload_n 1, 1) := by decide +kernel
theorem dX10_tryOn_9 : decode cX10_tryOn 9 = .ok (.if_icmp .ge 15, 3) := by decide +kernel
theorem dX10_tryOn_12 : decode cX10_tryOn 12 = .ok (.aload_n 0, 1) := by decide +kernel
theorem dX10_tryOn_13 : decode cX10_tryOn 13 = .ok (.iconst 4, 1) := by decide +kernel
theorem dX10_tryOn_14 : decode cX10_tryOn 14 = .ok (.invokevirtual 424, 3) := by decide +kernel
theorem dX10_tryOn_17 : decode cX10_tryOn 17 = .ok (.pop, 1) := by decide +kernel
theorem dX10_tryOn_18 : decode cX10_tryOn 18 = .ok (.iinc 2 1, 3) := by decide +kernel
theorem dX10_tryOn_21 : decode cX10_tryOn 21 = .ok (.goto (-14), 3) := by decide +kernel
theorem dX10_tryOn_24 : decode cX10_tryOn 24 = .ok (.return_, 1) := by decide +kernel
theorem dX10_arrive_0 : decode cX10_arrive 0 = .ok (.aload_n 0, 1) := by decide +kernel
theorem dX10_arrive_1 : decode cX10_arrive 1 = .ok (.iconst 4, 1) := by decide +kernel
theorem dX10_arrive_2 : decode cX10_arrive 2 = .ok (.iload_n 1, 1) := by decide +kernel
theorem dX10_arrive_3 : decode cX10_arrive 3 = .ok (.iload_n 2, 1) := by decide +kernel
theorem dX10_arrive_4 : decode cX10_arrive 4 = .ok (.iload_n 3, 1) := by decide +kernel
theorem dX10_arrive_5 : decode cX10_arrive 5 = .ok (.bipush 12, 2) := by decide +kernel
theorem dX10_arrive_7 : decode cX10_arrive 7 = .ok (.iconst (-1), 1) := by decide +kernel
theorem dX10_arrive_8 : decode cX10_arrive 8 = .ok (.invokevirtual 420, 3) := by decide +kernel
theorem dX10_arrive_11 : decode cX10_arrive 11 = .ok (.aload_n 0, 1) := by decide +kernel
theorem dX10_arrive_12 : decode cX10_arrive 12 = .ok (.iload 4, 2) := by decide +kernel
theorem dX10_arrive_14 : decode cX10_arrive 14 = .ok (.invokevirtual 451, 3) := by decide +kernel
theorem dX10_arrive_17 : decode cX10_arrive 17 = .ok (.aload_n 0, 1) := by decide +kernel
theorem dX10_arrive_18 : decode cX10_arrive 18 = .ok (.getfield 71, 3) := by decide +kernel
theorem dX10_arrive_21 : decode cX10_arrive 21 = .ok (.sipush 2886, 3) := by decide +kernel
theorem dX10_arrive_24 : decode cX10_arrive 24 = .ok (.iaload, 1) := by decide +kernel
theorem dX10_arrive_25 : decode cX10_arrive 25 = .ok (.ireturn, 1) := by decide +kernel
theorem dX10_better_0 : decode cX10_better 0 = .ok (.aload_n 0, 1) := by decide +kernel
theorem dX10_better_1 : decode cX10_better 1 = .ok (.iconst 0, 1) := by decide +kernel
theorem dX10_better_2 : decode cX10_better 2 = .ok (.putfield 121, 3) := by decide +kernel
theorem dX10_better_5 : decode cX10_better 5 = .ok (.aload_n 0, 1) := by decide +kernel
theorem dX10_better_6 : decode cX10_better 6 = .ok (.iload_n 1, 1) := by decide +kernel
theorem dX10_better_7 : decode cX10_better 7 = .ok (.invokevirtual 270, 3) := by decide +kernel
theorem dX10_better_10 : decode cX10_better 10 = .ok (.ifCond .eq 14, 3) := by decide +kernel
theorem dX10_better_13 : decode cX10_better 13 = .ok (.iload_n 3, 1) := by decide +kernel
theorem dX10_better_14 : decode cX10_better 14 = .ok (.iconst 1, 1) := by decide +kernel
theorem dX10_better_15 : decode cX10_better 15 = .ok (.sipush 200, 3) := by decide +kernel
theorem dX10_better_18 : decode cX10_better 18 = .ok (.invokestatic 129, 3) := by decide +kernel
theorem dX10_better_21 : decode cX10_better 21 = .ok (.ifCond .ne 5, 3) := by decide +kernel
theorem dX10_better_24 : decode cX10_better 24 = .ok (.iconst (-1), 1) := by decide +kernel
theorem dX10_better_25 : decode cX10_better 25 = .ok (.ireturn, 1) := by decide +kernel
theorem dX10_better_26 : decode cX10_better 26 = .ok (.iconst (-1), 1) := by decide +kernel
theorem dX10_better_27 : decode cX10_better 27 = .ok (.istore 4, 2) := by decide +kernel
theorem dX10_better_29 : decode cX10_better 29 = .ok (.iconst (-1), 1) := by decide +kernel
theorem dX10_better_30 : decode cX10_better 30 = .ok (.istore 5, 2) := by decide +kernel
theorem dX10_better_32 : decode cX10_better 32 = .ok (.iconst 0, 1) := by decide +kernel
theorem dX10_better_33 : decode cX10_better 33 = .ok (.istore 6, 2) := by decide +kernel
theorem dX10_better_35 : decode cX10_better 35 = .ok (.iload 6, 2) := by decide +kernel
theorem dX10_better_37 : decode cX10_better 37 = .ok (.aload_n 0, 1) := by decide +kernel
theorem dX10_better_38 : decode cX10_better 38 = .ok (.getfield 44, 3) := by decide +kernel
theorem dX10_better_41 : decode cX10_better 41 = .ok (.iconst 0, 1) := by decide +kernel
theorem dX10_better_42 : decode cX10_better 42 = .ok (.iaload, 1) := by decide +kernel
theorem dX10_better_43 : decode cX10_better 43 = .ok (.if_icmp .ge 52, 3) := by decide +kernel
theorem dX10_better_46 : decode cX10_better 46 = .ok (.aload_n 0, 1) := by decide +kernel
theorem dX10_better_47 : decode cX10_better 47 = .ok (.iload_n 1, 1) := by decide +kernel
theorem dX10_better_48 : decode cX10_better 48 = .ok (.iload 6, 2) := by decide +kernel
theorem dX10_better_50 : decode cX10_better 50 = .ok (.iload_n 2, 1) := by decide +kernel
theorem dX10_better_51 : decode cX10_better 51 = .ok (.iload_n 3, 1) := by decide +kernel
theorem dX10_better_52 : decode cX10_better 52 = .ok (.invokevirtual 461, 3) := by decide +kernel
theorem dX10_better_55 : decode cX10_better 55 = .ok (.istore 7, 2) := by decide +kernel
theorem dX10_better_57 : decode cX10_better 57 = .ok (.iload 7, 2) := by decide +kernel
theorem dX10_better_59 : decode cX10_better 59 = .ok (.iload 5, 2) := by decide +kernel
theorem dX10_better_61 : decode cX10_better 61 = .ok (.if_icmp .le 8, 3) := by decide +kernel
theorem dX10_better_64 : decode cX10_better 64 = .ok (.iload 6, 2) := by decide +kernel
theorem dX10_better_66 : decode cX10_better 66 = .ok (.goto 5, 3) := by decide +kernel
theorem dX10_better_69 : decode cX10_better 69 = .ok (.iload 4, 2) := by decide +kernel
theorem dX10_better_71 : decode cX10_better 71 = .ok (.istore 4, 2) := by decide +kernel
theorem dX10_better_73 : decode cX10_better 73 = .ok (.iload 7, 2) := by decide +kernel
theorem dX10_better_75 : decode cX10_better 75 = .ok (.iload 5, 2) := by decide +kernel
theorem dX10_better_77 : decode cX10_better 77 = .ok (.if_icmp .le 8, 3) := by decide +kernel
theorem dX10_better_80 : decode cX10_better 80 = .ok (.iload 7, 2) := by decide +kernel
theorem dX10_better_82 : decode cX10_better 82 = .ok (.goto 5, 3) := by decide +kernel
theorem dX10_better_85 : decode cX10_better 85 = .ok (.iload 5, 2) := by decide +kernel
theorem dX10_better_87 : decode cX10_better 87 = .ok (.istore 5, 2) := by decide +kernel
theorem dX10_better_89 : decode cX10_better 89 = .ok (.iinc 6 1, 3) := by decide +kernel
theorem dX10_better_92 : decode cX10_better 92 = .ok (.goto (-57), 3) := by decide +kernel
theorem dX10_better_95 : decode cX10_better 95 = .ok (.iload 4, 2) := by decide +kernel
theorem dX10_better_97 : decode cX10_better 97 = .ok (.ireturn, 1) := by decide +kernel
theorem dX10_isLaw_0 : decode cX10_isLaw 0 = .ok (.iload_n 1, 1) := by decide +kernel
theorem dX10_isLaw_1 : decode cX10_isLaw 1 = .ok (.iconst 0, 1) := by decide +kernel
theorem dX10_isLaw_2 : decode cX10_isLaw 2 = .ok (.aload_n 0, 1) := by decide +kernel
theorem dX10_isLaw_3 : decode cX10_isLaw 3 = .ok (.getfield 44, 3) := by decide +kernel
theorem dX10_isLaw_6 : decode cX10_isLaw 6 = .ok (.iconst 0, 1) := by decide +kernel
theorem dX10_isLaw_7 : decode cX10_isLaw 7 = .ok (.iaload, 1) := by decide +kernel
theorem dX10_isLaw_8 : decode cX10_isLaw 8 = .ok (.iconst 1, 1) := by decide +kernel
theorem dX10_isLaw_9 : decode cX10_isLaw 9 = .ok (.isub, 1) := by decide +kernel
theorem dX10_isLaw_10 : decode cX10_isLaw 10 = .ok (.invokestatic 129, 3) := by decide +kernel
theorem dX10_isLaw_13 : decode cX10_isLaw 13 = .ok (.ireturn, 1) := by decide +kernel
theorem dX10_isTried_0 : decode cX10_isTried 0 = .ok (.aload_n 0, 1) := by decide +kernel
theorem dX10_isTried_1 : decode cX10_isTried 1 = .ok (.iload_n 1, 1) := by decide +kernel
theorem dX10_isTried_2 : decode cX10_isTried 2 = .ok (.invokevirtual 270, 3) := by decide +kernel
theorem dX10_isTried_5 : decode cX10_isTried 5 = .ok (.ifCond .eq 25, 3) := by decide +kernel
theorem dX10_isTried_8 : decode cX10_isTried 8 = .ok (.aload_n 0, 1) := by decide +kernel
theorem dX10_isTried_9 : decode cX10_isTried 9 = .ok (.iload_n 2, 1) := by decide +kernel
theorem dX10_isTried_10 : decode cX10_isTried 10 = .ok (.invokevirtual 326, 3) := by decide +kernel
theorem dX10_isTried_13 : decode cX10_isTried 13 = .ok (.ifCond .eq 17, 3) := by decide +kernel
theorem dX10_isTried_16 : decode cX10_isTried 16 = .ok (.iload_n 3, 1) := by decide +kernel
theorem dX10_isTried_17 : decode cX10_isTried 17 = .ok (.iconst 1, 1) := by decide +kernel
theorem dX10_isTried_18 : decode cX10_isTried 18 = .ok (.iload 4, 2) := by decide +kernel
theorem dX10_isTried_20 : decode cX10_isTried 20 = .ok (.invokestatic 129, 3) := by decide +kernel
theorem dX10_isTried_23 : decode cX10_isTried 23 = .ok (.ifCond .eq 7, 3) := by decide +kernel
theorem dX10_isTried_26 : decode cX10_isTried 26 = .ok (.iconst 1, 1) := by decide +kernel
theorem dX10_isTried_27 : decode cX10_isTried 27 = .ok (.goto 4, 3) := by decide +kernel
theorem dX10_isTried_30 : decode cX10_isTried 30 = .ok (.iconst 0, 1) := by decide +kernel
theorem dX10_isTried_31 : decode cX10_isTried 31 = .ok (.ireturn, 1) := by decide +kernel
theorem dX10_tenths_0 : decode cX10_tenths 0 = .ok (.iconst 0, 1) := by decide +kernel
theorem dX10_tenths_1 : decode cX10_tenths 1 = .ok (.istore_n 3, 1) := by decide +kernel
theorem dX10_tenths_2 : decode cX10_tenths 2 = .ok (.iconst 0, 1) := by decide +kernel
theorem dX10_tenths_3 : decode cX10_tenths 3 = .ok (.istore 4, 2) := by decide +kernel
theorem dX10_tenths_5 : decode cX10_tenths 5 = .ok (.iload 4, 2) := by decide +kernel
theorem dX10_tenths_7 : decode cX10_tenths 7 = .ok (.aload_n 0, 1) := by decide +kernel
theorem dX10_tenths_8 : decode cX10_tenths 8 = .ok (.getfield 71, 3) := by decide +kernel
theorem dX10_tenths_11 : decode cX10_tenths 11 = .ok (.sipush 2882, 3) := by decide +kernel
theorem dX10_tenths_14 : decode cX10_tenths 14 = .ok (.iaload, 1) := by decide +kernel
theorem dX10_tenths_15 : decode cX10_tenths 15 = .ok (.if_icmp .ge 52, 3) := by decide +kernel
theorem dX10_tenths_18 : decode cX10_tenths 18 = .ok (.aload_n 0, 1) := by decide +kernel
theorem dX10_tenths_19 : decode cX10_tenths 19 = .ok (.getfield 71, 3) := by decide +kernel
theorem dX10_tenths_22 : decode cX10_tenths 22 = .ok (.iconst 4, 1) := by decide +kernel
theorem dX10_tenths_23 : decode cX10_tenths 23 = .ok (.iload 4, 2) := by decide +kernel
theorem dX10_tenths_25 : decode cX10_tenths 25 = .ok (.invokestatic 332, 3) := by decide +kernel
theorem dX10_tenths_28 : decode cX10_tenths 28 = .ok (.bipush 14, 2) := by decide +kernel
theorem dX10_tenths_30 : decode cX10_tenths 30 = .ok (.iadd, 1) := by decide +kernel
theorem dX10_tenths_31 : decode cX10_tenths 31 = .ok (.iaload, 1) := by decide +kernel
theorem dX10_tenths_32 : decode cX10_tenths 32 = .ok (.istore 5, 2) := by decide +kernel
theorem dX10_tenths_34 : decode cX10_tenths 34 = .ok (.iload_n 3, 1) := by decide +kernel
theorem dX10_tenths_35 : decode cX10_tenths 35 = .ok (.iload 4, 2) := by decide +kernel
theorem dX10_tenths_37 : decode cX10_tenths 37 = .ok (.iload_n 2, 1) := by decide +kernel
theorem dX10_tenths_38 : decode cX10_tenths 38 = .ok (.if_icmp .ne 7, 3) := by decide +kernel
theorem dX10_tenths_41 : decode cX10_tenths 41 = .ok (.iconst 0, 1) := by decide +kernel
theorem dX10_tenths_42 : decode cX10_tenths 42 = .ok (.goto 17, 3) := by decide +kernel
theorem dX10_tenths_45 : decode cX10_tenths 45 = .ok (.iload 5, 2) := by decide +kernel
theorem dX10_tenths_47 : decode cX10_tenths 47 = .ok (.iconst (-1), 1) := by decide +kernel
theorem dX10_tenths_48 : decode cX10_tenths 48 = .ok (.if_icmp .ne 7, 3) := by decide +kernel
theorem dX10_tenths_51 : decode cX10_tenths 51 = .ok (.iload_n 1, 1) := by decide +kernel
theorem dX10_tenths_52 : decode cX10_tenths 52 = .ok (.goto 7, 3) := by decide +kernel
theorem dX10_tenths_55 : decode cX10_tenths 55 = .ok (.iload 5, 2) := by decide +kernel
theorem dX10_tenths_57 : decode cX10_tenths 57 = .ok (.iconst 1, 1) := by decide +kernel
theorem dX10_tenths_58 : decode cX10_tenths 58 = .ok (.iadd, 1) := by decide +kernel
theorem dX10_tenths_59 : decode cX10_tenths 59 = .ok (.iadd, 1) := by decide +kernel
theorem dX10_tenths_60 : decode cX10_tenths 60 = .ok (.istore_n 3, 1) := by decide +kernel
theorem dX10_tenths_61 : decode cX10_tenths 61 = .ok (.iinc 4 1, 3) := by decide +kernel
theorem dX10_tenths_64 : decode cX10_tenths 64 = .ok (.goto (-59), 3) := by decide +kernel
theorem dX10_tenths_67 : decode cX10_tenths 67 = .ok (.iload_n 3, 1) := by decide +kernel
theorem dX10_tenths_68 : decode cX10_tenths 68 = .ok (.ireturn, 1) := by decide +kernel
theorem dX10_cost_0 : decode cX10_cost 0 = .ok (.aload_n 0, 1) := by decide +kernel
theorem dX10_cost_1 : decode cX10_cost 1 = .ok (.iconst 0, 1) := by decide +kernel
theorem dX10_cost_2 : decode cX10_cost 2 = .ok (.putfield 121, 3) := by decide +kernel
theorem dX10_cost_5 : decode cX10_cost 5 = .ok (.aload_n 0, 1) := by decide +kernel
theorem dX10_cost_6 : decode cX10_cost 6 = .ok (.iload_n 1, 1) := by decide +kernel
theorem dX10_cost_7 : decode cX10_cost 7 = .ok (.iload_n 2, 1) := by decide +kernel
theorem dX10_cost_8 : decode cX10_cost 8 = .ok (.iload 4, 2) := by decide +kernel
theorem dX10_cost_10 : decode cX10_cost 10 = .ok (.sipush 200, 3) := by decide +kernel
theorem dX10_cost_13 : decode cX10_cost 13 = .ok (.invokevirtual 447, 3) := by decide +kernel
theorem dX10_cost_16 : decode cX10_cost 16 = .ok (.ifCond .eq 20, 3) := by decide +kernel
theorem dX10_cost_19 : decode cX10_cost 19 = .ok (.iload 5, 2) := by decide +kernel
theorem dX10_cost_21 : decode cX10_cost 21 = .ok (.iconst 0, 1) := by decide +kernel
theorem dX10_cost_22 : decode cX10_cost 22 = .ok (.aload_n 0, 1) := by decide +kernel
theorem dX10_cost_23 : decode cX10_cost 23 = .ok (.getfield 32, 3) := by decide +kernel
theorem dX10_cost_26 : decode cX10_cost 26 = .ok (.iload_n 1, 1) := by decide +kernel
theorem dX10_cost_27 : decode cX10_cost 27 = .ok (.iaload, 1) := by decide +kernel
theorem dX10_cost_28 : decode cX10_cost 28 = .ok (.iconst 1, 1) := by decide +kernel
theorem dX10_cost_29 : decode cX10_cost 29 = .ok (.isub, 1) := by decide +kernel
theorem dX10_cost_30 : decode cX10_cost 30 = .ok (.invokestatic 129, 3) := by decide +kernel
theorem dX10_cost_33 : decode cX10_cost 33 = .ok (.ifCond .ne 7, 3) := by decide +kernel
theorem dX10_cost_36 : decode cX10_cost 36 = .ok (.ldc_w 457, 3) := by decide +kernel
theorem dX10_cost_39 : decode cX10_cost 39 = .ok (.ireturn, 1) := by decide +kernel
theorem dX10_cost_40 : decode cX10_cost 40 = .ok (.aload_n 0, 1) := by decide +kernel
theorem dX10_cost_41 : decode cX10_cost 41 = .ok (.iconst 4, 1) := by decide +kernel
theorem dX10_cost_42 : decode cX10_cost 42 = .ok (.iload_n 1, 1) := by decide +kernel
theorem dX10_cost_43 : decode cX10_cost 43 = .ok (.iload_n 2, 1) := by decide +kernel
theorem dX10_cost_44 : decode cX10_cost 44 = .ok (.iload_n 3, 1) := by decide +kernel
theorem dX10_cost_45 : decode cX10_cost 45 = .ok (.bipush 12, 2) := by decide +kernel
theorem dX10_cost_47 : decode cX10_cost 47 = .ok (.iconst (-1), 1) := by decide +kernel
theorem dX10_cost_48 : decode cX10_cost 48 = .ok (.invokevirtual 420, 3) := by decide +kernel
theorem dX10_cost_51 : decode cX10_cost 51 = .ok (.aload_n 0, 1) := by decide +kernel
theorem dX10_cost_52 : decode cX10_cost 52 = .ok (.iload 4, 2) := by decide +kernel
theorem dX10_cost_54 : decode cX10_cost 54 = .ok (.invokevirtual 451, 3) := by decide +kernel
theorem dX10_cost_57 : decode cX10_cost 57 = .ok (.aload_n 0, 1) := by decide +kernel
theorem dX10_cost_58 : decode cX10_cost 58 = .ok (.iload 4, 2) := by decide +kernel
theorem dX10_cost_60 : decode cX10_cost 60 = .ok (.iload 5, 2) := by decide +kernel
theorem dX10_cost_62 : decode cX10_cost 62 = .ok (.invokevirtual 458, 3) := by decide +kernel
theorem dX10_cost_65 : decode cX10_cost 65 = .ok (.istore 6, 2) := by decide +kernel
theorem dX10_cost_67 : decode cX10_cost 67 = .ok (.aload_n 0, 1) := by decide +kernel
theorem dX10_cost_68 : decode cX10_cost 68 = .ok (.iconst 4, 1) := by decide +kernel
theorem dX10_cost_69 : decode cX10_cost 69 = .ok (.iload_n 1, 1) := by decide +kernel
theorem dX10_cost_70 : decode cX10_cost 70 = .ok (.iload_n 2, 1) := by decide +kernel
theorem dX10_cost_71 : decode cX10_cost 71 = .ok (.iload_n 3, 1) := by decide +kernel
theorem dX10_cost_72 : decode cX10_cost 72 = .ok (.bipush 12, 2) := by decide +kernel
theorem dX10_cost_74 : decode cX10_cost 74 = .ok (.iload 5, 2) := by decide +kernel
theorem dX10_cost_76 : decode cX10_cost 76 = .ok (.invokevirtual 420, 3) := by decide +kernel
theorem dX10_cost_79 : decode cX10_cost 79 = .ok (.aload_n 0, 1) := by decide +kernel
theorem dX10_cost_80 : decode cX10_cost 80 = .ok (.iload 4, 2) := by decide +kernel
theorem dX10_cost_82 : decode cX10_cost 82 = .ok (.invokevirtual 451, 3) := by decide +kernel
theorem dX10_cost_85 : decode cX10_cost 85 = .ok (.iload 6, 2) := by decide +kernel
theorem dX10_cost_87 : decode cX10_cost 87 = .ok (.aload_n 0, 1) := by decide +kernel
theorem dX10_cost_88 : decode cX10_cost 88 = .ok (.iload 4, 2) := by decide +kernel
theorem dX10_cost_90 : decode cX10_cost 90 = .ok (.iload 5, 2) := by decide +kernel
theorem dX10_cost_92 : decode cX10_cost 92 = .ok (.invokevirtual 458, 3) := by decide +kernel
theorem dX10_cost_95 : decode cX10_cost 95 = .ok (.isub, 1) := by decide +kernel
theorem dX10_cost_96 : decode cX10_cost 96 = .ok (.ireturn, 1) := by decide +kernel
theorem dX10_count_0 : decode cX10_count 0 = .ok (.aload_n 0, 1) := by decide +kernel
theorem dX10_count_1 : decode cX10_count 1 = .ok (.iconst 0, 1) := by decide +kernel
theorem dX10_count_2 : decode cX10_count 2 = .ok (.putfield 121, 3) := by decide +kernel
theorem dX10_count_5 : decode cX10_count 5 = .ok (.iload_n 1, 1) := by decide +kernel
theorem dX10_count_6 : decode cX10_count 6 = .ok (.ifCond .ne 12, 3) := by decide +kernel
theorem dX10_count_9 : decode cX10_count 9 = .ok (.aload_n 0, 1) := by decide +kernel
theorem dX10_count_10 : decode cX10_count 10 = .ok (.getfield 23, 3) := by decide +kernel
theorem dX10_count_13 : decode cX10_count 13 = .ok (.iconst 0, 1) := by decide +kernel
theorem dX10_count_14 : decode cX10_count 14 = .ok (.iaload, 1) := by decide +kernel
theorem dX10_count_15 : decode cX10_count 15 = .ok (.goto 40, 3) := by decide +kernel
theorem dX10_count_18 : decode cX10_count 18 = .ok (.iload_n 1, 1) := by decide +kernel
theorem dX10_count_19 : decode cX10_count 19 = .ok (.iconst 1, 1) := by decide +kernel
theorem dX10_count_20 : decode cX10_count 20 = .ok (.if_icmp .ne 12, 3) := by decide +kernel
theorem dX10_count_23 : decode cX10_count 23 = .ok (.aload_n 0, 1) := by decide +kernel
theorem dX10_count_24 : decode cX10_count 24 = .ok (.getfield 44, 3) := by decide +kernel
theorem dX10_count_27 : decode cX10_count 27 = .ok (.iconst 0, 1) := by decide +kernel
theorem dX10_count_28 : decode cX10_count 28 = .ok (.iaload, 1) := by decide +kernel
theorem dX10_count_29 : decode cX10_count 29 = .ok (.goto 26, 3) := by decide +kernel
theorem dX10_count_32 : decode cX10_count 32 = .ok (.iload_n 1, 1) := by decide +kernel
theorem dX10_count_33 : decode cX10_count 33 = .ok (.iconst 2, 1) := by decide +kernel
theorem dX10_count_34 : decode cX10_count 34 = .ok (.bipush 9, 2) := by decide +kernel
theorem dX10_count_36 : decode cX10_count 36 = .ok (.invokestatic 129, 3) := by decide +kernel
theorem dX10_count_39 : decode cX10_count 39 = .ok (.ifCond .eq 14, 3) := by decide +kernel
theorem dX10_count_42 : decode cX10_count 42 = .ok (.aload_n 0, 1) := by decide +kernel
theorem dX10_count_43 : decode cX10_count 43 = .ok (.getfield 53, 3) := by decide +kernel
theorem dX10_count_46 : decode cX10_count 46 = .ok (.iload_n 1, 1) := by decide +kernel
theorem dX10_count_47 : decode cX10_count 47 = .ok (.iconst 2, 1) := by decide +kernel
theorem dX10_count_48 : decode cX10_count 48 = .ok (.isub, 1) := by decide +kernel
theorem dX10_count_49 : decode cX10_count 49 = .ok (.iaload, 1) := by decide +kernel
theorem dX10_count_50 : decode cX10_count 50 = .ok (.goto 5, 3) := by decide +kernel
theorem dX10_count_53 : decode cX10_count 53 = .ok (.bipush (-2), 2) := by decide +kernel
theorem dX10_count_55 : decode cX10_count 55 = .ok (.ireturn, 1) := by decide +kernel
theorem dX10_couple_0 : decode cX10_couple 0 = .ok (.aload_n 0, 1) := by decide +kernel
theorem dX10_couple_1 : decode cX10_couple 1 = .ok (.getfield 56, 3) := by decide +kernel
theorem dX10_couple_4 : decode cX10_couple 4 = .ok (.bipush 6, 2) := by decide +kernel
theorem dX10_couple_6 : decode cX10_couple 6 = .ok (.iload_n 1, 1) := by decide +kernel
theorem dX10_couple_7 : decode cX10_couple 7 = .ok (.imul, 1) := by decide +kernel
theorem dX10_couple_8 : decode cX10_couple 8 = .ok (.iload_n 2, 1) := by decide +kernel
theorem dX10_couple_9 : decode cX10_couple 9 = .ok (.iadd, 1) := by decide +kernel
theorem dX10_couple_10 : decode cX10_couple 10 = .ok (.iaload, 1) := by decide +kernel
theorem dX10_couple_11 : decode cX10_couple 11 = .ok (.aload_n 0, 1) := by decide +kernel
theorem dX10_couple_12 : decode cX10_couple 12 = .ok (.getfield 56, 3) := by decide +kernel
theorem dX10_couple_15 : decode cX10_couple 15 = .ok (.bipush 6, 2) := by decide +kernel
theorem dX10_couple_17 : decode cX10_couple 17 = .ok (.iload_n 1, 1) := by decide +kernel
theorem dX10_couple_18 : decode cX10_couple 18 = .ok (.iconst 1, 1) := by decide +kernel
theorem dX10_couple_19 : decode cX10_couple 19 = .ok (.iadd, 1) := by decide +kernel
theorem dX10_couple_20 : decode cX10_couple 20 = .ok (.imul, 1) := by decide +kernel
theorem dX10_couple_21 : decode cX10_couple 21 = .ok (.iload_n 3, 1) := by decide +kernel
theorem dX10_couple_22 : decode cX10_couple 22 = .ok (.iadd, 1) := by decide +kernel
theorem dX10_couple_23 : decode cX10_couple 23 = .ok (.iaload, 1) := by decide +kernel
theorem dX10_couple_24 : decode cX10_couple 24 = .ok (.isub, 1) := by decide +kernel
theorem dX10_couple_25 : decode cX10_couple 25 = .ok (.istore 4, 2) := by decide +kernel
theorem dX10_couple_27 : decode cX10_couple 27 = .ok (.aload_n 0, 1) := by decide +kernel
theorem dX10_couple_28 : decode cX10_couple 28 = .ok (.getfield 59, 3) := by decide +kernel
theorem dX10_couple_31 : decode cX10_couple 31 = .ok (.bipush 6, 2) := by decide +kernel
theorem dX10_couple_33 : decode cX10_couple 33 = .ok (.iload_n 1, 1) := by decide +kernel
theorem dX10_couple_34 : decode cX10_couple 34 = .ok (.imul, 1) := by decide +kernel
theorem dX10_couple_35 : decode cX10_couple 35 = .ok (.iload_n 2, 1) := by decide +kernel
theorem dX10_couple_36 : decode cX10_couple 36 = .ok (.iadd, 1) := by decide +kernel
theorem dX10_couple_37 : decode cX10_couple 37 = .ok (.iaload, 1) := by decide +kernel
theorem dX10_couple_38 : decode cX10_couple 38 = .ok (.aload_n 0, 1) := by decide +kernel
theorem dX10_couple_39 : decode cX10_couple 39 = .ok (.getfield 59, 3) := by decide +kernel
theorem dX10_couple_42 : decode cX10_couple 42 = .ok (.bipush 6, 2) := by decide +kernel
theorem dX10_couple_44 : decode cX10_couple 44 = .ok (.iload_n 1, 1) := by decide +kernel
theorem dX10_couple_45 : decode cX10_couple 45 = .ok (.iconst 1, 1) := by decide +kernel
theorem dX10_couple_46 : decode cX10_couple 46 = .ok (.iadd, 1) := by decide +kernel
theorem dX10_couple_47 : decode cX10_couple 47 = .ok (.imul, 1) := by decide +kernel
theorem dX10_couple_48 : decode cX10_couple 48 = .ok (.iload_n 3, 1) := by decide +kernel
theorem dX10_couple_49 : decode cX10_couple 49 = .ok (.iadd, 1) := by decide +kernel
theorem dX10_couple_50 : decode cX10_couple 50 = .ok (.iaload, 1) := by decide +kernel
theorem dX10_couple_51 : decode cX10_couple 51 = .ok (.isub, 1) := by decide +kernel
theorem dX10_couple_52 : decode cX10_couple 52 = .ok (.istore 5, 2) := by decide +kernel
theorem dX10_couple_54 : decode cX10_couple 54 = .ok (.iload 4, 2) := by decide +kernel
theorem dX10_couple_56 : decode cX10_couple 56 = .ok (.ifCond .ge 9, 3) := by decide +kernel
theorem dX10_couple_59 : decode cX10_couple 59 = .ok (.iload 4, 2) := by decide +kernel
theorem dX10_couple_61 : decode cX10_couple 61 = .ok (.ineg, 1) := by decide +kernel
theorem dX10_couple_62 : decode cX10_couple 62 = .ok (.goto 5, 3) := by decide +kernel
theorem dX10_couple_65 : decode cX10_couple 65 = .ok (.iload 4, 2) := by decide +kernel
theorem dX10_couple_67 : decode cX10_couple 67 = .ok (.iload 5, 2) := by decide +kernel
theorem dX10_couple_69 : decode cX10_couple 69 = .ok (.ifCond .ge 9, 3) := by decide +kernel
theorem dX10_couple_72 : decode cX10_couple 72 = .ok (.iload 5, 2) := by decide +kernel
theorem dX10_couple_74 : decode cX10_couple 74 = .ok (.ineg, 1) := by decide +kernel
theorem dX10_couple_75 : decode cX10_couple 75 = .ok (.goto 5, 3) := by decide +kernel
theorem dX10_couple_78 : decode cX10_couple 78 = .ok (.iload 5, 2) := by decide +kernel
theorem dX10_couple_80 : decode cX10_couple 80 = .ok (.iadd, 1) := by decide +kernel
theorem dX10_couple_81 : decode cX10_couple 81 = .ok (.ireturn, 1) := by decide +kernel
theorem dX10_dark_0 : decode cX10_dark 0 = .ok (.aload_n 0, 1) := by decide +kernel
theorem dX10_dark_1 : decode cX10_dark 1 = .ok (.iconst 0, 1) := by decide +kernel
theorem dX10_dark_2 : decode cX10_dark 2 = .ok (.putfield 121, 3) := by decide +kernel
theorem dX10_dark_5 : decode cX10_dark 5 = .ok (.iconst 0, 1) := by decide +kernel
theorem dX10_dark_6 : decode cX10_dark 6 = .ok (.istore_n 1, 1) := by decide +kernel
theorem dX10_dark_7 : decode cX10_dark 7 = .ok (.iconst 0, 1) := by decide +kernel
theorem dX10_dark_8 : decode cX10_dark 8 = .ok (.istore_n 2, 1) := by decide +kernel
theorem dX10_dark_9 : decode cX10_dark 9 = .ok (.iload_n 2, 1) := by decide +kernel
theorem dX10_dark_10 : decode cX10_dark 10 = .ok (.bipush 8, 2) := by decide +kernel
theorem dX10_dark_12 : decode cX10_dark 12 = .ok (.if_icmp .ge 25, 3) := by decide +kernel
theorem dX10_dark_15 : decode cX10_dark 15 = .ok (.iload_n 1, 1) := by decide +kernel
theorem dX10_dark_16 : decode cX10_dark 16 = .ok (.aload_n 0, 1) := by decide +kernel
theorem dX10_dark_17 : decode cX10_dark 17 = .ok (.getfield 53, 3) := by decide +kernel
theorem dX10_dark_20 : decode cX10_dark 20 = .ok (.iload_n 2, 1) := by decide +kernel
theorem dX10_dark_21 : decode cX10_dark 21 = .ok (.iaload, 1) := by decide +kernel
theorem dX10_dark_22 : decode cX10_dark 22 = .ok (.iadd, 1) := by decide +kernel
theorem dX10_dark_23 : decode cX10_dark 23 = .ok (.istore_n 1, 1) := by decide +kernel
theorem dX10_dark_24 : decode cX10_dark 24 = .ok (.aload_n 0, 1) := by decide +kernel
theorem dX10_dark_25 : decode cX10_dark 25 = .ok (.getfield 53, 3) := by decide +kernel
theorem dX10_dark_28 : decode cX10_dark 28 = .ok (.iload_n 2, 1) := by decide +kernel
theorem dX10_dark_29 : decode cX10_dark 29 = .ok (.iconst 0, 1) := by decide +kernel
theorem dX10_dark_30 : decode cX10_dark 30 = .ok (.iastore, 1) := by decide +kernel
theorem dX10_dark_31 : decode cX10_dark 31 = .ok (.iinc 2 1, 3) := by decide +kernel
theorem dX10_dark_34 : decode cX10_dark 34 = .ok (.goto (-25), 3) := by decide +kernel
theorem dX10_dark_37 : decode cX10_dark 37 = .ok (.iload_n 1, 1) := by decide +kernel
theorem dX10_dark_38 : decode cX10_dark 38 = .ok (.ireturn, 1) := by decide +kernel
theorem dX10_isRunner_0 : decode cX10_isRunner 0 = .ok (.aload_n 0, 1) := by decide +kernel
theorem dX10_isRunner_1 : decode cX10_isRunner 1 = .ok (.getfield 71, 3) := by decide +kernel
theorem dX10_isRunner_4 : decode cX10_isRunner 4 = .ok (.bipush 10, 2) := by decide +kernel
theorem dX10_isRunner_6 : decode cX10_isRunner 6 = .ok (.iaload, 1) := by decide +kernel
theorem dX10_isRunner_7 : decode cX10_isRunner 7 = .ok (.iconst 1, 1) := by decide +kernel
theorem dX10_isRunner_8 : decode cX10_isRunner 8 = .ok (.if_icmp .ne 23, 3) := by decide +kernel
theorem dX10_isRunner_11 : decode cX10_isRunner 11 = .ok (.iload_n 1, 1) := by decide +kernel
theorem dX10_isRunner_12 : decode cX10_isRunner 12 = .ok (.iconst 0, 1) := by decide +kernel
theorem dX10_isRunner_13 : decode cX10_isRunner 13 = .ok (.aload_n 0, 1) := by decide +kernel
theorem dX10_isRunner_14 : decode cX10_isRunner 14 = .ok (.getfield 71, 3) := by decide +kernel
theorem dX10_isRunner_17 : decode cX10_isRunner 17 = .ok (.iconst 2, 1) := by decide +kernel
theorem dX10_isRunner_18 : decode cX10_isRunner 18 = .ok (.iaload, 1) := by decide +kernel
theorem dX10_isRunner_19 : decode cX10_isRunner 19 = .ok (.iconst 1, 1) := by decide +kernel
theorem dX10_isRunner_20 : decode cX10_isRunner 20 = .ok (.isub, 1) := by decide +kernel
theorem dX10_isRunner_21 : decode cX10_isRunner 21 = .ok (.invokestatic 129, 3) := by decide +kernel
theorem dX10_isRunner_24 : decode cX10_isRunner 24 = .ok (.ifCond .eq 7, 3) := by decide +kernel
theorem dX10_isRunner_27 : decode cX10_isRunner 27 = .ok (.iconst 1, 1) := by decide +kernel
theorem dX10_isRunner_28 : decode cX10_isRunner 28 = .ok (.goto 4, 3) := by decide +kernel
theorem dX10_isRunner_31 : decode cX10_isRunner 31 = .ok (.iconst 0, 1) := by decide +kernel
theorem dX10_isRunner_32 : decode cX10_isRunner 32 = .ok (.ireturn, 1) := by decide +kernel
theorem dX10_does_0 : decode cX10_does 0 = .ok (.aload_n 0, 1) := by decide +kernel
theorem dX10_does_1 : decode cX10_does 1 = .ok (.iconst 0, 1) := by decide +kernel
theorem dX10_does_2 : decode cX10_does 2 = .ok (.putfield 121, 3) := by decide +kernel
theorem dX10_does_5 : decode cX10_does 5 = .ok (.aload_n 0, 1) := by decide +kernel
theorem dX10_does_6 : decode cX10_does 6 = .ok (.iload_n 1, 1) := by decide +kernel
theorem dX10_does_7 : decode cX10_does 7 = .ok (.invokevirtual 428, 3) := by decide +kernel
theorem dX10_does_10 : decode cX10_does 10 = .ok (.ifCond .eq 21, 3) := by decide +kernel
theorem dX10_does_13 : decode cX10_does 13 = .ok (.aload_n 0, 1) := by decide +kernel
theorem dX10_does_14 : decode cX10_does 14 = .ok (.iconst 0, 1) := by decide +kernel
theorem dX10_does_15 : decode cX10_does 15 = .ok (.iload_n 1, 1) := by decide +kernel
theorem dX10_does_16 : decode cX10_does 16 = .ok (.invokevirtual 392, 3) := by decide +kernel
theorem dX10_does_19 : decode cX10_does 19 = .ok (.ifCond .eq 12, 3) := by decide +kernel
theorem dX10_does_22 : decode cX10_does 22 = .ok (.aload_n 0, 1) := by decide +kernel
theorem dX10_does_23 : decode cX10_does 23 = .ok (.iconst 0, 1) := by decide +kernel
theorem dX10_does_24 : decode cX10_does 24 = .ok (.iload_n 1, 1) := by decide +kernel
theorem dX10_does_25 : decode cX10_does 25 = .ok (.invokevirtual 395, 3) := by decide +kernel
theorem dX10_does_28 : decode cX10_does 28 = .ok (.goto 4, 3) := by decide +kernel
theorem dX10_does_31 : decode cX10_does 31 = .ok (.iconst (-1), 1) := by decide +kernel
theorem dX10_does_32 : decode cX10_does 32 = .ok (.ireturn, 1) := by decide +kernel
theorem dX10_door_0 : decode cX10_door 0 = .ok (.aload_n 0, 1) := by decide +kernel
theorem dX10_door_1 : decode cX10_door 1 = .ok (.iconst 0, 1) := by decide +kernel
theorem dX10_door_2 : decode cX10_door 2 = .ok (.putfield 121, 3) := by decide +kernel
theorem dX10_door_5 : decode cX10_door 5 = .ok (.aload_n 0, 1) := by decide +kernel
theorem dX10_door_6 : decode cX10_door 6 = .ok (.getfield 71, 3) := by decide +kernel
theorem dX10_door_9 : decode cX10_door 9 = .ok (.bipush 10, 2) := by decide +kernel
theorem dX10_door_11 : decode cX10_door 11 = .ok (.iaload, 1) := by decide +kernel
theorem dX10_door_12 : decode cX10_door 12 = .ok (.ifCond .eq 19, 3) := by decide +kernel
theorem dX10_door_15 : decode cX10_door 15 = .ok (.iload_n 1, 1) := by decide +kernel
theorem dX10_door_16 : decode cX10_door 16 = .ok (.iconst 0, 1) := by decide +kernel
theorem dX10_door_17 : decode cX10_door 17 = .ok (.aload_n 0, 1) := by decide +kernel
theorem dX10_door_18 : decode cX10_door 18 = .ok (.getfield 71, 3) := by decide +kernel
theorem dX10_door_21 : decode cX10_door 21 = .ok (.iconst 0, 1) := by decide +kernel
theorem dX10_door_22 : decode cX10_door 22 = .ok (.iaload, 1) := by decide +kernel
theorem dX10_door_23 : decode cX10_door 23 = .ok (.iconst 2, 1) := by decide +kernel
theorem dX10_door_24 : decode cX10_door 24 = .ok (.isub, 1) := by decide +kernel
theorem dX10_door_25 : decode cX10_door 25 = .ok (.invokestatic 129, 3) := by decide +kernel
theorem dX10_door_28 : decode cX10_door 28 = .ok (.ifCond .ne 5, 3) := by decide +kernel
theorem dX10_door_31 : decode cX10_door 31 = .ok (.iconst (-1), 1) := by decide +kernel
theorem dX10_door_32 : decode cX10_door 32 = .ok (.ireturn, 1) := by decide +kernel
theorem dX10_door_33 : decode cX10_door 33 = .ok (.sipush 640, 3) := by decide +kernel
theorem dX10_door_36 : decode cX10_door 36 = .ok (.iconst 5, 1) := by decide +kernel
theorem dX10_door_37 : decode cX10_door 37 = .ok (.iload_n 1, 1) := by decide +kernel
theorem dX10_door_38 : decode cX10_door 38 = .ok (.imul, 1) := by decide +kernel
theorem dX10_door_39 : decode cX10_door 39 = .ok (.iadd, 1) := by decide +kernel
theorem dX10_door_40 : decode cX10_door 40 = .ok (.istore_n 3, 1) := by decide +kernel
theorem dX10_door_41 : decode cX10_door 41 = .ok (.iload_n 2, 1) := by decide +kernel
theorem dX10_door_42 : decode cX10_door 42 = .ok (.ifCond .ne 14, 3) := by decide +kernel
theorem dX10_door_45 : decode cX10_door 45 = .ok (.aload_n 0, 1) := by decide +kernel
theorem dX10_door_46 : decode cX10_door 46 = .ok (.getfield 71, 3) := by decide +kernel
theorem dX10_door_49 : decode cX10_door 49 = .ok (.iload_n 3, 1) := by decide +kernel
theorem dX10_door_50 : decode cX10_door 50 = .ok (.iconst 3, 1) := by decide +kernel
theorem dX10_door_51 : decode cX10_door 51 = .ok (.iadd, 1) := by decide +kernel
theorem dX10_door_52 : decode cX10_door 52 = .ok (.iaload, 1) := by decide +kernel
theorem dX10_door_53 : decode cX10_door 53 = .ok (.goto 36, 3) := by decide +kernel
theorem dX10_door_56 : decode cX10_door 56 = .ok (.iload_n 2, 1) := by decide +kernel
theorem dX10_door_57 : decode cX10_door 57 = .ok (.iconst 1, 1) := by decide +kernel
theorem dX10_door_58 : decode cX10_door 58 = .ok (.if_icmp .ne 14, 3) := by decide +kernel
theorem dX10_door_61 : decode cX10_door 61 = .ok (.aload_n 0, 1) := by decide +kernel
theorem dX10_door_62 : decode cX10_door 62 = .ok (.getfield 71, 3) := by decide +kernel
theorem dX10_door_65 : decode cX10_door 65 = .ok (.iload_n 3, 1) := by decide +kernel
theorem dX10_door_66 : decode cX10_door 66 = .ok (.iconst 2, 1) := by decide +kernel
theorem dX10_door_67 : decode cX10_door 67 = .ok (.iadd, 1) := by decide +kernel
theorem dX10_door_68 : decode cX10_door 68 = .ok (.iaload, 1) := by decide +kernel
theorem dX10_door_69 : decode cX10_door 69 = .ok (.goto 20, 3) := by decide +kernel
theorem dX10_door_72 : decode cX10_door 72 = .ok (.iload_n 2, 1) := by decide +kernel
theorem dX10_door_73 : decode cX10_door 73 = .ok (.iconst 2, 1) := by decide +kernel
theorem dX10_door_74 : decode cX10_door 74 = .ok (.if_icmp .ne 14, 3) := by decide +kernel
theorem dX10_door_77 : decode cX10_door 77 = .ok (.aload_n 0, 1) := by decide +kernel
theorem dX10_door_78 : decode cX10_door 78 = .ok (.getfield 71, 3) := by decide +kernel
theorem dX10_door_81 : decode cX10_door 81 = .ok (.iload_n 3, 1) := by decide +kernel
theorem dX10_door_82 : decode cX10_door 82 = .ok (.iconst 4, 1) := by decide +kernel
theorem dX10_door_83 : decode cX10_door 83 = .ok (.iadd, 1) := by decide +kernel
theorem dX10_door_84 : decode cX10_door 84 = .ok (.iaload, 1) := by decide +kernel
theorem dX10_door_85 : decode cX10_door 85 = .ok (.goto 4, 3) := by decide +kernel
theorem dX10_door_88 : decode cX10_door 88 = .ok (.iconst (-1), 1) := by decide +kernel
theorem dX10_door_89 : decode cX10_door 89 = .ok (.ireturn, 1) := by decide +kernel
theorem dX10_end_0 : decode cX10_end 0 = .ok (.aload_n 0, 1) := by decide +kernel
theorem dX10_end_1 : decode cX10_end 1 = .ok (.iconst 0, 1) := by decide +kernel
theorem dX10_end_2 : decode cX10_end 2 = .ok (.putfield 121, 3) := by decide +kernel
theorem dX10_end_5 : decode cX10_end 5 = .ok (.iload_n 1, 1) := by decide +kernel
theorem dX10_end_6 : decode cX10_end 6 = .ok (.iconst 0, 1) := by decide +kernel
theorem dX10_end_7 : decode cX10_end 7 = .ok (.aload_n 0, 1) := by decide +kernel
theorem dX10_end_8 : decode cX10_end 8 = .ok (.getfield 13, 3) := by decide +kernel
theorem dX10_end_11 : decode cX10_end 11 = .ok (.iconst 0, 1) := by decide +kernel
theorem dX10_end_12 : decode cX10_end 12 = .ok (.iaload, 1) := by decide +kernel
theorem dX10_end_13 : decode cX10_end 13 = .ok (.invokestatic 129, 3) := by decide +kernel
theorem dX10_end_16 : decode cX10_end 16 = .ok (.ifCond .ne 5, 3) := by decide +kernel
theorem dX10_end_19 : decode cX10_end 19 = .ok (.iconst (-1), 1) := by decide +kernel
theorem dX10_end_20 : decode cX10_end 20 = .ok (.ireturn, 1) := by decide +kernel
theorem dX10_end_21 : decode cX10_end 21 = .ok (.aload_n 0, 1) := by decide +kernel
theorem dX10_end_22 : decode cX10_end 22 = .ok (.getfield 13, 3) := by decide +kernel
theorem dX10_end_25 : decode cX10_end 25 = .ok (.iconst 0, 1) := by decide +kernel
theorem dX10_end_26 : decode cX10_end 26 = .ok (.iload_n 1, 1) := by decide +kernel
theorem dX10_end_27 : decode cX10_end 27 = .ok (.iastore, 1) := by decide +kernel
theorem dX10_end_28 : decode cX10_end 28 = .ok (.iload_n 1, 1) := by decide +kernel
theorem dX10_end_29 : decode cX10_end 29 = .ok (.ireturn, 1) := by decide +kernel
theorem dX10_fault_0 : decode cX10_fault 0 = .ok (.aload_n 0, 1) := by decide +kernel
theorem dX10_fault_1 : decode cX10_fault 1 = .ok (.iconst 0, 1) := by decide +kernel
theorem dX10_fault_2 : decode cX10_fault 2 = .ok (.putfield 121, 3) := by decide +kernel
theorem dX10_fault_5 : decode cX10_fault 5 = .ok (.iload_n 1, 1) := by decide +kernel
theorem dX10_fault_6 : decode cX10_fault 6 = .ok (.ifCond .ne 12, 3) := by decide +kernel
theorem dX10_fault_9 : decode cX10_fault 9 = .ok (.aload_n 0, 1) := by decide +kernel
theorem dX10_fault_10 : decode cX10_fault 10 = .ok (.getfield 17, 3) := by decide +kernel
theorem dX10_fault_13 : decode cX10_fault 13 = .ok (.iconst 0, 1) := by decide +kernel
theorem dX10_fault_14 : decode cX10_fault 14 = .ok (.iaload, 1) := by decide +kernel
theorem dX10_fault_15 : decode cX10_fault 15 = .ok (.goto 18, 3) := by decide +kernel
theorem dX10_fault_18 : decode cX10_fault 18 = .ok (.iload_n 1, 1) := by decide +kernel
theorem dX10_fault_19 : decode cX10_fault 19 = .ok (.iconst 1, 1) := by decide +kernel
theorem dX10_fault_20 : decode cX10_fault 20 = .ok (.if_icmp .ne 12, 3) := by decide +kernel
theorem dX10_fault_23 : decode cX10_fault 23 = .ok (.aload_n 0, 1) := by decide +kernel
theorem dX10_fault_24 : decode cX10_fault 24 = .ok (.getfield 20, 3) := by decide +kernel
theorem dX10_fault_27 : decode cX10_fault 27 = .ok (.iconst 0, 1) := by decide +kernel
theorem dX10_fault_28 : decode cX10_fault 28 = .ok (.iaload, 1) := by decide +kernel
theorem dX10_fault_29 : decode cX10_fault 29 = .ok (.goto 4, 3) := by decide +kernel
theorem dX10_fault_32 : decode cX10_fault 32 = .ok (.iconst (-1), 1) := by decide +kernel
theorem dX10_fault_33 : decode cX10_fault 33 = .ok (.ireturn, 1) := by decide +kernel
theorem dX10_four_0 : decode cX10_four 0 = .ok (.bipush 24, 2) := by decide +kernel
theorem dX10_four_2 : decode cX10_four 2 = .ok (.istore_n 2, 1) := by decide +kernel
theorem dX10_four_3 : decode cX10_four 3 = .ok (.iload_n 2, 1) := by decide +kernel
theorem dX10_four_4 : decode cX10_four 4 = .ok (.ifCond .lt 34, 3) := by decide +kernel
theorem dX10_four_7 : decode cX10_four 7 = .ok (.aload_n 0, 1) := by decide +kernel
theorem dX10_four_8 : decode cX10_four 8 = .ok (.getfield 7, 3) := by decide +kernel
theorem dX10_four_11 : decode cX10_four 11 = .ok (.aload_n 0, 1) := by decide +kernel
theorem dX10_four_12 : decode cX10_four 12 = .ok (.getfield 13, 3) := by decide +kernel
theorem dX10_four_15 : decode cX10_four 15 = .ok (.iconst 0, 1) := by decide +kernel
theorem dX10_four_16 : decode cX10_four 16 = .ok (.iaload, 1) := by decide +kernel
theorem dX10_four_17 : decode cX10_four 17 = .ok (.iload_n 1, 1) := by decide +kernel
theorem dX10_four_18 : decode cX10_four 18 = .ok (.iload_n 2, 1) := by decide +kernel
theorem dX10_four_19 : decode cX10_four 19 = .ok (.ishr, 1) := by decide +kernel
theorem dX10_four_20 : decode cX10_four 20 = .ok (.i2b, 1) := by decide +kernel
theorem dX10_four_21 : decode cX10_four 21 = .ok (.bastore, 1) := by decide +kernel
theorem dX10_four_22 : decode cX10_four 22 = .ok (.aload_n 0, 1) := by decide +kernel
theorem dX10_four_23 : decode cX10_four 23 = .ok (.getfield 13, 3) := by decide +kernel
theorem dX10_four_26 : decode cX10_four 26 = .ok (.iconst 0, 1) := by decide +kernel
theorem dX10_four_27 : decode cX10_four 27 = .ok (.dup2, 1) := by decide +kernel
theorem dX10_four_28 : decode cX10_four 28 = .ok (.iaload, 1) := by decide +kernel
theorem dX10_four_29 : decode cX10_four 29 = .ok (.iconst 1, 1) := by decide +kernel
theorem dX10_four_30 : decode cX10_four 30 = .ok (.iadd, 1) := by decide +kernel
theorem dX10_four_31 : decode cX10_four 31 = .ok (.iastore, 1) := by decide +kernel
theorem dX10_four_32 : decode cX10_four 32 = .ok (.iinc 2 (-8), 3) := by decide +kernel
theorem dX10_four_35 : decode cX10_four 35 = .ok (.goto (-32), 3) := by decide +kernel
theorem dX10_four_38 : decode cX10_four 38 = .ok (.return_, 1) := by decide +kernel
theorem dX10_feed_0 : decode cX10_feed 0 = .ok (.aload_n 0, 1) := by decide +kernel
theorem dX10_feed_1 : decode cX10_feed 1 = .ok (.iconst 0, 1) := by decide +kernel
theorem dX10_feed_2 : decode cX10_feed 2 = .ok (.putfield 121, 3) := by decide +kernel
theorem dX10_feed_5 : decode cX10_feed 5 = .ok (.aload_n 0, 1) := by decide +kernel
theorem dX10_feed_6 : decode cX10_feed 6 = .ok (.getfield 13, 3) := by decide +kernel
theorem dX10_feed_9 : decode cX10_feed 9 = .ok (.iconst 0, 1) := by decide +kernel
theorem dX10_feed_10 : decode cX10_feed 10 = .ok (.iaload, 1) := by decide +kernel
theorem dX10_feed_11 : decode cX10_feed 11 = .ok (.bipush 20, 2) := by decide +kernel
theorem dX10_feed_13 : decode cX10_feed 13 = .ok (.iadd, 1) := by decide +kernel
theorem dX10_feed_14 : decode cX10_feed 14 = .ok (.sipush 500, 3) := by decide +kernel
theorem dX10_feed_17 : decode cX10_feed 17 = .ok (.if_icmp .le 5, 3) := by decide +kernel
theorem dX10_feed_20 : decode cX10_feed 20 = .ok (.iconst (-1), 1) := by decide +kernel
theorem dX10_feed_21 : decode cX10_feed 21 = .ok (.ireturn, 1) := by decide +kernel
theorem dX10_feed_22 : decode cX10_feed 22 = .ok (.aload_n 0, 1) := by decide +kernel
theorem dX10_feed_23 : decode cX10_feed 23 = .ok (.iload_n 1, 1) := by decide +kernel
theorem dX10_feed_24 : decode cX10_feed 24 = .ok (.invokevirtual 133, 3) := by decide +kernel
theorem dX10_feed_27 : decode cX10_feed 27 = .ok (.aload_n 0, 1) := by decide +kernel
theorem dX10_feed_28 : decode cX10_feed 28 = .ok (.iload_n 2, 1) := by decide +kernel
theorem dX10_feed_29 : decode cX10_feed 29 = .ok (.invokevirtual 133, 3) := by decide +kernel
theorem dX10_feed_32 : decode cX10_feed 32 = .ok (.aload_n 0, 1) := by decide +kernel
theorem dX10_feed_33 : decode cX10_feed 33 = .ok (.iload_n 3, 1) := by decide +kernel
theorem dX10_feed_34 : decode cX10_feed 34 = .ok (.invokevirtual 133, 3) := by decide +kernel
theorem dX10_feed_37 : decode cX10_feed 37 = .ok (.aload_n 0, 1) := by decide +kernel
theorem dX10_feed_38 : decode cX10_feed 38 = .ok (.iload 4, 2) := by decide +kernel
theorem dX10_feed_40 : decode cX10_feed 40 = .ok (.invokevirtual 133, 3) := by decide +kernel
theorem dX10_feed_43 : decode cX10_feed 43 = .ok (.aload_n 0, 1) := by decide +kernel
theorem dX10_feed_44 : decode cX10_feed 44 = .ok (.iload 5, 2) := by decide +kernel
theorem dX10_feed_46 : decode cX10_feed 46 = .ok (.invokevirtual 133, 3) := by decide +kernel
theorem dX10_feed_49 : decode cX10_feed 49 = .ok (.aload_n 0, 1) := by decide +kernel
theorem dX10_feed_50 : decode cX10_feed 50 = .ok (.getfield 13, 3) := by decide +kernel
theorem dX10_feed_53 : decode cX10_feed 53 = .ok (.iconst 0, 1) := by decide +kernel
theorem dX10_feed_54 : decode cX10_feed 54 = .ok (.iaload, 1) := by decide +kernel
theorem dX10_feed_55 : decode cX10_feed 55 = .ok (.ireturn, 1) := by decide +kernel
theorem dX10_ones_0 : decode cX10_ones 0 = .ok (.iconst 0, 1) := by decide +kernel
theorem dX10_ones_1 : decode cX10_ones 1 = .ok (.istore_n 1, 1) := by decide +kernel
theorem dX10_ones_2 : decode cX10_ones 2 = .ok (.iconst 0, 1) := by decide +kernel
theorem dX10_ones_3 : decode cX10_ones 3 = .ok (.istore_n 2, 1) := by decide +kernel
theorem dX10_ones_4 : decode cX10_ones 4 = .ok (.iload_n 2, 1) := by decide +kernel
theorem dX10_ones_5 : decode cX10_ones 5 = .ok (.bipush 6, 2) := by decide +kernel
theorem dX10_ones_7 : decode cX10_ones 7 = .ok (.if_icmp .ge 17, 3) := by decide +kernel
theorem dX10_ones_10 : decode cX10_ones 10 = .ok (.iload_n 1, 1) := by decide +kernel
theorem dX10_ones_11 : decode cX10_ones 11 = .ok (.iload_n 0, 1) := by decide +kernel
theorem dX10_ones_12 : decode cX10_ones 12 = .ok (.iload_n 2, 1) := by decide +kernel
theorem dX10_ones_13 : decode cX10_ones 13 = .ok (.ishr, 1) := by decide +kernel
theorem dX10_ones_14 : decode cX10_ones 14 = .ok (.iconst 1, 1) := by decide +kernel
theorem dX10_ones_15 : decode cX10_ones 15 = .ok (.iand, 1) := by decide +kernel
theorem dX10_ones_16 : decode cX10_ones 16 = .ok (.iadd, 1) := by decide +kernel
theorem dX10_ones_17 : decode cX10_ones 17 = .ok (.istore_n 1, 1) := by decide +kernel
theorem dX10_ones_18 : decode cX10_ones 18 = .ok (.iinc 2 1, 3) := by decide +kernel
theorem dX10_ones_21 : decode cX10_ones 21 = .ok (.goto (-17), 3) := by decide +kernel
theorem dX10_ones_24 : decode cX10_ones 24 = .ok (.iload_n 1, 1) := by decide +kernel
theorem dX10_ones_25 : decode cX10_ones 25 = .ok (.ireturn, 1) := by decide +kernel
theorem dX10_findMatch_0 : decode cX10_findMatch 0 = .ok (.aload_n 0, 1) := by decide +kernel
theorem dX10_findMatch_1 : decode cX10_findMatch 1 = .ok (.getfield 53, 3) := by decide +kernel
theorem dX10_findMatch_4 : decode cX10_findMatch 4 = .ok (.iload_n 1, 1) := by decide +kernel
theorem dX10_findMatch_5 : decode cX10_findMatch 5 = .ok (.iaload, 1) := by decide +kernel
theorem dX10_findMatch_6 : decode cX10_findMatch 6 = .ok (.istore_n 3, 1) := by decide +kernel
theorem dX10_findMatch_7 : decode cX10_findMatch 7 = .ok (.iconst 1, 1) := by decide +kernel
theorem dX10_findMatch_8 : decode cX10_findMatch 8 = .ok (.aload_n 0, 1) := by decide +kernel
theorem dX10_findMatch_9 : decode cX10_findMatch 9 = .ok (.getfield 53, 3) := by decide +kernel
theorem dX10_findMatch_12 : decode cX10_findMatch 12 = .ok (.iload_n 1, 1) := by decide +kernel
theorem dX10_findMatch_13 : decode cX10_findMatch 13 = .ok (.iconst 1, 1) := by decide +kernel
theorem dX10_findMatch_14 : decode cX10_findMatch 14 = .ok (.iadd, 1) := by decide +kernel
theorem dX10_findMatch_15 : decode cX10_findMatch 15 = .ok (.iaload, 1) := by decide +kernel
theorem dX10_findMatch_16 : decode cX10_findMatch 16 = .ok (.ishl, 1) := by decide +kernel
theorem dX10_findMatch_17 : decode cX10_findMatch 17 = .ok (.istore 4, 2) := by decide +kernel
theorem dX10_findMatch_19 : decode cX10_findMatch 19 = .ok (.iconst 0, 1) := by decide +kernel
theorem dX10_findMatch_20 : decode cX10_findMatch 20 = .ok (.istore 5, 2) := by decide +kernel
theorem dX10_findMatch_22 : decode cX10_findMatch 22 = .ok (.iload 5, 2) := by decide +kernel
theorem dX10_findMatch_24 : decode cX10_findMatch 24 = .ok (.iload 4, 2) := by decide +kernel
theorem dX10_findMatch_26 : decode cX10_findMatch 26 = .ok (.if_icmp .ge 28, 3) := by decide +kernel
theorem dX10_findMatch_29 : decode cX10_findMatch 29 = .ok (.aload_n 0, 1) := by decide +kernel
theorem dX10_findMatch_30 : decode cX10_findMatch 30 = .ok (.getfield 107, 3) := by decide +kernel
theorem dX10_findMatch_33 : decode cX10_findMatch 33 = .ok (.bipush 64, 2) := by decide +kernel
theorem dX10_findMatch_35 : decode cX10_findMatch 35 = .ok (.iload_n 3, 1) := by decide +kernel
theorem dX10_findMatch_36 : decode cX10_findMatch 36 = .ok (.imul, 1) := by decide +kernel
theorem dX10_findMatch_37 : decode cX10_findMatch 37 = .ok (.iload 5, 2) := by decide +kernel
theorem dX10_findMatch_39 : decode cX10_findMatch 39 = .ok (.iadd, 1) := by decide +kernel
theorem dX10_findMatch_40 : decode cX10_findMatch 40 = .ok (.iload_n 2, 1) := by decide +kernel
theorem dX10_findMatch_41 : decode cX10_findMatch 41 = .ok (.iload 5, 2) := by decide +kernel
theorem dX10_findMatch_43 : decode cX10_findMatch 43 = .ok (.invokestatic 476, 3) := by decide +kernel
theorem dX10_findMatch_46 : decode cX10_findMatch 46 = .ok (.imul, 1) := by decide +kernel
theorem dX10_findMatch_47 : decode cX10_findMatch 47 = .ok (.iastore, 1) := by decide +kernel
theorem dX10_findMatch_48 : decode cX10_findMatch 48 = .ok (.iinc 5 1, 3) := by decide +kernel
theorem dX10_findMatch_51 : decode cX10_findMatch 51 = .ok (.goto (-29), 3) := by decide +kernel
theorem dX10_findMatch_54 : decode cX10_findMatch 54 = .ok (.iload_n 3, 1) := by decide +kernel
theorem dX10_findMatch_55 : decode cX10_findMatch 55 = .ok (.iconst 1, 1) := by decide +kernel
theorem dX10_findMatch_56 : decode cX10_findMatch 56 = .ok (.isub, 1) := by decide +kernel
theorem dX10_findMatch_57 : decode cX10_findMatch 57 = .ok (.istore 5, 2) := by decide +kernel
theorem dX10_findMatch_59 : decode cX10_findMatch 59 = .ok (.iload 5, 2) := by decide +kernel
theorem dX10_findMatch_61 : decode cX10_findMatch 61 = .ok (.ifCond .lt 144, 3) := by decide +kernel
theorem dX10_findMatch_64 : decode cX10_findMatch 64 = .ok (.iconst 0, 1) := by decide +kernel
theorem dX10_findMatch_65 : decode cX10_findMatch 65 = .ok (.istore 6, 2) := by decide +kernel
theorem dX10_findMatch_67 : decode cX10_findMatch 67 = .ok (.iload 6, 2) := by decide +kernel
theorem dX10_findMatch_69 : decode cX10_findMatch 69 = .ok (.iload 4, 2) := by decide +kernel
theorem dX10_findMatch_71 : decode cX10_findMatch 71 = .ok (.if_icmp .ge 128, 3) := by decide +kernel
theorem dX10_findMatch_74 : decode cX10_findMatch 74 = .ok (.iload_n 2, 1) := by decide +kernel
theorem dX10_findMatch_75 : decode cX10_findMatch 75 = .ok (.aload_n 0, 1) := by decide +kernel
theorem dX10_findMatch_76 : decode cX10_findMatch 76 = .ok (.getfield 107, 3) := by decide +kernel
theorem dX10_findMatch_79 : decode cX10_findMatch 79 = .ok (.bipush 64, 2) := by decide +kernel
theorem dX10_findMatch_81 : decode cX10_findMatch 81 = .ok (.iload 5, 2) := by decide +kernel
theorem dX10_findMatch_83 : decode cX10_findMatch 83 = .ok (.iconst 1, 1) := by decide +kernel
theorem dX10_findMatch_84 : decode cX10_findMatch 84 = .ok (.iadd, 1) := by decide +kernel
theorem dX10_findMatch_85 : decode cX10_findMatch 85 = .ok (.imul, 1) := by decide +kernel
theorem dX10_findMatch_86 : decode cX10_findMatch 86 = .ok (.iload 6, 2) := by decide +kernel
theorem dX10_findMatch_88 : decode cX10_findMatch 88 = .ok (.iadd, 1) := by decide +kernel
theorem dX10_findMatch_89 : decode cX10_findMatch 89 = .ok (.iaload, 1) := by decide +kernel
theorem dX10_findMatch_90 : decode cX10_findMatch 90 = .ok (.iadd, 1) := by decide +kernel
theorem dX10_findMatch_91 : decode cX10_findMatch 91 = .ok (.istore 7, 2) := by decide +kernel
theorem dX10_findMatch_93 : decode cX10_findMatch 93 = .ok (.iconst 0, 1) := by decide +kernel
theorem dX10_findMatch_94 : decode cX10_findMatch 94 = .ok (.istore 8, 2) := by decide +kernel
theorem dX10_findMatch_96 : decode cX10_findMatch 96 = .ok (.iload 8, 2) := by decide +kernel
theorem dX10_findMatch_98 : decode cX10_findMatch 98 = .ok (.aload_n 0, 1) := by decide +kernel
theorem dX10_findMatch_99 : decode cX10_findMatch 99 = .ok (.getfield 53, 3) := by decide +kernel
theorem dX10_findMatch_102 : decode cX10_findMatch 102 = .ok (.iload_n 1, 1) := by decide +kernel
theorem dX10_findMatch_103 : decode cX10_findMatch 103 = .ok (.iconst 1, 1) := by decide +kernel
theorem dX10_findMatch_104 : decode cX10_findMatch 104 = .ok (.iadd, 1) := by decide +kernel
theorem dX10_findMatch_105 : decode cX10_findMatch 105 = .ok (.iaload, 1) := by decide +kernel
theorem dX10_findMatch_106 : decode cX10_findMatch 106 = .ok (.if_icmp .ge 72, 3) := by decide +kernel
theorem dX10_findMatch_109 : decode cX10_findMatch 109 = .ok (.iload 6, 2) := by decide +kernel
theorem dX10_findMatch_111 : decode cX10_findMatch 111 = .ok (.iload 8, 2) := by decide +kernel
theorem dX10_findMatch_113 : decode cX10_findMatch 113 = .ok (.ishr, 1) := by decide +kernel
theorem dX10_findMatch_114 : decode cX10_findMatch 114 = .ok (.iconst 1, 1) := by decide +kernel
theorem dX10_findMatch_115 : decode cX10_findMatch 115 = .ok (.iand, 1) := by decide +kernel
theorem dX10_findMatch_116 : decode cX10_findMatch 116 = .ok (.ifCond .ne 8, 3) := by decide +kernel
theorem dX10_findMatch_119 : decode cX10_findMatch 119 = .ok (.iload 7, 2) := by decide +kernel
theorem dX10_findMatch_121 : decode cX10_findMatch 121 = .ok (.goto 33, 3) := by decide +kernel
theorem dX10_findMatch_124 : decode cX10_findMatch 124 = .ok (.aload_n 0, 1) := by decide +kernel
theorem dX10_findMatch_125 : decode cX10_findMatch 125 = .ok (.iload_n 1, 1) := by decide +kernel
theorem dX10_findMatch_126 : decode cX10_findMatch 126 = .ok (.iload 5, 2) := by decide +kernel
theorem dX10_findMatch_128 : decode cX10_findMatch 128 = .ok (.iload 8, 2) := by decide +kernel
theorem dX10_findMatch_130 : decode cX10_findMatch 130 = .ok (.invokevirtual 479, 3) := by decide +kernel
theorem dX10_findMatch_133 : decode cX10_findMatch 133 = .ok (.aload_n 0, 1) := by decide +kernel
theorem dX10_findMatch_134 : decode cX10_findMatch 134 = .ok (.getfield 107, 3) := by decide +kernel
theorem dX10_findMatch_137 : decode cX10_findMatch 137 = .ok (.bipush 64, 2) := by decide +kernel
theorem dX10_findMatch_139 : decode cX10_findMatch 139 = .ok (.iload 5, 2) := by decide +kernel
theorem dX10_findMatch_141 : decode cX10_findMatch 141 = .ok (.iconst 1, 1) := by decide +kernel
theorem dX10_findMatch_142 : decode cX10_findMatch 142 = .ok (.iadd, 1) := by decide +kernel
theorem dX10_findMatch_143 : decode cX10_findMatch 143 = .ok (.imul, 1) := by decide +kernel
theorem dX10_findMatch_144 : decode cX10_findMatch 144 = .ok (.iload 6, 2) := by decide +kernel
theorem dX10_findMatch_146 : decode cX10_findMatch 146 = .ok (.iadd, 1) := by decide +kernel
theorem dX10_findMatch_147 : decode cX10_findMatch 147 = .ok (.iconst 1, 1) := by decide +kernel
theorem dX10_findMatch_148 : decode cX10_findMatch 148 = .ok (.iload 8, 2) := by decide +kernel
theorem dX10_findMatch_150 : decode cX10_findMatch 150 = .ok (.ishl, 1) := by decide +kernel
theorem dX10_findMatch_151 : decode cX10_findMatch 151 = .ok (.isub, 1) := by decide +kernel
theorem dX10_findMatch_152 : decode cX10_findMatch 152 = .ok (.iaload, 1) := by decide +kernel
theorem dX10_findMatch_153 : decode cX10_findMatch 153 = .ok (.iadd, 1) := by decide +kernel
theorem dX10_findMatch_154 : decode cX10_findMatch 154 = .ok (.istore 9, 2) := by decide +kernel
theorem dX10_findMatch_156 : decode cX10_findMatch 156 = .ok (.iload 9, 2) := by decide +kernel
theorem dX10_findMatch_158 : decode cX10_findMatch 158 = .ok (.iload 7, 2) := by decide +kernel
theorem dX10_findMatch_160 : decode cX10_findMatch 160 = .ok (.if_icmp .ge 8, 3) := by decide +kernel
theorem dX10_findMatch_163 : decode cX10_findMatch 163 = .ok (.iload 9, 2) := by decide +kernel
theorem dX10_findMatch_165 : decode cX10_findMatch 165 = .ok (.goto 5, 3) := by decide +kernel
theorem dX10_findMatch_168 : decode cX10_findMatch 168 = .ok (.iload 7, 2) := by decide +kernel
theorem dX10_findMatch_170 : decode cX10_findMatch 170 = .ok (.istore 7, 2) := by decide +kernel
theorem dX10_findMatch_172 : decode cX10_findMatch 172 = .ok (.iinc 8 1, 3) := by decide +kernel
theorem dX10_findMatch_175 : decode cX10_findMatch 175 = .ok (.goto (-79), 3) := by decide +kernel
theorem dX10_findMatch_178 : decode cX10_findMatch 178 = .ok (.aload_n 0, 1) := by decide +kernel
theorem dX10_findMatch_179 : decode cX10_findMatch 179 = .ok (.getfield 107, 3) := by decide +kernel
theorem dX10_findMatch_182 : decode cX10_findMatch 182 = .ok (.bipush 64, 2) := by decide +kernel
theorem dX10_findMatch_184 : decode cX10_findMatch 184 = .ok (.iload 5, 2) := by decide +kernel
theorem dX10_findMatch_186 : decode cX10_findMatch 186 = .ok (.imul, 1) := by decide +kernel
theorem dX10_findMatch_187 : decode cX10_findMatch 187 = .ok (.iload 6, 2) := by decide +kernel
theorem dX10_findMatch_189 : decode cX10_findMatch 189 = .ok (.iadd, 1) := by decide +kernel
theorem dX10_findMatch_190 : decode cX10_findMatch 190 = .ok (.iload 7, 2) := by decide +kernel
theorem dX10_findMatch_192 : decode cX10_findMatch 192 = .ok (.iastore, 1) := by decide +kernel
theorem dX10_findMatch_193 : decode cX10_findMatch 193 = .ok (.iinc 6 1, 3) := by decide +kernel
theorem dX10_findMatch_196 : decode cX10_findMatch 196 = .ok (.goto (-129), 3) := by decide +kernel
theorem dX10_findMatch_199 : decode cX10_findMatch 199 = .ok (.iinc 5 (-1), 3) := by decide +kernel
theorem dX10_findMatch_202 : decode cX10_findMatch 202 = .ok (.goto (-143), 3) := by decide +kernel
theorem dX10_findMatch_205 : decode cX10_findMatch 205 = .ok (.aload_n 0, 1) := by decide +kernel
theorem dX10_findMatch_206 : decode cX10_findMatch 206 = .ok (.aload_n 0, 1) := by decide +kernel
theorem dX10_findMatch_207 : decode cX10_findMatch 207 = .ok (.getfield 107, 3) := by decide +kernel
theorem dX10_findMatch_210 : decode cX10_findMatch 210 = .ok (.iload 4, 2) := by decide +kernel
theorem dX10_findMatch_212 : decode cX10_findMatch 212 = .ok (.iconst 1, 1) := by decide +kernel
theorem dX10_findMatch_213 : decode cX10_findMatch 213 = .ok (.isub, 1) := by decide +kernel
theorem dX10_findMatch_214 : decode cX10_findMatch 214 = .ok (.iaload, 1) := by decide +kernel
theorem dX10_findMatch_215 : decode cX10_findMatch 215 = .ok (.putfield 482, 3) := by decide +kernel
theorem dX10_findMatch_218 : decode cX10_findMatch 218 = .ok (.iload 4, 2) := by decide +kernel
theorem dX10_findMatch_220 : decode cX10_findMatch 220 = .ok (.iconst 1, 1) := by decide +kernel
theorem dX10_findMatch_221 : decode cX10_findMatch 221 = .ok (.isub, 1) := by decide +kernel
theorem dX10_findMatch_222 : decode cX10_findMatch 222 = .ok (.istore 5, 2) := by decide +kernel
theorem dX10_findMatch_224 : decode cX10_findMatch 224 = .ok (.iconst 0, 1) := by decide +kernel
theorem dX10_findMatch_225 : decode cX10_findMatch 225 = .ok (.istore 6, 2) := by decide +kernel
theorem dX10_findMatch_227 : decode cX10_findMatch 227 = .ok (.iload 6, 2) := by decide +kernel
theorem dX10_findMatch_229 : decode cX10_findMatch 229 = .ok (.iload_n 3, 1) := by decide +kernel
theorem dX10_findMatch_230 : decode cX10_findMatch 230 = .ok (.if_icmp .ge 156, 3) := by decide +kernel
theorem dX10_findMatch_233 : decode cX10_findMatch 233 = .ok (.aload_n 0, 1) := by decide +kernel
theorem dX10_findMatch_234 : decode cX10_findMatch 234 = .ok (.getfield 110, 3) := by decide +kernel
theorem dX10_findMatch_237 : decode cX10_findMatch 237 = .ok (.iload 6, 2) := by decide +kernel
theorem dX10_findMatch_239 : decode cX10_findMatch 239 = .ok (.iconst (-1), 1) := by decide +kernel
theorem dX10_findMatch_240 : decode cX10_findMatch 240 = .ok (.iastore, 1) := by decide +kernel
theorem dX10_findMatch_241 : decode cX10_findMatch 241 = .ok (.aload_n 0, 1) := by decide +kernel
theorem dX10_findMatch_242 : decode cX10_findMatch 242 = .ok (.getfield 53, 3) := by decide +kernel
theorem dX10_findMatch_245 : decode cX10_findMatch 245 = .ok (.iload_n 1, 1) := by decide +kernel
theorem dX10_findMatch_246 : decode cX10_findMatch 246 = .ok (.iconst 1, 1) := by decide +kernel
theorem dX10_findMatch_247 : decode cX10_findMatch 247 = .ok (.iadd, 1) := by decide +kernel
theorem dX10_findMatch_248 : decode cX10_findMatch 248 = .ok (.iaload, 1) := by decide +kernel
theorem dX10_findMatch_249 : decode cX10_findMatch 249 = .ok (.iconst 1, 1) := by decide +kernel
theorem dX10_findMatch_250 : decode cX10_findMatch 250 = .ok (.isub, 1) := by decide +kernel
theorem dX10_findMatch_251 : decode cX10_findMatch 251 = .ok (.istore 7, 2) := by decide +kernel
theorem dX10_findMatch_253 : decode cX10_findMatch 253 = .ok (.iload 7, 2) := by decide +kernel
theorem dX10_findMatch_255 : decode cX10_findMatch 255 = .ok (.ifCond .lt 96, 3) := by decide +kernel
theorem dX10_findMatch_258 : decode cX10_findMatch 258 = .ok (.iload 5, 2) := by decide +kernel
theorem dX10_findMatch_260 : decode cX10_findMatch 260 = .ok (.iload 7, 2) := by decide +kernel
theorem dX10_findMatch_262 : decode cX10_findMatch 262 = .ok (.ishr, 1) := by decide +kernel
theorem dX10_findMatch_263 : decode cX10_findMatch 263 = .ok (.iconst 1, 1) := by decide +kernel
theorem dX10_findMatch_264 : decode cX10_findMatch 264 = .ok (.iand, 1) := by decide +kernel
theorem dX10_findMatch_265 : decode cX10_findMatch 265 = .ok (.ifCond .eq 53, 3) := by decide +kernel
theorem dX10_findMatch_268 : decode cX10_findMatch 268 = .ok (.aload_n 0, 1) := by decide +kernel
theorem dX10_findMatch_269 : decode cX10_findMatch 269 = .ok (.iload_n 1, 1) := by decide +kernel
theorem dX10_findMatch_270 : decode cX10_findMatch 270 = .ok (.iload 6, 2) := by decide +kernel
theorem dX10_findMatch_272 : decode cX10_findMatch 272 = .ok (.iload 7, 2) := by decide +kernel
theorem dX10_findMatch_274 : decode cX10_findMatch 274 = .ok (.invokevirtual 479, 3) := by decide +kernel
theorem dX10_findMatch_277 : decode cX10_findMatch 277 = .ok (.aload_n 0, 1) := by decide +kernel
theorem dX10_findMatch_278 : decode cX10_findMatch 278 = .ok (.getfield 107, 3) := by decide +kernel
theorem dX10_findMatch_281 : decode cX10_findMatch 281 = .ok (.bipush 64, 2) := by decide +kernel
theorem dX10_findMatch_283 : decode cX10_findMatch 283 = .ok (.iload 6, 2) := by decide +kernel
theorem dX10_findMatch_285 : decode cX10_findMatch 285 = .ok (.iconst 1, 1) := by decide +kernel
theorem dX10_findMatch_286 : decode cX10_findMatch 286 = .ok (.iadd, 1) := by decide +kernel
theorem dX10_findMatch_287 : decode cX10_findMatch 287 = .ok (.imul, 1) := by decide +kernel
theorem dX10_findMatch_288 : decode cX10_findMatch 288 = .ok (.iload 5, 2) := by decide +kernel
theorem dX10_findMatch_290 : decode cX10_findMatch 290 = .ok (.iadd, 1) := by decide +kernel
theorem dX10_findMatch_291 : decode cX10_findMatch 291 = .ok (.iconst 1, 1) := by decide +kernel
theorem dX10_findMatch_292 : decode cX10_findMatch 292 = .ok (.iload 7, 2) := by decide +kernel
theorem dX10_findMatch_294 : decode cX10_findMatch 294 = .ok (.ishl, 1) := by decide +kernel
theorem dX10_findMatch_295 : decode cX10_findMatch 295 = .ok (.isub, 1) := by decide +kernel
theorem dX10_findMatch_296 : decode cX10_findMatch 296 = .ok (.iaload, 1) := by decide +kernel
theorem dX10_findMatch_297 : decode cX10_findMatch 297 = .ok (.iadd, 1) := by decide +kernel
theorem dX10_findMatch_298 : decode cX10_findMatch 298 = .ok (.aload_n 0, 1) := by decide +kernel
theorem dX10_findMatch_299 : decode cX10_findMatch 299 = .ok (.getfield 107, 3) := by decide +kernel
theorem dX10_findMatch_302 : decode cX10_findMatch 302 = .ok (.bipush 64, 2) := by decide +kernel
theorem dX10_findMatch_304 : decode cX10_findMatch 304 = .ok (.iload 6, 2) := by decide +kernel
theorem dX10_findMatch_306 : decode cX10_findMatch 306 = .ok (.imul, 1) := by decide +kernel
theorem dX10_findMatch_307 : decode cX10_findMatch 307 = .ok (.iload 5, 2) := by decide +kernel
theorem dX10_findMatch_309 : decode cX10_findMatch 309 = .ok (.iadd, 1) := by decide +kernel
theorem dX10_findMatch_310 : decode cX10_findMatch 310 = .ok (.iaload, 1) := by decide +kernel
theorem dX10_findMatch_311 : decode cX10_findMatch 311 = .ok (.if_icmp .ne 7, 3) := by decide +kernel
theorem dX10_findMatch_314 : decode cX10_findMatch 314 = .ok (.iconst 1, 1) := by decide +kernel
theorem dX10_findMatch_315 : decode cX10_findMatch 315 = .ok (.goto 4, 3) := by decide +kernel
theorem dX10_findMatch_318 : decode cX10_findMatch 318 = .ok (.iconst 0, 1) := by decide +kernel
theorem dX10_findMatch_319 : decode cX10_findMatch 319 = .ok (.istore 8, 2) := by decide +kernel
theorem dX10_findMatch_321 : decode cX10_findMatch 321 = .ok (.aload_n 0, 1) := by decide +kernel
theorem dX10_findMatch_322 : decode cX10_findMatch 322 = .ok (.getfield 110, 3) := by decide +kernel
theorem dX10_findMatch_325 : decode cX10_findMatch 325 = .ok (.iload 6, 2) := by decide +kernel
theorem dX10_findMatch_327 : decode cX10_findMatch 327 = .ok (.iload 8, 2) := by decide +kernel
theorem dX10_findMatch_329 : decode cX10_findMatch 329 = .ok (.ifCond .eq 8, 3) := by decide +kernel
theorem dX10_findMatch_332 : decode cX10_findMatch 332 = .ok (.iload 7, 2) := by decide +kernel
theorem dX10_findMatch_334 : decode cX10_findMatch 334 = .ok (.goto 10, 3) := by decide +kernel
theorem dX10_findMatch_337 : decode cX10_findMatch 337 = .ok (.aload_n 0, 1) := by decide +kernel
theorem dX10_findMatch_338 : decode cX10_findMatch 338 = .ok (.getfield 110, 3) := by decide +kernel
theorem dX10_findMatch_341 : decode cX10_findMatch 341 = .ok (.iload 6, 2) := by decide +kernel
theorem dX10_findMatch_343 : decode cX10_findMatch 343 = .ok (.iaload, 1) := by decide +kernel
theorem dX10_findMatch_344 : decode cX10_findMatch 344 = .ok (.iastore, 1) := by decide +kernel
theorem dX10_findMatch_345 : decode cX10_findMatch 345 = .ok (.iinc 7 (-1), 3) := by decide +kernel
theorem dX10_findMatch_348 : decode cX10_findMatch 348 = .ok (.goto (-95), 3) := by decide +kernel
theorem dX10_findMatch_351 : decode cX10_findMatch 351 = .ok (.iload 5, 2) := by decide +kernel
theorem dX10_findMatch_353 : decode cX10_findMatch 353 = .ok (.aload_n 0, 1) := by decide +kernel
theorem dX10_findMatch_354 : decode cX10_findMatch 354 = .ok (.getfield 110, 3) := by decide +kernel
theorem dX10_findMatch_357 : decode cX10_findMatch 357 = .ok (.iload 6, 2) := by decide +kernel
theorem dX10_findMatch_359 : decode cX10_findMatch 359 = .ok (.iaload, 1) := by decide +kernel
theorem dX10_findMatch_360 : decode cX10_findMatch 360 = .ok (.iconst (-1), 1) := by decide +kernel
theorem dX10_findMatch_361 : decode cX10_findMatch 361 = .ok (.if_icmp .ne 7, 3) := by decide +kernel
theorem dX10_findMatch_364 : decode cX10_findMatch 364 = .ok (.iconst 0, 1) := by decide +kernel
theorem dX10_findMatch_365 : decode cX10_findMatch 365 = .ok (.goto 12, 3) := by decide +kernel
theorem dX10_findMatch_368 : decode cX10_findMatch 368 = .ok (.iconst 1, 1) := by decide +kernel
theorem dX10_findMatch_369 : decode cX10_findMatch 369 = .ok (.aload_n 0, 1) := by decide +kernel
theorem dX10_findMatch_370 : decode cX10_findMatch 370 = .ok (.getfield 110, 3) := by decide +kernel
theorem dX10_findMatch_373 : decode cX10_findMatch 373 = .ok (.iload 6, 2) := by decide +kernel
theorem dX10_findMatch_375 : decode cX10_findMatch 375 = .ok (.iaload, 1) := by decide +kernel
theorem dX10_findMatch_376 : decode cX10_findMatch 376 = .ok (.ishl, 1) := by decide +kernel
theorem dX10_findMatch_377 : decode cX10_findMatch 377 = .ok (.isub, 1) := by decide +kernel
theorem dX10_findMatch_378 : decode cX10_findMatch 378 = .ok (.istore 5, 2) := by decide +kernel
theorem dX10_findMatch_380 : decode cX10_findMatch 380 = .ok (.iinc 6 1, 3) := by decide +kernel
theorem dX10_findMatch_383 : decode cX10_findMatch 383 = .ok (.goto (-156), 3) := by decide +kernel
theorem dX10_findMatch_386 : decode cX10_findMatch 386 = .ok (.return_, 1) := by decide +kernel
theorem dX10_layOver_0 : decode cX10_layOver 0 = .ok (.iconst 0, 1) := by decide +kernel
theorem dX10_layOver_1 : decode cX10_layOver 1 = .ok (.istore_n 3, 1) := by decide +kernel
theorem dX10_layOver_2 : decode cX10_layOver 2 = .ok (.iload_n 3, 1) := by decide +kernel
theorem dX10_layOver_3 : decode cX10_layOver 3 = .ok (.sipush 720, 3) := by decide +kernel
theorem dX10_layOver_6 : decode cX10_layOver 6 = .ok (.if_icmp .ge 33, 3) := by decide +kernel
theorem dX10_layOver_9 : decode cX10_layOver 9 = .ok (.aload_n 0, 1) := by decide +kernel
theorem dX10_layOver_10 : decode cX10_layOver 10 = .ok (.getfield 71, 3) := by decide +kernel
theorem dX10_layOver_13 : decode cX10_layOver 13 = .ok (.sipush 720, 3) := by decide +kernel
theorem dX10_layOver_16 : decode cX10_layOver 16 = .ok (.iload_n 2, 1) := by decide +kernel
theorem dX10_layOver_17 : decode cX10_layOver 17 = .ok (.imul, 1) := by decide +kernel
theorem dX10_layOver_18 : decode cX10_layOver 18 = .ok (.iload_n 3, 1) := by decide +kernel
theorem dX10_layOver_19 : decode cX10_layOver 19 = .ok (.iadd, 1) := by decide +kernel
theorem dX10_layOver_20 : decode cX10_layOver 20 = .ok (.aload_n 0, 1) := by decide +kernel
theorem dX10_layOver_21 : decode cX10_layOver 21 = .ok (.getfield 71, 3) := by decide +kernel
theorem dX10_layOver_24 : decode cX10_layOver 24 = .ok (.sipush 720, 3) := by decide +kernel
theorem dX10_layOver_27 : decode cX10_layOver 27 = .ok (.iload_n 1, 1) := by decide +kernel
theorem dX10_layOver_28 : decode cX10_layOver 28 = .ok (.imul, 1) := by decide +kernel
theorem dX10_layOver_29 : decode cX10_layOver 29 = .ok (.iload_n 3, 1) := by decide +kernel
theorem dX10_layOver_30 : decode cX10_layOver 30 = .ok (.iadd, 1) := by decide +kernel
theorem dX10_layOver_31 : decode cX10_layOver 31 = .ok (.iaload, 1) := by decide +kernel
theorem dX10_layOver_32 : decode cX10_layOver 32 = .ok (.iastore, 1) := by decide +kernel
theorem dX10_layOver_33 : decode cX10_layOver 33 = .ok (.iinc 3 1, 3) := by decide +kernel
theorem dX10_layOver_36 : decode cX10_layOver 36 = .ok (.goto (-34), 3) := by decide +kernel
theorem dX10_layOver_39 : decode cX10_layOver 39 = .ok (.return_, 1) := by decide +kernel
theorem dX10_findTwo_0 : decode cX10_findTwo 0 = .ok (.aload_n 0, 1) := by decide +kernel
theorem dX10_findTwo_1 : decode cX10_findTwo 1 = .ok (.iconst 0, 1) := by decide +kernel
theorem dX10_findTwo_2 : decode cX10_findTwo 2 = .ok (.putfield 438, 3) := by decide +kernel
theorem dX10_findTwo_5 : decode cX10_findTwo 5 = .ok (.iconst 0, 1) := by decide +kernel
theorem dX10_findTwo_6 : decode cX10_findTwo 6 = .ok (.istore_n 2, 1) := by decide +kernel
theorem dX10_findTwo_7 : decode cX10_findTwo 7 = .ok (.iload_n 2, 1) := by decide +kernel
theorem dX10_findTwo_8 : decode cX10_findTwo 8 = .ok (.bipush 9, 2) := by decide +kernel
theorem dX10_findTwo_10 : decode cX10_findTwo 10 = .ok (.if_icmp .ge 16, 3) := by decide +kernel
theorem dX10_findTwo_13 : decode cX10_findTwo 13 = .ok (.aload_n 0, 1) := by decide +kernel
theorem dX10_findTwo_14 : decode cX10_findTwo 14 = .ok (.getfield 101, 3) := by decide +kernel
theorem dX10_findTwo_17 : decode cX10_findTwo 17 = .ok (.iload_n 2, 1) := by decide +kernel
theorem dX10_findTwo_18 : decode cX10_findTwo 18 = .ok (.iconst 0, 1) := by decide +kernel
theorem dX10_findTwo_19 : decode cX10_findTwo 19 = .ok (.iastore, 1) := by decide +kernel
theorem dX10_findTwo_20 : decode cX10_findTwo 20 = .ok (.iinc 2 1, 3) := by decide +kernel
theorem dX10_findTwo_23 : decode cX10_findTwo 23 = .ok (.goto (-16), 3) := by decide +kernel
theorem dX10_findTwo_26 : decode cX10_findTwo 26 = .ok (.aload_n 0, 1) := by decide +kernel
theorem dX10_findTwo_27 : decode cX10_findTwo 27 = .ok (.iconst 1, 1) := by decide +kernel
theorem dX10_findTwo_28 : decode cX10_findTwo 28 = .ok (.putfield 385, 3) := by decide +kernel
theorem dX10_findTwo_31 : decode cX10_findTwo 31 = .ok (.iconst 0, 1) := by decide +kernel
theorem dX10_findTwo_32 : decode cX10_findTwo 32 = .ok (.istore_n 2, 1) := by decide +kernel
theorem dX10_findTwo_33 : decode cX10_findTwo 33 = .ok (.aload_n 0, 1) := by decide +kernel
theorem dX10_findTwo_34 : decode cX10_findTwo 34 = .ok (.getfield 98, 3) := by decide +kernel
theorem dX10_findTwo_37 : decode cX10_findTwo 37 = .ok (.iconst 0, 1) := by decide +kernel
theorem dX10_findTwo_38 : decode cX10_findTwo 38 = .ok (.iconst 1, 1) := by decide +kernel
theorem dX10_findTwo_39 : decode cX10_findTwo 39 = .ok (.iastore, 1) := by decide +kernel
theorem dX10_findTwo_40 : decode cX10_findTwo 40 = .ok (.aload_n 0, 1) := by decide +kernel
theorem dX10_findTwo_41 : decode cX10_findTwo 41 = .ok (.getfield 92, 3) := by decide +kernel
theorem dX10_findTwo_44 : decode cX10_findTwo 44 = .ok (.iconst 0, 1) := by decide +kernel
theorem dX10_findTwo_45 : decode cX10_findTwo 45 = .ok (.iconst 0, 1) := by decide +kernel
theorem dX10_findTwo_46 : decode cX10_findTwo 46 = .ok (.iastore, 1) := by decide +kernel
theorem dX10_findTwo_47 : decode cX10_findTwo 47 = .ok (.aload_n 0, 1) := by decide +kernel
theorem dX10_findTwo_48 : decode cX10_findTwo 48 = .ok (.getfield 95, 3) := by decide +kernel
theorem dX10_findTwo_51 : decode cX10_findTwo 51 = .ok (.iconst 0, 1) := by decide +kernel
theorem dX10_findTwo_52 : decode cX10_findTwo 52 = .ok (.iconst 1, 1) := by decide +kernel
theorem dX10_findTwo_53 : decode cX10_findTwo 53 = .ok (.iastore, 1) := by decide +kernel
theorem dX10_findTwo_54 : decode cX10_findTwo 54 = .ok (.iload_n 2, 1) := by decide +kernel
theorem dX10_findTwo_55 : decode cX10_findTwo 55 = .ok (.ifCond .lt 199, 3) := by decide +kernel
theorem dX10_findTwo_58 : decode cX10_findTwo 58 = .ok (.sipush 720, 3) := by decide +kernel
theorem dX10_findTwo_61 : decode cX10_findTwo 61 = .ok (.iconst 5, 1) := by decide +kernel
theorem dX10_findTwo_62 : decode cX10_findTwo 62 = .ok (.iload_n 2, 1) := by decide +kernel
theorem dX10_findTwo_63 : decode cX10_findTwo 63 = .ok (.iadd, 1) := by decide +kernel
theorem dX10_findTwo_64 : decode cX10_findTwo 64 = .ok (.imul, 1) := by decide +kernel
theorem dX10_findTwo_65 : decode cX10_findTwo 65 = .ok (.istore_n 3, 1) := by decide +kernel
theorem dX10_findTwo_66 : decode cX10_findTwo 66 = .ok (.iload_n 2, 1) := by decide +kernel
theorem dX10_findTwo_67 : decode cX10_findTwo 67 = .ok (.iload_n 1, 1) := by decide +kernel
theorem dX10_findTwo_68 : decode cX10_findTwo 68 = .ok (.if_icmp .ne 64, 3) := by decide +kernel
theorem dX10_findTwo_71 : decode cX10_findTwo 71 = .ok (.aload_n 0, 1) := by decide +kernel
theorem dX10_findTwo_72 : decode cX10_findTwo 72 = .ok (.dup, 1) := by decide +kernel
theorem dX10_findTwo_73 : decode cX10_findTwo 73 = .ok (.getfield 438, 3) := by decide +kernel
theorem dX10_findTwo_76 : decode cX10_findTwo 76 = .ok (.aload_n 0, 1) := by decide +kernel
theorem dX10_findTwo_77 : decode cX10_findTwo 77 = .ok (.getfield 71, 3) := by decide +kernel
theorem dX10_findTwo_80 : decode cX10_findTwo 80 = .ok (.iload_n 3, 1) := by decide +kernel
theorem dX10_findTwo_81 : decode cX10_findTwo 81 = .ok (.bipush 6, 2) := by decide +kernel
theorem dX10_findTwo_83 : decode cX10_findTwo 83 = .ok (.iadd, 1) := by decide +kernel
theorem dX10_findTwo_84 : decode cX10_findTwo 84 = .ok (.iaload, 1) := by decide +kernel
theorem dX10_findTwo_85 : decode cX10_findTwo 85 = .ok (.iconst 2, 1) := by decide +kernel
theorem dX10_findTwo_86 : decode cX10_findTwo 86 = .ok (.if_icmp .ne 12, 3) := by decide +kernel
theorem dX10_findTwo_89 : decode cX10_findTwo 89 = .ok (.aload_n 0, 1) := by decide +kernel
theorem dX10_findTwo_90 : decode cX10_findTwo 90 = .ok (.getfield 98, 3) := by decide +kernel
theorem dX10_findTwo_93 : decode cX10_findTwo 93 = .ok (.iload_n 2, 1) := by decide +kernel
theorem dX10_findTwo_94 : decode cX10_findTwo 94 = .ok (.iaload, 1) := by decide +kernel
theorem dX10_findTwo_95 : decode cX10_findTwo 95 = .ok (.goto 4, 3) := by decide +kernel
theorem dX10_findTwo_98 : decode cX10_findTwo 98 = .ok (.iconst 0, 1) := by decide +kernel
theorem dX10_findTwo_99 : decode cX10_findTwo 99 = .ok (.iadd, 1) := by decide +kernel
theorem dX10_findTwo_100 : decode cX10_findTwo 100 = .ok (.putfield 438, 3) := by decide +kernel
theorem dX10_findTwo_103 : decode cX10_findTwo 103 = .ok (.aload_n 0, 1) := by decide +kernel
theorem dX10_findTwo_104 : decode cX10_findTwo 104 = .ok (.getfield 101, 3) := by decide +kernel
theorem dX10_findTwo_107 : decode cX10_findTwo 107 = .ok (.aload_n 0, 1) := by decide +kernel
theorem dX10_findTwo_108 : decode cX10_findTwo 108 = .ok (.getfield 71, 3) := by decide +kernel
theorem dX10_findTwo_111 : decode cX10_findTwo 111 = .ok (.iload_n 3, 1) := by decide +kernel
theorem dX10_findTwo_112 : decode cX10_findTwo 112 = .ok (.bipush 8, 2) := by decide +kernel
theorem dX10_findTwo_114 : decode cX10_findTwo 114 = .ok (.iadd, 1) := by decide +kernel
theorem dX10_findTwo_115 : decode cX10_findTwo 115 = .ok (.iaload, 1) := by decide +kernel
theorem dX10_findTwo_116 : decode cX10_findTwo 116 = .ok (.dup2, 1) := by decide +kernel
theorem dX10_findTwo_117 : decode cX10_findTwo 117 = .ok (.iaload, 1) := by decide +kernel
theorem dX10_findTwo_118 : decode cX10_findTwo 118 = .ok (.aload_n 0, 1) := by decide +kernel
theorem dX10_findTwo_119 : decode cX10_findTwo 119 = .ok (.getfield 98, 3) := by decide +kernel
theorem dX10_findTwo_122 : decode cX10_findTwo 122 = .ok (.iload_n 2, 1) := by decide +kernel
theorem dX10_findTwo_123 : decode cX10_findTwo 123 = .ok (.iaload, 1) := by decide +kernel
theorem dX10_findTwo_124 : decode cX10_findTwo 124 = .ok (.iadd, 1) := by decide +kernel
theorem dX10_findTwo_125 : decode cX10_findTwo 125 = .ok (.iastore, 1) := by decide +kernel
theorem dX10_findTwo_126 : decode cX10_findTwo 126 = .ok (.iinc 2 (-1), 3) := by decide +kernel
theorem dX10_findTwo_129 : decode cX10_findTwo 129 = .ok (.goto 122, 3) := by decide +kernel
theorem dX10_findTwo_132 : decode cX10_findTwo 132 = .ok (.aload_n 0, 1) := by decide +kernel
theorem dX10_findTwo_133 : decode cX10_findTwo 133 = .ok (.getfield 92, 3) := by decide +kernel
theorem dX10_findTwo_136 : decode cX10_findTwo 136 = .ok (.iload_n 2, 1) := by decide +kernel
theorem dX10_findTwo_137 : decode cX10_findTwo 137 = .ok (.iaload, 1) := by decide +kernel
theorem dX10_findTwo_138 : decode cX10_findTwo 138 = .ok (.aload_n 0, 1) := by decide +kernel
theorem dX10_findTwo_139 : decode cX10_findTwo 139 = .ok (.getfield 95, 3) := by decide +kernel
theorem dX10_findTwo_142 : decode cX10_findTwo 142 = .ok (.iload_n 2, 1) := by decide +kernel
theorem dX10_findTwo_143 : decode cX10_findTwo 143 = .ok (.iaload, 1) := by decide +kernel
theorem dX10_findTwo_144 : decode cX10_findTwo 144 = .ok (.if_icmp .ne 9, 3) := by decide +kernel
theorem dX10_findTwo_147 : decode cX10_findTwo 147 = .ok (.iinc 2 (-1), 3) := by decide +kernel
theorem dX10_findTwo_150 : decode cX10_findTwo 150 = .ok (.goto 101, 3) := by decide +kernel
theorem dX10_findTwo_153 : decode cX10_findTwo 153 = .ok (.aload_n 0, 1) := by decide +kernel
theorem dX10_findTwo_154 : decode cX10_findTwo 154 = .ok (.iconst 5, 1) := by decide +kernel
theorem dX10_findTwo_155 : decode cX10_findTwo 155 = .ok (.iload_n 2, 1) := by decide +kernel
theorem dX10_findTwo_156 : decode cX10_findTwo 156 = .ok (.iadd, 1) := by decide +kernel
theorem dX10_findTwo_157 : decode cX10_findTwo 157 = .ok (.iconst 5, 1) := by decide +kernel
theorem dX10_findTwo_158 : decode cX10_findTwo 158 = .ok (.iload_n 2, 1) := by decide +kernel
theorem dX10_findTwo_159 : decode cX10_findTwo 159 = .ok (.iadd, 1) := by decide +kernel
theorem dX10_findTwo_160 : decode cX10_findTwo 160 = .ok (.iconst 1, 1) := by decide +kernel
theorem dX10_findTwo_161 : decode cX10_findTwo 161 = .ok (.iadd, 1) := by decide +kernel
theorem dX10_findTwo_162 : decode cX10_findTwo 162 = .ok (.invokevirtual 441, 3) := by decide +kernel
theorem dX10_findTwo_165 : decode cX10_findTwo 165 = .ok (.aload_n 0, 1) := by decide +kernel
theorem dX10_findTwo_166 : decode cX10_findTwo 166 = .ok (.aload_n 0, 1) := by decide +kernel
theorem dX10_findTwo_167 : decode cX10_findTwo 167 = .ok (.getfield 92, 3) := by decide +kernel
theorem dX10_findTwo_170 : decode cX10_findTwo 170 = .ok (.iload_n 2, 1) := by decide +kernel
theorem dX10_findTwo_171 : decode cX10_findTwo 171 = .ok (.iaload, 1) := by decide +kernel
theorem dX10_findTwo_172 : decode cX10_findTwo 172 = .ok (.putfield 388, 3) := by decide +kernel
theorem dX10_findTwo_175 : decode cX10_findTwo 175 = .ok (.aload_n 0, 1) := by decide +kernel
theorem dX10_findTwo_176 : decode cX10_findTwo 176 = .ok (.iconst 5, 1) := by decide +kernel
theorem dX10_findTwo_177 : decode cX10_findTwo 177 = .ok (.iload_n 2, 1) := by decide +kernel
theorem dX10_findTwo_178 : decode cX10_findTwo 178 = .ok (.iadd, 1) := by decide +kernel
theorem dX10_findTwo_179 : decode cX10_findTwo 179 = .ok (.iconst 1, 1) := by decide +kernel
theorem dX10_findTwo_180 : decode cX10_findTwo 180 = .ok (.iadd, 1) := by decide +kernel
theorem dX10_findTwo_181 : decode cX10_findTwo 181 = .ok (.invokevirtual 424, 3) := by decide +kernel
theorem dX10_findTwo_184 : decode cX10_findTwo 184 = .ok (.pop, 1) := by decide +kernel
theorem dX10_findTwo_185 : decode cX10_findTwo 185 = .ok (.aload_n 0, 1) := by decide +kernel
theorem dX10_findTwo_186 : decode cX10_findTwo 186 = .ok (.getfield 95, 3) := by decide +kernel
theorem dX10_findTwo_189 : decode cX10_findTwo 189 = .ok (.iload_n 2, 1) := by decide +kernel
theorem dX10_findTwo_190 : decode cX10_findTwo 190 = .ok (.iconst 1, 1) := by decide +kernel
theorem dX10_findTwo_191 : decode cX10_findTwo 191 = .ok (.aload_n 0, 1) := by decide +kernel
theorem dX10_findTwo_192 : decode cX10_findTwo 192 = .ok (.getfield 382, 3) := by decide +kernel
theorem dX10_findTwo_195 : decode cX10_findTwo 195 = .ok (.ishl, 1) := by decide +kernel
theorem dX10_findTwo_196 : decode cX10_findTwo 196 = .ok (.iastore, 1) := by decide +kernel
theorem dX10_findTwo_197 : decode cX10_findTwo 197 = .ok (.aload_n 0, 1) := by decide +kernel
theorem dX10_findTwo_198 : decode cX10_findTwo 198 = .ok (.getfield 92, 3) := by decide +kernel
theorem dX10_findTwo_201 : decode cX10_findTwo 201 = .ok (.iload_n 2, 1) := by decide +kernel
theorem dX10_findTwo_202 : decode cX10_findTwo 202 = .ok (.dup2, 1) := by decide +kernel
theorem dX10_findTwo_203 : decode cX10_findTwo 203 = .ok (.iaload, 1) := by decide +kernel
theorem dX10_findTwo_204 : decode cX10_findTwo 204 = .ok (.iconst 1, 1) := by decide +kernel
theorem dX10_findTwo_205 : decode cX10_findTwo 205 = .ok (.iadd, 1) := by decide +kernel
theorem dX10_findTwo_206 : decode cX10_findTwo 206 = .ok (.iastore, 1) := by decide +kernel
theorem dX10_findTwo_207 : decode cX10_findTwo 207 = .ok (.aload_n 0, 1) := by decide +kernel
theorem dX10_findTwo_208 : decode cX10_findTwo 208 = .ok (.getfield 98, 3) := by decide +kernel
theorem dX10_findTwo_211 : decode cX10_findTwo 211 = .ok (.iload_n 2, 1) := by decide +kernel
theorem dX10_findTwo_212 : decode cX10_findTwo 212 = .ok (.iconst 1, 1) := by decide +kernel
theorem dX10_findTwo_213 : decode cX10_findTwo 213 = .ok (.iadd, 1) := by decide +kernel
theorem dX10_findTwo_214 : decode cX10_findTwo 214 = .ok (.aload_n 0, 1) := by decide +kernel
theorem dX10_findTwo_215 : decode cX10_findTwo 215 = .ok (.getfield 98, 3) := by decide +kernel
theorem dX10_findTwo_218 : decode cX10_findTwo 218 = .ok (.iload_n 2, 1) := by decide +kernel
theorem dX10_findTwo_219 : decode cX10_findTwo 219 = .ok (.iaload, 1) := by decide +kernel
theorem dX10_findTwo_220 : decode cX10_findTwo 220 = .ok (.iconst 4, 1) := by decide +kernel
theorem dX10_findTwo_221 : decode cX10_findTwo 221 = .ok (.imul, 1) := by decide +kernel
theorem dX10_findTwo_222 : decode cX10_findTwo 222 = .ok (.aload_n 0, 1) := by decide +kernel
theorem dX10_findTwo_223 : decode cX10_findTwo 223 = .ok (.getfield 95, 3) := by decide +kernel
theorem dX10_findTwo_226 : decode cX10_findTwo 226 = .ok (.iload_n 2, 1) := by decide +kernel
theorem dX10_findTwo_227 : decode cX10_findTwo 227 = .ok (.iaload, 1) := by decide +kernel
theorem dX10_findTwo_228 : decode cX10_findTwo 228 = .ok (.idiv, 1) := by decide +kernel
theorem dX10_findTwo_229 : decode cX10_findTwo 229 = .ok (.iastore, 1) := by decide +kernel
theorem dX10_findTwo_230 : decode cX10_findTwo 230 = .ok (.aload_n 0, 1) := by decide +kernel
theorem dX10_findTwo_231 : decode cX10_findTwo 231 = .ok (.getfield 92, 3) := by decide +kernel
theorem dX10_findTwo_234 : decode cX10_findTwo 234 = .ok (.iload_n 2, 1) := by decide +kernel
theorem dX10_findTwo_235 : decode cX10_findTwo 235 = .ok (.iconst 1, 1) := by decide +kernel
theorem dX10_findTwo_236 : decode cX10_findTwo 236 = .ok (.iadd, 1) := by decide +kernel
theorem dX10_findTwo_237 : decode cX10_findTwo 237 = .ok (.iconst 0, 1) := by decide +kernel
theorem dX10_findTwo_238 : decode cX10_findTwo 238 = .ok (.iastore, 1) := by decide +kernel
theorem dX10_findTwo_239 : decode cX10_findTwo 239 = .ok (.aload_n 0, 1) := by decide +kernel
theorem dX10_findTwo_240 : decode cX10_findTwo 240 = .ok (.getfield 95, 3) := by decide +kernel
theorem dX10_findTwo_243 : decode cX10_findTwo 243 = .ok (.iload_n 2, 1) := by decide +kernel
theorem dX10_findTwo_244 : decode cX10_findTwo 244 = .ok (.iconst 1, 1) := by decide +kernel
theorem dX10_findTwo_245 : decode cX10_findTwo 245 = .ok (.iadd, 1) := by decide +kernel
theorem dX10_findTwo_246 : decode cX10_findTwo 246 = .ok (.iconst 1, 1) := by decide +kernel
theorem dX10_findTwo_247 : decode cX10_findTwo 247 = .ok (.iastore, 1) := by decide +kernel
theorem dX10_findTwo_248 : decode cX10_findTwo 248 = .ok (.iinc 2 1, 3) := by decide +kernel
theorem dX10_findTwo_251 : decode cX10_findTwo 251 = .ok (.goto (-197), 3) := by decide +kernel
theorem dX10_findTwo_254 : decode cX10_findTwo 254 = .ok (.aload_n 0, 1) := by decide +kernel
theorem dX10_findTwo_255 : decode cX10_findTwo 255 = .ok (.iconst 0, 1) := by decide +kernel
theorem dX10_findTwo_256 : decode cX10_findTwo 256 = .ok (.putfield 385, 3) := by decide +kernel
theorem dX10_findTwo_259 : decode cX10_findTwo 259 = .ok (.return_, 1) := by decide +kernel
theorem dX10_finds_0 : decode cX10_finds 0 = .ok (.aload_n 0, 1) := by decide +kernel
theorem dX10_finds_1 : decode cX10_finds 1 = .ok (.iconst 0, 1) := by decide +kernel
theorem dX10_finds_2 : decode cX10_finds 2 = .ok (.putfield 121, 3) := by decide +kernel
theorem dX10_finds_5 : decode cX10_finds 5 = .ok (.aload_n 0, 1) := by decide +kernel
theorem dX10_finds_6 : decode cX10_finds 6 = .ok (.iload_n 1, 1) := by decide +kernel
theorem dX10_finds_7 : decode cX10_finds 7 = .ok (.invokevirtual 428, 3) := by decide +kernel
theorem dX10_finds_10 : decode cX10_finds 10 = .ok (.ifCond .eq 22, 3) := by decide +kernel
theorem dX10_finds_13 : decode cX10_finds 13 = .ok (.aload_n 0, 1) := by decide +kernel
theorem dX10_finds_14 : decode cX10_finds 14 = .ok (.iconst 0, 1) := by decide +kernel
theorem dX10_finds_15 : decode cX10_finds 15 = .ok (.iload_n 1, 1) := by decide +kernel
theorem dX10_finds_16 : decode cX10_finds 16 = .ok (.invokevirtual 392, 3) := by decide +kernel
theorem dX10_finds_19 : decode cX10_finds 19 = .ok (.ifCond .eq 13, 3) := by decide +kernel
theorem dX10_finds_22 : decode cX10_finds 22 = .ok (.iload_n 2, 1) := by decide +kernel
theorem dX10_finds_23 : decode cX10_finds 23 = .ok (.iconst 0, 1) := by decide +kernel
theorem dX10_finds_24 : decode cX10_finds 24 = .ok (.bipush 10, 2) := by decide +kernel
theorem dX10_finds_26 : decode cX10_finds 26 = .ok (.invokestatic 129, 3) := by decide +kernel
theorem dX10_finds_29 : decode cX10_finds 29 = .ok (.ifCond .ne 6, 3) := by decide +kernel
theorem dX10_finds_32 : decode cX10_finds 32 = .ok (.bipush (-2), 2) := by decide +kernel
theorem dX10_finds_34 : decode cX10_finds 34 = .ok (.ireturn, 1) := by decide +kernel
theorem dX10_finds_35 : decode cX10_finds 35 = .ok (.aload_n 0, 1) := by decide +kernel
theorem dX10_finds_36 : decode cX10_finds 36 = .ok (.iconst 0, 1) := by decide +kernel
theorem dX10_finds_37 : decode cX10_finds 37 = .ok (.iload_n 1, 1) := by decide +kernel
theorem dX10_finds_38 : decode cX10_finds 38 = .ok (.invokevirtual 376, 3) := by decide +kernel
theorem dX10_finds_41 : decode cX10_finds 41 = .ok (.aload_n 0, 1) := by decide +kernel
theorem dX10_finds_42 : decode cX10_finds 42 = .ok (.iconst 0, 1) := by decide +kernel
theorem dX10_finds_43 : decode cX10_finds 43 = .ok (.iload_n 1, 1) := by decide +kernel
theorem dX10_finds_44 : decode cX10_finds 44 = .ok (.iload_n 2, 1) := by decide +kernel
theorem dX10_finds_45 : decode cX10_finds 45 = .ok (.invokevirtual 372, 3) := by decide +kernel
theorem dX10_finds_48 : decode cX10_finds 48 = .ok (.ireturn, 1) := by decide +kernel
theorem dX10_hasHat_0 : decode cX10_hasHat 0 = .ok (.bipush 6, 2) := by decide +kernel
theorem dX10_hasHat_2 : decode cX10_hasHat 2 = .ok (.iload_n 1, 1) := by decide +kernel
theorem dX10_hasHat_3 : decode cX10_hasHat 3 = .ok (.imul, 1) := by decide +kernel
theorem dX10_hasHat_4 : decode cX10_hasHat 4 = .ok (.istore 4, 2) := by decide +kernel
theorem dX10_hasHat_6 : decode cX10_hasHat 6 = .ok (.iload 4, 2) := by decide +kernel
theorem dX10_hasHat_8 : decode cX10_hasHat 8 = .ok (.bipush 6, 2) := by decide +kernel
theorem dX10_hasHat_10 : decode cX10_hasHat 10 = .ok (.iload_n 1, 1) := by decide +kernel
theorem dX10_hasHat_11 : decode cX10_hasHat 11 = .ok (.imul, 1) := by decide +kernel
theorem dX10_hasHat_12 : decode cX10_hasHat 12 = .ok (.aload_n 0, 1) := by decide +kernel
theorem dX10_hasHat_13 : decode cX10_hasHat 13 = .ok (.getfield 53, 3) := by decide +kernel
theorem dX10_hasHat_16 : decode cX10_hasHat 16 = .ok (.iload_n 1, 1) := by decide +kernel
theorem dX10_hasHat_17 : decode cX10_hasHat 17 = .ok (.iaload, 1) := by decide +kernel
theorem dX10_hasHat_18 : decode cX10_hasHat 18 = .ok (.iadd, 1) := by decide +kernel
theorem dX10_hasHat_19 : decode cX10_hasHat 19 = .ok (.if_icmp .ge 33, 3) := by decide +kernel
theorem dX10_hasHat_22 : decode cX10_hasHat 22 = .ok (.aload_n 0, 1) := by decide +kernel
theorem dX10_hasHat_23 : decode cX10_hasHat 23 = .ok (.getfield 56, 3) := by decide +kernel
theorem dX10_hasHat_26 : decode cX10_hasHat 26 = .ok (.iload 4, 2) := by decide +kernel
theorem dX10_hasHat_28 : decode cX10_hasHat 28 = .ok (.iaload, 1) := by decide +kernel
theorem dX10_hasHat_29 : decode cX10_hasHat 29 = .ok (.iload_n 2, 1) := by decide +kernel
theorem dX10_hasHat_30 : decode cX10_hasHat 30 = .ok (.if_icmp .ne 16, 3) := by decide +kernel
theorem dX10_hasHat_33 : decode cX10_hasHat 33 = .ok (.aload_n 0, 1) := by decide +kernel
theorem dX10_hasHat_34 : decode cX10_hasHat 34 = .ok (.getfield 59, 3) := by decide +kernel
theorem dX10_hasHat_37 : decode cX10_hasHat 37 = .ok (.iload 4, 2) := by decide +kernel
theorem dX10_hasHat_39 : decode cX10_hasHat 39 = .ok (.iaload, 1) := by decide +kernel
theorem dX10_hasHat_40 : decode cX10_hasHat 40 = .ok (.iload_n 3, 1) := by decide +kernel
theorem dX10_hasHat_41 : decode cX10_hasHat 41 = .ok (.if_icmp .ne 5, 3) := by decide +kernel
theorem dX10_hasHat_44 : decode cX10_hasHat 44 = .ok (.iconst 1, 1) := by decide +kernel
theorem dX10_hasHat_45 : decode cX10_hasHat 45 = .ok (.ireturn, 1) := by decide +kernel
theorem dX10_hasHat_46 : decode cX10_hasHat 46 = .ok (.iinc 4 1, 3) := by decide +kernel
theorem dX10_hasHat_49 : decode cX10_hasHat 49 = .ok (.goto (-43), 3) := by decide +kernel
theorem dX10_hasHat_52 : decode cX10_hasHat 52 = .ok (.iconst 0, 1) := by decide +kernel
theorem dX10_hasHat_53 : decode cX10_hasHat 53 = .ok (.ireturn, 1) := by decide +kernel
theorem dX10_isTrodden_0 : decode cX10_isTrodden 0 = .ok (.iconst 0, 1) := by decide +kernel
theorem dX10_isTrodden_1 : decode cX10_isTrodden 1 = .ok (.istore_n 3, 1) := by decide +kernel
theorem dX10_isTrodden_2 : decode cX10_isTrodden 2 = .ok (.iload_n 3, 1) := by decide +kernel
theorem dX10_isTrodden_3 : decode cX10_isTrodden 3 = .ok (.aload_n 0, 1) := by decide +kernel
theorem dX10_isTrodden_4 : decode cX10_isTrodden 4 = .ok (.getfield 71, 3) := by decide +kernel
theorem dX10_isTrodden_7 : decode cX10_isTrodden 7 = .ok (.sipush 2882, 3) := by decide +kernel
theorem dX10_isTrodden_10 : decode cX10_isTrodden 10 = .ok (.iaload, 1) := by decide +kernel
theorem dX10_isTrodden_11 : decode cX10_isTrodden 11 = .ok (.if_icmp .ge 41, 3) := by decide +kernel
theorem dX10_isTrodden_14 : decode cX10_isTrodden 14 = .ok (.aload_n 0, 1) := by decide +kernel
theorem dX10_isTrodden_15 : decode cX10_isTrodden 15 = .ok (.getfield 71, 3) := by decide +kernel
theorem dX10_isTrodden_18 : decode cX10_isTrodden 18 = .ok (.iconst 4, 1) := by decide +kernel
theorem dX10_isTrodden_19 : decode cX10_isTrodden 19 = .ok (.iload_n 3, 1) := by decide +kernel
theorem dX10_isTrodden_20 : decode cX10_isTrodden 20 = .ok (.invokestatic 332, 3) := by decide +kernel
theorem dX10_isTrodden_23 : decode cX10_isTrodden 23 = .ok (.iaload, 1) := by decide +kernel
theorem dX10_isTrodden_24 : decode cX10_isTrodden 24 = .ok (.iload_n 1, 1) := by decide +kernel
theorem dX10_isTrodden_25 : decode cX10_isTrodden 25 = .ok (.if_icmp .ne 21, 3) := by decide +kernel
theorem dX10_isTrodden_28 : decode cX10_isTrodden 28 = .ok (.aload_n 0, 1) := by decide +kernel
theorem dX10_isTrodden_29 : decode cX10_isTrodden 29 = .ok (.getfield 71, 3) := by decide +kernel
theorem dX10_isTrodden_32 : decode cX10_isTrodden 32 = .ok (.iconst 4, 1) := by decide +kernel
theorem dX10_isTrodden_33 : decode cX10_isTrodden 33 = .ok (.iload_n 3, 1) := by decide +kernel
theorem dX10_isTrodden_34 : decode cX10_isTrodden 34 = .ok (.invokestatic 332, 3) := by decide +kernel
theorem dX10_isTrodden_37 : decode cX10_isTrodden 37 = .ok (.iconst 4, 1) := by decide +kernel
theorem dX10_isTrodden_38 : decode cX10_isTrodden 38 = .ok (.iadd, 1) := by decide +kernel
theorem dX10_isTrodden_39 : decode cX10_isTrodden 39 = .ok (.iaload, 1) := by decide +kernel
theorem dX10_isTrodden_40 : decode cX10_isTrodden 40 = .ok (.iload_n 2, 1) := by decide +kernel
theorem dX10_isTrodden_41 : decode cX10_isTrodden 41 = .ok (.if_icmp .ne 5, 3) := by decide +kernel
theorem dX10_isTrodden_44 : decode cX10_isTrodden 44 = .ok (.iconst 1, 1) := by decide +kernel
theorem dX10_isTrodden_45 : decode cX10_isTrodden 45 = .ok (.ireturn, 1) := by decide +kernel
theorem dX10_isTrodden_46 : decode cX10_isTrodden 46 = .ok (.iinc 3 1, 3) := by decide +kernel
theorem dX10_isTrodden_49 : decode cX10_isTrodden 49 = .ok (.goto (-47), 3) := by decide +kernel
theorem dX10_isTrodden_52 : decode cX10_isTrodden 52 = .ok (.iconst 0, 1) := by decide +kernel
theorem dX10_isTrodden_53 : decode cX10_isTrodden 53 = .ok (.ireturn, 1) := by decide +kernel
theorem dX10_fitsNow_0 : decode cX10_fitsNow 0 = .ok (.bipush 6, 2) := by decide +kernel
theorem dX10_fitsNow_2 : decode cX10_fitsNow 2 = .ok (.iload_n 1, 1) := by decide +kernel
theorem dX10_fitsNow_3 : decode cX10_fitsNow 3 = .ok (.imul, 1) := by decide +kernel
theorem dX10_fitsNow_4 : decode cX10_fitsNow 4 = .ok (.istore_n 2, 1) := by decide +kernel
theorem dX10_fitsNow_5 : decode cX10_fitsNow 5 = .ok (.iload_n 2, 1) := by decide +kernel
theorem dX10_fitsNow_6 : decode cX10_fitsNow 6 = .ok (.bipush 6, 2) := by decide +kernel
theorem dX10_fitsNow_8 : decode cX10_fitsNow 8 = .ok (.iload_n 1, 1) := by decide +kernel
theorem dX10_fitsNow_9 : decode cX10_fitsNow 9 = .ok (.imul, 1) := by decide +kernel
theorem dX10_fitsNow_10 : decode cX10_fitsNow 10 = .ok (.aload_n 0, 1) := by decide +kernel
theorem dX10_fitsNow_11 : decode cX10_fitsNow 11 = .ok (.getfield 53, 3) := by decide +kernel
theorem dX10_fitsNow_14 : decode cX10_fitsNow 14 = .ok (.iload_n 1, 1) := by decide +kernel
theorem dX10_fitsNow_15 : decode cX10_fitsNow 15 = .ok (.iaload, 1) := by decide +kernel
theorem dX10_fitsNow_16 : decode cX10_fitsNow 16 = .ok (.iadd, 1) := by decide +kernel
theorem dX10_fitsNow_17 : decode cX10_fitsNow 17 = .ok (.if_icmp .ge 30, 3) := by decide +kernel
theorem dX10_fitsNow_20 : decode cX10_fitsNow 20 = .ok (.aload_n 0, 1) := by decide +kernel
theorem dX10_fitsNow_21 : decode cX10_fitsNow 21 = .ok (.aload_n 0, 1) := by decide +kernel
theorem dX10_fitsNow_22 : decode cX10_fitsNow 22 = .ok (.getfield 56, 3) := by decide +kernel
theorem dX10_fitsNow_25 : decode cX10_fitsNow 25 = .ok (.iload_n 2, 1) := by decide +kernel
theorem dX10_fitsNow_26 : decode cX10_fitsNow 26 = .ok (.iaload, 1) := by decide +kernel
theorem dX10_fitsNow_27 : decode cX10_fitsNow 27 = .ok (.aload_n 0, 1) := by decide +kernel
theorem dX10_fitsNow_28 : decode cX10_fitsNow 28 = .ok (.getfield 59, 3) := by decide +kernel
theorem dX10_fitsNow_31 : decode cX10_fitsNow 31 = .ok (.iload_n 2, 1) := by decide +kernel
theorem dX10_fitsNow_32 : decode cX10_fitsNow 32 = .ok (.iaload, 1) := by decide +kernel
theorem dX10_fitsNow_33 : decode cX10_fitsNow 33 = .ok (.invokevirtual 467, 3) := by decide +kernel
theorem dX10_fitsNow_36 : decode cX10_fitsNow 36 = .ok (.ifCond .ne 5, 3) := by decide +kernel
theorem dX10_fitsNow_39 : decode cX10_fitsNow 39 = .ok (.iconst 0, 1) := by decide +kernel
theorem dX10_fitsNow_40 : decode cX10_fitsNow 40 = .ok (.ireturn, 1) := by decide +kernel
theorem dX10_fitsNow_41 : decode cX10_fitsNow 41 = .ok (.iinc 2 1, 3) := by decide +kernel
theorem dX10_fitsNow_44 : decode cX10_fitsNow 44 = .ok (.goto (-39), 3) := by decide +kernel
theorem dX10_fitsNow_47 : decode cX10_fitsNow 47 = .ok (.iconst 0, 1) := by decide +kernel
theorem dX10_fitsNow_48 : decode cX10_fitsNow 48 = .ok (.istore_n 2, 1) := by decide +kernel
theorem dX10_fitsNow_49 : decode cX10_fitsNow 49 = .ok (.iload_n 2, 1) := by decide +kernel
theorem dX10_fitsNow_50 : decode cX10_fitsNow 50 = .ok (.aload_n 0, 1) := by decide +kernel
theorem dX10_fitsNow_51 : decode cX10_fitsNow 51 = .ok (.getfield 71, 3) := by decide +kernel
theorem dX10_fitsNow_54 : decode cX10_fitsNow 54 = .ok (.sipush 2882, 3) := by decide +kernel
theorem dX10_fitsNow_57 : decode cX10_fitsNow 57 = .ok (.iaload, 1) := by decide +kernel
theorem dX10_fitsNow_58 : decode cX10_fitsNow 58 = .ok (.if_icmp .ge 50, 3) := by decide +kernel
theorem dX10_fitsNow_61 : decode cX10_fitsNow 61 = .ok (.aload_n 0, 1) := by decide +kernel
theorem dX10_fitsNow_62 : decode cX10_fitsNow 62 = .ok (.iconst 4, 1) := by decide +kernel
theorem dX10_fitsNow_63 : decode cX10_fitsNow 63 = .ok (.iload_n 2, 1) := by decide +kernel
theorem dX10_fitsNow_64 : decode cX10_fitsNow 64 = .ok (.invokevirtual 392, 3) := by decide +kernel
theorem dX10_fitsNow_67 : decode cX10_fitsNow 67 = .ok (.ifCond .eq 35, 3) := by decide +kernel
theorem dX10_fitsNow_70 : decode cX10_fitsNow 70 = .ok (.aload_n 0, 1) := by decide +kernel
theorem dX10_fitsNow_71 : decode cX10_fitsNow 71 = .ok (.iload_n 1, 1) := by decide +kernel
theorem dX10_fitsNow_72 : decode cX10_fitsNow 72 = .ok (.aload_n 0, 1) := by decide +kernel
theorem dX10_fitsNow_73 : decode cX10_fitsNow 73 = .ok (.getfield 71, 3) := by decide +kernel
theorem dX10_fitsNow_76 : decode cX10_fitsNow 76 = .ok (.iconst 4, 1) := by decide +kernel
theorem dX10_fitsNow_77 : decode cX10_fitsNow 77 = .ok (.iload_n 2, 1) := by decide +kernel
theorem dX10_fitsNow_78 : decode cX10_fitsNow 78 = .ok (.invokestatic 332, 3) := by decide +kernel
theorem dX10_fitsNow_81 : decode cX10_fitsNow 81 = .ok (.iaload, 1) := by decide +kernel
theorem dX10_fitsNow_82 : decode cX10_fitsNow 82 = .ok (.aload_n 0, 1) := by decide +kernel
theorem dX10_fitsNow_83 : decode cX10_fitsNow 83 = .ok (.getfield 71, 3) := by decide +kernel
theorem dX10_fitsNow_86 : decode cX10_fitsNow 86 = .ok (.iconst 4, 1) := by decide +kernel
theorem dX10_fitsNow_87 : decode cX10_fitsNow 87 = .ok (.iload_n 2, 1) := by decide +kernel
theorem dX10_fitsNow_88 : decode cX10_fitsNow 88 = .ok (.invokestatic 332, 3) := by decide +kernel
theorem dX10_fitsNow_91 : decode cX10_fitsNow 91 = .ok (.iconst 4, 1) := by decide +kernel
theorem dX10_fitsNow_92 : decode cX10_fitsNow 92 = .ok (.iadd, 1) := by decide +kernel
theorem dX10_fitsNow_93 : decode cX10_fitsNow 93 = .ok (.iaload, 1) := by decide +kernel
theorem dX10_fitsNow_94 : decode cX10_fitsNow 94 = .ok (.invokevirtual 470, 3) := by decide +kernel
theorem dX10_fitsNow_97 : decode cX10_fitsNow 97 = .ok (.ifCond .ne 5, 3) := by decide +kernel
theorem dX10_fitsNow_100 : decode cX10_fitsNow 100 = .ok (.iconst 0, 1) := by decide +kernel
theorem dX10_fitsNow_101 : decode cX10_fitsNow 101 = .ok (.ireturn, 1) := by decide +kernel
theorem dX10_fitsNow_102 : decode cX10_fitsNow 102 = .ok (.iinc 2 1, 3) := by decide +kernel
theorem dX10_fitsNow_105 : decode cX10_fitsNow 105 = .ok (.goto (-56), 3) := by decide +kernel
theorem dX10_fitsNow_108 : decode cX10_fitsNow 108 = .ok (.aload_n 0, 1) := by decide +kernel
theorem dX10_fitsNow_109 : decode cX10_fitsNow 109 = .ok (.getfield 53, 3) := by decide +kernel
theorem dX10_fitsNow_112 : decode cX10_fitsNow 112 = .ok (.iload_n 1, 1) := by decide +kernel
theorem dX10_fitsNow_113 : decode cX10_fitsNow 113 = .ok (.iaload, 1) := by decide +kernel
theorem dX10_fitsNow_114 : decode cX10_fitsNow 114 = .ok (.ifCond .le 7, 3) := by decide +kernel
theorem dX10_fitsNow_117 : decode cX10_fitsNow 117 = .ok (.iconst 1, 1) := by decide +kernel
theorem dX10_fitsNow_118 : decode cX10_fitsNow 118 = .ok (.goto 4, 3) := by decide +kernel
theorem dX10_fitsNow_121 : decode cX10_fitsNow 121 = .ok (.iconst 0, 1) := by decide +kernel
theorem dX10_fitsNow_122 : decode cX10_fitsNow 122 = .ok (.ireturn, 1) := by decide +kernel
theorem dX10_fits_0 : decode cX10_fits 0 = .ok (.aload_n 0, 1) := by decide +kernel
theorem dX10_fits_1 : decode cX10_fits 1 = .ok (.iconst 0, 1) := by decide +kernel
theorem dX10_fits_2 : decode cX10_fits 2 = .ok (.putfield 121, 3) := by decide +kernel
theorem dX10_fits_5 : decode cX10_fits 5 = .ok (.aload_n 0, 1) := by decide +kernel
theorem dX10_fits_6 : decode cX10_fits 6 = .ok (.iload_n 1, 1) := by decide +kernel
theorem dX10_fits_7 : decode cX10_fits 7 = .ok (.invokevirtual 270, 3) := by decide +kernel
theorem dX10_fits_10 : decode cX10_fits 10 = .ok (.ifCond .eq 11, 3) := by decide +kernel
theorem dX10_fits_13 : decode cX10_fits 13 = .ok (.aload_n 0, 1) := by decide +kernel
theorem dX10_fits_14 : decode cX10_fits 14 = .ok (.iload_n 2, 1) := by decide +kernel
theorem dX10_fits_15 : decode cX10_fits 15 = .ok (.invokevirtual 326, 3) := by decide +kernel
theorem dX10_fits_18 : decode cX10_fits 18 = .ok (.ifCond .ne 5, 3) := by decide +kernel
theorem dX10_fits_21 : decode cX10_fits 21 = .ok (.iconst (-1), 1) := by decide +kernel
theorem dX10_fits_22 : decode cX10_fits 22 = .ok (.ireturn, 1) := by decide +kernel
theorem dX10_fits_23 : decode cX10_fits 23 = .ok (.aload_n 0, 1) := by decide +kernel
theorem dX10_fits_24 : decode cX10_fits 24 = .ok (.iconst 4, 1) := by decide +kernel
theorem dX10_fits_25 : decode cX10_fits 25 = .ok (.iload_n 1, 1) := by decide +kernel
theorem dX10_fits_26 : decode cX10_fits 26 = .ok (.iload_n 2, 1) := by decide +kernel
theorem dX10_fits_27 : decode cX10_fits 27 = .ok (.iload_n 3, 1) := by decide +kernel
theorem dX10_fits_28 : decode cX10_fits 28 = .ok (.bipush 12, 2) := by decide +kernel
theorem dX10_fits_30 : decode cX10_fits 30 = .ok (.iconst (-1), 1) := by decide +kernel
theorem dX10_fits_31 : decode cX10_fits 31 = .ok (.invokevirtual 420, 3) := by decide +kernel
theorem dX10_fits_34 : decode cX10_fits 34 = .ok (.iconst 0, 1) := by decide +kernel
theorem dX10_fits_35 : decode cX10_fits 35 = .ok (.istore 4, 2) := by decide +kernel
theorem dX10_fits_37 : decode cX10_fits 37 = .ok (.iconst 0, 1) := by decide +kernel
theorem dX10_fits_38 : decode cX10_fits 38 = .ok (.istore 5, 2) := by decide +kernel
theorem dX10_fits_40 : decode cX10_fits 40 = .ok (.iload 5, 2) := by decide +kernel
theorem dX10_fits_42 : decode cX10_fits 42 = .ok (.bipush 8, 2) := by decide +kernel
theorem dX10_fits_44 : decode cX10_fits 44 = .ok (.if_icmp .ge 33, 3) := by decide +kernel
theorem dX10_fits_47 : decode cX10_fits 47 = .ok (.iload 4, 2) := by decide +kernel
theorem dX10_fits_49 : decode cX10_fits 49 = .ok (.aload_n 0, 1) := by decide +kernel
theorem dX10_fits_50 : decode cX10_fits 50 = .ok (.iload 5, 2) := by decide +kernel
theorem dX10_fits_52 : decode cX10_fits 52 = .ok (.invokevirtual 473, 3) := by decide +kernel
theorem dX10_fits_55 : decode cX10_fits 55 = .ok (.ifCond .eq 7, 3) := by decide +kernel
theorem dX10_fits_58 : decode cX10_fits 58 = .ok (.iconst 1, 1) := by decide +kernel
theorem dX10_fits_59 : decode cX10_fits 59 = .ok (.goto 4, 3) := by decide +kernel
theorem dX10_fits_62 : decode cX10_fits 62 = .ok (.iconst 0, 1) := by decide +kernel
theorem dX10_fits_63 : decode cX10_fits 63 = .ok (.iadd, 1) := by decide +kernel
theorem dX10_fits_64 : decode cX10_fits 64 = .ok (.istore 4, 2) := by decide +kernel
theorem dX10_fits_66 : decode cX10_fits 66 = .ok (.aload_n 0, 1) := by decide +kernel
theorem dX10_fits_67 : decode cX10_fits 67 = .ok (.iconst 1, 1) := by decide +kernel
theorem dX10_fits_68 : decode cX10_fits 68 = .ok (.invokevirtual 451, 3) := by decide +kernel
theorem dX10_fits_71 : decode cX10_fits 71 = .ok (.iinc 5 1, 3) := by decide +kernel
theorem dX10_fits_74 : decode cX10_fits 74 = .ok (.goto (-34), 3) := by decide +kernel
theorem dX10_fits_77 : decode cX10_fits 77 = .ok (.iload 4, 2) := by decide +kernel
theorem dX10_fits_79 : decode cX10_fits 79 = .ok (.ireturn, 1) := by decide +kernel
section P_X10_isStoodOn
variable {p : Program} {l : Launch} {e : Env} {s : State} {m : MethodId} {args : Array Value} {below : List Frame} {meth : Method} {c : Code} {G : GG} {A : Nat → Prop} {ad : Nat → Nat} {S : ST} {N : Nat} {r : Int32} {dy' : DY}
set_option maxHeartbeats 4000000 in
set_option maxRecDepth 100000 in
theorem B_X10_isStoodOn_3 (C : CX p s m args c cX10_isStoodOn 5 RX10 G A) (HR : meth.sig.returnType = (Option.some Jvm.ClassFile.FieldType.boolean)) (HL : meth.locks = false) (hG : Good S) : ∀ k : Nat, ∀ (x0 : Nat) (x1 : Int32) (x2 : Int32) (x3 : Int32) (x4 : Int32) (dy : DY), gs S x0 = (0, 10) → (F_X10_isStoodOn_3 S N k) x0 x1 x2 x3 x4 dy = some (r, dy') → WJ p l e (rmD (1)) s m args below meth c 5 G A 0 0 (MQ below (QI G ad A S r dy') args s 0 0 A) ad 3 [(0, .ref (ad x0)), (1, .int x1), (2, .int x2), (3, .int x3), (4, .int x4)] [] S dy := by
  intro k
  induction k with
  | zero => exact fun _ _ _ _ _ _ _ E => nomatch (show none = some (r, dy') from E)
  | succ k ih =>
    intro x0 x1 x2 x3 x4 dy Tx0 E
    rw [F_X10_isStoodOn_3_s] at E
    refine ww_iload C dX10_isStoodOn_3 4 rfl ?_
    refine ww_aload_n C dX10_isStoodOn_5 rfl 0 rfl ?_
    have T_1 : gs S (gr S x0 39) = (1, 10080) := hG.1 _ 10 Tx0 39 (by decide)
    refine ww_getr (ci := 10) (k0 := 39) C dX10_isStoodOn_6 rfl rfl inm10 (by decide) Tx0 q1317 rfl T_1 (by decide) ?_
    refine ww_sipush (v := 720) C dX10_isStoodOn_9 (by decide) ?_
    refine ww_iload_n C dX10_isStoodOn_12 rfl 1 rfl ?_
    refine ww_imul C dX10_isStoodOn_13 ?_
    refine ww_iconst (v := 2) C dX10_isStoodOn_14 (by decide) ?_
    refine ww_iadd C dX10_isStoodOn_15 ?_
    refine ww_iald C dX10_isStoodOn_16 T_1 E (fun _ E => ?_)
    refine ww_icmp_ge (tgt := 55) C dX10_isStoodOn_17 (by decide) E (fun _ E => ?_) (fun _ E => ?_)
    · refine ww_iconst (v := 0) C dX10_isStoodOn_55 (by decide) ?_
      exact ww_zret C HR HL dX10_isStoodOn_56 (Or.inl rfl) E
    · refine ww_aload_n C dX10_isStoodOn_20 rfl 0 rfl ?_
      have T_2 : gs S (gr S x0 48) = (1, 12) := hG.1 _ 10 Tx0 48 (by decide)
      refine ww_getr (ci := 10) (k0 := 48) C dX10_isStoodOn_21 rfl rfl inm10 (by decide) Tx0 q1326 rfl T_2 (by decide) ?_
      refine ww_iload C dX10_isStoodOn_24 4 rfl ?_
      refine ww_iald C dX10_isStoodOn_26 T_2 E (fun _ E => ?_)
      refine ww_iload_n C dX10_isStoodOn_27 rfl 2 rfl ?_
      refine ww_icmp_ne (tgt := 49) C dX10_isStoodOn_28 (by decide) E (fun _ E => ?_) (fun _ E => ?_)
      · refine ww_iinc (v := (x4 + (1 : Int32))) (lv' := [(4, .int (x4 + (1 : Int32))), (0, .ref (ad x0)), (1, .int x1), (2, .int x2), (3, .int x3)]) C dX10_isStoodOn_49 4 rfl rfl (by decide) rfl ?_
        refine ww_goto (tgt := 3) C dX10_isStoodOn_52 (by decide) ?_
        refine ww_sub (lv' := [(0, .ref (ad x0)), (1, .int x1), (2, .int x2), (3, .int x3), (4, .int (x4 + (1 : Int32)))]) [1, 2, 3, 4, 0] rfl ?_
        exact ih x0 x1 x2 x3 (x4 + (1 : Int32)) dy Tx0 E
      · refine ww_aload_n C dX10_isStoodOn_31 rfl 0 rfl ?_
        have T_3 : gs S (gr S x0 49) = (1, 12) := hG.1 _ 10 Tx0 49 (by decide)
        refine ww_getr (ci := 10) (k0 := 49) C dX10_isStoodOn_32 rfl rfl inm10 (by decide) Tx0 q1327 rfl T_3 (by decide) ?_
        refine ww_iload C dX10_isStoodOn_35 4 rfl ?_
        refine ww_iald C dX10_isStoodOn_37 T_3 E (fun _ E => ?_)
        refine ww_iload_n C dX10_isStoodOn_38 rfl 3 rfl ?_
        refine ww_icmp_ne (tgt := 49) C dX10_isStoodOn_39 (by decide) E (fun _ E => ?_) (fun _ E => ?_)
        · refine ww_iinc (v := (x4 + (1 : Int32))) (lv' := [(4, .int (x4 + (1 : Int32))), (0, .ref (ad x0)), (1, .int x1), (2, .int x2), (3, .int x3)]) C dX10_isStoodOn_49 4 rfl rfl (by decide) rfl ?_
          refine ww_goto (tgt := 3) C dX10_isStoodOn_52 (by decide) ?_
          refine ww_sub (lv' := [(0, .ref (ad x0)), (1, .int x1), (2, .int x2), (3, .int x3), (4, .int (x4 + (1 : Int32)))]) [1, 2, 3, 4, 0] rfl ?_
          exact ih x0 x1 x2 x3 (x4 + (1 : Int32)) dy Tx0 E
        · refine ww_iload_n C dX10_isStoodOn_42 rfl 2 rfl ?_
          refine ww_iconst (v := (-1)) C dX10_isStoodOn_43 (by decide) ?_
          refine ww_icmp_eq (tgt := 49) C dX10_isStoodOn_44 (by decide) E (fun _ E => ?_) (fun _ E => ?_)
          · refine ww_iinc (v := (x4 + (1 : Int32))) (lv' := [(4, .int (x4 + (1 : Int32))), (0, .ref (ad x0)), (1, .int x1), (2, .int x2), (3, .int x3)]) C dX10_isStoodOn_49 4 rfl rfl (by decide) rfl ?_
            refine ww_goto (tgt := 3) C dX10_isStoodOn_52 (by decide) ?_
            refine ww_sub (lv' := [(0, .ref (ad x0)), (1, .int x1), (2, .int x2), (3, .int x3), (4, .int (x4 + (1 : Int32)))]) [1, 2, 3, 4, 0] rfl ?_
            exact ih x0 x1 x2 x3 (x4 + (1 : Int32)) dy Tx0 E
          · refine ww_iconst (v := 1) C dX10_isStoodOn_47 (by decide) ?_
            exact ww_zret C HR HL dX10_isStoodOn_48 (Or.inr rfl) E
end P_X10_isStoodOn
set_option maxHeartbeats 4000000 in
set_option maxRecDepth 100000 in
theorem M_X10_isStoodOn (l : Launch) (G : GG) (ad : Nat → Nat) {S : ST} (N : Nat) (hG : Good S) (a0 : Nat) (a1 : Int32) (a2 : Int32) (a3 : Int32) (dy : DY) (T0 : gs S a0 = (0, 10)) {r : Int32} {dy' : DY} (E : F_X10_isStoodOn S N a0 a1 a2 a3 dy = some (r, dy')) : MC l yX10_isStoodOn cX10_isStoodOn 5 (Option.some Jvm.ClassFile.FieldType.boolean) (1) G ad [.ref (ad a0), .int a1, .int a2, .int a3] S dy (fun A => QI G ad A S r dy') := by
  rw [F_X10_isStoodOn_s] at E
  refine mc_of RX10 (by decide) rfl (Nat.le_of_ble_eq_true rfl) (fun p e s m args below meth c A C HR HL => ?_)
  refine ww_sub (lv' := [(0, .ref (ad a0)), (1, .int a1), (2, .int a2), (3, .int a3)]) [0, 1, 2, 3] rfl ?_
  refine ww_iconst (v := 0) C dX10_isStoodOn_0 (by decide) ?_
  refine ww_istore (lv' := [(4, .int (0 : Int32)), (0, .ref (ad a0)), (1, .int a1), (2, .int a2), (3, .int a3)]) C dX10_isStoodOn_1 (by decide) rfl ?_
  refine ww_sub (lv' := [(0, .ref (ad a0)), (1, .int a1), (2, .int a2), (3, .int a3), (4, .int (0 : Int32))]) [1, 2, 3, 4, 0] rfl ?_
  exact (B_X10_isStoodOn_3 C HR HL hG N) a0 a1 a2 a3 (0 : Int32) dy T0 E
section P_X10_passDoor
variable {p : Program} {l : Launch} {e : Env} {s : State} {m : MethodId} {args : Array Value} {below : List Frame} {meth : Method} {c : Code} {G : GG} {A : Nat → Prop} {ad : Nat → Nat} {S : ST} {N : Nat} {dy' : DY}
set_option maxHeartbeats 4000000 in
set_option maxRecDepth 100000 in
theorem B_X10_passDoor_134 (C : CX p s m args c cX10_passDoor 6 RX10 G A) (HR : meth.sig.returnType = (Option.none : Option Jvm.ClassFile.FieldType)) (HL : meth.locks = false) (hG : Good S) : ∀ (x0 : Nat) (x3 : Int32) (x4 : Int32) (y0 : Nat) (y1 : Int32) (y2 : Int32) (dy : DY), gs S x0 = (0, 10) → gs S y0 = (1, 10080) → F_X10_passDoor_134 S N x0 x3 x4 y0 y1 y2 dy = some dy' → WJ p l e (rmD (1)) s m args below meth c 6 G A 0 0 (MQ below (QV G ad A S dy') args s 0 0 A) ad 134 [(0, .ref (ad x0)), (3, .int x3), (4, .int x4)] [.int y2, .int y1, .ref (ad y0)] S dy := by
  intro x0 x3 x4 y0 y1 y2 dy Tx0 Ty0 E
  rw [F_X10_passDoor_134_s] at E
  refine ww_iast C dX10_passDoor_134 Ty0 E (fun _ E => ?_)
  refine ww_bd E (fun dy1 E => ?_)
  refine ww_aload_n C dX10_passDoor_135 rfl 0 rfl ?_
  have T_2 : gs S (gr S x0 39) = (1, 10080) := hG.1 _ 10 Tx0 39 (by decide)
  refine ww_getr (ci := 10) (k0 := 39) C dX10_passDoor_136 rfl rfl inm10 (by decide) Tx0 q1317 rfl T_2 (by decide) ?_
  refine ww_iload C dX10_passDoor_139 2 rfl ?_
  refine ww_iload_n C dX10_passDoor_141 rfl 1 rfl ?_
  refine ww_iast C dX10_passDoor_142 T_2 E (fun _ E => ?_)
  refine ww_bd E (fun dy3 E => ?_)
  refine ww_aload_n C dX10_passDoor_143 rfl 0 rfl ?_
  have T_4 : gs S (gr S x0 39) = (1, 10080) := hG.1 _ 10 Tx0 39 (by decide)
  refine ww_getr (ci := 10) (k0 := 39) C dX10_passDoor_144 rfl rfl inm10 (by decide) Tx0 q1317 rfl T_4 (by decide) ?_
  refine ww_iload C dX10_passDoor_147 2 rfl ?_
  refine ww_iconst (v := 4) C dX10_passDoor_149 (by decide) ?_
  refine ww_iadd C dX10_passDoor_150 ?_
  refine ww_dup2 C dX10_passDoor_151 rfl rfl ?_
  refine ww_iald C dX10_passDoor_152 T_4 E (fun _ E => ?_)
  refine ww_iconst (v := 1) C dX10_passDoor_153 (by decide) ?_
  refine ww_iadd C dX10_passDoor_154 ?_
  refine ww_iast C dX10_passDoor_155 T_4 E (fun _ E => ?_)
  refine ww_bd E (fun dy5 E => ?_)
  exact ww_vret C HR HL dX10_passDoor_156 E
set_option maxHeartbeats 4000000 in
set_option maxRecDepth 100000 in
theorem B_X10_passDoor_83 (C : CX p s m args c cX10_passDoor 6 RX10 G A) (HR : meth.sig.returnType = (Option.none : Option Jvm.ClassFile.FieldType)) (HL : meth.locks = false) (hG : Good S) : ∀ (x0 : Nat) (x3 : Int32) (x4 : Int32) (y0 : Nat) (y1 : Int32) (y2 : Int32) (dy : DY), gs S x0 = (0, 10) → gs S y0 = (1, 10080) → F_X10_passDoor_83 S N x0 x3 x4 y0 y1 y2 dy = some dy' → WJ p l e (rmD (1)) s m args below meth c 6 G A 0 0 (MQ below (QV G ad A S dy') args s 0 0 A) ad 83 [(0, .ref (ad x0)), (3, .int x3), (4, .int x4)] [.int y2, .int y1, .ref (ad y0)] S dy := by
  intro x0 x3 x4 y0 y1 y2 dy Tx0 Ty0 E
  rw [F_X10_passDoor_83_s] at E
  refine ww_iast C dX10_passDoor_83 Ty0 E (fun _ E => ?_)
  refine ww_bd E (fun dy1 E => ?_)
  refine ww_aload_n C dX10_passDoor_84 rfl 0 rfl ?_
  have T_2 : gs S (gr S x0 39) = (1, 10080) := hG.1 _ 10 Tx0 39 (by decide)
  refine ww_getr (ci := 10) (k0 := 39) C dX10_passDoor_85 rfl rfl inm10 (by decide) Tx0 q1317 rfl T_2 (by decide) ?_
  refine ww_iload C dX10_passDoor_88 2 rfl ?_
  refine ww_iconst (v := 2) C dX10_passDoor_90 (by decide) ?_
  refine ww_iadd C dX10_passDoor_91 ?_
  refine ww_aload_n C dX10_passDoor_92 rfl 0 rfl ?_
  have T_3 : gs S (gr S x0 39) = (1, 10080) := hG.1 _ 10 Tx0 39 (by decide)
  refine ww_getr (ci := 10) (k0 := 39) C dX10_passDoor_93 rfl rfl inm10 (by decide) Tx0 q1317 rfl T_3 (by decide) ?_
  refine ww_iload C dX10_passDoor_96 2 rfl ?_
  refine ww_iconst (v := 1) C dX10_passDoor_98 (by decide) ?_
  refine ww_iadd C dX10_passDoor_99 ?_
  refine ww_iald C dX10_passDoor_100 T_3 E (fun _ E => ?_)
  refine ww_aload_n C dX10_passDoor_101 rfl 0 rfl ?_
  have T_4 : gs S (gr S x0 39) = (1, 10080) := hG.1 _ 10 Tx0 39 (by decide)
  refine ww_getr (ci := 10) (k0 := 39) C dX10_passDoor_102 rfl rfl inm10 (by decide) Tx0 q1317 rfl T_4 (by decide) ?_
  refine ww_iload C dX10_passDoor_105 2 rfl ?_
  refine ww_iconst (v := 2) C dX10_passDoor_107 (by decide) ?_
  refine ww_iadd C dX10_passDoor_108 ?_
  refine ww_iald C dX10_passDoor_109 T_4 E (fun _ E => ?_)
  refine ww_icmp_le (tgt := 125) C dX10_passDoor_110 (by decide) E (fun _ E => ?_) (fun _ E => ?_)
  · refine ww_aload_n C dX10_passDoor_125 rfl 0 rfl ?_
    have T_5 : gs S (gr S x0 39) = (1, 10080) := hG.1 _ 10 Tx0 39 (by decide)
    refine ww_getr (ci := 10) (k0 := 39) C dX10_passDoor_126 rfl rfl inm10 (by decide) Tx0 q1317 rfl T_5 (by decide) ?_
    refine ww_iload C dX10_passDoor_129 2 rfl ?_
    refine ww_iconst (v := 2) C dX10_passDoor_131 (by decide) ?_
    refine ww_iadd C dX10_passDoor_132 ?_
    refine ww_iald C dX10_passDoor_133 T_5 E (fun _ E => ?_)
    refine ww_sub (lv' := [(0, .ref (ad x0)), (3, .int x3), (4, .int x4)]) [0, 1, 2] rfl ?_
    exact (B_X10_passDoor_134 C HR HL hG) x0 x3 x4 (gr S x0 39) (x4 + (2 : Int32)) (gi dy1 (gr S x0 39) (x4 + (2 : Int32)).toNatClampNeg) dy1 Tx0 T_2 E
  · refine ww_aload_n C dX10_passDoor_113 rfl 0 rfl ?_
    have T_6 : gs S (gr S x0 39) = (1, 10080) := hG.1 _ 10 Tx0 39 (by decide)
    refine ww_getr (ci := 10) (k0 := 39) C dX10_passDoor_114 rfl rfl inm10 (by decide) Tx0 q1317 rfl T_6 (by decide) ?_
    refine ww_iload C dX10_passDoor_117 2 rfl ?_
    refine ww_iconst (v := 1) C dX10_passDoor_119 (by decide) ?_
    refine ww_iadd C dX10_passDoor_120 ?_
    refine ww_iald C dX10_passDoor_121 T_6 E (fun _ E => ?_)
    refine ww_goto (tgt := 134) C dX10_passDoor_122 (by decide) ?_
    refine ww_sub (lv' := [(0, .ref (ad x0)), (3, .int x3), (4, .int x4)]) [0, 1, 2] rfl ?_
    exact (B_X10_passDoor_134 C HR HL hG) x0 x3 x4 (gr S x0 39) (x4 + (2 : Int32)) (gi dy1 (gr S x0 39) (x4 + (1 : Int32)).toNatClampNeg) dy1 Tx0 T_2 E
set_option maxHeartbeats 4000000 in
set_option maxRecDepth 100000 in
theorem B_X10_passDoor_53 (C : CX p s m args c cX10_passDoor 6 RX10 G A) (HR : meth.sig.returnType = (Option.none : Option Jvm.ClassFile.FieldType)) (HL : meth.locks = false) (hG : Good S) : ∀ (x0 : Nat) (x3 : Int32) (x4 : Int32) (x5 : Int32) (y0 : Nat) (y1 : Int32) (y2 : Int32) (y3 : Int32) (dy : DY), gs S x0 = (0, 10) → gs S y0 = (1, 10080) → F_X10_passDoor_53 S N x0 x3 x4 x5 y0 y1 y2 y3 dy = some dy' → WJ p l e (rmD (1)) s m args below meth c 6 G A 0 0 (MQ below (QV G ad A S dy') args s 0 0 A) ad 53 [(0, .ref (ad x0)), (3, .int x3), (4, .int x4), (5, .int x5)] [.int y3, .int y2, .int y1, .ref (ad y0)] S dy := by
  intro x0 x3 x4 x5 y0 y1 y2 y3 dy Tx0 Ty0 E
  rw [F_X10_passDoor_53_s] at E
  refine ww_iadd C dX10_passDoor_53 ?_
  refine ww_iast C dX10_passDoor_54 Ty0 E (fun _ E => ?_)
  refine ww_bd E (fun dy1 E => ?_)
  refine ww_aload_n C dX10_passDoor_55 rfl 0 rfl ?_
  have T_2 : gs S (gr S x0 39) = (1, 10080) := hG.1 _ 10 Tx0 39 (by decide)
  refine ww_getr (ci := 10) (k0 := 39) C dX10_passDoor_56 rfl rfl inm10 (by decide) Tx0 q1317 rfl T_2 (by decide) ?_
  refine ww_iload C dX10_passDoor_59 2 rfl ?_
  refine ww_iconst (v := 1) C dX10_passDoor_61 (by decide) ?_
  refine ww_iadd C dX10_passDoor_62 ?_
  refine ww_iload C dX10_passDoor_63 3 rfl ?_
  refine ww_if_eq (tgt := 82) C dX10_passDoor_65 (by decide) E (fun _ E => ?_) (fun _ E => ?_)
  · refine ww_iconst (v := 1) C dX10_passDoor_82 (by decide) ?_
    refine ww_sub (lv' := [(0, .ref (ad x0)), (3, .int x3), (4, .int x4)]) [0, 1, 2] rfl ?_
    exact (B_X10_passDoor_83 C HR HL hG) x0 x3 x4 (gr S x0 39) (x4 + (1 : Int32)) (1 : Int32) dy1 Tx0 T_2 E
  · refine ww_aload_n C dX10_passDoor_68 rfl 0 rfl ?_
    have T_3 : gs S (gr S x0 39) = (1, 10080) := hG.1 _ 10 Tx0 39 (by decide)
    refine ww_getr (ci := 10) (k0 := 39) C dX10_passDoor_69 rfl rfl inm10 (by decide) Tx0 q1317 rfl T_3 (by decide) ?_
    refine ww_iload C dX10_passDoor_72 2 rfl ?_
    refine ww_iconst (v := 1) C dX10_passDoor_74 (by decide) ?_
    refine ww_iadd C dX10_passDoor_75 ?_
    refine ww_iald C dX10_passDoor_76 T_3 E (fun _ E => ?_)
    refine ww_iconst (v := 1) C dX10_passDoor_77 (by decide) ?_
    refine ww_iadd C dX10_passDoor_78 ?_
    refine ww_goto (tgt := 83) C dX10_passDoor_79 (by decide) ?_
    refine ww_sub (lv' := [(0, .ref (ad x0)), (3, .int x3), (4, .int x4)]) [0, 1, 2] rfl ?_
    exact (B_X10_passDoor_83 C HR HL hG) x0 x3 x4 (gr S x0 39) (x4 + (1 : Int32)) ((gi dy1 (gr S x0 39) (x4 + (1 : Int32)).toNatClampNeg) + (1 : Int32)) dy1 Tx0 T_2 E
set_option maxHeartbeats 4000000 in
set_option maxRecDepth 100000 in
theorem B_X10_passDoor_31 (C : CX p s m args c cX10_passDoor 6 RX10 G A) (HR : meth.sig.returnType = (Option.none : Option Jvm.ClassFile.FieldType)) (HL : meth.locks = false) (hG : Good S) : ∀ (x0 : Nat) (x3 : Int32) (x4 : Int32) (y0 : Int32) (dy : DY), gs S x0 = (0, 10) → F_X10_passDoor_31 S N x0 x3 x4 y0 dy = some dy' → WJ p l e (rmD (1)) s m args below meth c 6 G A 0 0 (MQ below (QV G ad A S dy') args s 0 0 A) ad 31 [(0, .ref (ad x0)), (3, .int x3), (4, .int x4)] [.int y0] S dy := by
  intro x0 x3 x4 y0 dy Tx0 E
  rw [F_X10_passDoor_31_s] at E
  refine ww_istore (lv' := [(5, .int y0), (0, .ref (ad x0)), (3, .int x3), (4, .int x4)]) C dX10_passDoor_31 (by decide) rfl ?_
  refine ww_aload_n C dX10_passDoor_33 rfl 1 rfl ?_
  have T_1 : gs S (gr S x0 39) = (1, 10080) := hG.1 _ 10 Tx0 39 (by decide)
  refine ww_getr (ci := 10) (k0 := 39) C dX10_passDoor_34 rfl rfl inm10 (by decide) Tx0 q1317 rfl T_1 (by decide) ?_
  refine ww_iload C dX10_passDoor_37 3 rfl ?_
  refine ww_iconst (v := 3) C dX10_passDoor_39 (by decide) ?_
  refine ww_iadd C dX10_passDoor_40 ?_
  refine ww_dup2 C dX10_passDoor_41 rfl rfl ?_
  refine ww_iald C dX10_passDoor_42 T_1 E (fun _ E => ?_)
  refine ww_iload C dX10_passDoor_43 0 rfl ?_
  refine ww_if_eq (tgt := 52) C dX10_passDoor_45 (by decide) E (fun _ E => ?_) (fun _ E => ?_)
  · refine ww_iconst (v := 1) C dX10_passDoor_52 (by decide) ?_
    refine ww_sub (lv' := [(0, .ref (ad x0)), (3, .int x3), (4, .int x4), (5, .int y0)]) [1, 2, 3, 0] rfl ?_
    exact (B_X10_passDoor_53 C HR HL hG) x0 x3 x4 y0 (gr S x0 39) (x4 + (3 : Int32)) (gi dy (gr S x0 39) (x4 + (3 : Int32)).toNatClampNeg) (1 : Int32) dy Tx0 T_1 E
  · refine ww_iconst (v := 0) C dX10_passDoor_48 (by decide) ?_
    refine ww_goto (tgt := 53) C dX10_passDoor_49 (by decide) ?_
    refine ww_sub (lv' := [(0, .ref (ad x0)), (3, .int x3), (4, .int x4), (5, .int y0)]) [1, 2, 3, 0] rfl ?_
    exact (B_X10_passDoor_53 C HR HL hG) x0 x3 x4 y0 (gr S x0 39) (x4 + (3 : Int32)) (gi dy (gr S x0 39) (x4 + (3 : Int32)).toNatClampNeg) (0 : Int32) dy Tx0 T_1 E
end P_X10_passDoor
set_option maxHeartbeats 4000000 in
set_option maxRecDepth 100000 in
theorem M_X10_passDoor (l : Launch) (G : GG) (ad : Nat → Nat) {S : ST} (N : Nat) (hG : Good S) (a0 : Nat) (a1 : Int32) (a2 : Int32) (a3 : Int32) (dy : DY) (T0 : gs S a0 = (0, 10)) {dy' : DY} (E : F_X10_passDoor S N a0 a1 a2 a3 dy = some dy') : MC l yX10_passDoor cX10_passDoor 6 (Option.none : Option Jvm.ClassFile.FieldType) (1) G ad [.ref (ad a0), .int a1, .int a2, .int a3] S dy (fun A => QV G ad A S dy') := by
  rw [F_X10_passDoor_s] at E
  refine mc_of RX10 (by decide) rfl (Nat.le_of_ble_eq_true rfl) (fun p e s m args below meth c A C HR HL => ?_)
  refine ww_sub (lv' := [(0, .ref (ad a0)), (1, .int a1), (2, .int a2), (3, .int a3)]) [0, 1, 2, 3] rfl ?_
  refine ww_sipush (v := 720) C dX10_passDoor_0 (by decide) ?_
  refine ww_iload_n C dX10_passDoor_3 rfl 1 rfl ?_
  refine ww_imul C dX10_passDoor_4 ?_
  refine ww_sipush (v := 640) C dX10_passDoor_5 (by decide) ?_
  refine ww_iadd C dX10_passDoor_8 ?_
  refine ww_iconst (v := 5) C dX10_passDoor_9 (by decide) ?_
  refine ww_iload_n C dX10_passDoor_10 rfl 2 rfl ?_
  refine ww_imul C dX10_passDoor_11 ?_
  refine ww_iadd C dX10_passDoor_12 ?_
  refine ww_istore (lv' := [(4, .int ((((720 : Int32) * a1) + (640 : Int32)) + ((5 : Int32) * a2))), (0, .ref (ad a0)), (1, .int a1), (2, .int a2), (3, .int a3)]) C dX10_passDoor_13 (by decide) rfl ?_
  refine ww_aload_n C dX10_passDoor_15 rfl 1 rfl ?_
  have T_1 : gs S (gr S a0 39) = (1, 10080) := hG.1 _ 10 T0 39 (by decide)
  refine ww_getr (ci := 10) (k0 := 39) C dX10_passDoor_16 rfl rfl inm10 (by decide) T0 q1317 rfl T_1 (by decide) ?_
  refine ww_iload C dX10_passDoor_19 0 rfl ?_
  refine ww_iald C dX10_passDoor_21 T_1 E (fun _ E => ?_)
  refine ww_iload_n C dX10_passDoor_22 rfl 4 rfl ?_
  refine ww_icmp_ne (tgt := 30) C dX10_passDoor_23 (by decide) E (fun _ E => ?_) (fun _ E => ?_)
  · refine ww_iconst (v := 0) C dX10_passDoor_30 (by decide) ?_
    refine ww_sub (lv' := [(0, .ref (ad a0)), (3, .int a3), (4, .int ((((720 : Int32) * a1) + (640 : Int32)) + ((5 : Int32) * a2)))]) [1, 4, 0] rfl ?_
    exact (B_X10_passDoor_31 C HR HL hG) a0 a3 ((((720 : Int32) * a1) + (640 : Int32)) + ((5 : Int32) * a2)) (0 : Int32) dy T0 E
  · refine ww_iconst (v := 1) C dX10_passDoor_26 (by decide) ?_
    refine ww_goto (tgt := 31) C dX10_passDoor_27 (by decide) ?_
    refine ww_sub (lv' := [(0, .ref (ad a0)), (3, .int a3), (4, .int ((((720 : Int32) * a1) + (640 : Int32)) + ((5 : Int32) * a2)))]) [1, 4, 0] rfl ?_
    exact (B_X10_passDoor_31 C HR HL hG) a0 a3 ((((720 : Int32) * a1) + (640 : Int32)) + ((5 : Int32) * a2)) (1 : Int32) dy T0 E
section P_X10_goes
variable {p : Program} {l : Launch} {e : Env} {s : State} {m : MethodId} {args : Array Value} {below : List Frame} {meth : Method} {c : Code} {G : GG} {A : Nat → Prop} {ad : Nat → Nat} {S : ST} {N : Nat} {dy' : DY}
set_option maxHeartbeats 4000000 in
set_option maxRecDepth 100000 in
theorem B_X10_goes_241 (C : CX p s m args c cX10_goes 8 RX10 G A) (HR : meth.sig.returnType = (Option.none : Option Jvm.ClassFile.FieldType)) (HL : meth.locks = false) (hG : Good S) {K246 : Nat → Int32 → Int32 → Int32 → Int32 → Int32 → Int32 → DY → Option DY} (hK246 : ∀ (x0 : Nat) (x1 : Int32) (x2 : Int32) (x3 : Int32) (x5 : Int32) (x6 : Int32) (x7 : Int32) (dy : DY), gs S x0 = (0, 10) → K246 x0 x1 x2 x3 x5 x6 x7 dy = some dy' → WJ p l e (rmD (3)) s m args below meth c 8 G A 0 0 (MQ below (QV G ad A S dy') args s 0 0 A) ad 246 [(0, .ref (ad x0)), (1, .int x1), (2, .int x2), (3, .int x3), (5, .int x5), (6, .int x6), (7, .int x7)] [] S dy) : ∀ (x0 : Nat) (x1 : Int32) (x2 : Int32) (x3 : Int32) (x4 : Int32) (x5 : Int32) (x6 : Int32) (x7 : Int32) (y0 : Nat) (y1 : Int32) (y2 : Int32) (dy : DY), gs S x0 = (0, 10) → gs S y0 = (0, 10) → F_X10_goes_241 S N K246 x0 x1 x2 x3 x4 x5 x6 x7 y0 y1 y2 dy = some dy' → WJ p l e (rmD (3)) s m args below meth c 8 G A 0 0 (MQ below (QV G ad A S dy') args s 0 0 A) ad 241 [(0, .ref (ad x0)), (1, .int x1), (2, .int x2), (3, .int x3), (4, .int x4), (5, .int x5), (6, .int x6), (7, .int x7)] [.int y2, .int y1, .ref (ad y0)] S dy := by
  intro x0 x1 x2 x3 x4 x5 x6 x7 y0 y1 y2 dy Tx0 Ty0 E
  rw [F_X10_goes_241_s] at E
  refine ww_iload C dX10_goes_241 4 rfl ?_
  obtain ⟨u1, e_2, E⟩ := bind_of E
  refine ww_callV C (runs_V (n := 3) (st := []) C [.int y1, .int y2, .int x4] (M_X10_passDoor l G ad N hG y0 y1 y2 x4 dy Ty0 e_2) ⟨q1733, q118, by decide⟩ q1730 q1732 q87 (ci := 10) rfl Ty0 rfl (Nat.le_of_ble_eq_true rfl) ⟨Nat.le_of_ble_eq_true rfl, Nat.le_of_ble_eq_true rfl⟩ ⟨Nat.zero_le _, Nat.zero_le _⟩ dX10_goes_243 rfl) ?_
  refine ww_sub (lv' := [(0, .ref (ad x0)), (1, .int x1), (2, .int x2), (3, .int x3), (5, .int x5), (6, .int x6), (7, .int x7)]) [0, 1, 2, 3, 5, 6, 7] rfl ?_
  exact hK246 x0 x1 x2 x3 x5 x6 x7 u1 Tx0 E
set_option maxHeartbeats 4000000 in
set_option maxRecDepth 100000 in
theorem B_X10_goes_322 (C : CX p s m args c cX10_goes 8 RX10 G A) (HR : meth.sig.returnType = (Option.none : Option Jvm.ClassFile.FieldType)) (HL : meth.locks = false) (hG : Good S) : ∀ (y0 : Nat) (y1 : Int32) (y2 : Int32) (dy : DY), gs S y0 = (1, 12) → F_X10_goes_322 S N y0 y1 y2 dy = some dy' → WJ p l e (rmD (3)) s m args below meth c 8 G A 0 0 (MQ below (QV G ad A S dy') args s 0 0 A) ad 322 [] [.int y2, .int y1, .ref (ad y0)] S dy := by
  intro y0 y1 y2 dy Ty0 E
  rw [F_X10_goes_322_s] at E
  refine ww_iast C dX10_goes_322 Ty0 E (fun _ E => ?_)
  refine ww_bd E (fun dy1 E => ?_)
  exact ww_vret C HR HL dX10_goes_323 E
set_option maxHeartbeats 4000000 in
set_option maxRecDepth 100000 in
theorem B_X10_goes_305 (C : CX p s m args c cX10_goes 8 RX10 G A) (HR : meth.sig.returnType = (Option.none : Option Jvm.ClassFile.FieldType)) (HL : meth.locks = false) (hG : Good S) : ∀ (x0 : Nat) (x2 : Int32) (x6 : Int32) (x7 : Int32) (y0 : Nat) (y1 : Int32) (y2 : Int32) (dy : DY), gs S x0 = (0, 10) → gs S y0 = (1, 12) → F_X10_goes_305 S N x0 x2 x6 x7 y0 y1 y2 dy = some dy' → WJ p l e (rmD (3)) s m args below meth c 8 G A 0 0 (MQ below (QV G ad A S dy') args s 0 0 A) ad 305 [(0, .ref (ad x0)), (2, .int x2), (6, .int x6), (7, .int x7)] [.int y2, .int y1, .ref (ad y0)] S dy := by
  intro x0 x2 x6 x7 y0 y1 y2 dy Tx0 Ty0 E
  rw [F_X10_goes_305_s] at E
  refine ww_iast C dX10_goes_305 Ty0 E (fun _ E => ?_)
  refine ww_bd E (fun dy1 E => ?_)
  refine ww_aload_n C dX10_goes_306 rfl 0 rfl ?_
  have T_2 : gs S (gr S x0 49) = (1, 12) := hG.1 _ 10 Tx0 49 (by decide)
  refine ww_getr (ci := 10) (k0 := 49) C dX10_goes_307 rfl rfl inm10 (by decide) Tx0 q1327 rfl T_2 (by decide) ?_
  refine ww_iload_n C dX10_goes_310 rfl 1 rfl ?_
  refine ww_iload C dX10_goes_311 3 rfl ?_
  refine ww_if_eq (tgt := 321) C dX10_goes_313 (by decide) E (fun _ E => ?_) (fun _ E => ?_)
  · refine ww_iconst (v := (-1)) C dX10_goes_321 (by decide) ?_
    refine ww_sub (lv' := []) [] rfl ?_
    exact (B_X10_goes_322 C HR HL hG) (gr S x0 49) x2 (-1 : Int32) dy1 T_2 E
  · refine ww_iload C dX10_goes_316 2 rfl ?_
    refine ww_goto (tgt := 322) C dX10_goes_318 (by decide) ?_
    refine ww_sub (lv' := []) [] rfl ?_
    exact (B_X10_goes_322 C HR HL hG) (gr S x0 49) x2 x6 dy1 T_2 E
set_option maxHeartbeats 4000000 in
set_option maxRecDepth 100000 in
theorem B_X10_goes_289 (C : CX p s m args c cX10_goes 8 RX10 G A) (HR : meth.sig.returnType = (Option.none : Option Jvm.ClassFile.FieldType)) (HL : meth.locks = false) (hG : Good S) : ∀ (x0 : Nat) (x2 : Int32) (x5 : Int32) (x6 : Int32) (x7 : Int32) (dy : DY), gs S x0 = (0, 10) → F_X10_goes_289 S N x0 x2 x5 x6 x7 dy = some dy' → WJ p l e (rmD (3)) s m args below meth c 8 G A 0 0 (MQ below (QV G ad A S dy') args s 0 0 A) ad 289 [(0, .ref (ad x0)), (2, .int x2), (5, .int x5), (6, .int x6), (7, .int x7)] [] S dy := by
  intro x0 x2 x5 x6 x7 dy Tx0 E
  rw [F_X10_goes_289_s] at E
  refine ww_aload_n C dX10_goes_289 rfl 0 rfl ?_
  have T_1 : gs S (gr S x0 48) = (1, 12) := hG.1 _ 10 Tx0 48 (by decide)
  refine ww_getr (ci := 10) (k0 := 48) C dX10_goes_290 rfl rfl inm10 (by decide) Tx0 q1326 rfl T_1 (by decide) ?_
  refine ww_iload_n C dX10_goes_293 rfl 1 rfl ?_
  refine ww_iload C dX10_goes_294 4 rfl ?_
  refine ww_if_eq (tgt := 304) C dX10_goes_296 (by decide) E (fun _ E => ?_) (fun _ E => ?_)
  · refine ww_iconst (v := (-1)) C dX10_goes_304 (by decide) ?_
    refine ww_sub (lv' := [(0, .ref (ad x0)), (2, .int x2), (6, .int x6), (7, .int x7)]) [0, 1, 3, 4] rfl ?_
    exact (B_X10_goes_305 C HR HL hG) x0 x2 x6 x7 (gr S x0 48) x2 (-1 : Int32) dy Tx0 T_1 E
  · refine ww_iload C dX10_goes_299 2 rfl ?_
    refine ww_goto (tgt := 305) C dX10_goes_301 (by decide) ?_
    refine ww_sub (lv' := [(0, .ref (ad x0)), (2, .int x2), (6, .int x6), (7, .int x7)]) [0, 1, 3, 4] rfl ?_
    exact (B_X10_goes_305 C HR HL hG) x0 x2 x6 x7 (gr S x0 48) x2 x5 dy Tx0 T_1 E
set_option maxHeartbeats 4000000 in
set_option maxRecDepth 100000 in
theorem B_X10_goes_246 (C : CX p s m args c cX10_goes 8 RX10 G A) (HR : meth.sig.returnType = (Option.none : Option Jvm.ClassFile.FieldType)) (HL : meth.locks = false) (hG : Good S) : ∀ (x0 : Nat) (x1 : Int32) (x2 : Int32) (x3 : Int32) (x5 : Int32) (x6 : Int32) (x7 : Int32) (dy : DY), gs S x0 = (0, 10) → F_X10_goes_246 S N x0 x1 x2 x3 x5 x6 x7 dy = some dy' → WJ p l e (rmD (3)) s m args below meth c 8 G A 0 0 (MQ below (QV G ad A S dy') args s 0 0 A) ad 246 [(0, .ref (ad x0)), (1, .int x1), (2, .int x2), (3, .int x3), (5, .int x5), (6, .int x6), (7, .int x7)] [] S dy := by
  intro x0 x1 x2 x3 x5 x6 x7 dy Tx0 E
  rw [F_X10_goes_246_s] at E
  refine ww_iload C dX10_goes_246 6 rfl ?_
  refine ww_if_ne (tgt := 289) C dX10_goes_248 (by decide) E (fun _ E => ?_) (fun _ E => ?_)
  · refine ww_sub (lv' := [(0, .ref (ad x0)), (2, .int x2), (5, .int x5), (6, .int x6), (7, .int x7)]) [0, 2, 4, 5, 6] rfl ?_
    exact (B_X10_goes_289 C HR HL hG) x0 x2 x5 x6 x7 dy Tx0 E
  · refine ww_aload_n C dX10_goes_251 rfl 0 rfl ?_
    have T_1 : gs S (gr S x0 39) = (1, 10080) := hG.1 _ 10 Tx0 39 (by decide)
    refine ww_getr (ci := 10) (k0 := 39) C dX10_goes_252 rfl rfl inm10 (by decide) Tx0 q1317 rfl T_1 (by decide) ?_
    refine ww_iload_n C dX10_goes_255 rfl 3 rfl ?_
    refine ww_bipush (v := 14) C dX10_goes_256 (by decide) ?_
    refine ww_iadd C dX10_goes_258 ?_
    refine ww_aload_n C dX10_goes_259 rfl 0 rfl ?_
    have T_2 : gs S (gr S x0 39) = (1, 10080) := hG.1 _ 10 Tx0 39 (by decide)
    refine ww_getr (ci := 10) (k0 := 39) C dX10_goes_260 rfl rfl inm10 (by decide) Tx0 q1317 rfl T_2 (by decide) ?_
    refine ww_sipush (v := 720) C dX10_goes_263 (by decide) ?_
    refine ww_iload_n C dX10_goes_266 rfl 1 rfl ?_
    refine ww_imul C dX10_goes_267 ?_
    refine ww_iconst (v := 3) C dX10_goes_268 (by decide) ?_
    refine ww_iadd C dX10_goes_269 ?_
    refine ww_iald C dX10_goes_270 T_2 E (fun _ E => ?_)
    refine ww_iast C dX10_goes_271 T_1 E (fun _ E => ?_)
    refine ww_bd E (fun dy3 E => ?_)
    refine ww_aload_n C dX10_goes_272 rfl 0 rfl ?_
    have T_4 : gs S (gr S x0 39) = (1, 10080) := hG.1 _ 10 Tx0 39 (by decide)
    refine ww_getr (ci := 10) (k0 := 39) C dX10_goes_273 rfl rfl inm10 (by decide) Tx0 q1317 rfl T_4 (by decide) ?_
    refine ww_sipush (v := 720) C dX10_goes_276 (by decide) ?_
    refine ww_iload_n C dX10_goes_279 rfl 1 rfl ?_
    refine ww_imul C dX10_goes_280 ?_
    refine ww_bipush (v := 6) C dX10_goes_281 (by decide) ?_
    refine ww_iadd C dX10_goes_283 ?_
    refine ww_dup2 C dX10_goes_284 rfl rfl ?_
    refine ww_iald C dX10_goes_285 T_4 E (fun _ E => ?_)
    refine ww_iconst (v := 1) C dX10_goes_286 (by decide) ?_
    refine ww_iadd C dX10_goes_287 ?_
    refine ww_iast C dX10_goes_288 T_4 E (fun _ E => ?_)
    refine ww_bd E (fun dy5 E => ?_)
    refine ww_sub (lv' := [(0, .ref (ad x0)), (2, .int x2), (5, .int x5), (6, .int x6), (7, .int x7)]) [0, 2, 4, 5, 6] rfl ?_
    exact (B_X10_goes_289 C HR HL hG) x0 x2 x5 x6 x7 dy5 Tx0 E
set_option maxHeartbeats 4000000 in
set_option maxRecDepth 100000 in
theorem B_X10_goes_201 (C : CX p s m args c cX10_goes 8 RX10 G A) (HR : meth.sig.returnType = (Option.none : Option Jvm.ClassFile.FieldType)) (HL : meth.locks = false) (hG : Good S) : ∀ (x0 : Nat) (x1 : Int32) (x2 : Int32) (x3 : Int32) (x4 : Int32) (x5 : Int32) (x6 : Int32) (x7 : Int32) (y0 : Nat) (y1 : Int32) (y2 : Int32) (y3 : Int32) (dy : DY), gs S x0 = (0, 10) → gs S y0 = (1, 10080) → F_X10_goes_201 S N x0 x1 x2 x3 x4 x5 x6 x7 y0 y1 y2 y3 dy = some dy' → WJ p l e (rmD (3)) s m args below meth c 8 G A 0 0 (MQ below (QV G ad A S dy') args s 0 0 A) ad 201 [(0, .ref (ad x0)), (1, .int x1), (2, .int x2), (3, .int x3), (4, .int x4), (5, .int x5), (6, .int x6), (7, .int x7)] [.int y3, .int y2, .int y1, .ref (ad y0)] S dy := by
  intro x0 x1 x2 x3 x4 x5 x6 x7 y0 y1 y2 y3 dy Tx0 Ty0 E
  rw [F_X10_goes_201_s] at E
  refine ww_iadd C dX10_goes_201 ?_
  refine ww_iast C dX10_goes_202 Ty0 E (fun _ E => ?_)
  refine ww_bd E (fun dy1 E => ?_)
  refine ww_iload C dX10_goes_203 7 rfl ?_
  refine ww_if_eq (tgt := 246) C dX10_goes_205 (by decide) E (fun _ E => ?_) (fun _ E => ?_)
  · refine ww_sub (lv' := [(0, .ref (ad x0)), (1, .int x1), (2, .int x2), (3, .int x3), (5, .int x5), (6, .int x6), (7, .int x7)]) [0, 1, 2, 3, 5, 6, 7] rfl ?_
    exact (B_X10_goes_246 C HR HL hG) x0 x1 x2 x3 x5 x6 x7 dy1 Tx0 E
  · refine ww_aload_n C dX10_goes_208 rfl 0 rfl ?_
    have T_2 : gs S (gr S x0 43) = (1, 12) := hG.1 _ 10 Tx0 43 (by decide)
    refine ww_getr (ci := 10) (k0 := 43) C dX10_goes_209 rfl rfl inm10 (by decide) Tx0 q1321 rfl T_2 (by decide) ?_
    refine ww_iload_n C dX10_goes_212 rfl 2 rfl ?_
    refine ww_iald C dX10_goes_213 T_2 E (fun _ E => ?_)
    refine ww_if_ne (tgt := 246) C dX10_goes_214 (by decide) E (fun _ E => ?_) (fun _ E => ?_)
    · refine ww_sub (lv' := [(0, .ref (ad x0)), (1, .int x1), (2, .int x2), (3, .int x3), (5, .int x5), (6, .int x6), (7, .int x7)]) [0, 1, 2, 3, 5, 6, 7] rfl ?_
      exact (B_X10_goes_246 C HR HL hG) x0 x1 x2 x3 x5 x6 x7 dy1 Tx0 E
    · refine ww_aload_n C dX10_goes_217 rfl 0 rfl ?_
      refine ww_iload_n C dX10_goes_218 rfl 1 rfl ?_
      refine ww_iload C dX10_goes_219 5 rfl ?_
      refine ww_aload_n C dX10_goes_221 rfl 0 rfl ?_
      have T_3 : gs S (gr S x0 48) = (1, 12) := hG.1 _ 10 Tx0 48 (by decide)
      refine ww_getr (ci := 10) (k0 := 48) C dX10_goes_222 rfl rfl inm10 (by decide) Tx0 q1326 rfl T_3 (by decide) ?_
      refine ww_iload_n C dX10_goes_225 rfl 2 rfl ?_
      refine ww_iald C dX10_goes_226 T_3 E (fun _ E => ?_)
      refine ww_icmp_ge (tgt := 235) C dX10_goes_227 (by decide) E (fun _ E => ?_) (fun _ E => ?_)
      · refine ww_aload_n C dX10_goes_235 rfl 0 rfl ?_
        have T_4 : gs S (gr S x0 48) = (1, 12) := hG.1 _ 10 Tx0 48 (by decide)
        refine ww_getr (ci := 10) (k0 := 48) C dX10_goes_236 rfl rfl inm10 (by decide) Tx0 q1326 rfl T_4 (by decide) ?_
        refine ww_iload_n C dX10_goes_239 rfl 2 rfl ?_
        refine ww_iald C dX10_goes_240 T_4 E (fun _ E => ?_)
        refine ww_sub (lv' := [(0, .ref (ad x0)), (1, .int x1), (2, .int x2), (3, .int x3), (4, .int x4), (5, .int x5), (6, .int x6), (7, .int x7)]) [0, 1, 2, 3, 4, 5, 6, 7] rfl ?_
        exact (B_X10_goes_241 C HR HL hG (B_X10_goes_246 C HR HL hG)) x0 x1 x2 x3 x4 x5 x6 x7 x0 x1 (gi dy1 (gr S x0 48) x2.toNatClampNeg) dy1 Tx0 Tx0 E
      · refine ww_iload C dX10_goes_230 5 rfl ?_
        refine ww_goto (tgt := 241) C dX10_goes_232 (by decide) ?_
        refine ww_sub (lv' := [(0, .ref (ad x0)), (1, .int x1), (2, .int x2), (3, .int x3), (4, .int x4), (5, .int x5), (6, .int x6), (7, .int x7)]) [0, 1, 2, 3, 4, 5, 6, 7] rfl ?_
        exact (B_X10_goes_241 C HR HL hG (B_X10_goes_246 C HR HL hG)) x0 x1 x2 x3 x4 x5 x6 x7 x0 x1 x5 dy1 Tx0 Tx0 E
set_option maxHeartbeats 4000000 in
set_option maxRecDepth 100000 in
theorem B_X10_goes_157 (C : CX p s m args c cX10_goes 8 RX10 G A) (HR : meth.sig.returnType = (Option.none : Option Jvm.ClassFile.FieldType)) (HL : meth.locks = false) (hG : Good S) : ∀ (x0 : Nat) (x1 : Int32) (x2 : Int32) (x3 : Int32) (x4 : Int32) (x5 : Int32) (x6 : Int32) (x7 : Int32) (dy : DY), gs S x0 = (0, 10) → F_X10_goes_157 S N x0 x1 x2 x3 x4 x5 x6 x7 dy = some dy' → WJ p l e (rmD (3)) s m args below meth c 8 G A 0 0 (MQ below (QV G ad A S dy') args s 0 0 A) ad 157 [(0, .ref (ad x0)), (1, .int x1), (2, .int x2), (3, .int x3), (4, .int x4), (5, .int x5), (6, .int x6), (7, .int x7)] [] S dy := by
  intro x0 x1 x2 x3 x4 x5 x6 x7 dy Tx0 E
  rw [F_X10_goes_157_s] at E
  refine ww_aload_n C dX10_goes_157 rfl 0 rfl ?_
  have T_1 : gs S (gr S x0 44) = (1, 12) := hG.1 _ 10 Tx0 44 (by decide)
  refine ww_getr (ci := 10) (k0 := 44) C dX10_goes_158 rfl rfl inm10 (by decide) Tx0 q1322 rfl T_1 (by decide) ?_
  refine ww_iload_n C dX10_goes_161 rfl 2 rfl ?_
  refine ww_iconst (v := 1) C dX10_goes_162 (by decide) ?_
  refine ww_iast C dX10_goes_163 T_1 E (fun _ E => ?_)
  refine ww_bd E (fun dy2 E => ?_)
  refine ww_aload_n C dX10_goes_164 rfl 0 rfl ?_
  have T_3 : gs S (gr S x0 39) = (1, 10080) := hG.1 _ 10 Tx0 39 (by decide)
  refine ww_getr (ci := 10) (k0 := 39) C dX10_goes_165 rfl rfl inm10 (by decide) Tx0 q1317 rfl T_3 (by decide) ?_
  refine ww_iload_n C dX10_goes_168 rfl 3 rfl ?_
  refine ww_bipush (v := 15) C dX10_goes_169 (by decide) ?_
  refine ww_iadd C dX10_goes_171 ?_
  refine ww_dup2 C dX10_goes_172 rfl rfl ?_
  refine ww_iald C dX10_goes_173 T_3 E (fun _ E => ?_)
  refine ww_iconst (v := 1) C dX10_goes_174 (by decide) ?_
  refine ww_iadd C dX10_goes_175 ?_
  refine ww_iast C dX10_goes_176 T_3 E (fun _ E => ?_)
  refine ww_bd E (fun dy4 E => ?_)
  refine ww_aload_n C dX10_goes_177 rfl 0 rfl ?_
  have T_5 : gs S (gr S x0 39) = (1, 10080) := hG.1 _ 10 Tx0 39 (by decide)
  refine ww_getr (ci := 10) (k0 := 39) C dX10_goes_178 rfl rfl inm10 (by decide) Tx0 q1317 rfl T_5 (by decide) ?_
  refine ww_iload_n C dX10_goes_181 rfl 3 rfl ?_
  refine ww_bipush (v := 16) C dX10_goes_182 (by decide) ?_
  refine ww_iadd C dX10_goes_184 ?_
  refine ww_dup2 C dX10_goes_185 rfl rfl ?_
  refine ww_iald C dX10_goes_186 T_5 E (fun _ E => ?_)
  refine ww_aload_n C dX10_goes_187 rfl 0 rfl ?_
  have T_6 : gs S (gr S x0 43) = (1, 12) := hG.1 _ 10 Tx0 43 (by decide)
  refine ww_getr (ci := 10) (k0 := 43) C dX10_goes_188 rfl rfl inm10 (by decide) Tx0 q1321 rfl T_6 (by decide) ?_
  refine ww_iload_n C dX10_goes_191 rfl 2 rfl ?_
  refine ww_iald C dX10_goes_192 T_6 E (fun _ E => ?_)
  refine ww_if_ne (tgt := 200) C dX10_goes_193 (by decide) E (fun _ E => ?_) (fun _ E => ?_)
  · refine ww_iconst (v := 1) C dX10_goes_200 (by decide) ?_
    refine ww_sub (lv' := [(0, .ref (ad x0)), (1, .int x1), (2, .int x2), (3, .int x3), (4, .int x4), (5, .int x5), (6, .int x6), (7, .int x7)]) [0, 1, 2, 3, 4, 5, 6, 7] rfl ?_
    exact (B_X10_goes_201 C HR HL hG) x0 x1 x2 x3 x4 x5 x6 x7 (gr S x0 39) (x3 + (16 : Int32)) (gi dy4 (gr S x0 39) (x3 + (16 : Int32)).toNatClampNeg) (1 : Int32) dy4 Tx0 T_5 E
  · refine ww_iconst (v := 0) C dX10_goes_196 (by decide) ?_
    refine ww_goto (tgt := 201) C dX10_goes_197 (by decide) ?_
    refine ww_sub (lv' := [(0, .ref (ad x0)), (1, .int x1), (2, .int x2), (3, .int x3), (4, .int x4), (5, .int x5), (6, .int x6), (7, .int x7)]) [0, 1, 2, 3, 4, 5, 6, 7] rfl ?_
    exact (B_X10_goes_201 C HR HL hG) x0 x1 x2 x3 x4 x5 x6 x7 (gr S x0 39) (x3 + (16 : Int32)) (gi dy4 (gr S x0 39) (x3 + (16 : Int32)).toNatClampNeg) (0 : Int32) dy4 Tx0 T_5 E
set_option maxHeartbeats 4000000 in
set_option maxRecDepth 100000 in
theorem B_X10_goes_129 (C : CX p s m args c cX10_goes 8 RX10 G A) (HR : meth.sig.returnType = (Option.none : Option Jvm.ClassFile.FieldType)) (HL : meth.locks = false) (hG : Good S) {K143 : Nat → Int32 → DY → Option DY} (hK143 : ∀ (x0 : Nat) (x3 : Int32) (dy : DY), gs S x0 = (0, 10) → K143 x0 x3 dy = some dy' → WJ p l e (rmD (3)) s m args below meth c 8 G A 0 0 (MQ below (QV G ad A S dy') args s 0 0 A) ad 143 [(0, .ref (ad x0)), (3, .int x3)] [] S dy) : ∀ (x0 : Nat) (x1 : Int32) (x2 : Int32) (x3 : Int32) (x4 : Int32) (x5 : Int32) (x6 : Int32) (x7 : Int32) (dy : DY), gs S x0 = (0, 10) → F_X10_goes_129 S N K143 x0 x1 x2 x3 x4 x5 x6 x7 dy = some dy' → WJ p l e (rmD (3)) s m args below meth c 8 G A 0 0 (MQ below (QV G ad A S dy') args s 0 0 A) ad 129 [(0, .ref (ad x0)), (1, .int x1), (2, .int x2), (3, .int x3), (4, .int x4), (5, .int x5), (6, .int x6), (7, .int x7)] [] S dy := by
  intro x0 x1 x2 x3 x4 x5 x6 x7 dy Tx0 E
  rw [F_X10_goes_129_s] at E
  refine ww_iload C dX10_goes_129 7 rfl ?_
  refine ww_if_ne (tgt := 157) C dX10_goes_131 (by decide) E (fun _ E => ?_) (fun _ E => ?_)
  · refine ww_sub (lv' := [(0, .ref (ad x0)), (1, .int x1), (2, .int x2), (3, .int x3), (4, .int x4), (5, .int x5), (6, .int x6), (7, .int x7)]) [0, 1, 2, 3, 4, 5, 6, 7] rfl ?_
    exact (B_X10_goes_157 C HR HL hG) x0 x1 x2 x3 x4 x5 x6 x7 dy Tx0 E
  · refine ww_aload_n C dX10_goes_134 rfl 0 rfl ?_
    have T_1 : gs S (gr S x0 43) = (1, 12) := hG.1 _ 10 Tx0 43 (by decide)
    refine ww_getr (ci := 10) (k0 := 43) C dX10_goes_135 rfl rfl inm10 (by decide) Tx0 q1321 rfl T_1 (by decide) ?_
    refine ww_iload_n C dX10_goes_138 rfl 2 rfl ?_
    refine ww_iald C dX10_goes_139 T_1 E (fun _ E => ?_)
    refine ww_if_eq (tgt := 157) C dX10_goes_140 (by decide) E (fun _ E => ?_) (fun _ E => ?_)
    · refine ww_sub (lv' := [(0, .ref (ad x0)), (1, .int x1), (2, .int x2), (3, .int x3), (4, .int x4), (5, .int x5), (6, .int x6), (7, .int x7)]) [0, 1, 2, 3, 4, 5, 6, 7] rfl ?_
      exact (B_X10_goes_157 C HR HL hG) x0 x1 x2 x3 x4 x5 x6 x7 dy Tx0 E
    · refine ww_sub (lv' := [(0, .ref (ad x0)), (3, .int x3)]) [0, 3] rfl ?_
      exact hK143 x0 x3 dy Tx0 E
set_option maxHeartbeats 4000000 in
set_option maxRecDepth 100000 in
theorem B_X10_goes_143 (C : CX p s m args c cX10_goes 8 RX10 G A) (HR : meth.sig.returnType = (Option.none : Option Jvm.ClassFile.FieldType)) (HL : meth.locks = false) (hG : Good S) : ∀ (x0 : Nat) (x3 : Int32) (dy : DY), gs S x0 = (0, 10) → F_X10_goes_143 S N x0 x3 dy = some dy' → WJ p l e (rmD (3)) s m args below meth c 8 G A 0 0 (MQ below (QV G ad A S dy') args s 0 0 A) ad 143 [(0, .ref (ad x0)), (3, .int x3)] [] S dy := by
  intro x0 x3 dy Tx0 E
  rw [F_X10_goes_143_s] at E
  refine ww_aload_n C dX10_goes_143 rfl 0 rfl ?_
  have T_1 : gs S (gr S x0 39) = (1, 10080) := hG.1 _ 10 Tx0 39 (by decide)
  refine ww_getr (ci := 10) (k0 := 39) C dX10_goes_144 rfl rfl inm10 (by decide) Tx0 q1317 rfl T_1 (by decide) ?_
  refine ww_iload_n C dX10_goes_147 rfl 1 rfl ?_
  refine ww_bipush (v := 17) C dX10_goes_148 (by decide) ?_
  refine ww_iadd C dX10_goes_150 ?_
  refine ww_dup2 C dX10_goes_151 rfl rfl ?_
  refine ww_iald C dX10_goes_152 T_1 E (fun _ E => ?_)
  refine ww_iconst (v := 1) C dX10_goes_153 (by decide) ?_
  refine ww_iadd C dX10_goes_154 ?_
  refine ww_iast C dX10_goes_155 T_1 E (fun _ E => ?_)
  refine ww_bd E (fun dy2 E => ?_)
  exact ww_vret C HR HL dX10_goes_156 E
set_option maxHeartbeats 4000000 in
set_option maxRecDepth 100000 in
theorem B_X10_goes_86 (C : CX p s m args c cX10_goes 8 RX10 G A) (HR : meth.sig.returnType = (Option.none : Option Jvm.ClassFile.FieldType)) (HL : meth.locks = false) (hG : Good S) : ∀ (x0 : Nat) (x1 : Int32) (x2 : Int32) (x3 : Int32) (x4 : Int32) (x5 : Int32) (y0 : Int32) (y1 : Int32) (dy : DY), gs S x0 = (0, 10) → F_X10_goes_86 S N x0 x1 x2 x3 x4 x5 y0 y1 dy = some dy' → WJ p l e (rmD (3)) s m args below meth c 8 G A 0 0 (MQ below (QV G ad A S dy') args s 0 0 A) ad 86 [(0, .ref (ad x0)), (1, .int x1), (2, .int x2), (3, .int x3), (4, .int x4), (5, .int x5)] [.int y1, .int y0] S dy := by
  intro x0 x1 x2 x3 x4 x5 y0 y1 dy Tx0 E
  rw [F_X10_goes_86_s] at E
  refine ww_iadd C dX10_goes_86 ?_
  refine ww_istore (lv' := [(6, .int (y0 + y1)), (0, .ref (ad x0)), (1, .int x1), (2, .int x2), (3, .int x3), (4, .int x4), (5, .int x5)]) C dX10_goes_87 (by decide) rfl ?_
  refine ww_aload_n C dX10_goes_89 rfl 1 rfl ?_
  refine ww_iload_n C dX10_goes_90 rfl 2 rfl ?_
  refine ww_iload C dX10_goes_91 6 rfl ?_
  refine ww_iload C dX10_goes_93 0 rfl ?_
  obtain ⟨u1, e_2, E⟩ := bind_of E
  refine ww_callI C (runs_V (n := 3) (st := []) C [.int x1, .int x5, .int (y0 + y1)] (M_X10_isInside l G ad N hG x0 x1 x5 (y0 + y1) dy Tx0 e_2) ⟨q1688, q118, by decide⟩ q1685 q1687 q76 (ci := 10) rfl Tx0 rfl (Nat.le_of_ble_eq_true rfl) ⟨Nat.le_of_ble_eq_true rfl, Nat.le_of_ble_eq_true rfl⟩ ⟨Nat.zero_le _, Nat.zero_le _⟩ dX10_goes_95 rfl) ?_
  refine ww_istore (lv' := [(7, .int u1.1), (6, .int (y0 + y1)), (0, .ref (ad x0)), (1, .int x1), (2, .int x2), (3, .int x3), (4, .int x4), (5, .int x5)]) C dX10_goes_98 (by decide) rfl ?_
  refine ww_iload C dX10_goes_100 0 rfl ?_
  refine ww_if_eq (tgt := 129) C dX10_goes_102 (by decide) E (fun _ E => ?_) (fun _ E => ?_)
  · refine ww_sub (lv' := [(0, .ref (ad x0)), (1, .int x1), (2, .int x2), (3, .int x3), (4, .int x4), (5, .int x5), (6, .int (y0 + y1)), (7, .int u1.1)]) [2, 3, 4, 5, 6, 7, 1, 0] rfl ?_
    exact (B_X10_goes_129 C HR HL hG (B_X10_goes_143 C HR HL hG)) x0 x1 x2 x3 x4 x5 (y0 + y1) u1.1 u1.2 Tx0 E
  · refine ww_aload_n C dX10_goes_105 rfl 2 rfl ?_
    refine ww_iload_n C dX10_goes_106 rfl 3 rfl ?_
    refine ww_iload C dX10_goes_107 7 rfl ?_
    refine ww_iload C dX10_goes_109 1 rfl ?_
    obtain ⟨u3, e_4, E⟩ := bind_of E
    refine ww_callI C (runs_V (n := 3) (st := []) C [.int x1, .int x5, .int (y0 + y1)] (M_X10_isWall l G ad N hG x0 x1 x5 (y0 + y1) u1.2 Tx0 e_4) ⟨q1692, q118, by decide⟩ q1689 q1691 q77 (ci := 10) rfl Tx0 rfl (Nat.le_of_ble_eq_true rfl) ⟨Nat.le_of_ble_eq_true rfl, Nat.le_of_ble_eq_true rfl⟩ ⟨Nat.zero_le _, Nat.zero_le _⟩ dX10_goes_111 rfl) ?_
    refine ww_if_ne (tgt := 143) C dX10_goes_114 (by decide) E (fun _ E => ?_) (fun _ E => ?_)
    · refine ww_sub (lv' := [(0, .ref (ad x0)), (3, .int x3)]) [2, 5] rfl ?_
      exact (B_X10_goes_143 C HR HL hG) x0 x3 u3.2 Tx0 E
    · refine ww_aload_n C dX10_goes_117 rfl 2 rfl ?_
      refine ww_iload_n C dX10_goes_118 rfl 3 rfl ?_
      refine ww_iload C dX10_goes_119 7 rfl ?_
      refine ww_iload C dX10_goes_121 1 rfl ?_
      obtain ⟨u5, e_6, E⟩ := bind_of E
      refine ww_callI C (runs_V (n := 3) (st := []) C [.int x1, .int x5, .int (y0 + y1)] (M_X10_isStoodOn l G ad N hG x0 x1 x5 (y0 + y1) u3.2 Tx0 e_6) ⟨q1729, q118, by decide⟩ q1726 q1728 q86 (ci := 10) rfl Tx0 rfl (Nat.le_of_ble_eq_true rfl) ⟨Nat.le_of_ble_eq_true rfl, Nat.le_of_ble_eq_true rfl⟩ ⟨Nat.zero_le _, Nat.zero_le _⟩ dX10_goes_123 rfl) ?_
      refine ww_if_ne (tgt := 143) C dX10_goes_126 (by decide) E (fun _ E => ?_) (fun _ E => ?_)
      · refine ww_sub (lv' := [(0, .ref (ad x0)), (3, .int x3)]) [2, 5] rfl ?_
        exact (B_X10_goes_143 C HR HL hG) x0 x3 u5.2 Tx0 E
      · refine ww_sub (lv' := [(0, .ref (ad x0)), (1, .int x1), (2, .int x2), (3, .int x3), (4, .int x4), (5, .int x5), (6, .int (y0 + y1)), (7, .int u1.1)]) [2, 3, 4, 5, 6, 7, 1, 0] rfl ?_
        exact (B_X10_goes_129 C HR HL hG (B_X10_goes_143 C HR HL hG)) x0 x1 x2 x3 x4 x5 (y0 + y1) u1.1 u5.2 Tx0 E
set_option maxHeartbeats 4000000 in
set_option maxRecDepth 100000 in
theorem B_X10_goes_46 (C : CX p s m args c cX10_goes 8 RX10 G A) (HR : meth.sig.returnType = (Option.none : Option Jvm.ClassFile.FieldType)) (HL : meth.locks = false) (hG : Good S) : ∀ (x0 : Nat) (x1 : Int32) (x2 : Int32) (x3 : Int32) (x4 : Int32) (y0 : Int32) (y1 : Int32) (dy : DY), gs S x0 = (0, 10) → F_X10_goes_46 S N x0 x1 x2 x3 x4 y0 y1 dy = some dy' → WJ p l e (rmD (3)) s m args below meth c 8 G A 0 0 (MQ below (QV G ad A S dy') args s 0 0 A) ad 46 [(0, .ref (ad x0)), (1, .int x1), (2, .int x2), (3, .int x3), (4, .int x4)] [.int y1, .int y0] S dy := by
  intro x0 x1 x2 x3 x4 y0 y1 dy Tx0 E
  rw [F_X10_goes_46_s] at E
  refine ww_iadd C dX10_goes_46 ?_
  refine ww_istore (lv' := [(5, .int (y0 + y1)), (0, .ref (ad x0)), (1, .int x1), (2, .int x2), (3, .int x3), (4, .int x4)]) C dX10_goes_47 (by decide) rfl ?_
  refine ww_aload_n C dX10_goes_49 rfl 1 rfl ?_
  have T_1 : gs S (gr S x0 49) = (1, 12) := hG.1 _ 10 Tx0 49 (by decide)
  refine ww_getr (ci := 10) (k0 := 49) C dX10_goes_50 rfl rfl inm10 (by decide) Tx0 q1327 rfl T_1 (by decide) ?_
  refine ww_iload_n C dX10_goes_53 rfl 3 rfl ?_
  refine ww_iald C dX10_goes_54 T_1 E (fun _ E => ?_)
  refine ww_aload_n C dX10_goes_55 rfl 1 rfl ?_
  have T_2 : gs S (gr S x0 43) = (1, 12) := hG.1 _ 10 Tx0 43 (by decide)
  refine ww_getr (ci := 10) (k0 := 43) C dX10_goes_56 rfl rfl inm10 (by decide) Tx0 q1321 rfl T_2 (by decide) ?_
  refine ww_iload_n C dX10_goes_59 rfl 3 rfl ?_
  refine ww_iald C dX10_goes_60 T_2 E (fun _ E => ?_)
  refine ww_if_ne (tgt := 68) C dX10_goes_61 (by decide) E (fun _ E => ?_) (fun _ E => ?_)
  · refine ww_aload_n C dX10_goes_68 rfl 1 rfl ?_
    have T_3 : gs S (gr S x0 43) = (1, 12) := hG.1 _ 10 Tx0 43 (by decide)
    refine ww_getr (ci := 10) (k0 := 43) C dX10_goes_69 rfl rfl inm10 (by decide) Tx0 q1321 rfl T_3 (by decide) ?_
    refine ww_iload_n C dX10_goes_72 rfl 3 rfl ?_
    refine ww_iald C dX10_goes_73 T_3 E (fun _ E => ?_)
    refine ww_iconst (v := 1) C dX10_goes_74 (by decide) ?_
    refine ww_icmp_ne (tgt := 83) C dX10_goes_75 (by decide) E (fun _ E => ?_) (fun _ E => ?_)
    · refine ww_iload C dX10_goes_83 5 rfl ?_
      refine ww_ineg C dX10_goes_85 ?_
      refine ww_sub (lv' := [(0, .ref (ad x0)), (1, .int x1), (2, .int x2), (3, .int x3), (4, .int x4), (5, .int (y0 + y1))]) [1, 2, 3, 4, 5, 0] rfl ?_
      exact (B_X10_goes_86 C HR HL hG) x0 x1 x2 x3 x4 (y0 + y1) (gi dy (gr S x0 49) x2.toNatClampNeg) (-x4) dy Tx0 E
    · refine ww_iload C dX10_goes_78 5 rfl ?_
      refine ww_goto (tgt := 86) C dX10_goes_80 (by decide) ?_
      refine ww_sub (lv' := [(0, .ref (ad x0)), (1, .int x1), (2, .int x2), (3, .int x3), (4, .int x4), (5, .int (y0 + y1))]) [1, 2, 3, 4, 5, 0] rfl ?_
      exact (B_X10_goes_86 C HR HL hG) x0 x1 x2 x3 x4 (y0 + y1) (gi dy (gr S x0 49) x2.toNatClampNeg) x4 dy Tx0 E
  · refine ww_iconst (v := 0) C dX10_goes_64 (by decide) ?_
    refine ww_goto (tgt := 86) C dX10_goes_65 (by decide) ?_
    refine ww_sub (lv' := [(0, .ref (ad x0)), (1, .int x1), (2, .int x2), (3, .int x3), (4, .int x4), (5, .int (y0 + y1))]) [1, 2, 3, 4, 5, 0] rfl ?_
    exact (B_X10_goes_86 C HR HL hG) x0 x1 x2 x3 x4 (y0 + y1) (gi dy (gr S x0 49) x2.toNatClampNeg) (0 : Int32) dy Tx0 E
end P_X10_goes
set_option maxHeartbeats 4000000 in
set_option maxRecDepth 100000 in
theorem M_X10_goes (l : Launch) (G : GG) (ad : Nat → Nat) {S : ST} (N : Nat) (hG : Good S) (a0 : Nat) (a1 : Int32) (a2 : Int32) (dy : DY) (T0 : gs S a0 = (0, 10)) {dy' : DY} (E : F_X10_goes S N a0 a1 a2 dy = some dy') : MC l yX10_goes cX10_goes 8 (Option.none : Option Jvm.ClassFile.FieldType) (3) G ad [.ref (ad a0), .int a1, .int a2] S dy (fun A => QV G ad A S dy') := by
  rw [F_X10_goes_s] at E
  refine mc_of RX10 (by decide) rfl (Nat.le_of_ble_eq_true rfl) (fun p e s m args below meth c A C HR HL => ?_)
  refine ww_sub (lv' := [(0, .ref (ad a0)), (1, .int a1), (2, .int a2)]) [0, 1, 2] rfl ?_
  refine ww_iload_n C dX10_goes_0 rfl 1 rfl ?_
  refine ww_iload_n C dX10_goes_1 rfl 2 rfl ?_
  obtain ⟨u1, e_2, E⟩ := bind_of E
  refine ww_callI C (runs_S (n := 2) (st := []) C [.int a1, .int a2] (M_X10_at l G ad N hG a1 a2 dy e_2) ⟨q1644, q118, by decide⟩ q1642 q1643 rfl (Nat.le_of_ble_eq_true rfl) ⟨Nat.le_of_ble_eq_true rfl, Nat.le_of_ble_eq_true rfl⟩ ⟨Nat.zero_le _, Nat.zero_le _⟩ dX10_goes_2 rfl) ?_
  refine ww_istore_n (lv' := [(3, .int u1.1), (0, .ref (ad a0)), (1, .int a1), (2, .int a2)]) C dX10_goes_5 rfl (by decide) rfl ?_
  refine ww_aload_n C dX10_goes_6 rfl 1 rfl ?_
  refine ww_iload_n C dX10_goes_7 rfl 2 rfl ?_
  refine ww_iload_n C dX10_goes_8 rfl 3 rfl ?_
  obtain ⟨u3, e_4, E⟩ := bind_of E
  refine ww_callI C (runs_V (n := 2) (st := []) C [.int a1, .int a2] (M_X10_way l G ad N hG a0 a1 a2 u1.2 T0 e_4) ⟨q1680, q118, by decide⟩ q1677 q1679 q74 (ci := 10) rfl T0 rfl (Nat.le_of_ble_eq_true rfl) ⟨Nat.le_of_ble_eq_true rfl, Nat.le_of_ble_eq_true rfl⟩ ⟨Nat.zero_le _, Nat.zero_le _⟩ dX10_goes_9 rfl) ?_
  refine ww_istore (lv' := [(4, .int u3.1), (3, .int u1.1), (0, .ref (ad a0)), (1, .int a1), (2, .int a2)]) C dX10_goes_12 (by decide) rfl ?_
  refine ww_aload_n C dX10_goes_14 rfl 2 rfl ?_
  have T_5 : gs S (gr S a0 43) = (1, 12) := hG.1 _ 10 T0 43 (by decide)
  refine ww_getr (ci := 10) (k0 := 43) C dX10_goes_15 rfl rfl inm10 (by decide) T0 q1321 rfl T_5 (by decide) ?_
  refine ww_iload_n C dX10_goes_18 rfl 4 rfl ?_
  refine ww_iald C dX10_goes_19 T_5 E (fun _ E => ?_)
  refine ww_iconst (v := 5) C dX10_goes_20 (by decide) ?_
  refine ww_icmp_ne (tgt := 25) C dX10_goes_21 (by decide) E (fun _ E => ?_) (fun _ E => ?_)
  · refine ww_aload_n C dX10_goes_25 rfl 2 rfl ?_
    have T_6 : gs S (gr S a0 48) = (1, 12) := hG.1 _ 10 T0 48 (by decide)
    refine ww_getr (ci := 10) (k0 := 48) C dX10_goes_26 rfl rfl inm10 (by decide) T0 q1326 rfl T_6 (by decide) ?_
    refine ww_iload_n C dX10_goes_29 rfl 4 rfl ?_
    refine ww_iald C dX10_goes_30 T_6 E (fun _ E => ?_)
    refine ww_aload_n C dX10_goes_31 rfl 2 rfl ?_
    have T_7 : gs S (gr S a0 43) = (1, 12) := hG.1 _ 10 T0 43 (by decide)
    refine ww_getr (ci := 10) (k0 := 43) C dX10_goes_32 rfl rfl inm10 (by decide) T0 q1321 rfl T_7 (by decide) ?_
    refine ww_iload_n C dX10_goes_35 rfl 4 rfl ?_
    refine ww_iald C dX10_goes_36 T_7 E (fun _ E => ?_)
    refine ww_if_ne (tgt := 45) C dX10_goes_37 (by decide) E (fun _ E => ?_) (fun _ E => ?_)
    · refine ww_iconst (v := 0) C dX10_goes_45 (by decide) ?_
      refine ww_sub (lv' := [(0, .ref (ad a0)), (1, .int a1), (2, .int a2), (3, .int u1.1), (4, .int u3.1)]) [2, 3, 4, 1, 0] rfl ?_
      exact (B_X10_goes_46 C HR HL hG) a0 a1 a2 u1.1 u3.1 (gi u3.2 (gr S a0 48) a2.toNatClampNeg) (0 : Int32) u3.2 T0 E
    · refine ww_iload C dX10_goes_40 0 rfl ?_
      refine ww_goto (tgt := 46) C dX10_goes_42 (by decide) ?_
      refine ww_sub (lv' := [(0, .ref (ad a0)), (1, .int a1), (2, .int a2), (3, .int u1.1), (4, .int u3.1)]) [2, 3, 4, 1, 0] rfl ?_
      exact (B_X10_goes_46 C HR HL hG) a0 a1 a2 u1.1 u3.1 (gi u3.2 (gr S a0 48) a2.toNatClampNeg) u3.1 u3.2 T0 E
  · exact ww_vret C HR HL dX10_goes_24 E
section P_X10_step
variable {p : Program} {l : Launch} {e : Env} {s : State} {m : MethodId} {args : Array Value} {below : List Frame} {meth : Method} {c : Code} {G : GG} {A : Nat → Prop} {ad : Nat → Nat} {S : ST} {N : Nat} {r : Int32} {dy' : DY}
set_option maxHeartbeats 4000000 in
set_option maxRecDepth 100000 in
theorem B_X10_step_107 (C : CX p s m args c cX10_step 7 RX10 G A) (HR : meth.sig.returnType = (Option.some Jvm.ClassFile.FieldType.int)) (HL : meth.locks = false) (hG : Good S) {K99 : Nat → Int32 → Int32 → Int32 → Int32 → DY → Option (Int32 × DY)} (hK99 : ∀ (x0 : Nat) (x1 : Int32) (x2 : Int32) (x3 : Int32) (x4 : Int32) (dy : DY), gs S x0 = (0, 10) → K99 x0 x1 x2 x3 x4 dy = some (r, dy') → WJ p l e (rmD (9)) s m args below meth c 7 G A 0 0 (MQ below (QI G ad A S r dy') args s 0 0 A) ad 99 [(0, .ref (ad x0)), (1, .int x1), (2, .int x2), (3, .int x3), (4, .int x4)] [] S dy) : ∀ k : Nat, ∀ (x0 : Nat) (x1 : Int32) (x2 : Int32) (x3 : Int32) (x4 : Int32) (x5 : Int32) (dy : DY), gs S x0 = (0, 10) → (F_X10_step_107 S N K99 k) x0 x1 x2 x3 x4 x5 dy = some (r, dy') → WJ p l e (rmD (9)) s m args below meth c 7 G A 0 0 (MQ below (QI G ad A S r dy') args s 0 0 A) ad 107 [(0, .ref (ad x0)), (1, .int x1), (2, .int x2), (3, .int x3), (4, .int x4), (5, .int x5)] [] S dy := by
  intro k
  induction k with
  | zero => exact fun _ _ _ _ _ _ _ _ E => nomatch (show none = some (r, dy') from E)
  | succ k ih =>
    intro x0 x1 x2 x3 x4 x5 dy Tx0 E
    rw [F_X10_step_107_s] at E
    refine ww_iload C dX10_step_107 5 rfl ?_
    refine ww_iload_n C dX10_step_109 rfl 3 rfl ?_
    refine ww_icmp_ge (tgt := 155) C dX10_step_110 (by decide) E (fun _ E => ?_) (fun _ E => ?_)
    · refine ww_iinc (v := (x4 + (-1 : Int32))) (lv' := [(4, .int (x4 + (-1 : Int32))), (0, .ref (ad x0)), (1, .int x1), (2, .int x2), (3, .int x3), (5, .int x5)]) C dX10_step_155 4 rfl rfl (by decide) rfl ?_
      refine ww_goto (tgt := 99) C dX10_step_158 (by decide) ?_
      refine ww_sub (lv' := [(0, .ref (ad x0)), (1, .int x1), (2, .int x2), (3, .int x3), (4, .int (x4 + (-1 : Int32)))]) [1, 2, 3, 4, 0] rfl ?_
      exact hK99 x0 x1 x2 x3 (x4 + (-1 : Int32)) dy Tx0 E
    · refine ww_aload_n C dX10_step_113 rfl 0 rfl ?_
      have T_1 : gs S (gr S x0 39) = (1, 10080) := hG.1 _ 10 Tx0 39 (by decide)
      refine ww_getr (ci := 10) (k0 := 39) C dX10_step_114 rfl rfl inm10 (by decide) Tx0 q1317 rfl T_1 (by decide) ?_
      refine ww_iload_n C dX10_step_117 rfl 1 rfl ?_
      refine ww_iload C dX10_step_118 5 rfl ?_
      obtain ⟨u2, e_3, E⟩ := bind_of E
      refine ww_callI C (runs_S (n := 2) (st := [.ref (ad (gr S x0 39))]) C [.int x1, .int x5] (M_X10_at l G ad N hG x1 x5 dy e_3) ⟨q1644, q118, by decide⟩ q1642 q1643 rfl (Nat.le_of_ble_eq_true rfl) ⟨Nat.le_of_ble_eq_true rfl, Nat.le_of_ble_eq_true rfl⟩ ⟨Nat.zero_le _, Nat.zero_le _⟩ dX10_step_120 rfl) ?_
      refine ww_bipush (v := 11) C dX10_step_123 (by decide) ?_
      refine ww_iadd C dX10_step_125 ?_
      refine ww_iald C dX10_step_126 T_1 E (fun _ E => ?_)
      refine ww_iload C dX10_step_127 4 rfl ?_
      refine ww_icmp_ne (tgt := 149) C dX10_step_129 (by decide) E (fun _ E => ?_) (fun _ E => ?_)
      · refine ww_iinc (v := (x5 + (1 : Int32))) (lv' := [(5, .int (x5 + (1 : Int32))), (0, .ref (ad x0)), (1, .int x1), (2, .int x2), (3, .int x3), (4, .int x4)]) C dX10_step_149 5 rfl rfl (by decide) rfl ?_
        refine ww_goto (tgt := 107) C dX10_step_152 (by decide) ?_
        refine ww_sub (lv' := [(0, .ref (ad x0)), (1, .int x1), (2, .int x2), (3, .int x3), (4, .int x4), (5, .int (x5 + (1 : Int32)))]) [1, 2, 3, 4, 5, 0] rfl ?_
        exact ih x0 x1 x2 x3 x4 (x5 + (1 : Int32)) u2.2 Tx0 E
      · refine ww_aload_n C dX10_step_132 rfl 0 rfl ?_
        refine ww_iload_n C dX10_step_133 rfl 1 rfl ?_
        refine ww_iload C dX10_step_134 5 rfl ?_
        obtain ⟨u4, e_5, E⟩ := bind_of E
        refine ww_callI C (runs_V (n := 2) (st := []) C [.int x1, .int x5] (M_X10_isThere l G ad N hG x0 x1 x5 u2.2 Tx0 e_5) ⟨q1660, q118, by decide⟩ q1657 q1659 q69 (ci := 10) rfl Tx0 rfl (Nat.le_of_ble_eq_true rfl) ⟨Nat.le_of_ble_eq_true rfl, Nat.le_of_ble_eq_true rfl⟩ ⟨Nat.zero_le _, Nat.zero_le _⟩ dX10_step_136 rfl) ?_
        refine ww_if_eq (tgt := 149) C dX10_step_139 (by decide) E (fun _ E => ?_) (fun _ E => ?_)
        · refine ww_iinc (v := (x5 + (1 : Int32))) (lv' := [(5, .int (x5 + (1 : Int32))), (0, .ref (ad x0)), (1, .int x1), (2, .int x2), (3, .int x3), (4, .int x4)]) C dX10_step_149 5 rfl rfl (by decide) rfl ?_
          refine ww_goto (tgt := 107) C dX10_step_152 (by decide) ?_
          refine ww_sub (lv' := [(0, .ref (ad x0)), (1, .int x1), (2, .int x2), (3, .int x3), (4, .int x4), (5, .int (x5 + (1 : Int32)))]) [1, 2, 3, 4, 5, 0] rfl ?_
          exact ih x0 x1 x2 x3 x4 (x5 + (1 : Int32)) u4.2 Tx0 E
        · refine ww_aload_n C dX10_step_142 rfl 0 rfl ?_
          refine ww_iload_n C dX10_step_143 rfl 1 rfl ?_
          refine ww_iload C dX10_step_144 5 rfl ?_
          obtain ⟨u6, e_7, E⟩ := bind_of E
          refine ww_callV C (runs_V (n := 2) (st := []) C [.int x1, .int x5] (M_X10_goes l G ad N hG x0 x1 x5 u4.2 Tx0 e_7) ⟨q1725, q118, by decide⟩ q1722 q1724 q85 (ci := 10) rfl Tx0 rfl (Nat.le_of_ble_eq_true rfl) ⟨Nat.le_of_ble_eq_true rfl, Nat.le_of_ble_eq_true rfl⟩ ⟨Nat.zero_le _, Nat.zero_le _⟩ dX10_step_146 rfl) ?_
          refine ww_iinc (v := (x5 + (1 : Int32))) (lv' := [(5, .int (x5 + (1 : Int32))), (0, .ref (ad x0)), (1, .int x1), (2, .int x2), (3, .int x3), (4, .int x4)]) C dX10_step_149 5 rfl rfl (by decide) rfl ?_
          refine ww_goto (tgt := 107) C dX10_step_152 (by decide) ?_
          refine ww_sub (lv' := [(0, .ref (ad x0)), (1, .int x1), (2, .int x2), (3, .int x3), (4, .int x4), (5, .int (x5 + (1 : Int32)))]) [1, 2, 3, 4, 5, 0] rfl ?_
          exact ih x0 x1 x2 x3 x4 (x5 + (1 : Int32)) u6 Tx0 E
set_option maxHeartbeats 4000000 in
set_option maxRecDepth 100000 in
theorem B_X10_step_222 (C : CX p s m args c cX10_step 7 RX10 G A) (HR : meth.sig.returnType = (Option.some Jvm.ClassFile.FieldType.int)) (HL : meth.locks = false) (hG : Good S) {K188 : Nat → Int32 → Int32 → Int32 → Int32 → Int32 → Int32 → DY → Option (Int32 × DY)} (hK188 : ∀ (x0 : Nat) (x1 : Int32) (x2 : Int32) (x3 : Int32) (x4 : Int32) (x5 : Int32) (x6 : Int32) (dy : DY), gs S x0 = (0, 10) → K188 x0 x1 x2 x3 x4 x5 x6 dy = some (r, dy') → WJ p l e (rmD (9)) s m args below meth c 7 G A 0 0 (MQ below (QI G ad A S r dy') args s 0 0 A) ad 188 [(0, .ref (ad x0)), (1, .int x1), (2, .int x2), (3, .int x3), (4, .int x4), (5, .int x5), (6, .int x6)] [] S dy) : ∀ (x0 : Nat) (x1 : Int32) (x2 : Int32) (x3 : Int32) (x4 : Int32) (x5 : Int32) (x6 : Int32) (y0 : Nat) (y1 : Int32) (y2 : Int32) (y3 : Int32) (dy : DY), gs S x0 = (0, 10) → gs S y0 = (1, 10080) → F_X10_step_222 S N K188 x0 x1 x2 x3 x4 x5 x6 y0 y1 y2 y3 dy = some (r, dy') → WJ p l e (rmD (9)) s m args below meth c 7 G A 0 0 (MQ below (QI G ad A S r dy') args s 0 0 A) ad 222 [(0, .ref (ad x0)), (1, .int x1), (2, .int x2), (3, .int x3), (4, .int x4), (5, .int x5), (6, .int x6)] [.int y3, .int y2, .int y1, .ref (ad y0)] S dy := by
  intro x0 x1 x2 x3 x4 x5 x6 y0 y1 y2 y3 dy Tx0 Ty0 E
  rw [F_X10_step_222_s] at E
  refine ww_iadd C dX10_step_222 ?_
  refine ww_iast C dX10_step_223 Ty0 E (fun _ E => ?_)
  refine ww_bd E (fun dy1 E => ?_)
  refine ww_iinc (v := (x6 + (1 : Int32))) (lv' := [(6, .int (x6 + (1 : Int32))), (0, .ref (ad x0)), (1, .int x1), (2, .int x2), (3, .int x3), (4, .int x4), (5, .int x5)]) C dX10_step_224 6 rfl rfl (by decide) rfl ?_
  refine ww_goto (tgt := 188) C dX10_step_227 (by decide) ?_
  refine ww_sub (lv' := [(0, .ref (ad x0)), (1, .int x1), (2, .int x2), (3, .int x3), (4, .int x4), (5, .int x5), (6, .int (x6 + (1 : Int32)))]) [1, 2, 3, 4, 5, 6, 0] rfl ?_
  exact hK188 x0 x1 x2 x3 x4 x5 (x6 + (1 : Int32)) dy1 Tx0 E
set_option maxHeartbeats 4000000 in
set_option maxRecDepth 100000 in
theorem B_X10_step_188 (C : CX p s m args c cX10_step 7 RX10 G A) (HR : meth.sig.returnType = (Option.some Jvm.ClassFile.FieldType.int)) (HL : meth.locks = false) (hG : Good S) {K167 : Nat → Int32 → Int32 → Int32 → Int32 → Int32 → DY → Option (Int32 × DY)} (hK167 : ∀ (x0 : Nat) (x1 : Int32) (x2 : Int32) (x3 : Int32) (x4 : Int32) (x5 : Int32) (dy : DY), gs S x0 = (0, 10) → K167 x0 x1 x2 x3 x4 x5 dy = some (r, dy') → WJ p l e (rmD (9)) s m args below meth c 7 G A 0 0 (MQ below (QI G ad A S r dy') args s 0 0 A) ad 167 [(0, .ref (ad x0)), (1, .int x1), (2, .int x2), (3, .int x3), (4, .int x4), (5, .int x5)] [] S dy) : ∀ k : Nat, ∀ (x0 : Nat) (x1 : Int32) (x2 : Int32) (x3 : Int32) (x4 : Int32) (x5 : Int32) (x6 : Int32) (dy : DY), gs S x0 = (0, 10) → (F_X10_step_188 S N K167 k) x0 x1 x2 x3 x4 x5 x6 dy = some (r, dy') → WJ p l e (rmD (9)) s m args below meth c 7 G A 0 0 (MQ below (QI G ad A S r dy') args s 0 0 A) ad 188 [(0, .ref (ad x0)), (1, .int x1), (2, .int x2), (3, .int x3), (4, .int x4), (5, .int x5), (6, .int x6)] [] S dy := by
  intro k
  induction k with
  | zero => exact fun _ _ _ _ _ _ _ _ _ E => nomatch (show none = some (r, dy') from E)
  | succ k ih =>
    intro x0 x1 x2 x3 x4 x5 x6 dy Tx0 E
    rw [F_X10_step_188_s] at E
    refine ww_iload C dX10_step_188 6 rfl ?_
    refine ww_iload C dX10_step_190 5 rfl ?_
    refine ww_icmp_ge (tgt := 230) C dX10_step_192 (by decide) E (fun _ E => ?_) (fun _ E => ?_)
    · refine ww_iinc (v := (x5 + (1 : Int32))) (lv' := [(5, .int (x5 + (1 : Int32))), (0, .ref (ad x0)), (1, .int x1), (2, .int x2), (3, .int x3), (4, .int x4), (6, .int x6)]) C dX10_step_230 5 rfl rfl (by decide) rfl ?_
      refine ww_goto (tgt := 167) C dX10_step_233 (by decide) ?_
      refine ww_sub (lv' := [(0, .ref (ad x0)), (1, .int x1), (2, .int x2), (3, .int x3), (4, .int x4), (5, .int (x5 + (1 : Int32)))]) [1, 2, 3, 4, 5, 0] rfl ?_
      exact hK167 x0 x1 x2 x3 x4 (x5 + (1 : Int32)) dy Tx0 E
    · refine ww_aload_n C dX10_step_195 rfl 0 rfl ?_
      have T_1 : gs S (gr S x0 39) = (1, 10080) := hG.1 _ 10 Tx0 39 (by decide)
      refine ww_getr (ci := 10) (k0 := 39) C dX10_step_196 rfl rfl inm10 (by decide) Tx0 q1317 rfl T_1 (by decide) ?_
      refine ww_iload_n C dX10_step_199 rfl 2 rfl ?_
      refine ww_bipush (v := 8) C dX10_step_200 (by decide) ?_
      refine ww_iadd C dX10_step_202 ?_
      refine ww_dup2 C dX10_step_203 rfl rfl ?_
      refine ww_iald C dX10_step_204 T_1 E (fun _ E => ?_)
      refine ww_aload_n C dX10_step_205 rfl 0 rfl ?_
      refine ww_iload_n C dX10_step_206 rfl 1 rfl ?_
      refine ww_iload C dX10_step_207 5 rfl ?_
      refine ww_iload C dX10_step_209 6 rfl ?_
      obtain ⟨u2, e_3, E⟩ := bind_of E
      refine ww_callI C (runs_V (n := 3) (st := [.int (gi dy (gr S x0 39) (x2 + (8 : Int32)).toNatClampNeg), .int (x2 + (8 : Int32)), .ref (ad (gr S x0 39))]) C [.int x1, .int x5, .int x6] (M_X10_dance l G ad N hG x0 x1 x5 x6 dy Tx0 e_3) ⟨q1737, q118, by decide⟩ q1734 q1736 q88 (ci := 10) rfl Tx0 rfl (Nat.le_of_ble_eq_true rfl) ⟨Nat.le_of_ble_eq_true rfl, Nat.le_of_ble_eq_true rfl⟩ ⟨Nat.zero_le _, Nat.zero_le _⟩ dX10_step_211 rfl) ?_
      refine ww_if_eq (tgt := 221) C dX10_step_214 (by decide) E (fun _ E => ?_) (fun _ E => ?_)
      · refine ww_iconst (v := 0) C dX10_step_221 (by decide) ?_
        refine ww_sub (lv' := [(0, .ref (ad x0)), (1, .int x1), (2, .int x2), (3, .int x3), (4, .int x4), (5, .int x5), (6, .int x6)]) [0, 1, 2, 3, 4, 5, 6] rfl ?_
        exact (B_X10_step_222 C HR HL hG ih) x0 x1 x2 x3 x4 x5 x6 (gr S x0 39) (x2 + (8 : Int32)) (gi dy (gr S x0 39) (x2 + (8 : Int32)).toNatClampNeg) (0 : Int32) u2.2 Tx0 T_1 E
      · refine ww_iconst (v := 1) C dX10_step_217 (by decide) ?_
        refine ww_goto (tgt := 222) C dX10_step_218 (by decide) ?_
        refine ww_sub (lv' := [(0, .ref (ad x0)), (1, .int x1), (2, .int x2), (3, .int x3), (4, .int x4), (5, .int x5), (6, .int x6)]) [0, 1, 2, 3, 4, 5, 6] rfl ?_
        exact (B_X10_step_222 C HR HL hG ih) x0 x1 x2 x3 x4 x5 x6 (gr S x0 39) (x2 + (8 : Int32)) (gi dy (gr S x0 39) (x2 + (8 : Int32)).toNatClampNeg) (1 : Int32) u2.2 Tx0 T_1 E
set_option maxHeartbeats 4000000 in
set_option maxRecDepth 100000 in
theorem B_X10_step_291 (C : CX p s m args c cX10_step 7 RX10 G A) (HR : meth.sig.returnType = (Option.some Jvm.ClassFile.FieldType.int)) (HL : meth.locks = false) (hG : Good S) : ∀ (x0 : Nat) (x2 : Int32) (x4 : Int32) (y0 : Nat) (y1 : Int32) (y2 : Int32) (dy : DY), gs S x0 = (0, 10) → gs S y0 = (1, 10080) → F_X10_step_291 S N x0 x2 x4 y0 y1 y2 dy = some (r, dy') → WJ p l e (rmD (9)) s m args below meth c 7 G A 0 0 (MQ below (QI G ad A S r dy') args s 0 0 A) ad 291 [(0, .ref (ad x0)), (2, .int x2), (4, .int x4)] [.int y2, .int y1, .ref (ad y0)] S dy := by
  intro x0 x2 x4 y0 y1 y2 dy Tx0 Ty0 E
  rw [F_X10_step_291_s] at E
  refine ww_iast C dX10_step_291 Ty0 E (fun _ E => ?_)
  refine ww_bd E (fun dy1 E => ?_)
  refine ww_aload_n C dX10_step_292 rfl 0 rfl ?_
  have T_2 : gs S (gr S x0 39) = (1, 10080) := hG.1 _ 10 Tx0 39 (by decide)
  refine ww_getr (ci := 10) (k0 := 39) C dX10_step_293 rfl rfl inm10 (by decide) Tx0 q1317 rfl T_2 (by decide) ?_
  refine ww_iload_n C dX10_step_296 rfl 1 rfl ?_
  refine ww_iconst (v := 3) C dX10_step_297 (by decide) ?_
  refine ww_iadd C dX10_step_298 ?_
  refine ww_dup2 C dX10_step_299 rfl rfl ?_
  refine ww_iald C dX10_step_300 T_2 E (fun _ E => ?_)
  refine ww_iconst (v := 1) C dX10_step_301 (by decide) ?_
  refine ww_iadd C dX10_step_302 ?_
  refine ww_iast C dX10_step_303 T_2 E (fun _ E => ?_)
  refine ww_bd E (fun dy3 E => ?_)
  refine ww_iload C dX10_step_304 2 rfl ?_
  exact ww_iret C HR HL dX10_step_306 E
set_option maxHeartbeats 4000000 in
set_option maxRecDepth 100000 in
theorem B_X10_step_239 (C : CX p s m args c cX10_step 7 RX10 G A) (HR : meth.sig.returnType = (Option.some Jvm.ClassFile.FieldType.int)) (HL : meth.locks = false) (hG : Good S) : ∀ k : Nat, ∀ (x0 : Nat) (x1 : Int32) (x2 : Int32) (x3 : Int32) (x4 : Int32) (x5 : Int32) (dy : DY), gs S x0 = (0, 10) → (F_X10_step_239 S N k) x0 x1 x2 x3 x4 x5 dy = some (r, dy') → WJ p l e (rmD (9)) s m args below meth c 7 G A 0 0 (MQ below (QI G ad A S r dy') args s 0 0 A) ad 239 [(0, .ref (ad x0)), (1, .int x1), (2, .int x2), (3, .int x3), (4, .int x4), (5, .int x5)] [] S dy := by
  intro k
  induction k with
  | zero => exact fun _ _ _ _ _ _ _ _ E => nomatch (show none = some (r, dy') from E)
  | succ k ih =>
    intro x0 x1 x2 x3 x4 x5 dy Tx0 E
    rw [F_X10_step_239_s] at E
    refine ww_iload C dX10_step_239 5 rfl ?_
    refine ww_iload_n C dX10_step_241 rfl 3 rfl ?_
    refine ww_icmp_ge (tgt := 263) C dX10_step_242 (by decide) E (fun _ E => ?_) (fun _ E => ?_)
    · refine ww_aload_n C dX10_step_263 rfl 0 rfl ?_
      have T_1 : gs S (gr S x0 39) = (1, 10080) := hG.1 _ 10 Tx0 39 (by decide)
      refine ww_getr (ci := 10) (k0 := 39) C dX10_step_264 rfl rfl inm10 (by decide) Tx0 q1317 rfl T_1 (by decide) ?_
      refine ww_iload_n C dX10_step_267 rfl 2 rfl ?_
      refine ww_bipush (v := 7) C dX10_step_268 (by decide) ?_
      refine ww_iadd C dX10_step_270 ?_
      refine ww_iload C dX10_step_271 4 rfl ?_
      refine ww_if_le (tgt := 280) C dX10_step_273 (by decide) E (fun _ E => ?_) (fun _ E => ?_)
      · refine ww_aload_n C dX10_step_280 rfl 0 rfl ?_
        have T_2 : gs S (gr S x0 39) = (1, 10080) := hG.1 _ 10 Tx0 39 (by decide)
        refine ww_getr (ci := 10) (k0 := 39) C dX10_step_281 rfl rfl inm10 (by decide) Tx0 q1317 rfl T_2 (by decide) ?_
        refine ww_iload_n C dX10_step_284 rfl 2 rfl ?_
        refine ww_bipush (v := 7) C dX10_step_285 (by decide) ?_
        refine ww_iadd C dX10_step_287 ?_
        refine ww_iald C dX10_step_288 T_2 E (fun _ E => ?_)
        refine ww_iconst (v := 1) C dX10_step_289 (by decide) ?_
        refine ww_iadd C dX10_step_290 ?_
        refine ww_sub (lv' := [(0, .ref (ad x0)), (2, .int x2), (4, .int x4)]) [0, 2, 4] rfl ?_
        exact (B_X10_step_291 C HR HL hG) x0 x2 x4 (gr S x0 39) (x2 + (7 : Int32)) ((gi dy (gr S x0 39) (x2 + (7 : Int32)).toNatClampNeg) + (1 : Int32)) dy Tx0 T_1 E
      · refine ww_iconst (v := 0) C dX10_step_276 (by decide) ?_
        refine ww_goto (tgt := 291) C dX10_step_277 (by decide) ?_
        refine ww_sub (lv' := [(0, .ref (ad x0)), (2, .int x2), (4, .int x4)]) [0, 2, 4] rfl ?_
        exact (B_X10_step_291 C HR HL hG) x0 x2 x4 (gr S x0 39) (x2 + (7 : Int32)) (0 : Int32) dy Tx0 T_1 E
    · refine ww_aload_n C dX10_step_245 rfl 0 rfl ?_
      refine ww_iload_n C dX10_step_246 rfl 1 rfl ?_
      refine ww_iload C dX10_step_247 5 rfl ?_
      obtain ⟨u3, e_4, E⟩ := bind_of E
      refine ww_callI C (runs_S (n := 2) (st := [.ref (ad x0)]) C [.int x1, .int x5] (M_X10_at l G ad N hG x1 x5 dy e_4) ⟨q1644, q118, by decide⟩ q1642 q1643 rfl (Nat.le_of_ble_eq_true rfl) ⟨Nat.le_of_ble_eq_true rfl, Nat.le_of_ble_eq_true rfl⟩ ⟨Nat.zero_le _, Nat.zero_le _⟩ dX10_step_249 rfl) ?_
      refine ww_iload C dX10_step_252 5 rfl ?_
      obtain ⟨u5, e_6, E⟩ := bind_of E
      refine ww_callV C (runs_V (n := 2) (st := []) C [.int u3.1, .int x5] (M_X10_ends l G ad N hG x0 u3.1 x5 u3.2 Tx0 e_6) ⟨q1741, q118, by decide⟩ q1738 q1740 q89 (ci := 10) rfl Tx0 rfl (Nat.le_of_ble_eq_true rfl) ⟨Nat.le_of_ble_eq_true rfl, Nat.le_of_ble_eq_true rfl⟩ ⟨Nat.zero_le _, Nat.zero_le _⟩ dX10_step_254 rfl) ?_
      refine ww_iinc (v := (x5 + (1 : Int32))) (lv' := [(5, .int (x5 + (1 : Int32))), (0, .ref (ad x0)), (1, .int x1), (2, .int x2), (3, .int x3), (4, .int x4)]) C dX10_step_257 5 rfl rfl (by decide) rfl ?_
      refine ww_goto (tgt := 239) C dX10_step_260 (by decide) ?_
      refine ww_sub (lv' := [(0, .ref (ad x0)), (1, .int x1), (2, .int x2), (3, .int x3), (4, .int x4), (5, .int (x5 + (1 : Int32)))]) [1, 2, 3, 4, 5, 0] rfl ?_
      exact ih x0 x1 x2 x3 x4 (x5 + (1 : Int32)) u5 Tx0 E
set_option maxHeartbeats 4000000 in
set_option maxRecDepth 100000 in
theorem B_X10_step_167 (C : CX p s m args c cX10_step 7 RX10 G A) (HR : meth.sig.returnType = (Option.some Jvm.ClassFile.FieldType.int)) (HL : meth.locks = false) (hG : Good S) : ∀ k : Nat, ∀ (x0 : Nat) (x1 : Int32) (x2 : Int32) (x3 : Int32) (x4 : Int32) (x5 : Int32) (dy : DY), gs S x0 = (0, 10) → (F_X10_step_167 S N k) x0 x1 x2 x3 x4 x5 dy = some (r, dy') → WJ p l e (rmD (9)) s m args below meth c 7 G A 0 0 (MQ below (QI G ad A S r dy') args s 0 0 A) ad 167 [(0, .ref (ad x0)), (1, .int x1), (2, .int x2), (3, .int x3), (4, .int x4), (5, .int x5)] [] S dy := by
  intro k
  induction k with
  | zero => exact fun _ _ _ _ _ _ _ _ E => nomatch (show none = some (r, dy') from E)
  | succ k ih =>
    intro x0 x1 x2 x3 x4 x5 dy Tx0 E
    rw [F_X10_step_167_s] at E
    refine ww_iload C dX10_step_167 5 rfl ?_
    refine ww_iload_n C dX10_step_169 rfl 3 rfl ?_
    refine ww_icmp_ge (tgt := 236) C dX10_step_170 (by decide) E (fun _ E => ?_) (fun _ E => ?_)
    · refine ww_iconst (v := 0) C dX10_step_236 (by decide) ?_
      refine ww_istore (lv' := [(5, .int (0 : Int32)), (0, .ref (ad x0)), (1, .int x1), (2, .int x2), (3, .int x3), (4, .int x4)]) C dX10_step_237 (by decide) rfl ?_
      refine ww_sub (lv' := [(0, .ref (ad x0)), (1, .int x1), (2, .int x2), (3, .int x3), (4, .int x4), (5, .int (0 : Int32))]) [1, 2, 3, 4, 5, 0] rfl ?_
      exact (B_X10_step_239 C HR HL hG N) x0 x1 x2 x3 x4 (0 : Int32) dy Tx0 E
    · refine ww_iload C dX10_step_173 4 rfl ?_
      refine ww_aload_n C dX10_step_175 rfl 0 rfl ?_
      have T_1 : gs S (gr S x0 44) = (1, 12) := hG.1 _ 10 Tx0 44 (by decide)
      refine ww_getr (ci := 10) (k0 := 44) C dX10_step_176 rfl rfl inm10 (by decide) Tx0 q1322 rfl T_1 (by decide) ?_
      refine ww_iload C dX10_step_179 5 rfl ?_
      refine ww_iald C dX10_step_181 T_1 E (fun _ E => ?_)
      refine ww_iadd C dX10_step_182 ?_
      refine ww_istore (lv' := [(4, .int (x4 + (gi dy (gr S x0 44) x5.toNatClampNeg))), (0, .ref (ad x0)), (1, .int x1), (2, .int x2), (3, .int x3), (5, .int x5)]) C dX10_step_183 (by decide) rfl ?_
      refine ww_iconst (v := 0) C dX10_step_185 (by decide) ?_
      refine ww_istore (lv' := [(6, .int (0 : Int32)), (4, .int (x4 + (gi dy (gr S x0 44) x5.toNatClampNeg))), (0, .ref (ad x0)), (1, .int x1), (2, .int x2), (3, .int x3), (5, .int x5)]) C dX10_step_186 (by decide) rfl ?_
      refine ww_sub (lv' := [(0, .ref (ad x0)), (1, .int x1), (2, .int x2), (3, .int x3), (4, .int (x4 + (gi dy (gr S x0 44) x5.toNatClampNeg))), (5, .int x5), (6, .int (0 : Int32))]) [2, 3, 4, 5, 1, 6, 0] rfl ?_
      exact (B_X10_step_188 C HR HL hG ih N) x0 x1 x2 x3 (x4 + (gi dy (gr S x0 44) x5.toNatClampNeg)) x5 (0 : Int32) dy Tx0 E
set_option maxHeartbeats 4000000 in
set_option maxRecDepth 100000 in
theorem B_X10_step_99 (C : CX p s m args c cX10_step 7 RX10 G A) (HR : meth.sig.returnType = (Option.some Jvm.ClassFile.FieldType.int)) (HL : meth.locks = false) (hG : Good S) : ∀ k : Nat, ∀ (x0 : Nat) (x1 : Int32) (x2 : Int32) (x3 : Int32) (x4 : Int32) (dy : DY), gs S x0 = (0, 10) → (F_X10_step_99 S N k) x0 x1 x2 x3 x4 dy = some (r, dy') → WJ p l e (rmD (9)) s m args below meth c 7 G A 0 0 (MQ below (QI G ad A S r dy') args s 0 0 A) ad 99 [(0, .ref (ad x0)), (1, .int x1), (2, .int x2), (3, .int x3), (4, .int x4)] [] S dy := by
  intro k
  induction k with
  | zero => exact fun _ _ _ _ _ _ _ E => nomatch (show none = some (r, dy') from E)
  | succ k ih =>
    intro x0 x1 x2 x3 x4 dy Tx0 E
    rw [F_X10_step_99_s] at E
    refine ww_iload C dX10_step_99 4 rfl ?_
    refine ww_if_lt (tgt := 161) C dX10_step_101 (by decide) E (fun _ E => ?_) (fun _ E => ?_)
    · refine ww_iconst (v := 0) C dX10_step_161 (by decide) ?_
      refine ww_istore (lv' := [(4, .int (0 : Int32)), (0, .ref (ad x0)), (1, .int x1), (2, .int x2), (3, .int x3)]) C dX10_step_162 (by decide) rfl ?_
      refine ww_iconst (v := 0) C dX10_step_164 (by decide) ?_
      refine ww_istore (lv' := [(5, .int (0 : Int32)), (4, .int (0 : Int32)), (0, .ref (ad x0)), (1, .int x1), (2, .int x2), (3, .int x3)]) C dX10_step_165 (by decide) rfl ?_
      refine ww_sub (lv' := [(0, .ref (ad x0)), (1, .int x1), (2, .int x2), (3, .int x3), (4, .int (0 : Int32)), (5, .int (0 : Int32))]) [2, 3, 4, 5, 1, 0] rfl ?_
      exact (B_X10_step_167 C HR HL hG N) x0 x1 x2 x3 (0 : Int32) (0 : Int32) dy Tx0 E
    · refine ww_iconst (v := 0) C dX10_step_104 (by decide) ?_
      refine ww_istore (lv' := [(5, .int (0 : Int32)), (0, .ref (ad x0)), (1, .int x1), (2, .int x2), (3, .int x3), (4, .int x4)]) C dX10_step_105 (by decide) rfl ?_
      refine ww_sub (lv' := [(0, .ref (ad x0)), (1, .int x1), (2, .int x2), (3, .int x3), (4, .int x4), (5, .int (0 : Int32))]) [1, 2, 3, 4, 5, 0] rfl ?_
      exact (B_X10_step_107 C HR HL hG ih N) x0 x1 x2 x3 x4 (0 : Int32) dy Tx0 E
set_option maxHeartbeats 4000000 in
set_option maxRecDepth 100000 in
theorem B_X10_step_23 (C : CX p s m args c cX10_step 7 RX10 G A) (HR : meth.sig.returnType = (Option.some Jvm.ClassFile.FieldType.int)) (HL : meth.locks = false) (hG : Good S) : ∀ k : Nat, ∀ (x0 : Nat) (x1 : Int32) (x2 : Int32) (x3 : Int32) (x4 : Int32) (dy : DY), gs S x0 = (0, 10) → (F_X10_step_23 S N k) x0 x1 x2 x3 x4 dy = some (r, dy') → WJ p l e (rmD (9)) s m args below meth c 7 G A 0 0 (MQ below (QI G ad A S r dy') args s 0 0 A) ad 23 [(0, .ref (ad x0)), (1, .int x1), (2, .int x2), (3, .int x3), (4, .int x4)] [] S dy := by
  intro k
  induction k with
  | zero => exact fun _ _ _ _ _ _ _ E => nomatch (show none = some (r, dy') from E)
  | succ k ih =>
    intro x0 x1 x2 x3 x4 dy Tx0 E
    rw [F_X10_step_23_s] at E
    refine ww_iload C dX10_step_23 4 rfl ?_
    refine ww_iload_n C dX10_step_25 rfl 3 rfl ?_
    refine ww_icmp_ge (tgt := 95) C dX10_step_26 (by decide) E (fun _ E => ?_) (fun _ E => ?_)
    · refine ww_bipush (v := 9) C dX10_step_95 (by decide) ?_
      refine ww_istore (lv' := [(4, .int (9 : Int32)), (0, .ref (ad x0)), (1, .int x1), (2, .int x2), (3, .int x3)]) C dX10_step_97 (by decide) rfl ?_
      refine ww_sub (lv' := [(0, .ref (ad x0)), (1, .int x1), (2, .int x2), (3, .int x3), (4, .int (9 : Int32))]) [1, 2, 3, 4, 0] rfl ?_
      exact (B_X10_step_99 C HR HL hG N) x0 x1 x2 x3 (9 : Int32) dy Tx0 E
    · refine ww_aload_n C dX10_step_29 rfl 0 rfl ?_
      have T_1 : gs S (gr S x0 43) = (1, 12) := hG.1 _ 10 Tx0 43 (by decide)
      refine ww_getr (ci := 10) (k0 := 43) C dX10_step_30 rfl rfl inm10 (by decide) Tx0 q1321 rfl T_1 (by decide) ?_
      refine ww_iload C dX10_step_33 4 rfl ?_
      refine ww_aload_n C dX10_step_35 rfl 0 rfl ?_
      refine ww_iload_n C dX10_step_36 rfl 1 rfl ?_
      refine ww_iload C dX10_step_37 4 rfl ?_
      obtain ⟨u2, e_3, E⟩ := bind_of E
      refine ww_callI C (runs_V (n := 2) (st := [.int x4, .ref (ad (gr S x0 43))]) C [.int x1, .int x4] (M_X10_aimBy l G ad N hG x0 x1 x4 dy Tx0 e_3) ⟨q1656, q118, by decide⟩ q1653 q1655 q68 (ci := 10) rfl Tx0 rfl (Nat.le_of_ble_eq_true rfl) ⟨Nat.le_of_ble_eq_true rfl, Nat.le_of_ble_eq_true rfl⟩ ⟨Nat.zero_le _, Nat.zero_le _⟩ dX10_step_39 rfl) ?_
      refine ww_iast C dX10_step_42 T_1 E (fun _ E => ?_)
      refine ww_bd E (fun dy4 E => ?_)
      refine ww_aload_n C dX10_step_43 rfl 0 rfl ?_
      have T_5 : gs S (gr S x0 44) = (1, 12) := hG.1 _ 10 Tx0 44 (by decide)
      refine ww_getr (ci := 10) (k0 := 44) C dX10_step_44 rfl rfl inm10 (by decide) Tx0 q1322 rfl T_5 (by decide) ?_
      refine ww_iload C dX10_step_47 4 rfl ?_
      refine ww_iconst (v := 0) C dX10_step_49 (by decide) ?_
      refine ww_iast C dX10_step_50 T_5 E (fun _ E => ?_)
      refine ww_bd E (fun dy6 E => ?_)
      refine ww_aload_n C dX10_step_51 rfl 0 rfl ?_
      have T_7 : gs S (gr S x0 48) = (1, 12) := hG.1 _ 10 Tx0 48 (by decide)
      refine ww_getr (ci := 10) (k0 := 48) C dX10_step_52 rfl rfl inm10 (by decide) Tx0 q1326 rfl T_7 (by decide) ?_
      refine ww_iload C dX10_step_55 4 rfl ?_
      refine ww_aload_n C dX10_step_57 rfl 0 rfl ?_
      have T_8 : gs S (gr S x0 39) = (1, 10080) := hG.1 _ 10 Tx0 39 (by decide)
      refine ww_getr (ci := 10) (k0 := 39) C dX10_step_58 rfl rfl inm10 (by decide) Tx0 q1317 rfl T_8 (by decide) ?_
      refine ww_iload_n C dX10_step_61 rfl 1 rfl ?_
      refine ww_iload C dX10_step_62 4 rfl ?_
      obtain ⟨u9, e_10, E⟩ := bind_of E
      refine ww_callI C (runs_S (n := 2) (st := [.ref (ad (gr S x0 39)), .int x4, .ref (ad (gr S x0 48))]) C [.int x1, .int x4] (M_X10_at l G ad N hG x1 x4 dy6 e_10) ⟨q1644, q118, by decide⟩ q1642 q1643 rfl (Nat.le_of_ble_eq_true rfl) ⟨Nat.le_of_ble_eq_true rfl, Nat.le_of_ble_eq_true rfl⟩ ⟨Nat.zero_le _, Nat.zero_le _⟩ dX10_step_64 rfl) ?_
      refine ww_iald C dX10_step_67 T_8 E (fun _ E => ?_)
      refine ww_iast C dX10_step_68 T_7 E (fun _ E => ?_)
      refine ww_bd E (fun dy11 E => ?_)
      refine ww_aload_n C dX10_step_69 rfl 0 rfl ?_
      have T_12 : gs S (gr S x0 49) = (1, 12) := hG.1 _ 10 Tx0 49 (by decide)
      refine ww_getr (ci := 10) (k0 := 49) C dX10_step_70 rfl rfl inm10 (by decide) Tx0 q1327 rfl T_12 (by decide) ?_
      refine ww_iload C dX10_step_73 4 rfl ?_
      refine ww_aload_n C dX10_step_75 rfl 0 rfl ?_
      have T_13 : gs S (gr S x0 39) = (1, 10080) := hG.1 _ 10 Tx0 39 (by decide)
      refine ww_getr (ci := 10) (k0 := 39) C dX10_step_76 rfl rfl inm10 (by decide) Tx0 q1317 rfl T_13 (by decide) ?_
      refine ww_iload_n C dX10_step_79 rfl 1 rfl ?_
      refine ww_iload C dX10_step_80 4 rfl ?_
      obtain ⟨u14, e_15, E⟩ := bind_of E
      refine ww_callI C (runs_S (n := 2) (st := [.ref (ad (gr S x0 39)), .int x4, .ref (ad (gr S x0 49))]) C [.int x1, .int x4] (M_X10_at l G ad N hG x1 x4 dy11 e_15) ⟨q1644, q118, by decide⟩ q1642 q1643 rfl (Nat.le_of_ble_eq_true rfl) ⟨Nat.le_of_ble_eq_true rfl, Nat.le_of_ble_eq_true rfl⟩ ⟨Nat.zero_le _, Nat.zero_le _⟩ dX10_step_82 rfl) ?_
      refine ww_iconst (v := 4) C dX10_step_85 (by decide) ?_
      refine ww_iadd C dX10_step_86 ?_
      refine ww_iald C dX10_step_87 T_13 E (fun _ E => ?_)
      refine ww_iast C dX10_step_88 T_12 E (fun _ E => ?_)
      refine ww_bd E (fun dy16 E => ?_)
      refine ww_iinc (v := (x4 + (1 : Int32))) (lv' := [(4, .int (x4 + (1 : Int32))), (0, .ref (ad x0)), (1, .int x1), (2, .int x2), (3, .int x3)]) C dX10_step_89 4 rfl rfl (by decide) rfl ?_
      refine ww_goto (tgt := 23) C dX10_step_92 (by decide) ?_
      refine ww_sub (lv' := [(0, .ref (ad x0)), (1, .int x1), (2, .int x2), (3, .int x3), (4, .int (x4 + (1 : Int32)))]) [1, 2, 3, 4, 0] rfl ?_
      exact ih x0 x1 x2 x3 (x4 + (1 : Int32)) dy16 Tx0 E
end P_X10_step
set_option maxHeartbeats 4000000 in
set_option maxRecDepth 100000 in
theorem M_X10_step (l : Launch) (G : GG) (ad : Nat → Nat) {S : ST} (N : Nat) (hG : Good S) (a0 : Nat) (a1 : Int32) (dy : DY) (T0 : gs S a0 = (0, 10)) {r : Int32} {dy' : DY} (E : F_X10_step S N a0 a1 dy = some (r, dy')) : MC l yX10_step cX10_step 7 (Option.some Jvm.ClassFile.FieldType.int) (9) G ad [.ref (ad a0), .int a1] S dy (fun A => QI G ad A S r dy') := by
  rw [F_X10_step_s] at E
  refine mc_of RX10 (by decide) rfl (Nat.le_of_ble_eq_true rfl) (fun p e s m args below meth c A C HR HL => ?_)
  refine ww_sub (lv' := [(0, .ref (ad a0)), (1, .int a1)]) [0, 1] rfl ?_
  refine ww_sipush (v := 720) C dX10_step_0 (by decide) ?_
  refine ww_iload_n C dX10_step_3 rfl 1 rfl ?_
  refine ww_imul C dX10_step_4 ?_
  refine ww_istore_n (lv' := [(2, .int ((720 : Int32) * a1)), (0, .ref (ad a0)), (1, .int a1)]) C dX10_step_5 rfl (by decide) rfl ?_
  refine ww_aload_n C dX10_step_6 rfl 1 rfl ?_
  have T_1 : gs S (gr S a0 39) = (1, 10080) := hG.1 _ 10 T0 39 (by decide)
  refine ww_getr (ci := 10) (k0 := 39) C dX10_step_7 rfl rfl inm10 (by decide) T0 q1317 rfl T_1 (by decide) ?_
  refine ww_iload_n C dX10_step_10 rfl 0 rfl ?_
  refine ww_iconst (v := 2) C dX10_step_11 (by decide) ?_
  refine ww_iadd C dX10_step_12 ?_
  refine ww_iald C dX10_step_13 T_1 E (fun _ E => ?_)
  refine ww_istore_n (lv' := [(3, .int (gi dy (gr S a0 39) (((720 : Int32) * a1) + (2 : Int32)).toNatClampNeg)), (2, .int ((720 : Int32) * a1)), (0, .ref (ad a0)), (1, .int a1)]) C dX10_step_14 rfl (by decide) rfl ?_
  refine ww_aload_n C dX10_step_15 rfl 2 rfl ?_
  refine ww_iconst (v := 0) C dX10_step_16 (by decide) ?_
  refine ww_puti (ci := 10) (k0 := 47) C dX10_step_17 rfl rfl inm10 tyX10_ok nmX10 (by decide) T0 q1325 rfl rfl rfl ?_
  refine ww_bd E (fun dy2 E => ?_)
  refine ww_iconst (v := 0) C dX10_step_20 (by decide) ?_
  refine ww_istore (lv' := [(4, .int (0 : Int32)), (3, .int (gi dy (gr S a0 39) (((720 : Int32) * a1) + (2 : Int32)).toNatClampNeg)), (2, .int ((720 : Int32) * a1)), (0, .ref (ad a0)), (1, .int a1)]) C dX10_step_21 (by decide) rfl ?_
  refine ww_sub (lv' := [(0, .ref (ad a0)), (1, .int a1), (2, .int ((720 : Int32) * a1)), (3, .int (gi dy (gr S a0 39) (((720 : Int32) * a1) + (2 : Int32)).toNatClampNeg)), (4, .int (0 : Int32))]) [3, 4, 2, 1, 0] rfl ?_
  exact (B_X10_step_23 C HR HL hG N) a0 a1 ((720 : Int32) * a1) (gi dy (gr S a0 39) (((720 : Int32) * a1) + (2 : Int32)).toNatClampNeg) (0 : Int32) dy2 T0 E
section P_X10_tryOn
variable {p : Program} {l : Launch} {e : Env} {s : State} {m : MethodId} {args : Array Value} {below : List Frame} {meth : Method} {c : Code} {G : GG} {A : Nat → Prop} {ad : Nat → Nat} {S : ST} {N : Nat} {dy' : DY}
set_option maxHeartbeats 4000000 in
set_option maxRecDepth 100000 in
theorem B_X10_tryOn_7 (C : CX p s m args c cX10_tryOn 3 RX10 G A) (HR : meth.sig.returnType = (Option.none : Option Jvm.ClassFile.FieldType)) (HL : meth.locks = false) (hG : Good S) : ∀ k : Nat, ∀ (x0 : Nat) (x1 : Int32) (x2 : Int32) (dy : DY), gs S x0 = (0, 10) → (F_X10_tryOn_7 S N k) x0 x1 x2 dy = some dy' → WJ p l e (rmD (10)) s m args below meth c 3 G A 0 0 (MQ below (QV G ad A S dy') args s 0 0 A) ad 7 [(0, .ref (ad x0)), (1, .int x1), (2, .int x2)] [] S dy := by
  intro k
  induction k with
  | zero => exact fun _ _ _ _ _ E => nomatch (show none = some dy' from E)
  | succ k ih =>
    intro x0 x1 x2 dy Tx0 E
    rw [F_X10_tryOn_7_s] at E
    refine ww_iload_n C dX10_tryOn_7 rfl 2 rfl ?_
    refine ww_iload_n C dX10_tryOn_8 rfl 1 rfl ?_
    refine ww_icmp_ge (tgt := 24) C dX10_tryOn_9 (by decide) E (fun _ E => ?_) (fun _ E => ?_)
    · exact ww_vret C HR HL dX10_tryOn_24 E
    · refine ww_aload_n C dX10_tryOn_12 rfl 0 rfl ?_
      refine ww_iconst (v := 4) C dX10_tryOn_13 (by decide) ?_
      obtain ⟨u1, e_2, E⟩ := bind_of E
      refine ww_callI C (runs_V (n := 1) (st := []) C [.int (4 : Int32)] (M_X10_step l G ad N hG x0 (4 : Int32) dy Tx0 e_2) ⟨q1652, q118, by decide⟩ q1649 q1651 q67 (ci := 10) rfl Tx0 rfl (Nat.le_of_ble_eq_true rfl) ⟨Nat.le_of_ble_eq_true rfl, Nat.le_of_ble_eq_true rfl⟩ ⟨Nat.zero_le _, Nat.zero_le _⟩ dX10_tryOn_14 rfl) ?_
      refine ww_pop C dX10_tryOn_17 rfl ?_
      refine ww_iinc (v := (x2 + (1 : Int32))) (lv' := [(2, .int (x2 + (1 : Int32))), (0, .ref (ad x0)), (1, .int x1)]) C dX10_tryOn_18 2 rfl rfl (by decide) rfl ?_
      refine ww_goto (tgt := 7) C dX10_tryOn_21 (by decide) ?_
      refine ww_sub (lv' := [(0, .ref (ad x0)), (1, .int x1), (2, .int (x2 + (1 : Int32)))]) [1, 2, 0] rfl ?_
      exact ih x0 x1 (x2 + (1 : Int32)) u1.2 Tx0 E
end P_X10_tryOn
set_option maxHeartbeats 4000000 in
set_option maxRecDepth 100000 in
theorem M_X10_tryOn (l : Launch) (G : GG) (ad : Nat → Nat) {S : ST} (N : Nat) (hG : Good S) (a0 : Nat) (a1 : Int32) (dy : DY) (T0 : gs S a0 = (0, 10)) {dy' : DY} (E : F_X10_tryOn S N a0 a1 dy = some dy') : MC l yX10_tryOn cX10_tryOn 3 (Option.none : Option Jvm.ClassFile.FieldType) (10) G ad [.ref (ad a0), .int a1] S dy (fun A => QV G ad A S dy') := by
  rw [F_X10_tryOn_s] at E
  refine mc_of RX10 (by decide) rfl (Nat.le_of_ble_eq_true rfl) (fun p e s m args below meth c A C HR HL => ?_)
  refine ww_sub (lv' := [(0, .ref (ad a0)), (1, .int a1)]) [0, 1] rfl ?_
  refine ww_aload_n C dX10_tryOn_0 rfl 0 rfl ?_
  refine ww_iconst (v := 0) C dX10_tryOn_1 (by decide) ?_
  refine ww_putz (ci := 10) (k0 := 45) C dX10_tryOn_2 rfl rfl inm10 tyX10_ok nmX10 (by decide) T0 q1323 rfl rfl rfl (Or.inl rfl) ?_
  refine ww_bd E (fun dy1 E => ?_)
  refine ww_iconst (v := 0) C dX10_tryOn_5 (by decide) ?_
  refine ww_istore_n (lv' := [(2, .int (0 : Int32)), (0, .ref (ad a0)), (1, .int a1)]) C dX10_tryOn_6 rfl (by decide) rfl ?_
  refine ww_sub (lv' := [(0, .ref (ad a0)), (1, .int a1), (2, .int (0 : Int32))]) [1, 2, 0] rfl ?_
  exact (B_X10_tryOn_7 C HR HL hG N) a0 a1 (0 : Int32) dy1 T0 E
section P_X10_arrive
variable {p : Program} {l : Launch} {e : Env} {s : State} {m : MethodId} {args : Array Value} {below : List Frame} {meth : Method} {c : Code} {G : GG} {A : Nat → Prop} {ad : Nat → Nat} {S : ST} {N : Nat} {r : Int32} {dy' : DY}
end P_X10_arrive
set_option maxHeartbeats 4000000 in
set_option maxRecDepth 100000 in
theorem M_X10_arrive (l : Launch) (G : GG) (ad : Nat → Nat) {S : ST} (N : Nat) (hG : Good S) (a0 : Nat) (a1 : Int32) (a2 : Int32) (a3 : Int32) (a4 : Int32) (dy : DY) (T0 : gs S a0 = (0, 10)) {r : Int32} {dy' : DY} (E : F_X10_arrive S N a0 a1 a2 a3 a4 dy = some (r, dy')) : MC l yX10_arrive cX10_arrive 5 (Option.some Jvm.ClassFile.FieldType.int) (11) G ad [.ref (ad a0), .int a1, .int a2, .int a3, .int a4] S dy (fun A => QI G ad A S r dy') := by
  rw [F_X10_arrive_s] at E
  refine mc_of RX10 (by decide) rfl (Nat.le_of_ble_eq_true rfl) (fun p e s m args below meth c A C HR HL => ?_)
  refine ww_sub (lv' := [(0, .ref (ad a0)), (1, .int a1), (2, .int a2), (3, .int a3), (4, .int a4)]) [0, 1, 2, 3, 4] rfl ?_
  refine ww_aload_n C dX10_arrive_0 rfl 0 rfl ?_
  refine ww_iconst (v := 4) C dX10_arrive_1 (by decide) ?_
  refine ww_iload_n C dX10_arrive_2 rfl 1 rfl ?_
  refine ww_iload_n C dX10_arrive_3 rfl 2 rfl ?_
  refine ww_iload_n C dX10_arrive_4 rfl 3 rfl ?_
  refine ww_bipush (v := 12) C dX10_arrive_5 (by decide) ?_
  refine ww_iconst (v := (-1)) C dX10_arrive_7 (by decide) ?_
  obtain ⟨u1, e_2, E⟩ := bind_of E
  refine ww_callV C (runs_V (n := 6) (st := []) C [.int (4 : Int32), .int a1, .int a2, .int a3, .int (12 : Int32), .int (-1 : Int32)] (M_X10_lay l G ad N hG a0 (4 : Int32) a1 a2 a3 (12 : Int32) (-1 : Int32) dy T0 e_2) ⟨q1641, q118, by decide⟩ q1638 q1640 q66 (ci := 10) rfl T0 rfl (Nat.le_of_ble_eq_true rfl) ⟨Nat.le_of_ble_eq_true rfl, Nat.le_of_ble_eq_true rfl⟩ ⟨Nat.zero_le _, Nat.zero_le _⟩ dX10_arrive_8 rfl) ?_
  refine ww_aload_n C dX10_arrive_11 rfl 0 rfl ?_
  refine ww_iload C dX10_arrive_12 4 rfl ?_
  obtain ⟨u3, e_4, E⟩ := bind_of E
  refine ww_callV C (runs_V (n := 1) (st := []) C [.int a4] (M_X10_tryOn l G ad N hG a0 a4 u1 T0 e_4) ⟨q1801, q118, by decide⟩ q1798 q1800 q96 (ci := 10) rfl T0 rfl (Nat.le_of_ble_eq_true rfl) ⟨Nat.le_of_ble_eq_true rfl, Nat.le_of_ble_eq_true rfl⟩ ⟨Nat.zero_le _, Nat.zero_le _⟩ dX10_arrive_14 rfl) ?_
  refine ww_aload_n C dX10_arrive_17 rfl 0 rfl ?_
  have T_5 : gs S (gr S a0 39) = (1, 10080) := hG.1 _ 10 T0 39 (by decide)
  refine ww_getr (ci := 10) (k0 := 39) C dX10_arrive_18 rfl rfl inm10 (by decide) T0 q1317 rfl T_5 (by decide) ?_
  refine ww_sipush (v := 2886) C dX10_arrive_21 (by decide) ?_
  refine ww_iald C dX10_arrive_24 T_5 E (fun _ E => ?_)
  exact ww_iret C HR HL dX10_arrive_25 E
section P_X10_better
variable {p : Program} {l : Launch} {e : Env} {s : State} {m : MethodId} {args : Array Value} {below : List Frame} {meth : Method} {c : Code} {G : GG} {A : Nat → Prop} {ad : Nat → Nat} {S : ST} {N : Nat} {r : Int32} {dy' : DY}
set_option maxHeartbeats 4000000 in
set_option maxRecDepth 100000 in
theorem B_X10_better_71 (C : CX p s m args c cX10_better 8 RX10 G A) (HR : meth.sig.returnType = (Option.some Jvm.ClassFile.FieldType.int)) (HL : meth.locks = false) (hG : Good S) {K35 : Nat → Int32 → Int32 → Int32 → Int32 → Int32 → Int32 → DY → Option (Int32 × DY)} (hK35 : ∀ (x0 : Nat) (x1 : Int32) (x2 : Int32) (x3 : Int32) (x4 : Int32) (x5 : Int32) (x6 : Int32) (dy : DY), gs S x0 = (0, 10) → K35 x0 x1 x2 x3 x4 x5 x6 dy = some (r, dy') → WJ p l e (rmD (12)) s m args below meth c 8 G A 0 0 (MQ below (QI G ad A S r dy') args s 0 0 A) ad 35 [(0, .ref (ad x0)), (1, .int x1), (2, .int x2), (3, .int x3), (4, .int x4), (5, .int x5), (6, .int x6)] [] S dy) : ∀ (x0 : Nat) (x1 : Int32) (x2 : Int32) (x3 : Int32) (x5 : Int32) (x6 : Int32) (x7 : Int32) (y0 : Int32) (dy : DY), gs S x0 = (0, 10) → F_X10_better_71 S N K35 x0 x1 x2 x3 x5 x6 x7 y0 dy = some (r, dy') → WJ p l e (rmD (12)) s m args below meth c 8 G A 0 0 (MQ below (QI G ad A S r dy') args s 0 0 A) ad 71 [(0, .ref (ad x0)), (1, .int x1), (2, .int x2), (3, .int x3), (5, .int x5), (6, .int x6), (7, .int x7)] [.int y0] S dy := by
  intro x0 x1 x2 x3 x5 x6 x7 y0 dy Tx0 E
  rw [F_X10_better_71_s] at E
  refine ww_istore (lv' := [(4, .int y0), (0, .ref (ad x0)), (1, .int x1), (2, .int x2), (3, .int x3), (5, .int x5), (6, .int x6), (7, .int x7)]) C dX10_better_71 (by decide) rfl ?_
  refine ww_iload C dX10_better_73 7 rfl ?_
  refine ww_iload C dX10_better_75 5 rfl ?_
  refine ww_icmp_le (tgt := 85) C dX10_better_77 (by decide) E (fun _ E => ?_) (fun _ E => ?_)
  · refine ww_iload C dX10_better_85 5 rfl ?_
    refine ww_istore (lv' := [(5, .int x5), (4, .int y0), (0, .ref (ad x0)), (1, .int x1), (2, .int x2), (3, .int x3), (6, .int x6), (7, .int x7)]) C dX10_better_87 (by decide) rfl ?_
    refine ww_iinc (v := (x6 + (1 : Int32))) (lv' := [(6, .int (x6 + (1 : Int32))), (5, .int x5), (4, .int y0), (0, .ref (ad x0)), (1, .int x1), (2, .int x2), (3, .int x3), (7, .int x7)]) C dX10_better_89 6 rfl rfl (by decide) rfl ?_
    refine ww_goto (tgt := 35) C dX10_better_92 (by decide) ?_
    refine ww_sub (lv' := [(0, .ref (ad x0)), (1, .int x1), (2, .int x2), (3, .int x3), (4, .int y0), (5, .int x5), (6, .int (x6 + (1 : Int32)))]) [3, 4, 5, 6, 2, 1, 0] rfl ?_
    exact hK35 x0 x1 x2 x3 y0 x5 (x6 + (1 : Int32)) dy Tx0 E
  · refine ww_iload C dX10_better_80 7 rfl ?_
    refine ww_goto (tgt := 87) C dX10_better_82 (by decide) ?_
    refine ww_istore (lv' := [(5, .int x7), (4, .int y0), (0, .ref (ad x0)), (1, .int x1), (2, .int x2), (3, .int x3), (6, .int x6), (7, .int x7)]) C dX10_better_87 (by decide) rfl ?_
    refine ww_iinc (v := (x6 + (1 : Int32))) (lv' := [(6, .int (x6 + (1 : Int32))), (5, .int x7), (4, .int y0), (0, .ref (ad x0)), (1, .int x1), (2, .int x2), (3, .int x3), (7, .int x7)]) C dX10_better_89 6 rfl rfl (by decide) rfl ?_
    refine ww_goto (tgt := 35) C dX10_better_92 (by decide) ?_
    refine ww_sub (lv' := [(0, .ref (ad x0)), (1, .int x1), (2, .int x2), (3, .int x3), (4, .int y0), (5, .int x7), (6, .int (x6 + (1 : Int32)))]) [3, 4, 5, 6, 2, 1, 0] rfl ?_
    exact hK35 x0 x1 x2 x3 y0 x7 (x6 + (1 : Int32)) dy Tx0 E
set_option maxHeartbeats 4000000 in
set_option maxRecDepth 100000 in
theorem B_X10_better_35 (C : CX p s m args c cX10_better 8 RX10 G A) (HR : meth.sig.returnType = (Option.some Jvm.ClassFile.FieldType.int)) (HL : meth.locks = false) (hG : Good S) : ∀ k : Nat, ∀ (x0 : Nat) (x1 : Int32) (x2 : Int32) (x3 : Int32) (x4 : Int32) (x5 : Int32) (x6 : Int32) (dy : DY), gs S x0 = (0, 10) → (F_X10_better_35 S N k) x0 x1 x2 x3 x4 x5 x6 dy = some (r, dy') → WJ p l e (rmD (12)) s m args below meth c 8 G A 0 0 (MQ below (QI G ad A S r dy') args s 0 0 A) ad 35 [(0, .ref (ad x0)), (1, .int x1), (2, .int x2), (3, .int x3), (4, .int x4), (5, .int x5), (6, .int x6)] [] S dy := by
  intro k
  induction k with
  | zero => exact fun _ _ _ _ _ _ _ _ _ E => nomatch (show none = some (r, dy') from E)
  | succ k ih =>
    intro x0 x1 x2 x3 x4 x5 x6 dy Tx0 E
    rw [F_X10_better_35_s] at E
    refine ww_iload C dX10_better_35 6 rfl ?_
    refine ww_aload_n C dX10_better_37 rfl 0 rfl ?_
    have T_1 : gs S (gr S x0 12) = (1, 4) := hG.1 _ 10 Tx0 12 (by decide)
    refine ww_getr (ci := 10) (k0 := 12) C dX10_better_38 rfl rfl inm10 (by decide) Tx0 q1290 rfl T_1 (by decide) ?_
    refine ww_iconst (v := 0) C dX10_better_41 (by decide) ?_
    refine ww_iald C dX10_better_42 T_1 E (fun _ E => ?_)
    refine ww_icmp_ge (tgt := 95) C dX10_better_43 (by decide) E (fun _ E => ?_) (fun _ E => ?_)
    · refine ww_iload C dX10_better_95 4 rfl ?_
      exact ww_iret C HR HL dX10_better_97 E
    · refine ww_aload_n C dX10_better_46 rfl 0 rfl ?_
      refine ww_iload_n C dX10_better_47 rfl 1 rfl ?_
      refine ww_iload C dX10_better_48 6 rfl ?_
      refine ww_iload_n C dX10_better_50 rfl 2 rfl ?_
      refine ww_iload_n C dX10_better_51 rfl 3 rfl ?_
      obtain ⟨u2, e_3, E⟩ := bind_of E
      refine ww_callI C (runs_V (n := 4) (st := []) C [.int x1, .int x6, .int x2, .int x3] (M_X10_arrive l G ad N hG x0 x1 x6 x2 x3 dy Tx0 e_3) ⟨q1826, q118, by decide⟩ q1823 q1825 q99 (ci := 10) rfl Tx0 rfl (Nat.le_of_ble_eq_true rfl) ⟨Nat.le_of_ble_eq_true rfl, Nat.le_of_ble_eq_true rfl⟩ ⟨Nat.zero_le _, Nat.zero_le _⟩ dX10_better_52 rfl) ?_
      refine ww_istore (lv' := [(7, .int u2.1), (0, .ref (ad x0)), (1, .int x1), (2, .int x2), (3, .int x3), (4, .int x4), (5, .int x5), (6, .int x6)]) C dX10_better_55 (by decide) rfl ?_
      refine ww_iload C dX10_better_57 0 rfl ?_
      refine ww_iload C dX10_better_59 6 rfl ?_
      refine ww_icmp_le (tgt := 69) C dX10_better_61 (by decide) E (fun _ E => ?_) (fun _ E => ?_)
      · refine ww_iload C dX10_better_69 5 rfl ?_
        refine ww_sub (lv' := [(0, .ref (ad x0)), (1, .int x1), (2, .int x2), (3, .int x3), (5, .int x5), (6, .int x6), (7, .int u2.1)]) [1, 2, 3, 4, 6, 7, 0] rfl ?_
        exact (B_X10_better_71 C HR HL hG ih) x0 x1 x2 x3 x5 x6 u2.1 x4 u2.2 Tx0 E
      · refine ww_iload C dX10_better_64 7 rfl ?_
        refine ww_goto (tgt := 71) C dX10_better_66 (by decide) ?_
        refine ww_sub (lv' := [(0, .ref (ad x0)), (1, .int x1), (2, .int x2), (3, .int x3), (5, .int x5), (6, .int x6), (7, .int u2.1)]) [1, 2, 3, 4, 6, 7, 0] rfl ?_
        exact (B_X10_better_71 C HR HL hG ih) x0 x1 x2 x3 x5 x6 u2.1 x6 u2.2 Tx0 E
end P_X10_better
set_option maxHeartbeats 4000000 in
set_option maxRecDepth 100000 in
theorem M_X10_better (l : Launch) (G : GG) (ad : Nat → Nat) {S : ST} (N : Nat) (hG : Good S) (a0 : Nat) (a1 : Int32) (a2 : Int32) (a3 : Int32) (dy : DY) (T0 : gs S a0 = (0, 10)) {r : Int32} {dy' : DY} (E : F_X10_better S N a0 a1 a2 a3 dy = some (r, dy')) : MC l yX10_better cX10_better 8 (Option.some Jvm.ClassFile.FieldType.int) (12) G ad [.ref (ad a0), .int a1, .int a2, .int a3] S dy (fun A => QI G ad A S r dy') := by
  rw [F_X10_better_s] at E
  refine mc_of RX10 (by decide) rfl (Nat.le_of_ble_eq_true rfl) (fun p e s m args below meth c A C HR HL => ?_)
  refine ww_sub (lv' := [(0, .ref (ad a0)), (1, .int a1), (2, .int a2), (3, .int a3)]) [0, 1, 2, 3] rfl ?_
  refine ww_aload_n C dX10_better_0 rfl 0 rfl ?_
  refine ww_iconst (v := 0) C dX10_better_1 (by decide) ?_
  refine ww_puti (ci := 10) (k0 := 0) C dX10_better_2 rfl rfl inm10 tyX10_ok nmX10 (by decide) T0 q1278 rfl rfl rfl ?_
  refine ww_bd E (fun dy1 E => ?_)
  refine ww_aload_n C dX10_better_5 rfl 0 rfl ?_
  refine ww_iload_n C dX10_better_6 rfl 1 rfl ?_
  obtain ⟨u2, e_3, E⟩ := bind_of E
  refine ww_callI C (runs_V (n := 1) (st := []) C [.int a1] (M_X10_isPassage l G ad N hG a0 a1 dy1 T0 e_3) ⟨q1488, q118, by decide⟩ q1485 q1487 q41 (ci := 10) rfl T0 rfl (Nat.le_of_ble_eq_true rfl) ⟨Nat.le_of_ble_eq_true rfl, Nat.le_of_ble_eq_true rfl⟩ ⟨Nat.zero_le _, Nat.zero_le _⟩ dX10_better_7 rfl) ?_
  refine ww_if_eq (tgt := 24) C dX10_better_10 (by decide) E (fun _ E => ?_) (fun _ E => ?_)
  · refine ww_iconst (v := (-1)) C dX10_better_24 (by decide) ?_
    exact ww_iret C HR HL dX10_better_25 E
  · refine ww_iload_n C dX10_better_13 rfl 3 rfl ?_
    refine ww_iconst (v := 1) C dX10_better_14 (by decide) ?_
    refine ww_sipush (v := 200) C dX10_better_15 (by decide) ?_
    obtain ⟨u4, e_5, E⟩ := bind_of E
    refine ww_callI C (runs_S (n := 3) (st := []) C [.int a3, .int (1 : Int32), .int (200 : Int32)] (M_X10_in l G ad N hG a3 (1 : Int32) (200 : Int32) u2.2 e_5) ⟨q1476, q118, by decide⟩ q1474 q1475 rfl (Nat.le_of_ble_eq_true rfl) ⟨Nat.le_of_ble_eq_true rfl, Nat.le_of_ble_eq_true rfl⟩ ⟨Nat.zero_le _, Nat.zero_le _⟩ dX10_better_18 rfl) ?_
    refine ww_if_ne (tgt := 26) C dX10_better_21 (by decide) E (fun _ E => ?_) (fun _ E => ?_)
    · refine ww_iconst (v := (-1)) C dX10_better_26 (by decide) ?_
      refine ww_istore (lv' := [(4, .int (-1 : Int32)), (0, .ref (ad a0)), (1, .int a1), (2, .int a2), (3, .int a3)]) C dX10_better_27 (by decide) rfl ?_
      refine ww_iconst (v := (-1)) C dX10_better_29 (by decide) ?_
      refine ww_istore (lv' := [(5, .int (-1 : Int32)), (4, .int (-1 : Int32)), (0, .ref (ad a0)), (1, .int a1), (2, .int a2), (3, .int a3)]) C dX10_better_30 (by decide) rfl ?_
      refine ww_iconst (v := 0) C dX10_better_32 (by decide) ?_
      refine ww_istore (lv' := [(6, .int (0 : Int32)), (5, .int (-1 : Int32)), (4, .int (-1 : Int32)), (0, .ref (ad a0)), (1, .int a1), (2, .int a2), (3, .int a3)]) C dX10_better_33 (by decide) rfl ?_
      refine ww_sub (lv' := [(0, .ref (ad a0)), (1, .int a1), (2, .int a2), (3, .int a3), (4, .int (-1 : Int32)), (5, .int (-1 : Int32)), (6, .int (0 : Int32))]) [3, 4, 5, 6, 2, 1, 0] rfl ?_
      exact (B_X10_better_35 C HR HL hG N) a0 a1 a2 a3 (-1 : Int32) (-1 : Int32) (0 : Int32) u4.2 T0 E
    · refine ww_iconst (v := (-1)) C dX10_better_24 (by decide) ?_
      exact ww_iret C HR HL dX10_better_25 E
section P_X10_isLaw
variable {p : Program} {l : Launch} {e : Env} {s : State} {m : MethodId} {args : Array Value} {below : List Frame} {meth : Method} {c : Code} {G : GG} {A : Nat → Prop} {ad : Nat → Nat} {S : ST} {N : Nat} {r : Int32} {dy' : DY}
end P_X10_isLaw
set_option maxHeartbeats 4000000 in
set_option maxRecDepth 100000 in
theorem M_X10_isLaw (l : Launch) (G : GG) (ad : Nat → Nat) {S : ST} (N : Nat) (hG : Good S) (a0 : Nat) (a1 : Int32) (dy : DY) (T0 : gs S a0 = (0, 10)) {r : Int32} {dy' : DY} (E : F_X10_isLaw S N a0 a1 dy = some (r, dy')) : MC l yX10_isLaw cX10_isLaw 2 (Option.some Jvm.ClassFile.FieldType.boolean) (2) G ad [.ref (ad a0), .int a1] S dy (fun A => QI G ad A S r dy') := by
  rw [F_X10_isLaw_s] at E
  refine mc_of RX10 (by decide) rfl (Nat.le_of_ble_eq_true rfl) (fun p e s m args below meth c A C HR HL => ?_)
  refine ww_sub (lv' := [(0, .ref (ad a0)), (1, .int a1)]) [0, 1] rfl ?_
  refine ww_iload_n C dX10_isLaw_0 rfl 1 rfl ?_
  refine ww_iconst (v := 0) C dX10_isLaw_1 (by decide) ?_
  refine ww_aload_n C dX10_isLaw_2 rfl 0 rfl ?_
  have T_1 : gs S (gr S a0 12) = (1, 4) := hG.1 _ 10 T0 12 (by decide)
  refine ww_getr (ci := 10) (k0 := 12) C dX10_isLaw_3 rfl rfl inm10 (by decide) T0 q1290 rfl T_1 (by decide) ?_
  refine ww_iconst (v := 0) C dX10_isLaw_6 (by decide) ?_
  refine ww_iald C dX10_isLaw_7 T_1 E (fun _ E => ?_)
  refine ww_iconst (v := 1) C dX10_isLaw_8 (by decide) ?_
  refine ww_isub C dX10_isLaw_9 ?_
  obtain ⟨u2, e_3, E⟩ := bind_of E
  refine ww_callI C (runs_S (n := 3) (st := []) C [.int a1, .int (0 : Int32), .int ((gi dy (gr S a0 12) (0 : Int32).toNatClampNeg) - (1 : Int32))] (M_X10_in l G ad N hG a1 (0 : Int32) ((gi dy (gr S a0 12) (0 : Int32).toNatClampNeg) - (1 : Int32)) dy e_3) ⟨q1476, q118, by decide⟩ q1474 q1475 rfl (Nat.le_of_ble_eq_true rfl) ⟨Nat.le_of_ble_eq_true rfl, Nat.le_of_ble_eq_true rfl⟩ ⟨Nat.zero_le _, Nat.zero_le _⟩ dX10_isLaw_10 rfl) ?_
  obtain ⟨z_, E⟩ := gd_of E
  exact ww_zret C HR HL dX10_isLaw_13 z_ E
section P_X10_isTried
variable {p : Program} {l : Launch} {e : Env} {s : State} {m : MethodId} {args : Array Value} {below : List Frame} {meth : Method} {c : Code} {G : GG} {A : Nat → Prop} {ad : Nat → Nat} {S : ST} {N : Nat} {r : Int32} {dy' : DY}
end P_X10_isTried
set_option maxHeartbeats 4000000 in
set_option maxRecDepth 100000 in
theorem M_X10_isTried (l : Launch) (G : GG) (ad : Nat → Nat) {S : ST} (N : Nat) (hG : Good S) (a0 : Nat) (a1 : Int32) (a2 : Int32) (a3 : Int32) (a4 : Int32) (dy : DY) (T0 : gs S a0 = (0, 10)) {r : Int32} {dy' : DY} (E : F_X10_isTried S N a0 a1 a2 a3 a4 dy = some (r, dy')) : MC l yX10_isTried cX10_isTried 5 (Option.some Jvm.ClassFile.FieldType.boolean) (3) G ad [.ref (ad a0), .int a1, .int a2, .int a3, .int a4] S dy (fun A => QI G ad A S r dy') := by
  rw [F_X10_isTried_s] at E
  refine mc_of RX10 (by decide) rfl (Nat.le_of_ble_eq_true rfl) (fun p e s m args below meth c A C HR HL => ?_)
  refine ww_sub (lv' := [(0, .ref (ad a0)), (1, .int a1), (2, .int a2), (3, .int a3), (4, .int a4)]) [0, 1, 2, 3, 4] rfl ?_
  refine ww_aload_n C dX10_isTried_0 rfl 0 rfl ?_
  refine ww_iload_n C dX10_isTried_1 rfl 1 rfl ?_
  obtain ⟨u1, e_2, E⟩ := bind_of E
  refine ww_callI C (runs_V (n := 1) (st := []) C [.int a1] (M_X10_isPassage l G ad N hG a0 a1 dy T0 e_2) ⟨q1488, q118, by decide⟩ q1485 q1487 q41 (ci := 10) rfl T0 rfl (Nat.le_of_ble_eq_true rfl) ⟨Nat.le_of_ble_eq_true rfl, Nat.le_of_ble_eq_true rfl⟩ ⟨Nat.zero_le _, Nat.zero_le _⟩ dX10_isTried_2 rfl) ?_
  refine ww_if_eq (tgt := 30) C dX10_isTried_5 (by decide) E (fun _ E => ?_) (fun _ E => ?_)
  · refine ww_iconst (v := 0) C dX10_isTried_30 (by decide) ?_
    exact ww_zret C HR HL dX10_isTried_31 (Or.inl rfl) E
  · refine ww_aload_n C dX10_isTried_8 rfl 0 rfl ?_
    refine ww_iload_n C dX10_isTried_9 rfl 2 rfl ?_
    obtain ⟨u3, e_4, E⟩ := bind_of E
    refine ww_callI C (runs_V (n := 1) (st := []) C [.int a2] (M_X10_isLaw l G ad N hG a0 a2 u1.2 T0 e_4) ⟨q1587, q118, by decide⟩ q1584 q1586 q61 (ci := 10) rfl T0 rfl (Nat.le_of_ble_eq_true rfl) ⟨Nat.le_of_ble_eq_true rfl, Nat.le_of_ble_eq_true rfl⟩ ⟨Nat.zero_le _, Nat.zero_le _⟩ dX10_isTried_10 rfl) ?_
    refine ww_if_eq (tgt := 30) C dX10_isTried_13 (by decide) E (fun _ E => ?_) (fun _ E => ?_)
    · refine ww_iconst (v := 0) C dX10_isTried_30 (by decide) ?_
      exact ww_zret C HR HL dX10_isTried_31 (Or.inl rfl) E
    · refine ww_iload_n C dX10_isTried_16 rfl 3 rfl ?_
      refine ww_iconst (v := 1) C dX10_isTried_17 (by decide) ?_
      refine ww_iload C dX10_isTried_18 4 rfl ?_
      obtain ⟨u5, e_6, E⟩ := bind_of E
      refine ww_callI C (runs_S (n := 3) (st := []) C [.int a3, .int (1 : Int32), .int a4] (M_X10_in l G ad N hG a3 (1 : Int32) a4 u3.2 e_6) ⟨q1476, q118, by decide⟩ q1474 q1475 rfl (Nat.le_of_ble_eq_true rfl) ⟨Nat.le_of_ble_eq_true rfl, Nat.le_of_ble_eq_true rfl⟩ ⟨Nat.zero_le _, Nat.zero_le _⟩ dX10_isTried_20 rfl) ?_
      refine ww_if_eq (tgt := 30) C dX10_isTried_23 (by decide) E (fun _ E => ?_) (fun _ E => ?_)
      · refine ww_iconst (v := 0) C dX10_isTried_30 (by decide) ?_
        exact ww_zret C HR HL dX10_isTried_31 (Or.inl rfl) E
      · refine ww_iconst (v := 1) C dX10_isTried_26 (by decide) ?_
        refine ww_goto (tgt := 31) C dX10_isTried_27 (by decide) ?_
        exact ww_zret C HR HL dX10_isTried_31 (Or.inr rfl) E
section P_X10_tenths
variable {p : Program} {l : Launch} {e : Env} {s : State} {m : MethodId} {args : Array Value} {below : List Frame} {meth : Method} {c : Code} {G : GG} {A : Nat → Prop} {ad : Nat → Nat} {S : ST} {N : Nat} {r : Int32} {dy' : DY}
set_option maxHeartbeats 4000000 in
set_option maxRecDepth 100000 in
theorem B_X10_tenths_5 (C : CX p s m args c cX10_tenths 6 RX10 G A) (HR : meth.sig.returnType = (Option.some Jvm.ClassFile.FieldType.int)) (HL : meth.locks = false) (hG : Good S) : ∀ k : Nat, ∀ (x0 : Nat) (x1 : Int32) (x2 : Int32) (x3 : Int32) (x4 : Int32) (dy : DY), gs S x0 = (0, 10) → (F_X10_tenths_5 S N k) x0 x1 x2 x3 x4 dy = some (r, dy') → WJ p l e (rmD (2)) s m args below meth c 6 G A 0 0 (MQ below (QI G ad A S r dy') args s 0 0 A) ad 5 [(0, .ref (ad x0)), (1, .int x1), (2, .int x2), (3, .int x3), (4, .int x4)] [] S dy := by
  intro k
  induction k with
  | zero => exact fun _ _ _ _ _ _ _ E => nomatch (show none = some (r, dy') from E)
  | succ k ih =>
    intro x0 x1 x2 x3 x4 dy Tx0 E
    rw [F_X10_tenths_5_s] at E
    refine ww_iload C dX10_tenths_5 4 rfl ?_
    refine ww_aload_n C dX10_tenths_7 rfl 0 rfl ?_
    have T_1 : gs S (gr S x0 39) = (1, 10080) := hG.1 _ 10 Tx0 39 (by decide)
    refine ww_getr (ci := 10) (k0 := 39) C dX10_tenths_8 rfl rfl inm10 (by decide) Tx0 q1317 rfl T_1 (by decide) ?_
    refine ww_sipush (v := 2882) C dX10_tenths_11 (by decide) ?_
    refine ww_iald C dX10_tenths_14 T_1 E (fun _ E => ?_)
    refine ww_icmp_ge (tgt := 67) C dX10_tenths_15 (by decide) E (fun _ E => ?_) (fun _ E => ?_)
    · refine ww_iload_n C dX10_tenths_67 rfl 3 rfl ?_
      exact ww_iret C HR HL dX10_tenths_68 E
    · refine ww_aload_n C dX10_tenths_18 rfl 0 rfl ?_
      have T_2 : gs S (gr S x0 39) = (1, 10080) := hG.1 _ 10 Tx0 39 (by decide)
      refine ww_getr (ci := 10) (k0 := 39) C dX10_tenths_19 rfl rfl inm10 (by decide) Tx0 q1317 rfl T_2 (by decide) ?_
      refine ww_iconst (v := 4) C dX10_tenths_22 (by decide) ?_
      refine ww_iload C dX10_tenths_23 4 rfl ?_
      obtain ⟨u3, e_4, E⟩ := bind_of E
      refine ww_callI C (runs_S (n := 2) (st := [.ref (ad (gr S x0 39))]) C [.int (4 : Int32), .int x4] (M_X10_at l G ad N hG (4 : Int32) x4 dy e_4) ⟨q1644, q118, by decide⟩ q1642 q1643 rfl (Nat.le_of_ble_eq_true rfl) ⟨Nat.le_of_ble_eq_true rfl, Nat.le_of_ble_eq_true rfl⟩ ⟨Nat.zero_le _, Nat.zero_le _⟩ dX10_tenths_25 rfl) ?_
      refine ww_bipush (v := 14) C dX10_tenths_28 (by decide) ?_
      refine ww_iadd C dX10_tenths_30 ?_
      refine ww_iald C dX10_tenths_31 T_2 E (fun _ E => ?_)
      refine ww_istore (lv' := [(5, .int (gi u3.2 (gr S x0 39) (u3.1 + (14 : Int32)).toNatClampNeg)), (0, .ref (ad x0)), (1, .int x1), (2, .int x2), (3, .int x3), (4, .int x4)]) C dX10_tenths_32 (by decide) rfl ?_
      refine ww_iload_n C dX10_tenths_34 rfl 4 rfl ?_
      refine ww_iload C dX10_tenths_35 5 rfl ?_
      refine ww_iload_n C dX10_tenths_37 rfl 3 rfl ?_
      refine ww_icmp_ne (tgt := 45) C dX10_tenths_38 (by decide) E (fun _ E => ?_) (fun _ E => ?_)
      · refine ww_iload C dX10_tenths_45 0 rfl ?_
        refine ww_iconst (v := (-1)) C dX10_tenths_47 (by decide) ?_
        refine ww_icmp_ne (tgt := 55) C dX10_tenths_48 (by decide) E (fun _ E => ?_) (fun _ E => ?_)
        · refine ww_iload C dX10_tenths_55 0 rfl ?_
          refine ww_iconst (v := 1) C dX10_tenths_57 (by decide) ?_
          refine ww_iadd C dX10_tenths_58 ?_
          refine ww_iadd C dX10_tenths_59 ?_
          refine ww_istore_n (lv' := [(3, .int (x3 + ((gi u3.2 (gr S x0 39) (u3.1 + (14 : Int32)).toNatClampNeg) + (1 : Int32)))), (5, .int (gi u3.2 (gr S x0 39) (u3.1 + (14 : Int32)).toNatClampNeg)), (0, .ref (ad x0)), (1, .int x1), (2, .int x2), (4, .int x4)]) C dX10_tenths_60 rfl (by decide) rfl ?_
          refine ww_iinc (v := (x4 + (1 : Int32))) (lv' := [(4, .int (x4 + (1 : Int32))), (3, .int (x3 + ((gi u3.2 (gr S x0 39) (u3.1 + (14 : Int32)).toNatClampNeg) + (1 : Int32)))), (5, .int (gi u3.2 (gr S x0 39) (u3.1 + (14 : Int32)).toNatClampNeg)), (0, .ref (ad x0)), (1, .int x1), (2, .int x2)]) C dX10_tenths_61 5 rfl rfl (by decide) rfl ?_
          refine ww_goto (tgt := 5) C dX10_tenths_64 (by decide) ?_
          refine ww_sub (lv' := [(0, .ref (ad x0)), (1, .int x1), (2, .int x2), (3, .int (x3 + ((gi u3.2 (gr S x0 39) (u3.1 + (14 : Int32)).toNatClampNeg) + (1 : Int32)))), (4, .int (x4 + (1 : Int32)))]) [3, 4, 5, 1, 0] rfl ?_
          exact ih x0 x1 x2 (x3 + ((gi u3.2 (gr S x0 39) (u3.1 + (14 : Int32)).toNatClampNeg) + (1 : Int32))) (x4 + (1 : Int32)) u3.2 Tx0 E
        · refine ww_iload_n C dX10_tenths_51 rfl 2 rfl ?_
          refine ww_goto (tgt := 59) C dX10_tenths_52 (by decide) ?_
          refine ww_iadd C dX10_tenths_59 ?_
          refine ww_istore_n (lv' := [(3, .int (x3 + x1)), (5, .int (gi u3.2 (gr S x0 39) (u3.1 + (14 : Int32)).toNatClampNeg)), (0, .ref (ad x0)), (1, .int x1), (2, .int x2), (4, .int x4)]) C dX10_tenths_60 rfl (by decide) rfl ?_
          refine ww_iinc (v := (x4 + (1 : Int32))) (lv' := [(4, .int (x4 + (1 : Int32))), (3, .int (x3 + x1)), (5, .int (gi u3.2 (gr S x0 39) (u3.1 + (14 : Int32)).toNatClampNeg)), (0, .ref (ad x0)), (1, .int x1), (2, .int x2)]) C dX10_tenths_61 5 rfl rfl (by decide) rfl ?_
          refine ww_goto (tgt := 5) C dX10_tenths_64 (by decide) ?_
          refine ww_sub (lv' := [(0, .ref (ad x0)), (1, .int x1), (2, .int x2), (3, .int (x3 + x1)), (4, .int (x4 + (1 : Int32)))]) [3, 4, 5, 1, 0] rfl ?_
          exact ih x0 x1 x2 (x3 + x1) (x4 + (1 : Int32)) u3.2 Tx0 E
      · refine ww_iconst (v := 0) C dX10_tenths_41 (by decide) ?_
        refine ww_goto (tgt := 59) C dX10_tenths_42 (by decide) ?_
        refine ww_iadd C dX10_tenths_59 ?_
        refine ww_istore_n (lv' := [(3, .int (x3 + (0 : Int32))), (5, .int (gi u3.2 (gr S x0 39) (u3.1 + (14 : Int32)).toNatClampNeg)), (0, .ref (ad x0)), (1, .int x1), (2, .int x2), (4, .int x4)]) C dX10_tenths_60 rfl (by decide) rfl ?_
        refine ww_iinc (v := (x4 + (1 : Int32))) (lv' := [(4, .int (x4 + (1 : Int32))), (3, .int (x3 + (0 : Int32))), (5, .int (gi u3.2 (gr S x0 39) (u3.1 + (14 : Int32)).toNatClampNeg)), (0, .ref (ad x0)), (1, .int x1), (2, .int x2)]) C dX10_tenths_61 5 rfl rfl (by decide) rfl ?_
        refine ww_goto (tgt := 5) C dX10_tenths_64 (by decide) ?_
        refine ww_sub (lv' := [(0, .ref (ad x0)), (1, .int x1), (2, .int x2), (3, .int (x3 + (0 : Int32))), (4, .int (x4 + (1 : Int32)))]) [3, 4, 5, 1, 0] rfl ?_
        exact ih x0 x1 x2 (x3 + (0 : Int32)) (x4 + (1 : Int32)) u3.2 Tx0 E
end P_X10_tenths
set_option maxHeartbeats 4000000 in
set_option maxRecDepth 100000 in
theorem M_X10_tenths (l : Launch) (G : GG) (ad : Nat → Nat) {S : ST} (N : Nat) (hG : Good S) (a0 : Nat) (a1 : Int32) (a2 : Int32) (dy : DY) (T0 : gs S a0 = (0, 10)) {r : Int32} {dy' : DY} (E : F_X10_tenths S N a0 a1 a2 dy = some (r, dy')) : MC l yX10_tenths cX10_tenths 6 (Option.some Jvm.ClassFile.FieldType.int) (2) G ad [.ref (ad a0), .int a1, .int a2] S dy (fun A => QI G ad A S r dy') := by
  rw [F_X10_tenths_s] at E
  refine mc_of RX10 (by decide) rfl (Nat.le_of_ble_eq_true rfl) (fun p e s m args below meth c A C HR HL => ?_)
  refine ww_sub (lv' := [(0, .ref (ad a0)), (1, .int a1), (2, .int a2)]) [0, 1, 2] rfl ?_
  refine ww_iconst (v := 0) C dX10_tenths_0 (by decide) ?_
  refine ww_istore_n (lv' := [(3, .int (0 : Int32)), (0, .ref (ad a0)), (1, .int a1), (2, .int a2)]) C dX10_tenths_1 rfl (by decide) rfl ?_
  refine ww_iconst (v := 0) C dX10_tenths_2 (by decide) ?_
  refine ww_istore (lv' := [(4, .int (0 : Int32)), (3, .int (0 : Int32)), (0, .ref (ad a0)), (1, .int a1), (2, .int a2)]) C dX10_tenths_3 (by decide) rfl ?_
  refine ww_sub (lv' := [(0, .ref (ad a0)), (1, .int a1), (2, .int a2), (3, .int (0 : Int32)), (4, .int (0 : Int32))]) [2, 3, 4, 1, 0] rfl ?_
  exact (B_X10_tenths_5 C HR HL hG N) a0 a1 a2 (0 : Int32) (0 : Int32) dy T0 E
section P_X10_cost
variable {p : Program} {l : Launch} {e : Env} {s : State} {m : MethodId} {args : Array Value} {below : List Frame} {meth : Method} {c : Code} {G : GG} {A : Nat → Prop} {ad : Nat → Nat} {S : ST} {N : Nat} {r : Int32} {dy' : DY}
end P_X10_cost
set_option maxHeartbeats 4000000 in
set_option maxRecDepth 100000 in
theorem M_X10_cost (l : Launch) (G : GG) (ad : Nat → Nat) {S : ST} (N : Nat) (hG : Good S) (a0 : Nat) (a1 : Int32) (a2 : Int32) (a3 : Int32) (a4 : Int32) (a5 : Int32) (dy : DY) (T0 : gs S a0 = (0, 10)) {r : Int32} {dy' : DY} (E : F_X10_cost S N a0 a1 a2 a3 a4 a5 dy = some (r, dy')) : MC l yX10_cost cX10_cost 7 (Option.some Jvm.ClassFile.FieldType.int) (11) G ad [.ref (ad a0), .int a1, .int a2, .int a3, .int a4, .int a5] S dy (fun A => QI G ad A S r dy') := by
  rw [F_X10_cost_s] at E
  refine mc_of RX10 (by decide) rfl (Nat.le_of_ble_eq_true rfl) (fun p e s m args below meth c A C HR HL => ?_)
  refine ww_sub (lv' := [(0, .ref (ad a0)), (1, .int a1), (2, .int a2), (3, .int a3), (4, .int a4), (5, .int a5)]) [0, 1, 2, 3, 4, 5] rfl ?_
  refine ww_aload_n C dX10_cost_0 rfl 0 rfl ?_
  refine ww_iconst (v := 0) C dX10_cost_1 (by decide) ?_
  refine ww_puti (ci := 10) (k0 := 0) C dX10_cost_2 rfl rfl inm10 tyX10_ok nmX10 (by decide) T0 q1278 rfl rfl rfl ?_
  refine ww_bd E (fun dy1 E => ?_)
  refine ww_aload_n C dX10_cost_5 rfl 0 rfl ?_
  refine ww_iload_n C dX10_cost_6 rfl 1 rfl ?_
  refine ww_iload_n C dX10_cost_7 rfl 2 rfl ?_
  refine ww_iload C dX10_cost_8 4 rfl ?_
  refine ww_sipush (v := 200) C dX10_cost_10 (by decide) ?_
  obtain ⟨u2, e_3, E⟩ := bind_of E
  refine ww_callI C (runs_V (n := 4) (st := []) C [.int a1, .int a2, .int a4, .int (200 : Int32)] (M_X10_isTried l G ad N hG a0 a1 a2 a4 (200 : Int32) dy1 T0 e_3) ⟨q1797, q118, by decide⟩ q1794 q1796 q95 (ci := 10) rfl T0 rfl (Nat.le_of_ble_eq_true rfl) ⟨Nat.le_of_ble_eq_true rfl, Nat.le_of_ble_eq_true rfl⟩ ⟨Nat.zero_le _, Nat.zero_le _⟩ dX10_cost_13 rfl) ?_
  refine ww_if_eq (tgt := 36) C dX10_cost_16 (by decide) E (fun _ E => ?_) (fun _ E => ?_)
  · refine ww_ldcw (v := (-100000)) C dX10_cost_36 q1814 ?_
    exact ww_iret C HR HL dX10_cost_39 E
  · refine ww_iload C dX10_cost_19 5 rfl ?_
    refine ww_iconst (v := 0) C dX10_cost_21 (by decide) ?_
    refine ww_aload_n C dX10_cost_22 rfl 0 rfl ?_
    have T_4 : gs S (gr S a0 8) = (1, 12) := hG.1 _ 10 T0 8 (by decide)
    refine ww_getr (ci := 10) (k0 := 8) C dX10_cost_23 rfl rfl inm10 (by decide) T0 q1286 rfl T_4 (by decide) ?_
    refine ww_iload_n C dX10_cost_26 rfl 1 rfl ?_
    refine ww_iald C dX10_cost_27 T_4 E (fun _ E => ?_)
    refine ww_iconst (v := 1) C dX10_cost_28 (by decide) ?_
    refine ww_isub C dX10_cost_29 ?_
    obtain ⟨u5, e_6, E⟩ := bind_of E
    refine ww_callI C (runs_S (n := 3) (st := []) C [.int a5, .int (0 : Int32), .int ((gi u2.2 (gr S a0 8) a1.toNatClampNeg) - (1 : Int32))] (M_X10_in l G ad N hG a5 (0 : Int32) ((gi u2.2 (gr S a0 8) a1.toNatClampNeg) - (1 : Int32)) u2.2 e_6) ⟨q1476, q118, by decide⟩ q1474 q1475 rfl (Nat.le_of_ble_eq_true rfl) ⟨Nat.le_of_ble_eq_true rfl, Nat.le_of_ble_eq_true rfl⟩ ⟨Nat.zero_le _, Nat.zero_le _⟩ dX10_cost_30 rfl) ?_
    refine ww_if_ne (tgt := 40) C dX10_cost_33 (by decide) E (fun _ E => ?_) (fun _ E => ?_)
    · refine ww_aload_n C dX10_cost_40 rfl 0 rfl ?_
      refine ww_iconst (v := 4) C dX10_cost_41 (by decide) ?_
      refine ww_iload_n C dX10_cost_42 rfl 1 rfl ?_
      refine ww_iload_n C dX10_cost_43 rfl 2 rfl ?_
      refine ww_iload_n C dX10_cost_44 rfl 3 rfl ?_
      refine ww_bipush (v := 12) C dX10_cost_45 (by decide) ?_
      refine ww_iconst (v := (-1)) C dX10_cost_47 (by decide) ?_
      obtain ⟨u7, e_8, E⟩ := bind_of E
      refine ww_callV C (runs_V (n := 6) (st := []) C [.int (4 : Int32), .int a1, .int a2, .int a3, .int (12 : Int32), .int (-1 : Int32)] (M_X10_lay l G ad N hG a0 (4 : Int32) a1 a2 a3 (12 : Int32) (-1 : Int32) u5.2 T0 e_8) ⟨q1641, q118, by decide⟩ q1638 q1640 q66 (ci := 10) rfl T0 rfl (Nat.le_of_ble_eq_true rfl) ⟨Nat.le_of_ble_eq_true rfl, Nat.le_of_ble_eq_true rfl⟩ ⟨Nat.zero_le _, Nat.zero_le _⟩ dX10_cost_48 rfl) ?_
      refine ww_aload_n C dX10_cost_51 rfl 0 rfl ?_
      refine ww_iload C dX10_cost_52 4 rfl ?_
      obtain ⟨u9, e_10, E⟩ := bind_of E
      refine ww_callV C (runs_V (n := 1) (st := []) C [.int a4] (M_X10_tryOn l G ad N hG a0 a4 u7 T0 e_10) ⟨q1801, q118, by decide⟩ q1798 q1800 q96 (ci := 10) rfl T0 rfl (Nat.le_of_ble_eq_true rfl) ⟨Nat.le_of_ble_eq_true rfl, Nat.le_of_ble_eq_true rfl⟩ ⟨Nat.zero_le _, Nat.zero_le _⟩ dX10_cost_54 rfl) ?_
      refine ww_aload_n C dX10_cost_57 rfl 0 rfl ?_
      refine ww_iload C dX10_cost_58 4 rfl ?_
      refine ww_iload C dX10_cost_60 5 rfl ?_
      obtain ⟨u11, e_12, E⟩ := bind_of E
      refine ww_callI C (runs_V (n := 2) (st := []) C [.int a4, .int a5] (M_X10_tenths l G ad N hG a0 a4 a5 u9 T0 e_12) ⟨q1818, q118, by decide⟩ q1815 q1817 q98 (ci := 10) rfl T0 rfl (Nat.le_of_ble_eq_true rfl) ⟨Nat.le_of_ble_eq_true rfl, Nat.le_of_ble_eq_true rfl⟩ ⟨Nat.zero_le _, Nat.zero_le _⟩ dX10_cost_62 rfl) ?_
      refine ww_istore (lv' := [(6, .int u11.1), (0, .ref (ad a0)), (1, .int a1), (2, .int a2), (3, .int a3), (4, .int a4), (5, .int a5)]) C dX10_cost_65 (by decide) rfl ?_
      refine ww_aload_n C dX10_cost_67 rfl 1 rfl ?_
      refine ww_iconst (v := 4) C dX10_cost_68 (by decide) ?_
      refine ww_iload_n C dX10_cost_69 rfl 2 rfl ?_
      refine ww_iload_n C dX10_cost_70 rfl 3 rfl ?_
      refine ww_iload_n C dX10_cost_71 rfl 4 rfl ?_
      refine ww_bipush (v := 12) C dX10_cost_72 (by decide) ?_
      refine ww_iload C dX10_cost_74 6 rfl ?_
      obtain ⟨u13, e_14, E⟩ := bind_of E
      refine ww_callV C (runs_V (n := 6) (st := []) C [.int (4 : Int32), .int a1, .int a2, .int a3, .int (12 : Int32), .int a5] (M_X10_lay l G ad N hG a0 (4 : Int32) a1 a2 a3 (12 : Int32) a5 u11.2 T0 e_14) ⟨q1641, q118, by decide⟩ q1638 q1640 q66 (ci := 10) rfl T0 rfl (Nat.le_of_ble_eq_true rfl) ⟨Nat.le_of_ble_eq_true rfl, Nat.le_of_ble_eq_true rfl⟩ ⟨Nat.zero_le _, Nat.zero_le _⟩ dX10_cost_76 rfl) ?_
      refine ww_aload_n C dX10_cost_79 rfl 1 rfl ?_
      refine ww_iload C dX10_cost_80 5 rfl ?_
      obtain ⟨u15, e_16, E⟩ := bind_of E
      refine ww_callV C (runs_V (n := 1) (st := []) C [.int a4] (M_X10_tryOn l G ad N hG a0 a4 u13 T0 e_16) ⟨q1801, q118, by decide⟩ q1798 q1800 q96 (ci := 10) rfl T0 rfl (Nat.le_of_ble_eq_true rfl) ⟨Nat.le_of_ble_eq_true rfl, Nat.le_of_ble_eq_true rfl⟩ ⟨Nat.zero_le _, Nat.zero_le _⟩ dX10_cost_82 rfl) ?_
      refine ww_iload C dX10_cost_85 0 rfl ?_
      refine ww_aload_n C dX10_cost_87 rfl 1 rfl ?_
      refine ww_iload C dX10_cost_88 5 rfl ?_
      refine ww_iload C dX10_cost_90 6 rfl ?_
      obtain ⟨u17, e_18, E⟩ := bind_of E
      refine ww_callI C (runs_V (n := 2) (st := [.int u11.1]) C [.int a4, .int a5] (M_X10_tenths l G ad N hG a0 a4 a5 u15 T0 e_18) ⟨q1818, q118, by decide⟩ q1815 q1817 q98 (ci := 10) rfl T0 rfl (Nat.le_of_ble_eq_true rfl) ⟨Nat.le_of_ble_eq_true rfl, Nat.le_of_ble_eq_true rfl⟩ ⟨Nat.zero_le _, Nat.zero_le _⟩ dX10_cost_92 rfl) ?_
      refine ww_isub C dX10_cost_95 ?_
      exact ww_iret C HR HL dX10_cost_96 E
    · refine ww_ldcw (v := (-100000)) C dX10_cost_36 q1814 ?_
      exact ww_iret C HR HL dX10_cost_39 E
section P_X10_count
variable {p : Program} {l : Launch} {e : Env} {s : State} {m : MethodId} {args : Array Value} {below : List Frame} {meth : Method} {c : Code} {G : GG} {A : Nat → Prop} {ad : Nat → Nat} {S : ST} {N : Nat} {r : Int32} {dy' : DY}
end P_X10_count
set_option maxHeartbeats 4000000 in
set_option maxRecDepth 100000 in
theorem M_X10_count (l : Launch) (G : GG) (ad : Nat → Nat) {S : ST} (N : Nat) (hG : Good S) (a0 : Nat) (a1 : Int32) (dy : DY) (T0 : gs S a0 = (0, 10)) {r : Int32} {dy' : DY} (E : F_X10_count S N a0 a1 dy = some (r, dy')) : MC l yX10_count cX10_count 2 (Option.some Jvm.ClassFile.FieldType.int) (2) G ad [.ref (ad a0), .int a1] S dy (fun A => QI G ad A S r dy') := by
  rw [F_X10_count_s] at E
  refine mc_of RX10 (by decide) rfl (Nat.le_of_ble_eq_true rfl) (fun p e s m args below meth c A C HR HL => ?_)
  refine ww_sub (lv' := [(0, .ref (ad a0)), (1, .int a1)]) [0, 1] rfl ?_
  refine ww_aload_n C dX10_count_0 rfl 0 rfl ?_
  refine ww_iconst (v := 0) C dX10_count_1 (by decide) ?_
  refine ww_puti (ci := 10) (k0 := 0) C dX10_count_2 rfl rfl inm10 tyX10_ok nmX10 (by decide) T0 q1278 rfl rfl rfl ?_
  refine ww_bd E (fun dy1 E => ?_)
  refine ww_iload_n C dX10_count_5 rfl 1 rfl ?_
  refine ww_if_ne (tgt := 18) C dX10_count_6 (by decide) E (fun _ E => ?_) (fun _ E => ?_)
  · refine ww_iload_n C dX10_count_18 rfl 1 rfl ?_
    refine ww_iconst (v := 1) C dX10_count_19 (by decide) ?_
    refine ww_icmp_ne (tgt := 32) C dX10_count_20 (by decide) E (fun _ E => ?_) (fun _ E => ?_)
    · refine ww_iload_n C dX10_count_32 rfl 1 rfl ?_
      refine ww_iconst (v := 2) C dX10_count_33 (by decide) ?_
      refine ww_bipush (v := 9) C dX10_count_34 (by decide) ?_
      obtain ⟨u2, e_3, E⟩ := bind_of E
      refine ww_callI C (runs_S (n := 3) (st := []) C [.int a1, .int (2 : Int32), .int (9 : Int32)] (M_X10_in l G ad N hG a1 (2 : Int32) (9 : Int32) dy1 e_3) ⟨q1476, q118, by decide⟩ q1474 q1475 rfl (Nat.le_of_ble_eq_true rfl) ⟨Nat.le_of_ble_eq_true rfl, Nat.le_of_ble_eq_true rfl⟩ ⟨Nat.zero_le _, Nat.zero_le _⟩ dX10_count_36 rfl) ?_
      refine ww_if_eq (tgt := 53) C dX10_count_39 (by decide) E (fun _ E => ?_) (fun _ E => ?_)
      · refine ww_bipush (v := (-2)) C dX10_count_53 (by decide) ?_
        exact ww_iret C HR HL dX10_count_55 E
      · refine ww_aload_n C dX10_count_42 rfl 0 rfl ?_
        have T_4 : gs S (gr S a0 15) = (1, 32) := hG.1 _ 10 T0 15 (by decide)
        refine ww_getr (ci := 10) (k0 := 15) C dX10_count_43 rfl rfl inm10 (by decide) T0 q1293 rfl T_4 (by decide) ?_
        refine ww_iload_n C dX10_count_46 rfl 1 rfl ?_
        refine ww_iconst (v := 2) C dX10_count_47 (by decide) ?_
        refine ww_isub C dX10_count_48 ?_
        refine ww_iald C dX10_count_49 T_4 E (fun _ E => ?_)
        refine ww_goto (tgt := 55) C dX10_count_50 (by decide) ?_
        exact ww_iret C HR HL dX10_count_55 E
    · refine ww_aload_n C dX10_count_23 rfl 0 rfl ?_
      have T_5 : gs S (gr S a0 12) = (1, 4) := hG.1 _ 10 T0 12 (by decide)
      refine ww_getr (ci := 10) (k0 := 12) C dX10_count_24 rfl rfl inm10 (by decide) T0 q1290 rfl T_5 (by decide) ?_
      refine ww_iconst (v := 0) C dX10_count_27 (by decide) ?_
      refine ww_iald C dX10_count_28 T_5 E (fun _ E => ?_)
      refine ww_goto (tgt := 55) C dX10_count_29 (by decide) ?_
      exact ww_iret C HR HL dX10_count_55 E
  · refine ww_aload_n C dX10_count_9 rfl 0 rfl ?_
    have T_6 : gs S (gr S a0 5) = (1, 4) := hG.1 _ 10 T0 5 (by decide)
    refine ww_getr (ci := 10) (k0 := 5) C dX10_count_10 rfl rfl inm10 (by decide) T0 q1283 rfl T_6 (by decide) ?_
    refine ww_iconst (v := 0) C dX10_count_13 (by decide) ?_
    refine ww_iald C dX10_count_14 T_6 E (fun _ E => ?_)
    refine ww_goto (tgt := 55) C dX10_count_15 (by decide) ?_
    exact ww_iret C HR HL dX10_count_55 E
section P_X10_couple
variable {p : Program} {l : Launch} {e : Env} {s : State} {m : MethodId} {args : Array Value} {below : List Frame} {meth : Method} {c : Code} {G : GG} {A : Nat → Prop} {ad : Nat → Nat} {S : ST} {N : Nat} {r : Int32} {dy' : DY}
set_option maxHeartbeats 4000000 in
set_option maxRecDepth 100000 in
theorem B_X10_couple_67 (C : CX p s m args c cX10_couple 6 RX10 G A) (HR : meth.sig.returnType = (Option.some Jvm.ClassFile.FieldType.int)) (HL : meth.locks = false) (hG : Good S) : ∀ (x5 : Int32) (y0 : Int32) (dy : DY), F_X10_couple_67 S N x5 y0 dy = some (r, dy') → WJ p l e (rmD (1)) s m args below meth c 6 G A 0 0 (MQ below (QI G ad A S r dy') args s 0 0 A) ad 67 [(5, .int x5)] [.int y0] S dy := by
  intro x5 y0 dy E
  rw [F_X10_couple_67_s] at E
  refine ww_iload C dX10_couple_67 0 rfl ?_
  refine ww_if_ge (tgt := 78) C dX10_couple_69 (by decide) E (fun _ E => ?_) (fun _ E => ?_)
  · refine ww_iload C dX10_couple_78 0 rfl ?_
    refine ww_iadd C dX10_couple_80 ?_
    exact ww_iret C HR HL dX10_couple_81 E
  · refine ww_iload C dX10_couple_72 0 rfl ?_
    refine ww_ineg C dX10_couple_74 ?_
    refine ww_goto (tgt := 80) C dX10_couple_75 (by decide) ?_
    refine ww_iadd C dX10_couple_80 ?_
    exact ww_iret C HR HL dX10_couple_81 E
end P_X10_couple
set_option maxHeartbeats 4000000 in
set_option maxRecDepth 100000 in
theorem M_X10_couple (l : Launch) (G : GG) (ad : Nat → Nat) {S : ST} (N : Nat) (hG : Good S) (a0 : Nat) (a1 : Int32) (a2 : Int32) (a3 : Int32) (dy : DY) (T0 : gs S a0 = (0, 10)) {r : Int32} {dy' : DY} (E : F_X10_couple S N a0 a1 a2 a3 dy = some (r, dy')) : MC l yX10_couple cX10_couple 6 (Option.some Jvm.ClassFile.FieldType.int) (1) G ad [.ref (ad a0), .int a1, .int a2, .int a3] S dy (fun A => QI G ad A S r dy') := by
  rw [F_X10_couple_s] at E
  refine mc_of RX10 (by decide) rfl (Nat.le_of_ble_eq_true rfl) (fun p e s m args below meth c A C HR HL => ?_)
  refine ww_sub (lv' := [(0, .ref (ad a0)), (1, .int a1), (2, .int a2), (3, .int a3)]) [0, 1, 2, 3] rfl ?_
  refine ww_aload_n C dX10_couple_0 rfl 0 rfl ?_
  have T_1 : gs S (gr S a0 16) = (1, 192) := hG.1 _ 10 T0 16 (by decide)
  refine ww_getr (ci := 10) (k0 := 16) C dX10_couple_1 rfl rfl inm10 (by decide) T0 q1294 rfl T_1 (by decide) ?_
  refine ww_bipush (v := 6) C dX10_couple_4 (by decide) ?_
  refine ww_iload_n C dX10_couple_6 rfl 1 rfl ?_
  refine ww_imul C dX10_couple_7 ?_
  refine ww_iload_n C dX10_couple_8 rfl 2 rfl ?_
  refine ww_iadd C dX10_couple_9 ?_
  refine ww_iald C dX10_couple_10 T_1 E (fun _ E => ?_)
  refine ww_aload_n C dX10_couple_11 rfl 0 rfl ?_
  have T_2 : gs S (gr S a0 16) = (1, 192) := hG.1 _ 10 T0 16 (by decide)
  refine ww_getr (ci := 10) (k0 := 16) C dX10_couple_12 rfl rfl inm10 (by decide) T0 q1294 rfl T_2 (by decide) ?_
  refine ww_bipush (v := 6) C dX10_couple_15 (by decide) ?_
  refine ww_iload_n C dX10_couple_17 rfl 1 rfl ?_
  refine ww_iconst (v := 1) C dX10_couple_18 (by decide) ?_
  refine ww_iadd C dX10_couple_19 ?_
  refine ww_imul C dX10_couple_20 ?_
  refine ww_iload_n C dX10_couple_21 rfl 3 rfl ?_
  refine ww_iadd C dX10_couple_22 ?_
  refine ww_iald C dX10_couple_23 T_2 E (fun _ E => ?_)
  refine ww_isub C dX10_couple_24 ?_
  refine ww_istore (lv' := [(4, .int ((gi dy (gr S a0 16) (((6 : Int32) * a1) + a2).toNatClampNeg) - (gi dy (gr S a0 16) (((6 : Int32) * (a1 + (1 : Int32))) + a3).toNatClampNeg))), (0, .ref (ad a0)), (1, .int a1), (2, .int a2), (3, .int a3)]) C dX10_couple_25 (by decide) rfl ?_
  refine ww_aload_n C dX10_couple_27 rfl 1 rfl ?_
  have T_3 : gs S (gr S a0 17) = (1, 192) := hG.1 _ 10 T0 17 (by decide)
  refine ww_getr (ci := 10) (k0 := 17) C dX10_couple_28 rfl rfl inm10 (by decide) T0 q1295 rfl T_3 (by decide) ?_
  refine ww_bipush (v := 6) C dX10_couple_31 (by decide) ?_
  refine ww_iload_n C dX10_couple_33 rfl 2 rfl ?_
  refine ww_imul C dX10_couple_34 ?_
  refine ww_iload_n C dX10_couple_35 rfl 3 rfl ?_
  refine ww_iadd C dX10_couple_36 ?_
  refine ww_iald C dX10_couple_37 T_3 E (fun _ E => ?_)
  refine ww_aload_n C dX10_couple_38 rfl 1 rfl ?_
  have T_4 : gs S (gr S a0 17) = (1, 192) := hG.1 _ 10 T0 17 (by decide)
  refine ww_getr (ci := 10) (k0 := 17) C dX10_couple_39 rfl rfl inm10 (by decide) T0 q1295 rfl T_4 (by decide) ?_
  refine ww_bipush (v := 6) C dX10_couple_42 (by decide) ?_
  refine ww_iload_n C dX10_couple_44 rfl 2 rfl ?_
  refine ww_iconst (v := 1) C dX10_couple_45 (by decide) ?_
  refine ww_iadd C dX10_couple_46 ?_
  refine ww_imul C dX10_couple_47 ?_
  refine ww_iload_n C dX10_couple_48 rfl 4 rfl ?_
  refine ww_iadd C dX10_couple_49 ?_
  refine ww_iald C dX10_couple_50 T_4 E (fun _ E => ?_)
  refine ww_isub C dX10_couple_51 ?_
  refine ww_istore (lv' := [(5, .int ((gi dy (gr S a0 17) (((6 : Int32) * a1) + a2).toNatClampNeg) - (gi dy (gr S a0 17) (((6 : Int32) * (a1 + (1 : Int32))) + a3).toNatClampNeg))), (4, .int ((gi dy (gr S a0 16) (((6 : Int32) * a1) + a2).toNatClampNeg) - (gi dy (gr S a0 16) (((6 : Int32) * (a1 + (1 : Int32))) + a3).toNatClampNeg))), (0, .ref (ad a0)), (1, .int a1), (2, .int a2), (3, .int a3)]) C dX10_couple_52 (by decide) rfl ?_
  refine ww_iload C dX10_couple_54 1 rfl ?_
  refine ww_if_ge (tgt := 65) C dX10_couple_56 (by decide) E (fun _ E => ?_) (fun _ E => ?_)
  · refine ww_iload C dX10_couple_65 1 rfl ?_
    refine ww_sub (lv' := [(5, .int ((gi dy (gr S a0 17) (((6 : Int32) * a1) + a2).toNatClampNeg) - (gi dy (gr S a0 17) (((6 : Int32) * (a1 + (1 : Int32))) + a3).toNatClampNeg)))]) [0] rfl ?_
    exact (B_X10_couple_67 C HR HL hG) ((gi dy (gr S a0 17) (((6 : Int32) * a1) + a2).toNatClampNeg) - (gi dy (gr S a0 17) (((6 : Int32) * (a1 + (1 : Int32))) + a3).toNatClampNeg)) ((gi dy (gr S a0 16) (((6 : Int32) * a1) + a2).toNatClampNeg) - (gi dy (gr S a0 16) (((6 : Int32) * (a1 + (1 : Int32))) + a3).toNatClampNeg)) dy E
  · refine ww_iload C dX10_couple_59 1 rfl ?_
    refine ww_ineg C dX10_couple_61 ?_
    refine ww_goto (tgt := 67) C dX10_couple_62 (by decide) ?_
    refine ww_sub (lv' := [(5, .int ((gi dy (gr S a0 17) (((6 : Int32) * a1) + a2).toNatClampNeg) - (gi dy (gr S a0 17) (((6 : Int32) * (a1 + (1 : Int32))) + a3).toNatClampNeg)))]) [0] rfl ?_
    exact (B_X10_couple_67 C HR HL hG) ((gi dy (gr S a0 17) (((6 : Int32) * a1) + a2).toNatClampNeg) - (gi dy (gr S a0 17) (((6 : Int32) * (a1 + (1 : Int32))) + a3).toNatClampNeg)) (-((gi dy (gr S a0 16) (((6 : Int32) * a1) + a2).toNatClampNeg) - (gi dy (gr S a0 16) (((6 : Int32) * (a1 + (1 : Int32))) + a3).toNatClampNeg))) dy E
section P_X10_dark
variable {p : Program} {l : Launch} {e : Env} {s : State} {m : MethodId} {args : Array Value} {below : List Frame} {meth : Method} {c : Code} {G : GG} {A : Nat → Prop} {ad : Nat → Nat} {S : ST} {N : Nat} {r : Int32} {dy' : DY}
set_option maxHeartbeats 4000000 in
set_option maxRecDepth 100000 in
theorem B_X10_dark_9 (C : CX p s m args c cX10_dark 3 RX10 G A) (HR : meth.sig.returnType = (Option.some Jvm.ClassFile.FieldType.int)) (HL : meth.locks = false) (hG : Good S) : ∀ k : Nat, ∀ (x0 : Nat) (x1 : Int32) (x2 : Int32) (dy : DY), gs S x0 = (0, 10) → (F_X10_dark_9 S N k) x0 x1 x2 dy = some (r, dy') → WJ p l e (rmD (1)) s m args below meth c 3 G A 0 0 (MQ below (QI G ad A S r dy') args s 0 0 A) ad 9 [(0, .ref (ad x0)), (1, .int x1), (2, .int x2)] [] S dy := by
  intro k
  induction k with
  | zero => exact fun _ _ _ _ _ E => nomatch (show none = some (r, dy') from E)
  | succ k ih =>
    intro x0 x1 x2 dy Tx0 E
    rw [F_X10_dark_9_s] at E
    refine ww_iload_n C dX10_dark_9 rfl 2 rfl ?_
    refine ww_bipush (v := 8) C dX10_dark_10 (by decide) ?_
    refine ww_icmp_ge (tgt := 37) C dX10_dark_12 (by decide) E (fun _ E => ?_) (fun _ E => ?_)
    · refine ww_iload_n C dX10_dark_37 rfl 1 rfl ?_
      exact ww_iret C HR HL dX10_dark_38 E
    · refine ww_iload_n C dX10_dark_15 rfl 1 rfl ?_
      refine ww_aload_n C dX10_dark_16 rfl 0 rfl ?_
      have T_1 : gs S (gr S x0 15) = (1, 32) := hG.1 _ 10 Tx0 15 (by decide)
      refine ww_getr (ci := 10) (k0 := 15) C dX10_dark_17 rfl rfl inm10 (by decide) Tx0 q1293 rfl T_1 (by decide) ?_
      refine ww_iload_n C dX10_dark_20 rfl 2 rfl ?_
      refine ww_iald C dX10_dark_21 T_1 E (fun _ E => ?_)
      refine ww_iadd C dX10_dark_22 ?_
      refine ww_istore_n (lv' := [(1, .int (x1 + (gi dy (gr S x0 15) x2.toNatClampNeg))), (0, .ref (ad x0)), (2, .int x2)]) C dX10_dark_23 rfl (by decide) rfl ?_
      refine ww_aload_n C dX10_dark_24 rfl 1 rfl ?_
      have T_2 : gs S (gr S x0 15) = (1, 32) := hG.1 _ 10 Tx0 15 (by decide)
      refine ww_getr (ci := 10) (k0 := 15) C dX10_dark_25 rfl rfl inm10 (by decide) Tx0 q1293 rfl T_2 (by decide) ?_
      refine ww_iload_n C dX10_dark_28 rfl 2 rfl ?_
      refine ww_iconst (v := 0) C dX10_dark_29 (by decide) ?_
      refine ww_iast C dX10_dark_30 T_2 E (fun _ E => ?_)
      refine ww_bd E (fun dy3 E => ?_)
      refine ww_iinc (v := (x2 + (1 : Int32))) (lv' := [(2, .int (x2 + (1 : Int32))), (1, .int (x1 + (gi dy (gr S x0 15) x2.toNatClampNeg))), (0, .ref (ad x0))]) C dX10_dark_31 2 rfl rfl (by decide) rfl ?_
      refine ww_goto (tgt := 9) C dX10_dark_34 (by decide) ?_
      refine ww_sub (lv' := [(0, .ref (ad x0)), (1, .int (x1 + (gi dy (gr S x0 15) x2.toNatClampNeg))), (2, .int (x2 + (1 : Int32)))]) [2, 1, 0] rfl ?_
      exact ih x0 (x1 + (gi dy (gr S x0 15) x2.toNatClampNeg)) (x2 + (1 : Int32)) dy3 Tx0 E
end P_X10_dark
set_option maxHeartbeats 4000000 in
set_option maxRecDepth 100000 in
theorem M_X10_dark (l : Launch) (G : GG) (ad : Nat → Nat) {S : ST} (N : Nat) (hG : Good S) (a0 : Nat) (dy : DY) (T0 : gs S a0 = (0, 10)) {r : Int32} {dy' : DY} (E : F_X10_dark S N a0 dy = some (r, dy')) : MC l yX10_dark cX10_dark 3 (Option.some Jvm.ClassFile.FieldType.int) (1) G ad [.ref (ad a0)] S dy (fun A => QI G ad A S r dy') := by
  rw [F_X10_dark_s] at E
  refine mc_of RX10 (by decide) rfl (Nat.le_of_ble_eq_true rfl) (fun p e s m args below meth c A C HR HL => ?_)
  refine ww_sub (lv' := [(0, .ref (ad a0))]) [0] rfl ?_
  refine ww_aload_n C dX10_dark_0 rfl 0 rfl ?_
  refine ww_iconst (v := 0) C dX10_dark_1 (by decide) ?_
  refine ww_puti (ci := 10) (k0 := 0) C dX10_dark_2 rfl rfl inm10 tyX10_ok nmX10 (by decide) T0 q1278 rfl rfl rfl ?_
  refine ww_bd E (fun dy1 E => ?_)
  refine ww_iconst (v := 0) C dX10_dark_5 (by decide) ?_
  refine ww_istore_n (lv' := [(1, .int (0 : Int32)), (0, .ref (ad a0))]) C dX10_dark_6 rfl (by decide) rfl ?_
  refine ww_iconst (v := 0) C dX10_dark_7 (by decide) ?_
  refine ww_istore_n (lv' := [(2, .int (0 : Int32)), (1, .int (0 : Int32)), (0, .ref (ad a0))]) C dX10_dark_8 rfl (by decide) rfl ?_
  refine ww_sub (lv' := [(0, .ref (ad a0)), (1, .int (0 : Int32)), (2, .int (0 : Int32))]) [2, 1, 0] rfl ?_
  exact (B_X10_dark_9 C HR HL hG N) a0 (0 : Int32) (0 : Int32) dy1 T0 E
section P_X10_isRunner
variable {p : Program} {l : Launch} {e : Env} {s : State} {m : MethodId} {args : Array Value} {below : List Frame} {meth : Method} {c : Code} {G : GG} {A : Nat → Prop} {ad : Nat → Nat} {S : ST} {N : Nat} {r : Int32} {dy' : DY}
end P_X10_isRunner
set_option maxHeartbeats 4000000 in
set_option maxRecDepth 100000 in
theorem M_X10_isRunner (l : Launch) (G : GG) (ad : Nat → Nat) {S : ST} (N : Nat) (hG : Good S) (a0 : Nat) (a1 : Int32) (dy : DY) (T0 : gs S a0 = (0, 10)) {r : Int32} {dy' : DY} (E : F_X10_isRunner S N a0 a1 dy = some (r, dy')) : MC l yX10_isRunner cX10_isRunner 2 (Option.some Jvm.ClassFile.FieldType.boolean) (2) G ad [.ref (ad a0), .int a1] S dy (fun A => QI G ad A S r dy') := by
  rw [F_X10_isRunner_s] at E
  refine mc_of RX10 (by decide) rfl (Nat.le_of_ble_eq_true rfl) (fun p e s m args below meth c A C HR HL => ?_)
  refine ww_sub (lv' := [(0, .ref (ad a0)), (1, .int a1)]) [0, 1] rfl ?_
  refine ww_aload_n C dX10_isRunner_0 rfl 0 rfl ?_
  have T_1 : gs S (gr S a0 39) = (1, 10080) := hG.1 _ 10 T0 39 (by decide)
  refine ww_getr (ci := 10) (k0 := 39) C dX10_isRunner_1 rfl rfl inm10 (by decide) T0 q1317 rfl T_1 (by decide) ?_
  refine ww_bipush (v := 10) C dX10_isRunner_4 (by decide) ?_
  refine ww_iald C dX10_isRunner_6 T_1 E (fun _ E => ?_)
  refine ww_iconst (v := 1) C dX10_isRunner_7 (by decide) ?_
  refine ww_icmp_ne (tgt := 31) C dX10_isRunner_8 (by decide) E (fun _ E => ?_) (fun _ E => ?_)
  · refine ww_iconst (v := 0) C dX10_isRunner_31 (by decide) ?_
    exact ww_zret C HR HL dX10_isRunner_32 (Or.inl rfl) E
  · refine ww_iload_n C dX10_isRunner_11 rfl 1 rfl ?_
    refine ww_iconst (v := 0) C dX10_isRunner_12 (by decide) ?_
    refine ww_aload_n C dX10_isRunner_13 rfl 0 rfl ?_
    have T_2 : gs S (gr S a0 39) = (1, 10080) := hG.1 _ 10 T0 39 (by decide)
    refine ww_getr (ci := 10) (k0 := 39) C dX10_isRunner_14 rfl rfl inm10 (by decide) T0 q1317 rfl T_2 (by decide) ?_
    refine ww_iconst (v := 2) C dX10_isRunner_17 (by decide) ?_
    refine ww_iald C dX10_isRunner_18 T_2 E (fun _ E => ?_)
    refine ww_iconst (v := 1) C dX10_isRunner_19 (by decide) ?_
    refine ww_isub C dX10_isRunner_20 ?_
    obtain ⟨u3, e_4, E⟩ := bind_of E
    refine ww_callI C (runs_S (n := 3) (st := []) C [.int a1, .int (0 : Int32), .int ((gi dy (gr S a0 39) (2 : Int32).toNatClampNeg) - (1 : Int32))] (M_X10_in l G ad N hG a1 (0 : Int32) ((gi dy (gr S a0 39) (2 : Int32).toNatClampNeg) - (1 : Int32)) dy e_4) ⟨q1476, q118, by decide⟩ q1474 q1475 rfl (Nat.le_of_ble_eq_true rfl) ⟨Nat.le_of_ble_eq_true rfl, Nat.le_of_ble_eq_true rfl⟩ ⟨Nat.zero_le _, Nat.zero_le _⟩ dX10_isRunner_21 rfl) ?_
    refine ww_if_eq (tgt := 31) C dX10_isRunner_24 (by decide) E (fun _ E => ?_) (fun _ E => ?_)
    · refine ww_iconst (v := 0) C dX10_isRunner_31 (by decide) ?_
      exact ww_zret C HR HL dX10_isRunner_32 (Or.inl rfl) E
    · refine ww_iconst (v := 1) C dX10_isRunner_27 (by decide) ?_
      refine ww_goto (tgt := 32) C dX10_isRunner_28 (by decide) ?_
      exact ww_zret C HR HL dX10_isRunner_32 (Or.inr rfl) E
section P_X10_does
variable {p : Program} {l : Launch} {e : Env} {s : State} {m : MethodId} {args : Array Value} {below : List Frame} {meth : Method} {c : Code} {G : GG} {A : Nat → Prop} {ad : Nat → Nat} {S : ST} {N : Nat} {r : Int32} {dy' : DY}
end P_X10_does
set_option maxHeartbeats 4000000 in
set_option maxRecDepth 100000 in
theorem M_X10_does (l : Launch) (G : GG) (ad : Nat → Nat) {S : ST} (N : Nat) (hG : Good S) (a0 : Nat) (a1 : Int32) (dy : DY) (T0 : gs S a0 = (0, 10)) {r : Int32} {dy' : DY} (E : F_X10_does S N a0 a1 dy = some (r, dy')) : MC l yX10_does cX10_does 2 (Option.some Jvm.ClassFile.FieldType.int) (8) G ad [.ref (ad a0), .int a1] S dy (fun A => QI G ad A S r dy') := by
  rw [F_X10_does_s] at E
  refine mc_of RX10 (by decide) rfl (Nat.le_of_ble_eq_true rfl) (fun p e s m args below meth c A C HR HL => ?_)
  refine ww_sub (lv' := [(0, .ref (ad a0)), (1, .int a1)]) [0, 1] rfl ?_
  refine ww_aload_n C dX10_does_0 rfl 0 rfl ?_
  refine ww_iconst (v := 0) C dX10_does_1 (by decide) ?_
  refine ww_puti (ci := 10) (k0 := 0) C dX10_does_2 rfl rfl inm10 tyX10_ok nmX10 (by decide) T0 q1278 rfl rfl rfl ?_
  refine ww_bd E (fun dy1 E => ?_)
  refine ww_aload_n C dX10_does_5 rfl 0 rfl ?_
  refine ww_iload_n C dX10_does_6 rfl 1 rfl ?_
  obtain ⟨u2, e_3, E⟩ := bind_of E
  refine ww_callI C (runs_V (n := 1) (st := []) C [.int a1] (M_X10_isRunner l G ad N hG a0 a1 dy1 T0 e_3) ⟨q1749, q118, by decide⟩ q1746 q1748 q90 (ci := 10) rfl T0 rfl (Nat.le_of_ble_eq_true rfl) ⟨Nat.le_of_ble_eq_true rfl, Nat.le_of_ble_eq_true rfl⟩ ⟨Nat.zero_le _, Nat.zero_le _⟩ dX10_does_7 rfl) ?_
  refine ww_if_eq (tgt := 31) C dX10_does_10 (by decide) E (fun _ E => ?_) (fun _ E => ?_)
  · refine ww_iconst (v := (-1)) C dX10_does_31 (by decide) ?_
    exact ww_iret C HR HL dX10_does_32 E
  · refine ww_aload_n C dX10_does_13 rfl 0 rfl ?_
    refine ww_iconst (v := 0) C dX10_does_14 (by decide) ?_
    refine ww_iload_n C dX10_does_15 rfl 1 rfl ?_
    obtain ⟨u4, e_5, E⟩ := bind_of E
    refine ww_callI C (runs_V (n := 2) (st := []) C [.int (0 : Int32), .int a1] (M_X10_isThere l G ad N hG a0 (0 : Int32) a1 u2.2 T0 e_5) ⟨q1660, q118, by decide⟩ q1657 q1659 q69 (ci := 10) rfl T0 rfl (Nat.le_of_ble_eq_true rfl) ⟨Nat.le_of_ble_eq_true rfl, Nat.le_of_ble_eq_true rfl⟩ ⟨Nat.zero_le _, Nat.zero_le _⟩ dX10_does_16 rfl) ?_
    refine ww_if_eq (tgt := 31) C dX10_does_19 (by decide) E (fun _ E => ?_) (fun _ E => ?_)
    · refine ww_iconst (v := (-1)) C dX10_does_31 (by decide) ?_
      exact ww_iret C HR HL dX10_does_32 E
    · refine ww_aload_n C dX10_does_22 rfl 0 rfl ?_
      refine ww_iconst (v := 0) C dX10_does_23 (by decide) ?_
      refine ww_iload_n C dX10_does_24 rfl 1 rfl ?_
      obtain ⟨u6, e_7, E⟩ := bind_of E
      refine ww_callI C (runs_V (n := 2) (st := []) C [.int (0 : Int32), .int a1] (M_X10_actBy l G ad N hG a0 (0 : Int32) a1 u4.2 T0 e_7) ⟨q1664, q118, by decide⟩ q1661 q1663 q70 (ci := 10) rfl T0 rfl (Nat.le_of_ble_eq_true rfl) ⟨Nat.le_of_ble_eq_true rfl, Nat.le_of_ble_eq_true rfl⟩ ⟨Nat.zero_le _, Nat.zero_le _⟩ dX10_does_25 rfl) ?_
      refine ww_goto (tgt := 32) C dX10_does_28 (by decide) ?_
      exact ww_iret C HR HL dX10_does_32 E
section P_X10_door
variable {p : Program} {l : Launch} {e : Env} {s : State} {m : MethodId} {args : Array Value} {below : List Frame} {meth : Method} {c : Code} {G : GG} {A : Nat → Prop} {ad : Nat → Nat} {S : ST} {N : Nat} {r : Int32} {dy' : DY}
end P_X10_door
set_option maxHeartbeats 4000000 in
set_option maxRecDepth 100000 in
theorem M_X10_door (l : Launch) (G : GG) (ad : Nat → Nat) {S : ST} (N : Nat) (hG : Good S) (a0 : Nat) (a1 : Int32) (a2 : Int32) (dy : DY) (T0 : gs S a0 = (0, 10)) {r : Int32} {dy' : DY} (E : F_X10_door S N a0 a1 a2 dy = some (r, dy')) : MC l yX10_door cX10_door 4 (Option.some Jvm.ClassFile.FieldType.int) (2) G ad [.ref (ad a0), .int a1, .int a2] S dy (fun A => QI G ad A S r dy') := by
  rw [F_X10_door_s] at E
  refine mc_of RX10 (by decide) rfl (Nat.le_of_ble_eq_true rfl) (fun p e s m args below meth c A C HR HL => ?_)
  refine ww_sub (lv' := [(0, .ref (ad a0)), (1, .int a1), (2, .int a2)]) [0, 1, 2] rfl ?_
  refine ww_aload_n C dX10_door_0 rfl 0 rfl ?_
  refine ww_iconst (v := 0) C dX10_door_1 (by decide) ?_
  refine ww_puti (ci := 10) (k0 := 0) C dX10_door_2 rfl rfl inm10 tyX10_ok nmX10 (by decide) T0 q1278 rfl rfl rfl ?_
  refine ww_bd E (fun dy1 E => ?_)
  refine ww_aload_n C dX10_door_5 rfl 0 rfl ?_
  have T_2 : gs S (gr S a0 39) = (1, 10080) := hG.1 _ 10 T0 39 (by decide)
  refine ww_getr (ci := 10) (k0 := 39) C dX10_door_6 rfl rfl inm10 (by decide) T0 q1317 rfl T_2 (by decide) ?_
  refine ww_bipush (v := 10) C dX10_door_9 (by decide) ?_
  refine ww_iald C dX10_door_11 T_2 E (fun _ E => ?_)
  refine ww_if_eq (tgt := 31) C dX10_door_12 (by decide) E (fun _ E => ?_) (fun _ E => ?_)
  · refine ww_iconst (v := (-1)) C dX10_door_31 (by decide) ?_
    exact ww_iret C HR HL dX10_door_32 E
  · refine ww_iload_n C dX10_door_15 rfl 1 rfl ?_
    refine ww_iconst (v := 0) C dX10_door_16 (by decide) ?_
    refine ww_aload_n C dX10_door_17 rfl 0 rfl ?_
    have T_3 : gs S (gr S a0 39) = (1, 10080) := hG.1 _ 10 T0 39 (by decide)
    refine ww_getr (ci := 10) (k0 := 39) C dX10_door_18 rfl rfl inm10 (by decide) T0 q1317 rfl T_3 (by decide) ?_
    refine ww_iconst (v := 0) C dX10_door_21 (by decide) ?_
    refine ww_iald C dX10_door_22 T_3 E (fun _ E => ?_)
    refine ww_iconst (v := 2) C dX10_door_23 (by decide) ?_
    refine ww_isub C dX10_door_24 ?_
    obtain ⟨u4, e_5, E⟩ := bind_of E
    refine ww_callI C (runs_S (n := 3) (st := []) C [.int a1, .int (0 : Int32), .int ((gi dy1 (gr S a0 39) (0 : Int32).toNatClampNeg) - (2 : Int32))] (M_X10_in l G ad N hG a1 (0 : Int32) ((gi dy1 (gr S a0 39) (0 : Int32).toNatClampNeg) - (2 : Int32)) dy1 e_5) ⟨q1476, q118, by decide⟩ q1474 q1475 rfl (Nat.le_of_ble_eq_true rfl) ⟨Nat.le_of_ble_eq_true rfl, Nat.le_of_ble_eq_true rfl⟩ ⟨Nat.zero_le _, Nat.zero_le _⟩ dX10_door_25 rfl) ?_
    refine ww_if_ne (tgt := 33) C dX10_door_28 (by decide) E (fun _ E => ?_) (fun _ E => ?_)
    · refine ww_sipush (v := 640) C dX10_door_33 (by decide) ?_
      refine ww_iconst (v := 5) C dX10_door_36 (by decide) ?_
      refine ww_iload_n C dX10_door_37 rfl 1 rfl ?_
      refine ww_imul C dX10_door_38 ?_
      refine ww_iadd C dX10_door_39 ?_
      refine ww_istore_n (lv' := [(3, .int ((640 : Int32) + ((5 : Int32) * a1))), (0, .ref (ad a0)), (1, .int a1), (2, .int a2)]) C dX10_door_40 rfl (by decide) rfl ?_
      refine ww_iload_n C dX10_door_41 rfl 3 rfl ?_
      refine ww_if_ne (tgt := 56) C dX10_door_42 (by decide) E (fun _ E => ?_) (fun _ E => ?_)
      · refine ww_iload_n C dX10_door_56 rfl 3 rfl ?_
        refine ww_iconst (v := 1) C dX10_door_57 (by decide) ?_
        refine ww_icmp_ne (tgt := 72) C dX10_door_58 (by decide) E (fun _ E => ?_) (fun _ E => ?_)
        · refine ww_iload_n C dX10_door_72 rfl 3 rfl ?_
          refine ww_iconst (v := 2) C dX10_door_73 (by decide) ?_
          refine ww_icmp_ne (tgt := 88) C dX10_door_74 (by decide) E (fun _ E => ?_) (fun _ E => ?_)
          · refine ww_iconst (v := (-1)) C dX10_door_88 (by decide) ?_
            exact ww_iret C HR HL dX10_door_89 E
          · refine ww_aload_n C dX10_door_77 rfl 1 rfl ?_
            have T_6 : gs S (gr S a0 39) = (1, 10080) := hG.1 _ 10 T0 39 (by decide)
            refine ww_getr (ci := 10) (k0 := 39) C dX10_door_78 rfl rfl inm10 (by decide) T0 q1317 rfl T_6 (by decide) ?_
            refine ww_iload_n C dX10_door_81 rfl 0 rfl ?_
            refine ww_iconst (v := 4) C dX10_door_82 (by decide) ?_
            refine ww_iadd C dX10_door_83 ?_
            refine ww_iald C dX10_door_84 T_6 E (fun _ E => ?_)
            refine ww_goto (tgt := 89) C dX10_door_85 (by decide) ?_
            exact ww_iret C HR HL dX10_door_89 E
        · refine ww_aload_n C dX10_door_61 rfl 1 rfl ?_
          have T_7 : gs S (gr S a0 39) = (1, 10080) := hG.1 _ 10 T0 39 (by decide)
          refine ww_getr (ci := 10) (k0 := 39) C dX10_door_62 rfl rfl inm10 (by decide) T0 q1317 rfl T_7 (by decide) ?_
          refine ww_iload_n C dX10_door_65 rfl 0 rfl ?_
          refine ww_iconst (v := 2) C dX10_door_66 (by decide) ?_
          refine ww_iadd C dX10_door_67 ?_
          refine ww_iald C dX10_door_68 T_7 E (fun _ E => ?_)
          refine ww_goto (tgt := 89) C dX10_door_69 (by decide) ?_
          exact ww_iret C HR HL dX10_door_89 E
      · refine ww_aload_n C dX10_door_45 rfl 1 rfl ?_
        have T_8 : gs S (gr S a0 39) = (1, 10080) := hG.1 _ 10 T0 39 (by decide)
        refine ww_getr (ci := 10) (k0 := 39) C dX10_door_46 rfl rfl inm10 (by decide) T0 q1317 rfl T_8 (by decide) ?_
        refine ww_iload_n C dX10_door_49 rfl 0 rfl ?_
        refine ww_iconst (v := 3) C dX10_door_50 (by decide) ?_
        refine ww_iadd C dX10_door_51 ?_
        refine ww_iald C dX10_door_52 T_8 E (fun _ E => ?_)
        refine ww_goto (tgt := 89) C dX10_door_53 (by decide) ?_
        exact ww_iret C HR HL dX10_door_89 E
    · refine ww_iconst (v := (-1)) C dX10_door_31 (by decide) ?_
      exact ww_iret C HR HL dX10_door_32 E
section P_X10_end
variable {p : Program} {l : Launch} {e : Env} {s : State} {m : MethodId} {args : Array Value} {below : List Frame} {meth : Method} {c : Code} {G : GG} {A : Nat → Prop} {ad : Nat → Nat} {S : ST} {N : Nat} {r : Int32} {dy' : DY}
end P_X10_end
set_option maxHeartbeats 4000000 in
set_option maxRecDepth 100000 in
theorem M_X10_end (l : Launch) (G : GG) (ad : Nat → Nat) {S : ST} (N : Nat) (hG : Good S) (a0 : Nat) (a1 : Int32) (dy : DY) (T0 : gs S a0 = (0, 10)) {r : Int32} {dy' : DY} (E : F_X10_end S N a0 a1 dy = some (r, dy')) : MC l yX10_end cX10_end 2 (Option.some Jvm.ClassFile.FieldType.int) (2) G ad [.ref (ad a0), .int a1] S dy (fun A => QI G ad A S r dy') := by
  rw [F_X10_end_s] at E
  refine mc_of RX10 (by decide) rfl (Nat.le_of_ble_eq_true rfl) (fun p e s m args below meth c A C HR HL => ?_)
  refine ww_sub (lv' := [(0, .ref (ad a0)), (1, .int a1)]) [0, 1] rfl ?_
  refine ww_aload_n C dX10_end_0 rfl 0 rfl ?_
  refine ww_iconst (v := 0) C dX10_end_1 (by decide) ?_
  refine ww_puti (ci := 10) (k0 := 0) C dX10_end_2 rfl rfl inm10 tyX10_ok nmX10 (by decide) T0 q1278 rfl rfl rfl ?_
  refine ww_bd E (fun dy1 E => ?_)
  refine ww_iload_n C dX10_end_5 rfl 1 rfl ?_
  refine ww_iconst (v := 0) C dX10_end_6 (by decide) ?_
  refine ww_aload_n C dX10_end_7 rfl 0 rfl ?_
  have T_2 : gs S (gr S a0 2) = (1, 4) := hG.1 _ 10 T0 2 (by decide)
  refine ww_getr (ci := 10) (k0 := 2) C dX10_end_8 rfl rfl inm10 (by decide) T0 q1280 rfl T_2 (by decide) ?_
  refine ww_iconst (v := 0) C dX10_end_11 (by decide) ?_
  refine ww_iald C dX10_end_12 T_2 E (fun _ E => ?_)
  obtain ⟨u3, e_4, E⟩ := bind_of E
  refine ww_callI C (runs_S (n := 3) (st := []) C [.int a1, .int (0 : Int32), .int (gi dy1 (gr S a0 2) (0 : Int32).toNatClampNeg)] (M_X10_in l G ad N hG a1 (0 : Int32) (gi dy1 (gr S a0 2) (0 : Int32).toNatClampNeg) dy1 e_4) ⟨q1476, q118, by decide⟩ q1474 q1475 rfl (Nat.le_of_ble_eq_true rfl) ⟨Nat.le_of_ble_eq_true rfl, Nat.le_of_ble_eq_true rfl⟩ ⟨Nat.zero_le _, Nat.zero_le _⟩ dX10_end_13 rfl) ?_
  refine ww_if_ne (tgt := 21) C dX10_end_16 (by decide) E (fun _ E => ?_) (fun _ E => ?_)
  · refine ww_aload_n C dX10_end_21 rfl 0 rfl ?_
    have T_5 : gs S (gr S a0 2) = (1, 4) := hG.1 _ 10 T0 2 (by decide)
    refine ww_getr (ci := 10) (k0 := 2) C dX10_end_22 rfl rfl inm10 (by decide) T0 q1280 rfl T_5 (by decide) ?_
    refine ww_iconst (v := 0) C dX10_end_25 (by decide) ?_
    refine ww_iload_n C dX10_end_26 rfl 1 rfl ?_
    refine ww_iast C dX10_end_27 T_5 E (fun _ E => ?_)
    refine ww_bd E (fun dy6 E => ?_)
    refine ww_iload_n C dX10_end_28 rfl 1 rfl ?_
    exact ww_iret C HR HL dX10_end_29 E
  · refine ww_iconst (v := (-1)) C dX10_end_19 (by decide) ?_
    exact ww_iret C HR HL dX10_end_20 E
section P_X10_fault
variable {p : Program} {l : Launch} {e : Env} {s : State} {m : MethodId} {args : Array Value} {below : List Frame} {meth : Method} {c : Code} {G : GG} {A : Nat → Prop} {ad : Nat → Nat} {S : ST} {N : Nat} {r : Int32} {dy' : DY}
end P_X10_fault
set_option maxHeartbeats 4000000 in
set_option maxRecDepth 100000 in
theorem M_X10_fault (l : Launch) (G : GG) (ad : Nat → Nat) {S : ST} (N : Nat) (hG : Good S) (a0 : Nat) (a1 : Int32) (dy : DY) (T0 : gs S a0 = (0, 10)) {r : Int32} {dy' : DY} (E : F_X10_fault S N a0 a1 dy = some (r, dy')) : MC l yX10_fault cX10_fault 2 (Option.some Jvm.ClassFile.FieldType.int) (1) G ad [.ref (ad a0), .int a1] S dy (fun A => QI G ad A S r dy') := by
  rw [F_X10_fault_s] at E
  refine mc_of RX10 (by decide) rfl (Nat.le_of_ble_eq_true rfl) (fun p e s m args below meth c A C HR HL => ?_)
  refine ww_sub (lv' := [(0, .ref (ad a0)), (1, .int a1)]) [0, 1] rfl ?_
  refine ww_aload_n C dX10_fault_0 rfl 0 rfl ?_
  refine ww_iconst (v := 0) C dX10_fault_1 (by decide) ?_
  refine ww_puti (ci := 10) (k0 := 0) C dX10_fault_2 rfl rfl inm10 tyX10_ok nmX10 (by decide) T0 q1278 rfl rfl rfl ?_
  refine ww_bd E (fun dy1 E => ?_)
  refine ww_iload_n C dX10_fault_5 rfl 1 rfl ?_
  refine ww_if_ne (tgt := 18) C dX10_fault_6 (by decide) E (fun _ E => ?_) (fun _ E => ?_)
  · refine ww_iload_n C dX10_fault_18 rfl 1 rfl ?_
    refine ww_iconst (v := 1) C dX10_fault_19 (by decide) ?_
    refine ww_icmp_ne (tgt := 32) C dX10_fault_20 (by decide) E (fun _ E => ?_) (fun _ E => ?_)
    · refine ww_iconst (v := (-1)) C dX10_fault_32 (by decide) ?_
      exact ww_iret C HR HL dX10_fault_33 E
    · refine ww_aload_n C dX10_fault_23 rfl 0 rfl ?_
      have T_2 : gs S (gr S a0 4) = (1, 4) := hG.1 _ 10 T0 4 (by decide)
      refine ww_getr (ci := 10) (k0 := 4) C dX10_fault_24 rfl rfl inm10 (by decide) T0 q1282 rfl T_2 (by decide) ?_
      refine ww_iconst (v := 0) C dX10_fault_27 (by decide) ?_
      refine ww_iald C dX10_fault_28 T_2 E (fun _ E => ?_)
      refine ww_goto (tgt := 33) C dX10_fault_29 (by decide) ?_
      exact ww_iret C HR HL dX10_fault_33 E
  · refine ww_aload_n C dX10_fault_9 rfl 0 rfl ?_
    have T_3 : gs S (gr S a0 3) = (1, 4) := hG.1 _ 10 T0 3 (by decide)
    refine ww_getr (ci := 10) (k0 := 3) C dX10_fault_10 rfl rfl inm10 (by decide) T0 q1281 rfl T_3 (by decide) ?_
    refine ww_iconst (v := 0) C dX10_fault_13 (by decide) ?_
    refine ww_iald C dX10_fault_14 T_3 E (fun _ E => ?_)
    refine ww_goto (tgt := 33) C dX10_fault_15 (by decide) ?_
    exact ww_iret C HR HL dX10_fault_33 E
section P_X10_four
variable {p : Program} {l : Launch} {e : Env} {s : State} {m : MethodId} {args : Array Value} {below : List Frame} {meth : Method} {c : Code} {G : GG} {A : Nat → Prop} {ad : Nat → Nat} {S : ST} {N : Nat} {dy' : DY}
set_option maxHeartbeats 4000000 in
set_option maxRecDepth 100000 in
theorem B_X10_four_3 (C : CX p s m args c cX10_four 3 RX10 G A) (HR : meth.sig.returnType = (Option.none : Option Jvm.ClassFile.FieldType)) (HL : meth.locks = false) (hG : Good S) : ∀ k : Nat, ∀ (x0 : Nat) (x1 : Int32) (x2 : Int32) (dy : DY), gs S x0 = (0, 10) → (F_X10_four_3 S N k) x0 x1 x2 dy = some dy' → WJ p l e (rmD (1)) s m args below meth c 3 G A 0 0 (MQ below (QV G ad A S dy') args s 0 0 A) ad 3 [(0, .ref (ad x0)), (1, .int x1), (2, .int x2)] [] S dy := by
  intro k
  induction k with
  | zero => exact fun _ _ _ _ _ E => nomatch (show none = some dy' from E)
  | succ k ih =>
    intro x0 x1 x2 dy Tx0 E
    rw [F_X10_four_3_s] at E
    refine ww_iload_n C dX10_four_3 rfl 2 rfl ?_
    refine ww_if_lt (tgt := 38) C dX10_four_4 (by decide) E (fun _ E => ?_) (fun _ E => ?_)
    · exact ww_vret C HR HL dX10_four_38 E
    · refine ww_aload_n C dX10_four_7 rfl 0 rfl ?_
      have T_1 : gs S (gr S x0 1) = (2, 2000) := hG.1 _ 10 Tx0 1 (by decide)
      refine ww_getr (ci := 10) (k0 := 1) C dX10_four_8 rfl rfl inm10 (by decide) Tx0 q1279 rfl T_1 (by decide) ?_
      refine ww_aload_n C dX10_four_11 rfl 0 rfl ?_
      have T_2 : gs S (gr S x0 2) = (1, 4) := hG.1 _ 10 Tx0 2 (by decide)
      refine ww_getr (ci := 10) (k0 := 2) C dX10_four_12 rfl rfl inm10 (by decide) Tx0 q1280 rfl T_2 (by decide) ?_
      refine ww_iconst (v := 0) C dX10_four_15 (by decide) ?_
      refine ww_iald C dX10_four_16 T_2 E (fun _ E => ?_)
      refine ww_iload_n C dX10_four_17 rfl 1 rfl ?_
      refine ww_iload_n C dX10_four_18 rfl 2 rfl ?_
      refine ww_ishr C dX10_four_19 ?_
      refine ww_i2b C dX10_four_20 ?_
      refine ww_bast C dX10_four_21 T_1 E (fun _ E => ?_)
      refine ww_bd E (fun dy3 E => ?_)
      refine ww_aload_n C dX10_four_22 rfl 0 rfl ?_
      have T_4 : gs S (gr S x0 2) = (1, 4) := hG.1 _ 10 Tx0 2 (by decide)
      refine ww_getr (ci := 10) (k0 := 2) C dX10_four_23 rfl rfl inm10 (by decide) Tx0 q1280 rfl T_4 (by decide) ?_
      refine ww_iconst (v := 0) C dX10_four_26 (by decide) ?_
      refine ww_dup2 C dX10_four_27 rfl rfl ?_
      refine ww_iald C dX10_four_28 T_4 E (fun _ E => ?_)
      refine ww_iconst (v := 1) C dX10_four_29 (by decide) ?_
      refine ww_iadd C dX10_four_30 ?_
      refine ww_iast C dX10_four_31 T_4 E (fun _ E => ?_)
      refine ww_bd E (fun dy5 E => ?_)
      refine ww_iinc (v := (x2 + (-8 : Int32))) (lv' := [(2, .int (x2 + (-8 : Int32))), (0, .ref (ad x0)), (1, .int x1)]) C dX10_four_32 2 rfl rfl (by decide) rfl ?_
      refine ww_goto (tgt := 3) C dX10_four_35 (by decide) ?_
      refine ww_sub (lv' := [(0, .ref (ad x0)), (1, .int x1), (2, .int (x2 + (-8 : Int32)))]) [1, 2, 0] rfl ?_
      exact ih x0 x1 (x2 + (-8 : Int32)) dy5 Tx0 E
end P_X10_four
set_option maxHeartbeats 4000000 in
set_option maxRecDepth 100000 in
theorem M_X10_four (l : Launch) (G : GG) (ad : Nat → Nat) {S : ST} (N : Nat) (hG : Good S) (a0 : Nat) (a1 : Int32) (dy : DY) (T0 : gs S a0 = (0, 10)) {dy' : DY} (E : F_X10_four S N a0 a1 dy = some dy') : MC l yX10_four cX10_four 3 (Option.none : Option Jvm.ClassFile.FieldType) (1) G ad [.ref (ad a0), .int a1] S dy (fun A => QV G ad A S dy') := by
  rw [F_X10_four_s] at E
  refine mc_of RX10 (by decide) rfl (Nat.le_of_ble_eq_true rfl) (fun p e s m args below meth c A C HR HL => ?_)
  refine ww_sub (lv' := [(0, .ref (ad a0)), (1, .int a1)]) [0, 1] rfl ?_
  refine ww_bipush (v := 24) C dX10_four_0 (by decide) ?_
  refine ww_istore_n (lv' := [(2, .int (24 : Int32)), (0, .ref (ad a0)), (1, .int a1)]) C dX10_four_2 rfl (by decide) rfl ?_
  refine ww_sub (lv' := [(0, .ref (ad a0)), (1, .int a1), (2, .int (24 : Int32))]) [1, 2, 0] rfl ?_
  exact (B_X10_four_3 C HR HL hG N) a0 a1 (24 : Int32) dy T0 E
section P_X10_feed
variable {p : Program} {l : Launch} {e : Env} {s : State} {m : MethodId} {args : Array Value} {below : List Frame} {meth : Method} {c : Code} {G : GG} {A : Nat → Prop} {ad : Nat → Nat} {S : ST} {N : Nat} {r : Int32} {dy' : DY}
end P_X10_feed
set_option maxHeartbeats 4000000 in
set_option maxRecDepth 100000 in
theorem M_X10_feed (l : Launch) (G : GG) (ad : Nat → Nat) {S : ST} (N : Nat) (hG : Good S) (a0 : Nat) (a1 : Int32) (a2 : Int32) (a3 : Int32) (a4 : Int32) (a5 : Int32) (dy : DY) (T0 : gs S a0 = (0, 10)) {r : Int32} {dy' : DY} (E : F_X10_feed S N a0 a1 a2 a3 a4 a5 dy = some (r, dy')) : MC l yX10_feed cX10_feed 6 (Option.some Jvm.ClassFile.FieldType.int) (2) G ad [.ref (ad a0), .int a1, .int a2, .int a3, .int a4, .int a5] S dy (fun A => QI G ad A S r dy') := by
  rw [F_X10_feed_s] at E
  refine mc_of RX10 (by decide) rfl (Nat.le_of_ble_eq_true rfl) (fun p e s m args below meth c A C HR HL => ?_)
  refine ww_sub (lv' := [(0, .ref (ad a0)), (1, .int a1), (2, .int a2), (3, .int a3), (4, .int a4), (5, .int a5)]) [0, 1, 2, 3, 4, 5] rfl ?_
  refine ww_aload_n C dX10_feed_0 rfl 0 rfl ?_
  refine ww_iconst (v := 0) C dX10_feed_1 (by decide) ?_
  refine ww_puti (ci := 10) (k0 := 0) C dX10_feed_2 rfl rfl inm10 tyX10_ok nmX10 (by decide) T0 q1278 rfl rfl rfl ?_
  refine ww_bd E (fun dy1 E => ?_)
  refine ww_aload_n C dX10_feed_5 rfl 0 rfl ?_
  have T_2 : gs S (gr S a0 2) = (1, 4) := hG.1 _ 10 T0 2 (by decide)
  refine ww_getr (ci := 10) (k0 := 2) C dX10_feed_6 rfl rfl inm10 (by decide) T0 q1280 rfl T_2 (by decide) ?_
  refine ww_iconst (v := 0) C dX10_feed_9 (by decide) ?_
  refine ww_iald C dX10_feed_10 T_2 E (fun _ E => ?_)
  refine ww_bipush (v := 20) C dX10_feed_11 (by decide) ?_
  refine ww_iadd C dX10_feed_13 ?_
  refine ww_sipush (v := 500) C dX10_feed_14 (by decide) ?_
  refine ww_icmp_le (tgt := 22) C dX10_feed_17 (by decide) E (fun _ E => ?_) (fun _ E => ?_)
  · refine ww_aload_n C dX10_feed_22 rfl 0 rfl ?_
    refine ww_iload_n C dX10_feed_23 rfl 1 rfl ?_
    obtain ⟨u3, e_4, E⟩ := bind_of E
    refine ww_callV C (runs_V (n := 1) (st := []) C [.int a1] (M_X10_four l G ad N hG a0 a1 dy1 T0 e_4) ⟨q1469, q118, by decide⟩ q1466 q1468 q39 (ci := 10) rfl T0 rfl (Nat.le_of_ble_eq_true rfl) ⟨Nat.le_of_ble_eq_true rfl, Nat.le_of_ble_eq_true rfl⟩ ⟨Nat.zero_le _, Nat.zero_le _⟩ dX10_feed_24 rfl) ?_
    refine ww_aload_n C dX10_feed_27 rfl 0 rfl ?_
    refine ww_iload_n C dX10_feed_28 rfl 2 rfl ?_
    obtain ⟨u5, e_6, E⟩ := bind_of E
    refine ww_callV C (runs_V (n := 1) (st := []) C [.int a2] (M_X10_four l G ad N hG a0 a2 u3 T0 e_6) ⟨q1469, q118, by decide⟩ q1466 q1468 q39 (ci := 10) rfl T0 rfl (Nat.le_of_ble_eq_true rfl) ⟨Nat.le_of_ble_eq_true rfl, Nat.le_of_ble_eq_true rfl⟩ ⟨Nat.zero_le _, Nat.zero_le _⟩ dX10_feed_29 rfl) ?_
    refine ww_aload_n C dX10_feed_32 rfl 0 rfl ?_
    refine ww_iload_n C dX10_feed_33 rfl 3 rfl ?_
    obtain ⟨u7, e_8, E⟩ := bind_of E
    refine ww_callV C (runs_V (n := 1) (st := []) C [.int a3] (M_X10_four l G ad N hG a0 a3 u5 T0 e_8) ⟨q1469, q118, by decide⟩ q1466 q1468 q39 (ci := 10) rfl T0 rfl (Nat.le_of_ble_eq_true rfl) ⟨Nat.le_of_ble_eq_true rfl, Nat.le_of_ble_eq_true rfl⟩ ⟨Nat.zero_le _, Nat.zero_le _⟩ dX10_feed_34 rfl) ?_
    refine ww_aload_n C dX10_feed_37 rfl 0 rfl ?_
    refine ww_iload C dX10_feed_38 4 rfl ?_
    obtain ⟨u9, e_10, E⟩ := bind_of E
    refine ww_callV C (runs_V (n := 1) (st := []) C [.int a4] (M_X10_four l G ad N hG a0 a4 u7 T0 e_10) ⟨q1469, q118, by decide⟩ q1466 q1468 q39 (ci := 10) rfl T0 rfl (Nat.le_of_ble_eq_true rfl) ⟨Nat.le_of_ble_eq_true rfl, Nat.le_of_ble_eq_true rfl⟩ ⟨Nat.zero_le _, Nat.zero_le _⟩ dX10_feed_40 rfl) ?_
    refine ww_aload_n C dX10_feed_43 rfl 0 rfl ?_
    refine ww_iload C dX10_feed_44 5 rfl ?_
    obtain ⟨u11, e_12, E⟩ := bind_of E
    refine ww_callV C (runs_V (n := 1) (st := []) C [.int a5] (M_X10_four l G ad N hG a0 a5 u9 T0 e_12) ⟨q1469, q118, by decide⟩ q1466 q1468 q39 (ci := 10) rfl T0 rfl (Nat.le_of_ble_eq_true rfl) ⟨Nat.le_of_ble_eq_true rfl, Nat.le_of_ble_eq_true rfl⟩ ⟨Nat.zero_le _, Nat.zero_le _⟩ dX10_feed_46 rfl) ?_
    refine ww_aload_n C dX10_feed_49 rfl 0 rfl ?_
    have T_13 : gs S (gr S a0 2) = (1, 4) := hG.1 _ 10 T0 2 (by decide)
    refine ww_getr (ci := 10) (k0 := 2) C dX10_feed_50 rfl rfl inm10 (by decide) T0 q1280 rfl T_13 (by decide) ?_
    refine ww_iconst (v := 0) C dX10_feed_53 (by decide) ?_
    refine ww_iald C dX10_feed_54 T_13 E (fun _ E => ?_)
    exact ww_iret C HR HL dX10_feed_55 E
  · refine ww_iconst (v := (-1)) C dX10_feed_20 (by decide) ?_
    exact ww_iret C HR HL dX10_feed_21 E
section P_X10_ones
variable {p : Program} {l : Launch} {e : Env} {s : State} {m : MethodId} {args : Array Value} {below : List Frame} {meth : Method} {c : Code} {G : GG} {A : Nat → Prop} {ad : Nat → Nat} {S : ST} {N : Nat} {r : Int32} {dy' : DY}
set_option maxHeartbeats 4000000 in
set_option maxRecDepth 100000 in
theorem B_X10_ones_4 (C : CX p s m args c cX10_ones 3 RX10 G A) (HR : meth.sig.returnType = (Option.some Jvm.ClassFile.FieldType.int)) (HL : meth.locks = false) (hG : Good S) : ∀ k : Nat, ∀ (x0 : Int32) (x1 : Int32) (x2 : Int32) (dy : DY), (F_X10_ones_4 S N k) x0 x1 x2 dy = some (r, dy') → WJ p l e (rmD (1)) s m args below meth c 3 G A 0 0 (MQ below (QI G ad A S r dy') args s 0 0 A) ad 4 [(0, .int x0), (1, .int x1), (2, .int x2)] [] S dy := by
  intro k
  induction k with
  | zero => exact fun _ _ _ _ E => nomatch (show none = some (r, dy') from E)
  | succ k ih =>
    intro x0 x1 x2 dy E
    rw [F_X10_ones_4_s] at E
    refine ww_iload_n C dX10_ones_4 rfl 2 rfl ?_
    refine ww_bipush (v := 6) C dX10_ones_5 (by decide) ?_
    refine ww_icmp_ge (tgt := 24) C dX10_ones_7 (by decide) E (fun _ E => ?_) (fun _ E => ?_)
    · refine ww_iload_n C dX10_ones_24 rfl 1 rfl ?_
      exact ww_iret C HR HL dX10_ones_25 E
    · refine ww_iload_n C dX10_ones_10 rfl 1 rfl ?_
      refine ww_iload_n C dX10_ones_11 rfl 0 rfl ?_
      refine ww_iload_n C dX10_ones_12 rfl 2 rfl ?_
      refine ww_ishr C dX10_ones_13 ?_
      refine ww_iconst (v := 1) C dX10_ones_14 (by decide) ?_
      refine ww_iand C dX10_ones_15 ?_
      refine ww_iadd C dX10_ones_16 ?_
      refine ww_istore_n (lv' := [(1, .int (x1 + ((x0 >>> (x2 &&& 31)) &&& (1 : Int32)))), (0, .int x0), (2, .int x2)]) C dX10_ones_17 rfl (by decide) rfl ?_
      refine ww_iinc (v := (x2 + (1 : Int32))) (lv' := [(2, .int (x2 + (1 : Int32))), (1, .int (x1 + ((x0 >>> (x2 &&& 31)) &&& (1 : Int32)))), (0, .int x0)]) C dX10_ones_18 2 rfl rfl (by decide) rfl ?_
      refine ww_goto (tgt := 4) C dX10_ones_21 (by decide) ?_
      refine ww_sub (lv' := [(0, .int x0), (1, .int (x1 + ((x0 >>> (x2 &&& 31)) &&& (1 : Int32)))), (2, .int (x2 + (1 : Int32)))]) [2, 1, 0] rfl ?_
      exact ih x0 (x1 + ((x0 >>> (x2 &&& 31)) &&& (1 : Int32))) (x2 + (1 : Int32)) dy E
end P_X10_ones
set_option maxHeartbeats 4000000 in
set_option maxRecDepth 100000 in
theorem M_X10_ones (l : Launch) (G : GG) (ad : Nat → Nat) {S : ST} (N : Nat) (hG : Good S) (a0 : Int32) (dy : DY) {r : Int32} {dy' : DY} (E : F_X10_ones S N a0 dy = some (r, dy')) : MC l yX10_ones cX10_ones 3 (Option.some Jvm.ClassFile.FieldType.int) (1) G ad [.int a0] S dy (fun A => QI G ad A S r dy') := by
  rw [F_X10_ones_s] at E
  refine mc_of RX10 (by decide) rfl (Nat.le_of_ble_eq_true rfl) (fun p e s m args below meth c A C HR HL => ?_)
  refine ww_sub (lv' := [(0, .int a0)]) [0] rfl ?_
  refine ww_iconst (v := 0) C dX10_ones_0 (by decide) ?_
  refine ww_istore_n (lv' := [(1, .int (0 : Int32)), (0, .int a0)]) C dX10_ones_1 rfl (by decide) rfl ?_
  refine ww_iconst (v := 0) C dX10_ones_2 (by decide) ?_
  refine ww_istore_n (lv' := [(2, .int (0 : Int32)), (1, .int (0 : Int32)), (0, .int a0)]) C dX10_ones_3 rfl (by decide) rfl ?_
  refine ww_sub (lv' := [(0, .int a0), (1, .int (0 : Int32)), (2, .int (0 : Int32))]) [2, 1, 0] rfl ?_
  exact (B_X10_ones_4 C HR HL hG N) a0 (0 : Int32) (0 : Int32) dy E
section P_X10_findMatch
variable {p : Program} {l : Launch} {e : Env} {s : State} {m : MethodId} {args : Array Value} {below : List Frame} {meth : Method} {c : Code} {G : GG} {A : Nat → Prop} {ad : Nat → Nat} {S : ST} {N : Nat} {dy' : DY}
set_option maxHeartbeats 4000000 in
set_option maxRecDepth 100000 in
theorem B_X10_findMatch_154 (C : CX p s m args c cX10_findMatch 10 RX10 G A) (HR : meth.sig.returnType = (Option.none : Option Jvm.ClassFile.FieldType)) (HL : meth.locks = false) (hG : Good S) {K96 : Nat → Int32 → Int32 → Int32 → Int32 → Int32 → Int32 → Int32 → Int32 → DY → Option DY} (hK96 : ∀ (x0 : Nat) (x1 : Int32) (x2 : Int32) (x3 : Int32) (x4 : Int32) (x5 : Int32) (x6 : Int32) (x7 : Int32) (x8 : Int32) (dy : DY), gs S x0 = (0, 10) → K96 x0 x1 x2 x3 x4 x5 x6 x7 x8 dy = some dy' → WJ p l e (rmD (2)) s m args below meth c 10 G A 0 0 (MQ below (QV G ad A S dy') args s 0 0 A) ad 96 [(0, .ref (ad x0)), (1, .int x1), (2, .int x2), (3, .int x3), (4, .int x4), (5, .int x5), (6, .int x6), (7, .int x7), (8, .int x8)] [] S dy) : ∀ (x0 : Nat) (x1 : Int32) (x2 : Int32) (x3 : Int32) (x4 : Int32) (x5 : Int32) (x6 : Int32) (x7 : Int32) (x8 : Int32) (y0 : Int32) (dy : DY), gs S x0 = (0, 10) → F_X10_findMatch_154 S N K96 x0 x1 x2 x3 x4 x5 x6 x7 x8 y0 dy = some dy' → WJ p l e (rmD (2)) s m args below meth c 10 G A 0 0 (MQ below (QV G ad A S dy') args s 0 0 A) ad 154 [(0, .ref (ad x0)), (1, .int x1), (2, .int x2), (3, .int x3), (4, .int x4), (5, .int x5), (6, .int x6), (7, .int x7), (8, .int x8)] [.int y0] S dy := by
  intro x0 x1 x2 x3 x4 x5 x6 x7 x8 y0 dy Tx0 E
  rw [F_X10_findMatch_154_s] at E
  refine ww_istore (lv' := [(9, .int y0), (0, .ref (ad x0)), (1, .int x1), (2, .int x2), (3, .int x3), (4, .int x4), (5, .int x5), (6, .int x6), (7, .int x7), (8, .int x8)]) C dX10_findMatch_154 (by decide) rfl ?_
  refine ww_iload C dX10_findMatch_156 0 rfl ?_
  refine ww_iload C dX10_findMatch_158 8 rfl ?_
  refine ww_icmp_ge (tgt := 168) C dX10_findMatch_160 (by decide) E (fun _ E => ?_) (fun _ E => ?_)
  · refine ww_iload C dX10_findMatch_168 8 rfl ?_
    refine ww_istore (lv' := [(7, .int x7), (9, .int y0), (0, .ref (ad x0)), (1, .int x1), (2, .int x2), (3, .int x3), (4, .int x4), (5, .int x5), (6, .int x6), (8, .int x8)]) C dX10_findMatch_170 (by decide) rfl ?_
    refine ww_iinc (v := (x8 + (1 : Int32))) (lv' := [(8, .int (x8 + (1 : Int32))), (7, .int x7), (9, .int y0), (0, .ref (ad x0)), (1, .int x1), (2, .int x2), (3, .int x3), (4, .int x4), (5, .int x5), (6, .int x6)]) C dX10_findMatch_172 9 rfl rfl (by decide) rfl ?_
    refine ww_goto (tgt := 96) C dX10_findMatch_175 (by decide) ?_
    refine ww_sub (lv' := [(0, .ref (ad x0)), (1, .int x1), (2, .int x2), (3, .int x3), (4, .int x4), (5, .int x5), (6, .int x6), (7, .int x7), (8, .int (x8 + (1 : Int32)))]) [3, 4, 5, 6, 7, 8, 9, 1, 0] rfl ?_
    exact hK96 x0 x1 x2 x3 x4 x5 x6 x7 (x8 + (1 : Int32)) dy Tx0 E
  · refine ww_iload C dX10_findMatch_163 0 rfl ?_
    refine ww_goto (tgt := 170) C dX10_findMatch_165 (by decide) ?_
    refine ww_istore (lv' := [(7, .int y0), (9, .int y0), (0, .ref (ad x0)), (1, .int x1), (2, .int x2), (3, .int x3), (4, .int x4), (5, .int x5), (6, .int x6), (8, .int x8)]) C dX10_findMatch_170 (by decide) rfl ?_
    refine ww_iinc (v := (x8 + (1 : Int32))) (lv' := [(8, .int (x8 + (1 : Int32))), (7, .int y0), (9, .int y0), (0, .ref (ad x0)), (1, .int x1), (2, .int x2), (3, .int x3), (4, .int x4), (5, .int x5), (6, .int x6)]) C dX10_findMatch_172 9 rfl rfl (by decide) rfl ?_
    refine ww_goto (tgt := 96) C dX10_findMatch_175 (by decide) ?_
    refine ww_sub (lv' := [(0, .ref (ad x0)), (1, .int x1), (2, .int x2), (3, .int x3), (4, .int x4), (5, .int x5), (6, .int x6), (7, .int y0), (8, .int (x8 + (1 : Int32)))]) [3, 4, 5, 6, 7, 8, 9, 1, 0] rfl ?_
    exact hK96 x0 x1 x2 x3 x4 x5 x6 y0 (x8 + (1 : Int32)) dy Tx0 E
set_option maxHeartbeats 4000000 in
set_option maxRecDepth 100000 in
theorem B_X10_findMatch_96 (C : CX p s m args c cX10_findMatch 10 RX10 G A) (HR : meth.sig.returnType = (Option.none : Option Jvm.ClassFile.FieldType)) (HL : meth.locks = false) (hG : Good S) {K67 : Nat → Int32 → Int32 → Int32 → Int32 → Int32 → Int32 → DY → Option DY} (hK67 : ∀ (x0 : Nat) (x1 : Int32) (x2 : Int32) (x3 : Int32) (x4 : Int32) (x5 : Int32) (x6 : Int32) (dy : DY), gs S x0 = (0, 10) → K67 x0 x1 x2 x3 x4 x5 x6 dy = some dy' → WJ p l e (rmD (2)) s m args below meth c 10 G A 0 0 (MQ below (QV G ad A S dy') args s 0 0 A) ad 67 [(0, .ref (ad x0)), (1, .int x1), (2, .int x2), (3, .int x3), (4, .int x4), (5, .int x5), (6, .int x6)] [] S dy) : ∀ k : Nat, ∀ (x0 : Nat) (x1 : Int32) (x2 : Int32) (x3 : Int32) (x4 : Int32) (x5 : Int32) (x6 : Int32) (x7 : Int32) (x8 : Int32) (dy : DY), gs S x0 = (0, 10) → (F_X10_findMatch_96 S N K67 k) x0 x1 x2 x3 x4 x5 x6 x7 x8 dy = some dy' → WJ p l e (rmD (2)) s m args below meth c 10 G A 0 0 (MQ below (QV G ad A S dy') args s 0 0 A) ad 96 [(0, .ref (ad x0)), (1, .int x1), (2, .int x2), (3, .int x3), (4, .int x4), (5, .int x5), (6, .int x6), (7, .int x7), (8, .int x8)] [] S dy := by
  intro k
  induction k with
  | zero => exact fun _ _ _ _ _ _ _ _ _ _ _ E => nomatch (show none = some dy' from E)
  | succ k ih =>
    intro x0 x1 x2 x3 x4 x5 x6 x7 x8 dy Tx0 E
    rw [F_X10_findMatch_96_s] at E
    refine ww_iload C dX10_findMatch_96 8 rfl ?_
    refine ww_aload_n C dX10_findMatch_98 rfl 0 rfl ?_
    have T_1 : gs S (gr S x0 15) = (1, 32) := hG.1 _ 10 Tx0 15 (by decide)
    refine ww_getr (ci := 10) (k0 := 15) C dX10_findMatch_99 rfl rfl inm10 (by decide) Tx0 q1293 rfl T_1 (by decide) ?_
    refine ww_iload_n C dX10_findMatch_102 rfl 1 rfl ?_
    refine ww_iconst (v := 1) C dX10_findMatch_103 (by decide) ?_
    refine ww_iadd C dX10_findMatch_104 ?_
    refine ww_iald C dX10_findMatch_105 T_1 E (fun _ E => ?_)
    refine ww_icmp_ge (tgt := 178) C dX10_findMatch_106 (by decide) E (fun _ E => ?_) (fun _ E => ?_)
    · refine ww_aload_n C dX10_findMatch_178 rfl 0 rfl ?_
      have T_2 : gs S (gr S x0 56) = (1, 448) := hG.1 _ 10 Tx0 56 (by decide)
      refine ww_getr (ci := 10) (k0 := 56) C dX10_findMatch_179 rfl rfl inm10 (by decide) Tx0 q1334 rfl T_2 (by decide) ?_
      refine ww_bipush (v := 64) C dX10_findMatch_182 (by decide) ?_
      refine ww_iload C dX10_findMatch_184 5 rfl ?_
      refine ww_imul C dX10_findMatch_186 ?_
      refine ww_iload C dX10_findMatch_187 6 rfl ?_
      refine ww_iadd C dX10_findMatch_189 ?_
      refine ww_iload C dX10_findMatch_190 7 rfl ?_
      refine ww_iast C dX10_findMatch_192 T_2 E (fun _ E => ?_)
      refine ww_bd E (fun dy3 E => ?_)
      refine ww_iinc (v := (x6 + (1 : Int32))) (lv' := [(6, .int (x6 + (1 : Int32))), (0, .ref (ad x0)), (1, .int x1), (2, .int x2), (3, .int x3), (4, .int x4), (5, .int x5), (7, .int x7), (8, .int x8)]) C dX10_findMatch_193 6 rfl rfl (by decide) rfl ?_
      refine ww_goto (tgt := 67) C dX10_findMatch_196 (by decide) ?_
      refine ww_sub (lv' := [(0, .ref (ad x0)), (1, .int x1), (2, .int x2), (3, .int x3), (4, .int x4), (5, .int x5), (6, .int (x6 + (1 : Int32)))]) [1, 2, 3, 4, 5, 6, 0] rfl ?_
      exact hK67 x0 x1 x2 x3 x4 x5 (x6 + (1 : Int32)) dy3 Tx0 E
    · refine ww_iload C dX10_findMatch_109 6 rfl ?_
      refine ww_iload C dX10_findMatch_111 8 rfl ?_
      refine ww_ishr C dX10_findMatch_113 ?_
      refine ww_iconst (v := 1) C dX10_findMatch_114 (by decide) ?_
      refine ww_iand C dX10_findMatch_115 ?_
      refine ww_if_ne (tgt := 124) C dX10_findMatch_116 (by decide) E (fun _ E => ?_) (fun _ E => ?_)
      · refine ww_aload_n C dX10_findMatch_124 rfl 0 rfl ?_
        refine ww_iload_n C dX10_findMatch_125 rfl 1 rfl ?_
        refine ww_iload C dX10_findMatch_126 5 rfl ?_
        refine ww_iload C dX10_findMatch_128 8 rfl ?_
        obtain ⟨u4, e_5, E⟩ := bind_of E
        refine ww_callI C (runs_V (n := 3) (st := []) C [.int x1, .int x5, .int x8] (M_X10_couple l G ad N hG x0 x1 x5 x8 dy Tx0 e_5) ⟨q1888, q118, by decide⟩ q1885 q1887 q105 (ci := 10) rfl Tx0 rfl (Nat.le_of_ble_eq_true rfl) ⟨Nat.le_of_ble_eq_true rfl, Nat.le_of_ble_eq_true rfl⟩ ⟨Nat.zero_le _, Nat.zero_le _⟩ dX10_findMatch_130 rfl) ?_
        refine ww_aload_n C dX10_findMatch_133 rfl 0 rfl ?_
        have T_6 : gs S (gr S x0 56) = (1, 448) := hG.1 _ 10 Tx0 56 (by decide)
        refine ww_getr (ci := 10) (k0 := 56) C dX10_findMatch_134 rfl rfl inm10 (by decide) Tx0 q1334 rfl T_6 (by decide) ?_
        refine ww_bipush (v := 64) C dX10_findMatch_137 (by decide) ?_
        refine ww_iload C dX10_findMatch_139 5 rfl ?_
        refine ww_iconst (v := 1) C dX10_findMatch_141 (by decide) ?_
        refine ww_iadd C dX10_findMatch_142 ?_
        refine ww_imul C dX10_findMatch_143 ?_
        refine ww_iload C dX10_findMatch_144 6 rfl ?_
        refine ww_iadd C dX10_findMatch_146 ?_
        refine ww_iconst (v := 1) C dX10_findMatch_147 (by decide) ?_
        refine ww_iload C dX10_findMatch_148 8 rfl ?_
        refine ww_ishl C dX10_findMatch_150 ?_
        refine ww_isub C dX10_findMatch_151 ?_
        refine ww_iald C dX10_findMatch_152 T_6 E (fun _ E => ?_)
        refine ww_iadd C dX10_findMatch_153 ?_
        refine ww_sub (lv' := [(0, .ref (ad x0)), (1, .int x1), (2, .int x2), (3, .int x3), (4, .int x4), (5, .int x5), (6, .int x6), (7, .int x7), (8, .int x8)]) [0, 1, 2, 3, 4, 5, 6, 7, 8] rfl ?_
        exact (B_X10_findMatch_154 C HR HL hG ih) x0 x1 x2 x3 x4 x5 x6 x7 x8 (u4.1 + (gi u4.2 (gr S x0 56) ((((64 : Int32) * (x5 + (1 : Int32))) + x6) - ((1 : Int32) <<< (x8 &&& 31))).toNatClampNeg)) u4.2 Tx0 E
      · refine ww_iload C dX10_findMatch_119 7 rfl ?_
        refine ww_goto (tgt := 154) C dX10_findMatch_121 (by decide) ?_
        refine ww_sub (lv' := [(0, .ref (ad x0)), (1, .int x1), (2, .int x2), (3, .int x3), (4, .int x4), (5, .int x5), (6, .int x6), (7, .int x7), (8, .int x8)]) [0, 1, 2, 3, 4, 5, 6, 7, 8] rfl ?_
        exact (B_X10_findMatch_154 C HR HL hG ih) x0 x1 x2 x3 x4 x5 x6 x7 x8 x7 dy Tx0 E
set_option maxHeartbeats 4000000 in
set_option maxRecDepth 100000 in
theorem B_X10_findMatch_67 (C : CX p s m args c cX10_findMatch 10 RX10 G A) (HR : meth.sig.returnType = (Option.none : Option Jvm.ClassFile.FieldType)) (HL : meth.locks = false) (hG : Good S) {K59 : Nat → Int32 → Int32 → Int32 → Int32 → Int32 → DY → Option DY} (hK59 : ∀ (x0 : Nat) (x1 : Int32) (x2 : Int32) (x3 : Int32) (x4 : Int32) (x5 : Int32) (dy : DY), gs S x0 = (0, 10) → K59 x0 x1 x2 x3 x4 x5 dy = some dy' → WJ p l e (rmD (2)) s m args below meth c 10 G A 0 0 (MQ below (QV G ad A S dy') args s 0 0 A) ad 59 [(0, .ref (ad x0)), (1, .int x1), (2, .int x2), (3, .int x3), (4, .int x4), (5, .int x5)] [] S dy) : ∀ k : Nat, ∀ (x0 : Nat) (x1 : Int32) (x2 : Int32) (x3 : Int32) (x4 : Int32) (x5 : Int32) (x6 : Int32) (dy : DY), gs S x0 = (0, 10) → (F_X10_findMatch_67 S N K59 k) x0 x1 x2 x3 x4 x5 x6 dy = some dy' → WJ p l e (rmD (2)) s m args below meth c 10 G A 0 0 (MQ below (QV G ad A S dy') args s 0 0 A) ad 67 [(0, .ref (ad x0)), (1, .int x1), (2, .int x2), (3, .int x3), (4, .int x4), (5, .int x5), (6, .int x6)] [] S dy := by
  intro k
  induction k with
  | zero => exact fun _ _ _ _ _ _ _ _ _ E => nomatch (show none = some dy' from E)
  | succ k ih =>
    intro x0 x1 x2 x3 x4 x5 x6 dy Tx0 E
    rw [F_X10_findMatch_67_s] at E
    refine ww_iload C dX10_findMatch_67 6 rfl ?_
    refine ww_iload C dX10_findMatch_69 4 rfl ?_
    refine ww_icmp_ge (tgt := 199) C dX10_findMatch_71 (by decide) E (fun _ E => ?_) (fun _ E => ?_)
    · refine ww_iinc (v := (x5 + (-1 : Int32))) (lv' := [(5, .int (x5 + (-1 : Int32))), (0, .ref (ad x0)), (1, .int x1), (2, .int x2), (3, .int x3), (4, .int x4), (6, .int x6)]) C dX10_findMatch_199 5 rfl rfl (by decide) rfl ?_
      refine ww_goto (tgt := 59) C dX10_findMatch_202 (by decide) ?_
      refine ww_sub (lv' := [(0, .ref (ad x0)), (1, .int x1), (2, .int x2), (3, .int x3), (4, .int x4), (5, .int (x5 + (-1 : Int32)))]) [1, 2, 3, 4, 5, 0] rfl ?_
      exact hK59 x0 x1 x2 x3 x4 (x5 + (-1 : Int32)) dy Tx0 E
    · refine ww_iload_n C dX10_findMatch_74 rfl 2 rfl ?_
      refine ww_aload_n C dX10_findMatch_75 rfl 0 rfl ?_
      have T_1 : gs S (gr S x0 56) = (1, 448) := hG.1 _ 10 Tx0 56 (by decide)
      refine ww_getr (ci := 10) (k0 := 56) C dX10_findMatch_76 rfl rfl inm10 (by decide) Tx0 q1334 rfl T_1 (by decide) ?_
      refine ww_bipush (v := 64) C dX10_findMatch_79 (by decide) ?_
      refine ww_iload C dX10_findMatch_81 5 rfl ?_
      refine ww_iconst (v := 1) C dX10_findMatch_83 (by decide) ?_
      refine ww_iadd C dX10_findMatch_84 ?_
      refine ww_imul C dX10_findMatch_85 ?_
      refine ww_iload C dX10_findMatch_86 6 rfl ?_
      refine ww_iadd C dX10_findMatch_88 ?_
      refine ww_iald C dX10_findMatch_89 T_1 E (fun _ E => ?_)
      refine ww_iadd C dX10_findMatch_90 ?_
      refine ww_istore (lv' := [(7, .int (x2 + (gi dy (gr S x0 56) (((64 : Int32) * (x5 + (1 : Int32))) + x6).toNatClampNeg))), (0, .ref (ad x0)), (1, .int x1), (2, .int x2), (3, .int x3), (4, .int x4), (5, .int x5), (6, .int x6)]) C dX10_findMatch_91 (by decide) rfl ?_
      refine ww_iconst (v := 0) C dX10_findMatch_93 (by decide) ?_
      refine ww_istore (lv' := [(8, .int (0 : Int32)), (7, .int (x2 + (gi dy (gr S x0 56) (((64 : Int32) * (x5 + (1 : Int32))) + x6).toNatClampNeg))), (0, .ref (ad x0)), (1, .int x1), (2, .int x2), (3, .int x3), (4, .int x4), (5, .int x5), (6, .int x6)]) C dX10_findMatch_94 (by decide) rfl ?_
      refine ww_sub (lv' := [(0, .ref (ad x0)), (1, .int x1), (2, .int x2), (3, .int x3), (4, .int x4), (5, .int x5), (6, .int x6), (7, .int (x2 + (gi dy (gr S x0 56) (((64 : Int32) * (x5 + (1 : Int32))) + x6).toNatClampNeg))), (8, .int (0 : Int32))]) [2, 3, 4, 5, 6, 7, 8, 1, 0] rfl ?_
      exact (B_X10_findMatch_96 C HR HL hG ih N) x0 x1 x2 x3 x4 x5 x6 (x2 + (gi dy (gr S x0 56) (((64 : Int32) * (x5 + (1 : Int32))) + x6).toNatClampNeg)) (0 : Int32) dy Tx0 E
set_option maxHeartbeats 4000000 in
set_option maxRecDepth 100000 in
theorem B_X10_findMatch_344 (C : CX p s m args c cX10_findMatch 10 RX10 G A) (HR : meth.sig.returnType = (Option.none : Option Jvm.ClassFile.FieldType)) (HL : meth.locks = false) (hG : Good S) {K253 : Nat → Int32 → Int32 → Int32 → Int32 → Int32 → DY → Option DY} (hK253 : ∀ (x0 : Nat) (x1 : Int32) (x3 : Int32) (x5 : Int32) (x6 : Int32) (x7 : Int32) (dy : DY), gs S x0 = (0, 10) → K253 x0 x1 x3 x5 x6 x7 dy = some dy' → WJ p l e (rmD (2)) s m args below meth c 10 G A 0 0 (MQ below (QV G ad A S dy') args s 0 0 A) ad 253 [(0, .ref (ad x0)), (1, .int x1), (3, .int x3), (5, .int x5), (6, .int x6), (7, .int x7)] [] S dy) : ∀ (x0 : Nat) (x1 : Int32) (x3 : Int32) (x5 : Int32) (x6 : Int32) (x7 : Int32) (y0 : Nat) (y1 : Int32) (y2 : Int32) (dy : DY), gs S x0 = (0, 10) → gs S y0 = (1, 6) → F_X10_findMatch_344 S N K253 x0 x1 x3 x5 x6 x7 y0 y1 y2 dy = some dy' → WJ p l e (rmD (2)) s m args below meth c 10 G A 0 0 (MQ below (QV G ad A S dy') args s 0 0 A) ad 344 [(0, .ref (ad x0)), (1, .int x1), (3, .int x3), (5, .int x5), (6, .int x6), (7, .int x7)] [.int y2, .int y1, .ref (ad y0)] S dy := by
  intro x0 x1 x3 x5 x6 x7 y0 y1 y2 dy Tx0 Ty0 E
  rw [F_X10_findMatch_344_s] at E
  refine ww_iast C dX10_findMatch_344 Ty0 E (fun _ E => ?_)
  refine ww_bd E (fun dy1 E => ?_)
  refine ww_iinc (v := (x7 + (-1 : Int32))) (lv' := [(7, .int (x7 + (-1 : Int32))), (0, .ref (ad x0)), (1, .int x1), (3, .int x3), (5, .int x5), (6, .int x6)]) C dX10_findMatch_345 5 rfl rfl (by decide) rfl ?_
  refine ww_goto (tgt := 253) C dX10_findMatch_348 (by decide) ?_
  refine ww_sub (lv' := [(0, .ref (ad x0)), (1, .int x1), (3, .int x3), (5, .int x5), (6, .int x6), (7, .int (x7 + (-1 : Int32)))]) [1, 2, 3, 4, 5, 0] rfl ?_
  exact hK253 x0 x1 x3 x5 x6 (x7 + (-1 : Int32)) dy1 Tx0 E
set_option maxHeartbeats 4000000 in
set_option maxRecDepth 100000 in
theorem B_X10_findMatch_319 (C : CX p s m args c cX10_findMatch 10 RX10 G A) (HR : meth.sig.returnType = (Option.none : Option Jvm.ClassFile.FieldType)) (HL : meth.locks = false) (hG : Good S) {K253 : Nat → Int32 → Int32 → Int32 → Int32 → Int32 → DY → Option DY} (hK253 : ∀ (x0 : Nat) (x1 : Int32) (x3 : Int32) (x5 : Int32) (x6 : Int32) (x7 : Int32) (dy : DY), gs S x0 = (0, 10) → K253 x0 x1 x3 x5 x6 x7 dy = some dy' → WJ p l e (rmD (2)) s m args below meth c 10 G A 0 0 (MQ below (QV G ad A S dy') args s 0 0 A) ad 253 [(0, .ref (ad x0)), (1, .int x1), (3, .int x3), (5, .int x5), (6, .int x6), (7, .int x7)] [] S dy) : ∀ (x0 : Nat) (x1 : Int32) (x3 : Int32) (x5 : Int32) (x6 : Int32) (x7 : Int32) (y0 : Int32) (dy : DY), gs S x0 = (0, 10) → F_X10_findMatch_319 S N K253 x0 x1 x3 x5 x6 x7 y0 dy = some dy' → WJ p l e (rmD (2)) s m args below meth c 10 G A 0 0 (MQ below (QV G ad A S dy') args s 0 0 A) ad 319 [(0, .ref (ad x0)), (1, .int x1), (3, .int x3), (5, .int x5), (6, .int x6), (7, .int x7)] [.int y0] S dy := by
  intro x0 x1 x3 x5 x6 x7 y0 dy Tx0 E
  rw [F_X10_findMatch_319_s] at E
  refine ww_istore (lv' := [(8, .int y0), (0, .ref (ad x0)), (1, .int x1), (3, .int x3), (5, .int x5), (6, .int x6), (7, .int x7)]) C dX10_findMatch_319 (by decide) rfl ?_
  refine ww_aload_n C dX10_findMatch_321 rfl 1 rfl ?_
  have T_1 : gs S (gr S x0 57) = (1, 6) := hG.1 _ 10 Tx0 57 (by decide)
  refine ww_getr (ci := 10) (k0 := 57) C dX10_findMatch_322 rfl rfl inm10 (by decide) Tx0 q1335 rfl T_1 (by decide) ?_
  refine ww_iload C dX10_findMatch_325 5 rfl ?_
  refine ww_iload C dX10_findMatch_327 0 rfl ?_
  refine ww_if_eq (tgt := 337) C dX10_findMatch_329 (by decide) E (fun _ E => ?_) (fun _ E => ?_)
  · refine ww_aload_n C dX10_findMatch_337 rfl 1 rfl ?_
    have T_2 : gs S (gr S x0 57) = (1, 6) := hG.1 _ 10 Tx0 57 (by decide)
    refine ww_getr (ci := 10) (k0 := 57) C dX10_findMatch_338 rfl rfl inm10 (by decide) Tx0 q1335 rfl T_2 (by decide) ?_
    refine ww_iload C dX10_findMatch_341 5 rfl ?_
    refine ww_iald C dX10_findMatch_343 T_2 E (fun _ E => ?_)
    refine ww_sub (lv' := [(0, .ref (ad x0)), (1, .int x1), (3, .int x3), (5, .int x5), (6, .int x6), (7, .int x7)]) [1, 2, 3, 4, 5, 6] rfl ?_
    exact (B_X10_findMatch_344 C HR HL hG hK253) x0 x1 x3 x5 x6 x7 (gr S x0 57) x6 (gi dy (gr S x0 57) x6.toNatClampNeg) dy Tx0 T_1 E
  · refine ww_iload C dX10_findMatch_332 6 rfl ?_
    refine ww_goto (tgt := 344) C dX10_findMatch_334 (by decide) ?_
    refine ww_sub (lv' := [(0, .ref (ad x0)), (1, .int x1), (3, .int x3), (5, .int x5), (6, .int x6), (7, .int x7)]) [1, 2, 3, 4, 5, 6] rfl ?_
    exact (B_X10_findMatch_344 C HR HL hG hK253) x0 x1 x3 x5 x6 x7 (gr S x0 57) x6 x7 dy Tx0 T_1 E
set_option maxHeartbeats 4000000 in
set_option maxRecDepth 100000 in
theorem B_X10_findMatch_253 (C : CX p s m args c cX10_findMatch 10 RX10 G A) (HR : meth.sig.returnType = (Option.none : Option Jvm.ClassFile.FieldType)) (HL : meth.locks = false) (hG : Good S) {K227 : Nat → Int32 → Int32 → Int32 → Int32 → DY → Option DY} (hK227 : ∀ (x0 : Nat) (x1 : Int32) (x3 : Int32) (x5 : Int32) (x6 : Int32) (dy : DY), gs S x0 = (0, 10) → K227 x0 x1 x3 x5 x6 dy = some dy' → WJ p l e (rmD (2)) s m args below meth c 10 G A 0 0 (MQ below (QV G ad A S dy') args s 0 0 A) ad 227 [(0, .ref (ad x0)), (1, .int x1), (3, .int x3), (5, .int x5), (6, .int x6)] [] S dy) : ∀ k : Nat, ∀ (x0 : Nat) (x1 : Int32) (x3 : Int32) (x5 : Int32) (x6 : Int32) (x7 : Int32) (dy : DY), gs S x0 = (0, 10) → (F_X10_findMatch_253 S N K227 k) x0 x1 x3 x5 x6 x7 dy = some dy' → WJ p l e (rmD (2)) s m args below meth c 10 G A 0 0 (MQ below (QV G ad A S dy') args s 0 0 A) ad 253 [(0, .ref (ad x0)), (1, .int x1), (3, .int x3), (5, .int x5), (6, .int x6), (7, .int x7)] [] S dy := by
  intro k
  induction k with
  | zero => exact fun _ _ _ _ _ _ _ _ E => nomatch (show none = some dy' from E)
  | succ k ih =>
    intro x0 x1 x3 x5 x6 x7 dy Tx0 E
    rw [F_X10_findMatch_253_s] at E
    refine ww_iload C dX10_findMatch_253 5 rfl ?_
    refine ww_if_lt (tgt := 351) C dX10_findMatch_255 (by decide) E (fun _ E => ?_) (fun _ E => ?_)
    · refine ww_iload C dX10_findMatch_351 3 rfl ?_
      refine ww_aload_n C dX10_findMatch_353 rfl 0 rfl ?_
      have T_1 : gs S (gr S x0 57) = (1, 6) := hG.1 _ 10 Tx0 57 (by decide)
      refine ww_getr (ci := 10) (k0 := 57) C dX10_findMatch_354 rfl rfl inm10 (by decide) Tx0 q1335 rfl T_1 (by decide) ?_
      refine ww_iload C dX10_findMatch_357 4 rfl ?_
      refine ww_iald C dX10_findMatch_359 T_1 E (fun _ E => ?_)
      refine ww_iconst (v := (-1)) C dX10_findMatch_360 (by decide) ?_
      refine ww_icmp_ne (tgt := 368) C dX10_findMatch_361 (by decide) E (fun _ E => ?_) (fun _ E => ?_)
      · refine ww_iconst (v := 1) C dX10_findMatch_368 (by decide) ?_
        refine ww_aload_n C dX10_findMatch_369 rfl 0 rfl ?_
        have T_2 : gs S (gr S x0 57) = (1, 6) := hG.1 _ 10 Tx0 57 (by decide)
        refine ww_getr (ci := 10) (k0 := 57) C dX10_findMatch_370 rfl rfl inm10 (by decide) Tx0 q1335 rfl T_2 (by decide) ?_
        refine ww_iload C dX10_findMatch_373 4 rfl ?_
        refine ww_iald C dX10_findMatch_375 T_2 E (fun _ E => ?_)
        refine ww_ishl C dX10_findMatch_376 ?_
        refine ww_isub C dX10_findMatch_377 ?_
        refine ww_istore (lv' := [(5, .int (x5 - ((1 : Int32) <<< ((gi dy (gr S x0 57) x6.toNatClampNeg) &&& 31)))), (0, .ref (ad x0)), (1, .int x1), (3, .int x3), (6, .int x6), (7, .int x7)]) C dX10_findMatch_378 (by decide) rfl ?_
        refine ww_iinc (v := (x6 + (1 : Int32))) (lv' := [(6, .int (x6 + (1 : Int32))), (5, .int (x5 - ((1 : Int32) <<< ((gi dy (gr S x0 57) x6.toNatClampNeg) &&& 31)))), (0, .ref (ad x0)), (1, .int x1), (3, .int x3), (7, .int x7)]) C dX10_findMatch_380 4 rfl rfl (by decide) rfl ?_
        refine ww_goto (tgt := 227) C dX10_findMatch_383 (by decide) ?_
        refine ww_sub (lv' := [(0, .ref (ad x0)), (1, .int x1), (3, .int x3), (5, .int (x5 - ((1 : Int32) <<< ((gi dy (gr S x0 57) x6.toNatClampNeg) &&& 31)))), (6, .int (x6 + (1 : Int32)))]) [2, 3, 4, 1, 0] rfl ?_
        exact hK227 x0 x1 x3 (x5 - ((1 : Int32) <<< ((gi dy (gr S x0 57) x6.toNatClampNeg) &&& 31))) (x6 + (1 : Int32)) dy Tx0 E
      · refine ww_iconst (v := 0) C dX10_findMatch_364 (by decide) ?_
        refine ww_goto (tgt := 377) C dX10_findMatch_365 (by decide) ?_
        refine ww_isub C dX10_findMatch_377 ?_
        refine ww_istore (lv' := [(5, .int (x5 - (0 : Int32))), (0, .ref (ad x0)), (1, .int x1), (3, .int x3), (6, .int x6), (7, .int x7)]) C dX10_findMatch_378 (by decide) rfl ?_
        refine ww_iinc (v := (x6 + (1 : Int32))) (lv' := [(6, .int (x6 + (1 : Int32))), (5, .int (x5 - (0 : Int32))), (0, .ref (ad x0)), (1, .int x1), (3, .int x3), (7, .int x7)]) C dX10_findMatch_380 4 rfl rfl (by decide) rfl ?_
        refine ww_goto (tgt := 227) C dX10_findMatch_383 (by decide) ?_
        refine ww_sub (lv' := [(0, .ref (ad x0)), (1, .int x1), (3, .int x3), (5, .int (x5 - (0 : Int32))), (6, .int (x6 + (1 : Int32)))]) [2, 3, 4, 1, 0] rfl ?_
        exact hK227 x0 x1 x3 (x5 - (0 : Int32)) (x6 + (1 : Int32)) dy Tx0 E
    · refine ww_iload C dX10_findMatch_258 3 rfl ?_
      refine ww_iload C dX10_findMatch_260 5 rfl ?_
      refine ww_ishr C dX10_findMatch_262 ?_
      refine ww_iconst (v := 1) C dX10_findMatch_263 (by decide) ?_
      refine ww_iand C dX10_findMatch_264 ?_
      refine ww_if_eq (tgt := 318) C dX10_findMatch_265 (by decide) E (fun _ E => ?_) (fun _ E => ?_)
      · refine ww_iconst (v := 0) C dX10_findMatch_318 (by decide) ?_
        refine ww_sub (lv' := [(0, .ref (ad x0)), (1, .int x1), (3, .int x3), (5, .int x5), (6, .int x6), (7, .int x7)]) [0, 1, 2, 3, 4, 5] rfl ?_
        exact (B_X10_findMatch_319 C HR HL hG ih) x0 x1 x3 x5 x6 x7 (0 : Int32) dy Tx0 E
      · refine ww_aload_n C dX10_findMatch_268 rfl 0 rfl ?_
        refine ww_iload_n C dX10_findMatch_269 rfl 1 rfl ?_
        refine ww_iload C dX10_findMatch_270 4 rfl ?_
        refine ww_iload C dX10_findMatch_272 5 rfl ?_
        obtain ⟨u3, e_4, E⟩ := bind_of E
        refine ww_callI C (runs_V (n := 3) (st := []) C [.int x1, .int x6, .int x7] (M_X10_couple l G ad N hG x0 x1 x6 x7 dy Tx0 e_4) ⟨q1888, q118, by decide⟩ q1885 q1887 q105 (ci := 10) rfl Tx0 rfl (Nat.le_of_ble_eq_true rfl) ⟨Nat.le_of_ble_eq_true rfl, Nat.le_of_ble_eq_true rfl⟩ ⟨Nat.zero_le _, Nat.zero_le _⟩ dX10_findMatch_274 rfl) ?_
        refine ww_aload_n C dX10_findMatch_277 rfl 0 rfl ?_
        have T_5 : gs S (gr S x0 56) = (1, 448) := hG.1 _ 10 Tx0 56 (by decide)
        refine ww_getr (ci := 10) (k0 := 56) C dX10_findMatch_278 rfl rfl inm10 (by decide) Tx0 q1334 rfl T_5 (by decide) ?_
        refine ww_bipush (v := 64) C dX10_findMatch_281 (by decide) ?_
        refine ww_iload C dX10_findMatch_283 4 rfl ?_
        refine ww_iconst (v := 1) C dX10_findMatch_285 (by decide) ?_
        refine ww_iadd C dX10_findMatch_286 ?_
        refine ww_imul C dX10_findMatch_287 ?_
        refine ww_iload C dX10_findMatch_288 3 rfl ?_
        refine ww_iadd C dX10_findMatch_290 ?_
        refine ww_iconst (v := 1) C dX10_findMatch_291 (by decide) ?_
        refine ww_iload C dX10_findMatch_292 5 rfl ?_
        refine ww_ishl C dX10_findMatch_294 ?_
        refine ww_isub C dX10_findMatch_295 ?_
        refine ww_iald C dX10_findMatch_296 T_5 E (fun _ E => ?_)
        refine ww_iadd C dX10_findMatch_297 ?_
        refine ww_aload_n C dX10_findMatch_298 rfl 0 rfl ?_
        have T_6 : gs S (gr S x0 56) = (1, 448) := hG.1 _ 10 Tx0 56 (by decide)
        refine ww_getr (ci := 10) (k0 := 56) C dX10_findMatch_299 rfl rfl inm10 (by decide) Tx0 q1334 rfl T_6 (by decide) ?_
        refine ww_bipush (v := 64) C dX10_findMatch_302 (by decide) ?_
        refine ww_iload C dX10_findMatch_304 4 rfl ?_
        refine ww_imul C dX10_findMatch_306 ?_
        refine ww_iload C dX10_findMatch_307 3 rfl ?_
        refine ww_iadd C dX10_findMatch_309 ?_
        refine ww_iald C dX10_findMatch_310 T_6 E (fun _ E => ?_)
        refine ww_icmp_ne (tgt := 318) C dX10_findMatch_311 (by decide) E (fun _ E => ?_) (fun _ E => ?_)
        · refine ww_iconst (v := 0) C dX10_findMatch_318 (by decide) ?_
          refine ww_sub (lv' := [(0, .ref (ad x0)), (1, .int x1), (3, .int x3), (5, .int x5), (6, .int x6), (7, .int x7)]) [0, 1, 2, 3, 4, 5] rfl ?_
          exact (B_X10_findMatch_319 C HR HL hG ih) x0 x1 x3 x5 x6 x7 (0 : Int32) u3.2 Tx0 E
        · refine ww_iconst (v := 1) C dX10_findMatch_314 (by decide) ?_
          refine ww_goto (tgt := 319) C dX10_findMatch_315 (by decide) ?_
          refine ww_sub (lv' := [(0, .ref (ad x0)), (1, .int x1), (3, .int x3), (5, .int x5), (6, .int x6), (7, .int x7)]) [0, 1, 2, 3, 4, 5] rfl ?_
          exact (B_X10_findMatch_319 C HR HL hG ih) x0 x1 x3 x5 x6 x7 (1 : Int32) u3.2 Tx0 E
set_option maxHeartbeats 4000000 in
set_option maxRecDepth 100000 in
theorem B_X10_findMatch_227 (C : CX p s m args c cX10_findMatch 10 RX10 G A) (HR : meth.sig.returnType = (Option.none : Option Jvm.ClassFile.FieldType)) (HL : meth.locks = false) (hG : Good S) : ∀ k : Nat, ∀ (x0 : Nat) (x1 : Int32) (x3 : Int32) (x5 : Int32) (x6 : Int32) (dy : DY), gs S x0 = (0, 10) → (F_X10_findMatch_227 S N k) x0 x1 x3 x5 x6 dy = some dy' → WJ p l e (rmD (2)) s m args below meth c 10 G A 0 0 (MQ below (QV G ad A S dy') args s 0 0 A) ad 227 [(0, .ref (ad x0)), (1, .int x1), (3, .int x3), (5, .int x5), (6, .int x6)] [] S dy := by
  intro k
  induction k with
  | zero => exact fun _ _ _ _ _ _ _ E => nomatch (show none = some dy' from E)
  | succ k ih =>
    intro x0 x1 x3 x5 x6 dy Tx0 E
    rw [F_X10_findMatch_227_s] at E
    refine ww_iload C dX10_findMatch_227 4 rfl ?_
    refine ww_iload_n C dX10_findMatch_229 rfl 2 rfl ?_
    refine ww_icmp_ge (tgt := 386) C dX10_findMatch_230 (by decide) E (fun _ E => ?_) (fun _ E => ?_)
    · exact ww_vret C HR HL dX10_findMatch_386 E
    · refine ww_aload_n C dX10_findMatch_233 rfl 0 rfl ?_
      have T_1 : gs S (gr S x0 57) = (1, 6) := hG.1 _ 10 Tx0 57 (by decide)
      refine ww_getr (ci := 10) (k0 := 57) C dX10_findMatch_234 rfl rfl inm10 (by decide) Tx0 q1335 rfl T_1 (by decide) ?_
      refine ww_iload C dX10_findMatch_237 4 rfl ?_
      refine ww_iconst (v := (-1)) C dX10_findMatch_239 (by decide) ?_
      refine ww_iast C dX10_findMatch_240 T_1 E (fun _ E => ?_)
      refine ww_bd E (fun dy2 E => ?_)
      refine ww_aload_n C dX10_findMatch_241 rfl 0 rfl ?_
      have T_3 : gs S (gr S x0 15) = (1, 32) := hG.1 _ 10 Tx0 15 (by decide)
      refine ww_getr (ci := 10) (k0 := 15) C dX10_findMatch_242 rfl rfl inm10 (by decide) Tx0 q1293 rfl T_3 (by decide) ?_
      refine ww_iload_n C dX10_findMatch_245 rfl 1 rfl ?_
      refine ww_iconst (v := 1) C dX10_findMatch_246 (by decide) ?_
      refine ww_iadd C dX10_findMatch_247 ?_
      refine ww_iald C dX10_findMatch_248 T_3 E (fun _ E => ?_)
      refine ww_iconst (v := 1) C dX10_findMatch_249 (by decide) ?_
      refine ww_isub C dX10_findMatch_250 ?_
      refine ww_istore (lv' := [(7, .int ((gi dy2 (gr S x0 15) (x1 + (1 : Int32)).toNatClampNeg) - (1 : Int32))), (0, .ref (ad x0)), (1, .int x1), (3, .int x3), (5, .int x5), (6, .int x6)]) C dX10_findMatch_251 (by decide) rfl ?_
      refine ww_sub (lv' := [(0, .ref (ad x0)), (1, .int x1), (3, .int x3), (5, .int x5), (6, .int x6), (7, .int ((gi dy2 (gr S x0 15) (x1 + (1 : Int32)).toNatClampNeg) - (1 : Int32)))]) [1, 2, 3, 4, 5, 0] rfl ?_
      exact (B_X10_findMatch_253 C HR HL hG ih N) x0 x1 x3 x5 x6 ((gi dy2 (gr S x0 15) (x1 + (1 : Int32)).toNatClampNeg) - (1 : Int32)) dy2 Tx0 E
set_option maxHeartbeats 4000000 in
set_option maxRecDepth 100000 in
theorem B_X10_findMatch_59 (C : CX p s m args c cX10_findMatch 10 RX10 G A) (HR : meth.sig.returnType = (Option.none : Option Jvm.ClassFile.FieldType)) (HL : meth.locks = false) (hG : Good S) : ∀ k : Nat, ∀ (x0 : Nat) (x1 : Int32) (x2 : Int32) (x3 : Int32) (x4 : Int32) (x5 : Int32) (dy : DY), gs S x0 = (0, 10) → (F_X10_findMatch_59 S N k) x0 x1 x2 x3 x4 x5 dy = some dy' → WJ p l e (rmD (2)) s m args below meth c 10 G A 0 0 (MQ below (QV G ad A S dy') args s 0 0 A) ad 59 [(0, .ref (ad x0)), (1, .int x1), (2, .int x2), (3, .int x3), (4, .int x4), (5, .int x5)] [] S dy := by
  intro k
  induction k with
  | zero => exact fun _ _ _ _ _ _ _ _ E => nomatch (show none = some dy' from E)
  | succ k ih =>
    intro x0 x1 x2 x3 x4 x5 dy Tx0 E
    rw [F_X10_findMatch_59_s] at E
    refine ww_iload C dX10_findMatch_59 5 rfl ?_
    refine ww_if_lt (tgt := 205) C dX10_findMatch_61 (by decide) E (fun _ E => ?_) (fun _ E => ?_)
    · refine ww_aload_n C dX10_findMatch_205 rfl 0 rfl ?_
      refine ww_aload_n C dX10_findMatch_206 rfl 0 rfl ?_
      have T_1 : gs S (gr S x0 56) = (1, 448) := hG.1 _ 10 Tx0 56 (by decide)
      refine ww_getr (ci := 10) (k0 := 56) C dX10_findMatch_207 rfl rfl inm10 (by decide) Tx0 q1334 rfl T_1 (by decide) ?_
      refine ww_iload C dX10_findMatch_210 4 rfl ?_
      refine ww_iconst (v := 1) C dX10_findMatch_212 (by decide) ?_
      refine ww_isub C dX10_findMatch_213 ?_
      refine ww_iald C dX10_findMatch_214 T_1 E (fun _ E => ?_)
      refine ww_puti (ci := 10) (k0 := 58) C dX10_findMatch_215 rfl rfl inm10 tyX10_ok nmX10 (by decide) Tx0 q1336 rfl rfl rfl ?_
      refine ww_bd E (fun dy2 E => ?_)
      refine ww_iload C dX10_findMatch_218 4 rfl ?_
      refine ww_iconst (v := 1) C dX10_findMatch_220 (by decide) ?_
      refine ww_isub C dX10_findMatch_221 ?_
      refine ww_istore (lv' := [(5, .int (x4 - (1 : Int32))), (0, .ref (ad x0)), (1, .int x1), (2, .int x2), (3, .int x3), (4, .int x4)]) C dX10_findMatch_222 (by decide) rfl ?_
      refine ww_iconst (v := 0) C dX10_findMatch_224 (by decide) ?_
      refine ww_istore (lv' := [(6, .int (0 : Int32)), (5, .int (x4 - (1 : Int32))), (0, .ref (ad x0)), (1, .int x1), (2, .int x2), (3, .int x3), (4, .int x4)]) C dX10_findMatch_225 (by decide) rfl ?_
      refine ww_sub (lv' := [(0, .ref (ad x0)), (1, .int x1), (3, .int x3), (5, .int (x4 - (1 : Int32))), (6, .int (0 : Int32))]) [2, 3, 5, 1, 0] rfl ?_
      exact (B_X10_findMatch_227 C HR HL hG N) x0 x1 x3 (x4 - (1 : Int32)) (0 : Int32) dy2 Tx0 E
    · refine ww_iconst (v := 0) C dX10_findMatch_64 (by decide) ?_
      refine ww_istore (lv' := [(6, .int (0 : Int32)), (0, .ref (ad x0)), (1, .int x1), (2, .int x2), (3, .int x3), (4, .int x4), (5, .int x5)]) C dX10_findMatch_65 (by decide) rfl ?_
      refine ww_sub (lv' := [(0, .ref (ad x0)), (1, .int x1), (2, .int x2), (3, .int x3), (4, .int x4), (5, .int x5), (6, .int (0 : Int32))]) [1, 2, 3, 4, 5, 6, 0] rfl ?_
      exact (B_X10_findMatch_67 C HR HL hG ih N) x0 x1 x2 x3 x4 x5 (0 : Int32) dy Tx0 E
set_option maxHeartbeats 4000000 in
set_option maxRecDepth 100000 in
theorem B_X10_findMatch_22 (C : CX p s m args c cX10_findMatch 10 RX10 G A) (HR : meth.sig.returnType = (Option.none : Option Jvm.ClassFile.FieldType)) (HL : meth.locks = false) (hG : Good S) : ∀ k : Nat, ∀ (x0 : Nat) (x1 : Int32) (x2 : Int32) (x3 : Int32) (x4 : Int32) (x5 : Int32) (dy : DY), gs S x0 = (0, 10) → (F_X10_findMatch_22 S N k) x0 x1 x2 x3 x4 x5 dy = some dy' → WJ p l e (rmD (2)) s m args below meth c 10 G A 0 0 (MQ below (QV G ad A S dy') args s 0 0 A) ad 22 [(0, .ref (ad x0)), (1, .int x1), (2, .int x2), (3, .int x3), (4, .int x4), (5, .int x5)] [] S dy := by
  intro k
  induction k with
  | zero => exact fun _ _ _ _ _ _ _ _ E => nomatch (show none = some dy' from E)
  | succ k ih =>
    intro x0 x1 x2 x3 x4 x5 dy Tx0 E
    rw [F_X10_findMatch_22_s] at E
    refine ww_iload C dX10_findMatch_22 5 rfl ?_
    refine ww_iload C dX10_findMatch_24 4 rfl ?_
    refine ww_icmp_ge (tgt := 54) C dX10_findMatch_26 (by decide) E (fun _ E => ?_) (fun _ E => ?_)
    · refine ww_iload_n C dX10_findMatch_54 rfl 3 rfl ?_
      refine ww_iconst (v := 1) C dX10_findMatch_55 (by decide) ?_
      refine ww_isub C dX10_findMatch_56 ?_
      refine ww_istore (lv' := [(5, .int (x3 - (1 : Int32))), (0, .ref (ad x0)), (1, .int x1), (2, .int x2), (3, .int x3), (4, .int x4)]) C dX10_findMatch_57 (by decide) rfl ?_
      refine ww_sub (lv' := [(0, .ref (ad x0)), (1, .int x1), (2, .int x2), (3, .int x3), (4, .int x4), (5, .int (x3 - (1 : Int32)))]) [1, 2, 3, 4, 5, 0] rfl ?_
      exact (B_X10_findMatch_59 C HR HL hG N) x0 x1 x2 x3 x4 (x3 - (1 : Int32)) dy Tx0 E
    · refine ww_aload_n C dX10_findMatch_29 rfl 0 rfl ?_
      have T_1 : gs S (gr S x0 56) = (1, 448) := hG.1 _ 10 Tx0 56 (by decide)
      refine ww_getr (ci := 10) (k0 := 56) C dX10_findMatch_30 rfl rfl inm10 (by decide) Tx0 q1334 rfl T_1 (by decide) ?_
      refine ww_bipush (v := 64) C dX10_findMatch_33 (by decide) ?_
      refine ww_iload_n C dX10_findMatch_35 rfl 3 rfl ?_
      refine ww_imul C dX10_findMatch_36 ?_
      refine ww_iload C dX10_findMatch_37 5 rfl ?_
      refine ww_iadd C dX10_findMatch_39 ?_
      refine ww_iload_n C dX10_findMatch_40 rfl 2 rfl ?_
      refine ww_iload C dX10_findMatch_41 5 rfl ?_
      obtain ⟨u2, e_3, E⟩ := bind_of E
      refine ww_callI C (runs_S (n := 1) (st := [.int x2, .int (((64 : Int32) * x3) + x5), .ref (ad (gr S x0 56))]) C [.int x5] (M_X10_ones l G ad N hG x5 dy e_3) ⟨q1884, q118, by decide⟩ q1882 q1883 rfl (Nat.le_of_ble_eq_true rfl) ⟨Nat.le_of_ble_eq_true rfl, Nat.le_of_ble_eq_true rfl⟩ ⟨Nat.zero_le _, Nat.zero_le _⟩ dX10_findMatch_43 rfl) ?_
      refine ww_imul C dX10_findMatch_46 ?_
      refine ww_iast C dX10_findMatch_47 T_1 E (fun _ E => ?_)
      refine ww_bd E (fun dy4 E => ?_)
      refine ww_iinc (v := (x5 + (1 : Int32))) (lv' := [(5, .int (x5 + (1 : Int32))), (0, .ref (ad x0)), (1, .int x1), (2, .int x2), (3, .int x3), (4, .int x4)]) C dX10_findMatch_48 5 rfl rfl (by decide) rfl ?_
      refine ww_goto (tgt := 22) C dX10_findMatch_51 (by decide) ?_
      refine ww_sub (lv' := [(0, .ref (ad x0)), (1, .int x1), (2, .int x2), (3, .int x3), (4, .int x4), (5, .int (x5 + (1 : Int32)))]) [1, 2, 3, 4, 5, 0] rfl ?_
      exact ih x0 x1 x2 x3 x4 (x5 + (1 : Int32)) dy4 Tx0 E
end P_X10_findMatch
set_option maxHeartbeats 4000000 in
set_option maxRecDepth 100000 in
theorem M_X10_findMatch (l : Launch) (G : GG) (ad : Nat → Nat) {S : ST} (N : Nat) (hG : Good S) (a0 : Nat) (a1 : Int32) (a2 : Int32) (dy : DY) (T0 : gs S a0 = (0, 10)) {dy' : DY} (E : F_X10_findMatch S N a0 a1 a2 dy = some dy') : MC l yX10_findMatch cX10_findMatch 10 (Option.none : Option Jvm.ClassFile.FieldType) (2) G ad [.ref (ad a0), .int a1, .int a2] S dy (fun A => QV G ad A S dy') := by
  rw [F_X10_findMatch_s] at E
  refine mc_of RX10 (by decide) rfl (Nat.le_of_ble_eq_true rfl) (fun p e s m args below meth c A C HR HL => ?_)
  refine ww_sub (lv' := [(0, .ref (ad a0)), (1, .int a1), (2, .int a2)]) [0, 1, 2] rfl ?_
  refine ww_aload_n C dX10_findMatch_0 rfl 0 rfl ?_
  have T_1 : gs S (gr S a0 15) = (1, 32) := hG.1 _ 10 T0 15 (by decide)
  refine ww_getr (ci := 10) (k0 := 15) C dX10_findMatch_1 rfl rfl inm10 (by decide) T0 q1293 rfl T_1 (by decide) ?_
  refine ww_iload_n C dX10_findMatch_4 rfl 1 rfl ?_
  refine ww_iald C dX10_findMatch_5 T_1 E (fun _ E => ?_)
  refine ww_istore_n (lv' := [(3, .int (gi dy (gr S a0 15) a1.toNatClampNeg)), (0, .ref (ad a0)), (1, .int a1), (2, .int a2)]) C dX10_findMatch_6 rfl (by decide) rfl ?_
  refine ww_iconst (v := 1) C dX10_findMatch_7 (by decide) ?_
  refine ww_aload_n C dX10_findMatch_8 rfl 1 rfl ?_
  have T_2 : gs S (gr S a0 15) = (1, 32) := hG.1 _ 10 T0 15 (by decide)
  refine ww_getr (ci := 10) (k0 := 15) C dX10_findMatch_9 rfl rfl inm10 (by decide) T0 q1293 rfl T_2 (by decide) ?_
  refine ww_iload_n C dX10_findMatch_12 rfl 2 rfl ?_
  refine ww_iconst (v := 1) C dX10_findMatch_13 (by decide) ?_
  refine ww_iadd C dX10_findMatch_14 ?_
  refine ww_iald C dX10_findMatch_15 T_2 E (fun _ E => ?_)
  refine ww_ishl C dX10_findMatch_16 ?_
  refine ww_istore (lv' := [(4, .int ((1 : Int32) <<< ((gi dy (gr S a0 15) (a1 + (1 : Int32)).toNatClampNeg) &&& 31))), (3, .int (gi dy (gr S a0 15) a1.toNatClampNeg)), (0, .ref (ad a0)), (1, .int a1), (2, .int a2)]) C dX10_findMatch_17 (by decide) rfl ?_
  refine ww_iconst (v := 0) C dX10_findMatch_19 (by decide) ?_
  refine ww_istore (lv' := [(5, .int (0 : Int32)), (4, .int ((1 : Int32) <<< ((gi dy (gr S a0 15) (a1 + (1 : Int32)).toNatClampNeg) &&& 31))), (3, .int (gi dy (gr S a0 15) a1.toNatClampNeg)), (0, .ref (ad a0)), (1, .int a1), (2, .int a2)]) C dX10_findMatch_20 (by decide) rfl ?_
  refine ww_sub (lv' := [(0, .ref (ad a0)), (1, .int a1), (2, .int a2), (3, .int (gi dy (gr S a0 15) a1.toNatClampNeg)), (4, .int ((1 : Int32) <<< ((gi dy (gr S a0 15) (a1 + (1 : Int32)).toNatClampNeg) &&& 31))), (5, .int (0 : Int32))]) [3, 4, 5, 2, 1, 0] rfl ?_
  exact (B_X10_findMatch_22 C HR HL hG N) a0 a1 a2 (gi dy (gr S a0 15) a1.toNatClampNeg) ((1 : Int32) <<< ((gi dy (gr S a0 15) (a1 + (1 : Int32)).toNatClampNeg) &&& 31)) (0 : Int32) dy T0 E
section P_X10_layOver
variable {p : Program} {l : Launch} {e : Env} {s : State} {m : MethodId} {args : Array Value} {below : List Frame} {meth : Method} {c : Code} {G : GG} {A : Nat → Prop} {ad : Nat → Nat} {S : ST} {N : Nat} {dy' : DY}
set_option maxHeartbeats 4000000 in
set_option maxRecDepth 100000 in
theorem B_X10_layOver_2 (C : CX p s m args c cX10_layOver 4 RX10 G A) (HR : meth.sig.returnType = (Option.none : Option Jvm.ClassFile.FieldType)) (HL : meth.locks = false) (hG : Good S) : ∀ k : Nat, ∀ (x0 : Nat) (x1 : Int32) (x2 : Int32) (x3 : Int32) (dy : DY), gs S x0 = (0, 10) → (F_X10_layOver_2 S N k) x0 x1 x2 x3 dy = some dy' → WJ p l e (rmD (1)) s m args below meth c 4 G A 0 0 (MQ below (QV G ad A S dy') args s 0 0 A) ad 2 [(0, .ref (ad x0)), (1, .int x1), (2, .int x2), (3, .int x3)] [] S dy := by
  intro k
  induction k with
  | zero => exact fun _ _ _ _ _ _ E => nomatch (show none = some dy' from E)
  | succ k ih =>
    intro x0 x1 x2 x3 dy Tx0 E
    rw [F_X10_layOver_2_s] at E
    refine ww_iload_n C dX10_layOver_2 rfl 3 rfl ?_
    refine ww_sipush (v := 720) C dX10_layOver_3 (by decide) ?_
    refine ww_icmp_ge (tgt := 39) C dX10_layOver_6 (by decide) E (fun _ E => ?_) (fun _ E => ?_)
    · exact ww_vret C HR HL dX10_layOver_39 E
    · refine ww_aload_n C dX10_layOver_9 rfl 0 rfl ?_
      have T_1 : gs S (gr S x0 39) = (1, 10080) := hG.1 _ 10 Tx0 39 (by decide)
      refine ww_getr (ci := 10) (k0 := 39) C dX10_layOver_10 rfl rfl inm10 (by decide) Tx0 q1317 rfl T_1 (by decide) ?_
      refine ww_sipush (v := 720) C dX10_layOver_13 (by decide) ?_
      refine ww_iload_n C dX10_layOver_16 rfl 2 rfl ?_
      refine ww_imul C dX10_layOver_17 ?_
      refine ww_iload_n C dX10_layOver_18 rfl 3 rfl ?_
      refine ww_iadd C dX10_layOver_19 ?_
      refine ww_aload_n C dX10_layOver_20 rfl 0 rfl ?_
      have T_2 : gs S (gr S x0 39) = (1, 10080) := hG.1 _ 10 Tx0 39 (by decide)
      refine ww_getr (ci := 10) (k0 := 39) C dX10_layOver_21 rfl rfl inm10 (by decide) Tx0 q1317 rfl T_2 (by decide) ?_
      refine ww_sipush (v := 720) C dX10_layOver_24 (by decide) ?_
      refine ww_iload_n C dX10_layOver_27 rfl 1 rfl ?_
      refine ww_imul C dX10_layOver_28 ?_
      refine ww_iload_n C dX10_layOver_29 rfl 3 rfl ?_
      refine ww_iadd C dX10_layOver_30 ?_
      refine ww_iald C dX10_layOver_31 T_2 E (fun _ E => ?_)
      refine ww_iast C dX10_layOver_32 T_1 E (fun _ E => ?_)
      refine ww_bd E (fun dy3 E => ?_)
      refine ww_iinc (v := (x3 + (1 : Int32))) (lv' := [(3, .int (x3 + (1 : Int32))), (0, .ref (ad x0)), (1, .int x1), (2, .int x2)]) C dX10_layOver_33 3 rfl rfl (by decide) rfl ?_
      refine ww_goto (tgt := 2) C dX10_layOver_36 (by decide) ?_
      refine ww_sub (lv' := [(0, .ref (ad x0)), (1, .int x1), (2, .int x2), (3, .int (x3 + (1 : Int32)))]) [1, 2, 3, 0] rfl ?_
      exact ih x0 x1 x2 (x3 + (1 : Int32)) dy3 Tx0 E
end P_X10_layOver
set_option maxHeartbeats 4000000 in
set_option maxRecDepth 100000 in
theorem M_X10_layOver (l : Launch) (G : GG) (ad : Nat → Nat) {S : ST} (N : Nat) (hG : Good S) (a0 : Nat) (a1 : Int32) (a2 : Int32) (dy : DY) (T0 : gs S a0 = (0, 10)) {dy' : DY} (E : F_X10_layOver S N a0 a1 a2 dy = some dy') : MC l yX10_layOver cX10_layOver 4 (Option.none : Option Jvm.ClassFile.FieldType) (1) G ad [.ref (ad a0), .int a1, .int a2] S dy (fun A => QV G ad A S dy') := by
  rw [F_X10_layOver_s] at E
  refine mc_of RX10 (by decide) rfl (Nat.le_of_ble_eq_true rfl) (fun p e s m args below meth c A C HR HL => ?_)
  refine ww_sub (lv' := [(0, .ref (ad a0)), (1, .int a1), (2, .int a2)]) [0, 1, 2] rfl ?_
  refine ww_iconst (v := 0) C dX10_layOver_0 (by decide) ?_
  refine ww_istore_n (lv' := [(3, .int (0 : Int32)), (0, .ref (ad a0)), (1, .int a1), (2, .int a2)]) C dX10_layOver_1 rfl (by decide) rfl ?_
  refine ww_sub (lv' := [(0, .ref (ad a0)), (1, .int a1), (2, .int a2), (3, .int (0 : Int32))]) [1, 2, 3, 0] rfl ?_
  exact (B_X10_layOver_2 C HR HL hG N) a0 a1 a2 (0 : Int32) dy T0 E
section P_X10_findTwo
variable {p : Program} {l : Launch} {e : Env} {s : State} {m : MethodId} {args : Array Value} {below : List Frame} {meth : Method} {c : Code} {G : GG} {A : Nat → Prop} {ad : Nat → Nat} {S : ST} {N : Nat} {dy' : DY}
set_option maxHeartbeats 4000000 in
set_option maxRecDepth 100000 in
theorem B_X10_findTwo_99 (C : CX p s m args c cX10_findTwo 4 RX10 G A) (HR : meth.sig.returnType = (Option.none : Option Jvm.ClassFile.FieldType)) (HL : meth.locks = false) (hG : Good S) {K54 : Nat → Int32 → Int32 → DY → Option DY} (hK54 : ∀ (x0 : Nat) (x1 : Int32) (x2 : Int32) (dy : DY), gs S x0 = (0, 10) → K54 x0 x1 x2 dy = some dy' → WJ p l e (rmD (10)) s m args below meth c 4 G A 0 0 (MQ below (QV G ad A S dy') args s 0 0 A) ad 54 [(0, .ref (ad x0)), (1, .int x1), (2, .int x2)] [] S dy) : ∀ (x0 : Nat) (x1 : Int32) (x2 : Int32) (x3 : Int32) (y0 : Nat) (y1 : Int32) (y2 : Int32) (dy : DY), gs S x0 = (0, 10) → gs S y0 = (0, 10) → F_X10_findTwo_99 S N K54 x0 x1 x2 x3 y0 y1 y2 dy = some dy' → WJ p l e (rmD (10)) s m args below meth c 4 G A 0 0 (MQ below (QV G ad A S dy') args s 0 0 A) ad 99 [(0, .ref (ad x0)), (1, .int x1), (2, .int x2), (3, .int x3)] [.int y2, .int y1, .ref (ad y0)] S dy := by
  intro x0 x1 x2 x3 y0 y1 y2 dy Tx0 Ty0 E
  rw [F_X10_findTwo_99_s] at E
  refine ww_iadd C dX10_findTwo_99 ?_
  refine ww_puti (ci := 10) (k0 := 53) C dX10_findTwo_100 rfl rfl inm10 tyX10_ok nmX10 (by decide) Ty0 q1331 rfl rfl rfl ?_
  refine ww_bd E (fun dy1 E => ?_)
  refine ww_aload_n C dX10_findTwo_103 rfl 0 rfl ?_
  have T_2 : gs S (gr S x0 54) = (1, 9) := hG.1 _ 10 Tx0 54 (by decide)
  refine ww_getr (ci := 10) (k0 := 54) C dX10_findTwo_104 rfl rfl inm10 (by decide) Tx0 q1332 rfl T_2 (by decide) ?_
  refine ww_aload_n C dX10_findTwo_107 rfl 0 rfl ?_
  have T_3 : gs S (gr S x0 39) = (1, 10080) := hG.1 _ 10 Tx0 39 (by decide)
  refine ww_getr (ci := 10) (k0 := 39) C dX10_findTwo_108 rfl rfl inm10 (by decide) Tx0 q1317 rfl T_3 (by decide) ?_
  refine ww_iload_n C dX10_findTwo_111 rfl 3 rfl ?_
  refine ww_bipush (v := 8) C dX10_findTwo_112 (by decide) ?_
  refine ww_iadd C dX10_findTwo_114 ?_
  refine ww_iald C dX10_findTwo_115 T_3 E (fun _ E => ?_)
  refine ww_dup2 C dX10_findTwo_116 rfl rfl ?_
  refine ww_iald C dX10_findTwo_117 T_2 E (fun _ E => ?_)
  refine ww_aload_n C dX10_findTwo_118 rfl 0 rfl ?_
  have T_4 : gs S (gr S x0 52) = (1, 9) := hG.1 _ 10 Tx0 52 (by decide)
  refine ww_getr (ci := 10) (k0 := 52) C dX10_findTwo_119 rfl rfl inm10 (by decide) Tx0 q1330 rfl T_4 (by decide) ?_
  refine ww_iload_n C dX10_findTwo_122 rfl 2 rfl ?_
  refine ww_iald C dX10_findTwo_123 T_4 E (fun _ E => ?_)
  refine ww_iadd C dX10_findTwo_124 ?_
  refine ww_iast C dX10_findTwo_125 T_2 E (fun _ E => ?_)
  refine ww_bd E (fun dy5 E => ?_)
  refine ww_iinc (v := (x2 + (-1 : Int32))) (lv' := [(2, .int (x2 + (-1 : Int32))), (0, .ref (ad x0)), (1, .int x1), (3, .int x3)]) C dX10_findTwo_126 2 rfl rfl (by decide) rfl ?_
  refine ww_goto (tgt := 251) C dX10_findTwo_129 (by decide) ?_
  refine ww_goto (tgt := 54) C dX10_findTwo_251 (by decide) ?_
  refine ww_sub (lv' := [(0, .ref (ad x0)), (1, .int x1), (2, .int (x2 + (-1 : Int32)))]) [1, 2, 0] rfl ?_
  exact hK54 x0 x1 (x2 + (-1 : Int32)) dy5 Tx0 E
set_option maxHeartbeats 4000000 in
set_option maxRecDepth 100000 in
theorem B_X10_findTwo_54 (C : CX p s m args c cX10_findTwo 4 RX10 G A) (HR : meth.sig.returnType = (Option.none : Option Jvm.ClassFile.FieldType)) (HL : meth.locks = false) (hG : Good S) : ∀ k : Nat, ∀ (x0 : Nat) (x1 : Int32) (x2 : Int32) (dy : DY), gs S x0 = (0, 10) → (F_X10_findTwo_54 S N k) x0 x1 x2 dy = some dy' → WJ p l e (rmD (10)) s m args below meth c 4 G A 0 0 (MQ below (QV G ad A S dy') args s 0 0 A) ad 54 [(0, .ref (ad x0)), (1, .int x1), (2, .int x2)] [] S dy := by
  intro k
  induction k with
  | zero => exact fun _ _ _ _ _ E => nomatch (show none = some dy' from E)
  | succ k ih =>
    intro x0 x1 x2 dy Tx0 E
    rw [F_X10_findTwo_54_s] at E
    refine ww_iload_n C dX10_findTwo_54 rfl 2 rfl ?_
    refine ww_if_lt (tgt := 254) C dX10_findTwo_55 (by decide) E (fun _ E => ?_) (fun _ E => ?_)
    · refine ww_aload_n C dX10_findTwo_254 rfl 0 rfl ?_
      refine ww_iconst (v := 0) C dX10_findTwo_255 (by decide) ?_
      refine ww_putz (ci := 10) (k0 := 45) C dX10_findTwo_256 rfl rfl inm10 tyX10_ok nmX10 (by decide) Tx0 q1323 rfl rfl rfl (Or.inl rfl) ?_
      refine ww_bd E (fun dy1 E => ?_)
      exact ww_vret C HR HL dX10_findTwo_259 E
    · refine ww_sipush (v := 720) C dX10_findTwo_58 (by decide) ?_
      refine ww_iconst (v := 5) C dX10_findTwo_61 (by decide) ?_
      refine ww_iload_n C dX10_findTwo_62 rfl 2 rfl ?_
      refine ww_iadd C dX10_findTwo_63 ?_
      refine ww_imul C dX10_findTwo_64 ?_
      refine ww_istore_n (lv' := [(3, .int ((720 : Int32) * ((5 : Int32) + x2))), (0, .ref (ad x0)), (1, .int x1), (2, .int x2)]) C dX10_findTwo_65 rfl (by decide) rfl ?_
      refine ww_iload_n C dX10_findTwo_66 rfl 3 rfl ?_
      refine ww_iload_n C dX10_findTwo_67 rfl 2 rfl ?_
      refine ww_icmp_ne (tgt := 132) C dX10_findTwo_68 (by decide) E (fun _ E => ?_) (fun _ E => ?_)
      · refine ww_aload_n C dX10_findTwo_132 rfl 1 rfl ?_
        have T_2 : gs S (gr S x0 50) = (1, 9) := hG.1 _ 10 Tx0 50 (by decide)
        refine ww_getr (ci := 10) (k0 := 50) C dX10_findTwo_133 rfl rfl inm10 (by decide) Tx0 q1328 rfl T_2 (by decide) ?_
        refine ww_iload_n C dX10_findTwo_136 rfl 3 rfl ?_
        refine ww_iald C dX10_findTwo_137 T_2 E (fun _ E => ?_)
        refine ww_aload_n C dX10_findTwo_138 rfl 1 rfl ?_
        have T_3 : gs S (gr S x0 51) = (1, 9) := hG.1 _ 10 Tx0 51 (by decide)
        refine ww_getr (ci := 10) (k0 := 51) C dX10_findTwo_139 rfl rfl inm10 (by decide) Tx0 q1329 rfl T_3 (by decide) ?_
        refine ww_iload_n C dX10_findTwo_142 rfl 3 rfl ?_
        refine ww_iald C dX10_findTwo_143 T_3 E (fun _ E => ?_)
        refine ww_icmp_ne (tgt := 153) C dX10_findTwo_144 (by decide) E (fun _ E => ?_) (fun _ E => ?_)
        · refine ww_aload_n C dX10_findTwo_153 rfl 1 rfl ?_
          refine ww_iconst (v := 5) C dX10_findTwo_154 (by decide) ?_
          refine ww_iload_n C dX10_findTwo_155 rfl 3 rfl ?_
          refine ww_iadd C dX10_findTwo_156 ?_
          refine ww_iconst (v := 5) C dX10_findTwo_157 (by decide) ?_
          refine ww_iload_n C dX10_findTwo_158 rfl 3 rfl ?_
          refine ww_iadd C dX10_findTwo_159 ?_
          refine ww_iconst (v := 1) C dX10_findTwo_160 (by decide) ?_
          refine ww_iadd C dX10_findTwo_161 ?_
          obtain ⟨u4, e_5, E⟩ := bind_of E
          refine ww_callV C (runs_V (n := 2) (st := []) C [.int ((5 : Int32) + x2), .int (((5 : Int32) + x2) + (1 : Int32))] (M_X10_layOver l G ad N hG x0 ((5 : Int32) + x2) (((5 : Int32) + x2) + (1 : Int32)) dy Tx0 e_5) ⟨q1789, q118, by decide⟩ q1786 q1788 q94 (ci := 10) rfl Tx0 rfl (Nat.le_of_ble_eq_true rfl) ⟨Nat.le_of_ble_eq_true rfl, Nat.le_of_ble_eq_true rfl⟩ ⟨Nat.zero_le _, Nat.zero_le _⟩ dX10_findTwo_162 rfl) ?_
          refine ww_aload_n C dX10_findTwo_165 rfl 1 rfl ?_
          refine ww_aload_n C dX10_findTwo_166 rfl 1 rfl ?_
          have T_6 : gs S (gr S x0 50) = (1, 9) := hG.1 _ 10 Tx0 50 (by decide)
          refine ww_getr (ci := 10) (k0 := 50) C dX10_findTwo_167 rfl rfl inm10 (by decide) Tx0 q1328 rfl T_6 (by decide) ?_
          refine ww_iload_n C dX10_findTwo_170 rfl 3 rfl ?_
          refine ww_iald C dX10_findTwo_171 T_6 E (fun _ E => ?_)
          refine ww_puti (ci := 10) (k0 := 46) C dX10_findTwo_172 rfl rfl inm10 tyX10_ok nmX10 (by decide) Tx0 q1324 rfl rfl rfl ?_
          refine ww_bd E (fun dy7 E => ?_)
          refine ww_aload_n C dX10_findTwo_175 rfl 1 rfl ?_
          refine ww_iconst (v := 5) C dX10_findTwo_176 (by decide) ?_
          refine ww_iload_n C dX10_findTwo_177 rfl 3 rfl ?_
          refine ww_iadd C dX10_findTwo_178 ?_
          refine ww_iconst (v := 1) C dX10_findTwo_179 (by decide) ?_
          refine ww_iadd C dX10_findTwo_180 ?_
          obtain ⟨u8, e_9, E⟩ := bind_of E
          refine ww_callI C (runs_V (n := 1) (st := []) C [.int (((5 : Int32) + x2) + (1 : Int32))] (M_X10_step l G ad N hG x0 (((5 : Int32) + x2) + (1 : Int32)) dy7 Tx0 e_9) ⟨q1652, q118, by decide⟩ q1649 q1651 q67 (ci := 10) rfl Tx0 rfl (Nat.le_of_ble_eq_true rfl) ⟨Nat.le_of_ble_eq_true rfl, Nat.le_of_ble_eq_true rfl⟩ ⟨Nat.zero_le _, Nat.zero_le _⟩ dX10_findTwo_181 rfl) ?_
          refine ww_pop C dX10_findTwo_184 rfl ?_
          refine ww_aload_n C dX10_findTwo_185 rfl 1 rfl ?_
          have T_10 : gs S (gr S x0 51) = (1, 9) := hG.1 _ 10 Tx0 51 (by decide)
          refine ww_getr (ci := 10) (k0 := 51) C dX10_findTwo_186 rfl rfl inm10 (by decide) Tx0 q1329 rfl T_10 (by decide) ?_
          refine ww_iload_n C dX10_findTwo_189 rfl 3 rfl ?_
          refine ww_iconst (v := 1) C dX10_findTwo_190 (by decide) ?_
          refine ww_aload_n C dX10_findTwo_191 rfl 1 rfl ?_
          refine ww_geti (ci := 10) (k0 := 47) C dX10_findTwo_192 rfl rfl inm10 (by decide) Tx0 q1325 rfl ?_
          refine ww_ishl C dX10_findTwo_195 ?_
          refine ww_iast C dX10_findTwo_196 T_10 E (fun _ E => ?_)
          refine ww_bd E (fun dy11 E => ?_)
          refine ww_aload_n C dX10_findTwo_197 rfl 1 rfl ?_
          have T_12 : gs S (gr S x0 50) = (1, 9) := hG.1 _ 10 Tx0 50 (by decide)
          refine ww_getr (ci := 10) (k0 := 50) C dX10_findTwo_198 rfl rfl inm10 (by decide) Tx0 q1328 rfl T_12 (by decide) ?_
          refine ww_iload_n C dX10_findTwo_201 rfl 3 rfl ?_
          refine ww_dup2 C dX10_findTwo_202 rfl rfl ?_
          refine ww_iald C dX10_findTwo_203 T_12 E (fun _ E => ?_)
          refine ww_iconst (v := 1) C dX10_findTwo_204 (by decide) ?_
          refine ww_iadd C dX10_findTwo_205 ?_
          refine ww_iast C dX10_findTwo_206 T_12 E (fun _ E => ?_)
          refine ww_bd E (fun dy13 E => ?_)
          refine ww_aload_n C dX10_findTwo_207 rfl 1 rfl ?_
          have T_14 : gs S (gr S x0 52) = (1, 9) := hG.1 _ 10 Tx0 52 (by decide)
          refine ww_getr (ci := 10) (k0 := 52) C dX10_findTwo_208 rfl rfl inm10 (by decide) Tx0 q1330 rfl T_14 (by decide) ?_
          refine ww_iload_n C dX10_findTwo_211 rfl 3 rfl ?_
          refine ww_iconst (v := 1) C dX10_findTwo_212 (by decide) ?_
          refine ww_iadd C dX10_findTwo_213 ?_
          refine ww_aload_n C dX10_findTwo_214 rfl 1 rfl ?_
          have T_15 : gs S (gr S x0 52) = (1, 9) := hG.1 _ 10 Tx0 52 (by decide)
          refine ww_getr (ci := 10) (k0 := 52) C dX10_findTwo_215 rfl rfl inm10 (by decide) Tx0 q1330 rfl T_15 (by decide) ?_
          refine ww_iload_n C dX10_findTwo_218 rfl 3 rfl ?_
          refine ww_iald C dX10_findTwo_219 T_15 E (fun _ E => ?_)
          refine ww_iconst (v := 4) C dX10_findTwo_220 (by decide) ?_
          refine ww_imul C dX10_findTwo_221 ?_
          refine ww_aload_n C dX10_findTwo_222 rfl 1 rfl ?_
          have T_16 : gs S (gr S x0 51) = (1, 9) := hG.1 _ 10 Tx0 51 (by decide)
          refine ww_getr (ci := 10) (k0 := 51) C dX10_findTwo_223 rfl rfl inm10 (by decide) Tx0 q1329 rfl T_16 (by decide) ?_
          refine ww_iload_n C dX10_findTwo_226 rfl 3 rfl ?_
          refine ww_iald C dX10_findTwo_227 T_16 E (fun _ E => ?_)
          refine ww_idiv C dX10_findTwo_228 E (fun _ E => ?_)
          refine ww_iast C dX10_findTwo_229 T_14 E (fun _ E => ?_)
          refine ww_bd E (fun dy17 E => ?_)
          refine ww_aload_n C dX10_findTwo_230 rfl 1 rfl ?_
          have T_18 : gs S (gr S x0 50) = (1, 9) := hG.1 _ 10 Tx0 50 (by decide)
          refine ww_getr (ci := 10) (k0 := 50) C dX10_findTwo_231 rfl rfl inm10 (by decide) Tx0 q1328 rfl T_18 (by decide) ?_
          refine ww_iload_n C dX10_findTwo_234 rfl 3 rfl ?_
          refine ww_iconst (v := 1) C dX10_findTwo_235 (by decide) ?_
          refine ww_iadd C dX10_findTwo_236 ?_
          refine ww_iconst (v := 0) C dX10_findTwo_237 (by decide) ?_
          refine ww_iast C dX10_findTwo_238 T_18 E (fun _ E => ?_)
          refine ww_bd E (fun dy19 E => ?_)
          refine ww_aload_n C dX10_findTwo_239 rfl 1 rfl ?_
          have T_20 : gs S (gr S x0 51) = (1, 9) := hG.1 _ 10 Tx0 51 (by decide)
          refine ww_getr (ci := 10) (k0 := 51) C dX10_findTwo_240 rfl rfl inm10 (by decide) Tx0 q1329 rfl T_20 (by decide) ?_
          refine ww_iload_n C dX10_findTwo_243 rfl 3 rfl ?_
          refine ww_iconst (v := 1) C dX10_findTwo_244 (by decide) ?_
          refine ww_iadd C dX10_findTwo_245 ?_
          refine ww_iconst (v := 1) C dX10_findTwo_246 (by decide) ?_
          refine ww_iast C dX10_findTwo_247 T_20 E (fun _ E => ?_)
          refine ww_bd E (fun dy21 E => ?_)
          refine ww_iinc (v := (x2 + (1 : Int32))) (lv' := [(2, .int (x2 + (1 : Int32))), (3, .int ((720 : Int32) * ((5 : Int32) + x2))), (0, .ref (ad x0)), (1, .int x1)]) C dX10_findTwo_248 3 rfl rfl (by decide) rfl ?_
          refine ww_goto (tgt := 54) C dX10_findTwo_251 (by decide) ?_
          refine ww_sub (lv' := [(0, .ref (ad x0)), (1, .int x1), (2, .int (x2 + (1 : Int32)))]) [2, 3, 0] rfl ?_
          exact ih x0 x1 (x2 + (1 : Int32)) dy21 Tx0 E
        · refine ww_iinc (v := (x2 + (-1 : Int32))) (lv' := [(2, .int (x2 + (-1 : Int32))), (3, .int ((720 : Int32) * ((5 : Int32) + x2))), (0, .ref (ad x0)), (1, .int x1)]) C dX10_findTwo_147 3 rfl rfl (by decide) rfl ?_
          refine ww_goto (tgt := 251) C dX10_findTwo_150 (by decide) ?_
          refine ww_goto (tgt := 54) C dX10_findTwo_251 (by decide) ?_
          refine ww_sub (lv' := [(0, .ref (ad x0)), (1, .int x1), (2, .int (x2 + (-1 : Int32)))]) [2, 3, 0] rfl ?_
          exact ih x0 x1 (x2 + (-1 : Int32)) dy Tx0 E
      · refine ww_aload_n C dX10_findTwo_71 rfl 1 rfl ?_
        refine ww_dup C dX10_findTwo_72 rfl ?_
        refine ww_geti (ci := 10) (k0 := 53) C dX10_findTwo_73 rfl rfl inm10 (by decide) Tx0 q1331 rfl ?_
        refine ww_aload_n C dX10_findTwo_76 rfl 1 rfl ?_
        have T_22 : gs S (gr S x0 39) = (1, 10080) := hG.1 _ 10 Tx0 39 (by decide)
        refine ww_getr (ci := 10) (k0 := 39) C dX10_findTwo_77 rfl rfl inm10 (by decide) Tx0 q1317 rfl T_22 (by decide) ?_
        refine ww_iload_n C dX10_findTwo_80 rfl 0 rfl ?_
        refine ww_bipush (v := 6) C dX10_findTwo_81 (by decide) ?_
        refine ww_iadd C dX10_findTwo_83 ?_
        refine ww_iald C dX10_findTwo_84 T_22 E (fun _ E => ?_)
        refine ww_iconst (v := 2) C dX10_findTwo_85 (by decide) ?_
        refine ww_icmp_ne (tgt := 98) C dX10_findTwo_86 (by decide) E (fun _ E => ?_) (fun _ E => ?_)
        · refine ww_iconst (v := 0) C dX10_findTwo_98 (by decide) ?_
          refine ww_sub (lv' := [(0, .ref (ad x0)), (1, .int x1), (2, .int x2), (3, .int ((720 : Int32) * ((5 : Int32) + x2)))]) [1, 2, 3, 0] rfl ?_
          exact (B_X10_findTwo_99 C HR HL hG ih) x0 x1 x2 ((720 : Int32) * ((5 : Int32) + x2)) x0 (gi dy x0 53) (0 : Int32) dy Tx0 Tx0 E
        · refine ww_aload_n C dX10_findTwo_89 rfl 1 rfl ?_
          have T_23 : gs S (gr S x0 52) = (1, 9) := hG.1 _ 10 Tx0 52 (by decide)
          refine ww_getr (ci := 10) (k0 := 52) C dX10_findTwo_90 rfl rfl inm10 (by decide) Tx0 q1330 rfl T_23 (by decide) ?_
          refine ww_iload_n C dX10_findTwo_93 rfl 3 rfl ?_
          refine ww_iald C dX10_findTwo_94 T_23 E (fun _ E => ?_)
          refine ww_goto (tgt := 99) C dX10_findTwo_95 (by decide) ?_
          refine ww_sub (lv' := [(0, .ref (ad x0)), (1, .int x1), (2, .int x2), (3, .int ((720 : Int32) * ((5 : Int32) + x2)))]) [1, 2, 3, 0] rfl ?_
          exact (B_X10_findTwo_99 C HR HL hG ih) x0 x1 x2 ((720 : Int32) * ((5 : Int32) + x2)) x0 (gi dy x0 53) (gi dy (gr S x0 52) x2.toNatClampNeg) dy Tx0 Tx0 E
set_option maxHeartbeats 4000000 in
set_option maxRecDepth 100000 in
theorem B_X10_findTwo_7 (C : CX p s m args c cX10_findTwo 4 RX10 G A) (HR : meth.sig.returnType = (Option.none : Option Jvm.ClassFile.FieldType)) (HL : meth.locks = false) (hG : Good S) : ∀ k : Nat, ∀ (x0 : Nat) (x1 : Int32) (x2 : Int32) (dy : DY), gs S x0 = (0, 10) → (F_X10_findTwo_7 S N k) x0 x1 x2 dy = some dy' → WJ p l e (rmD (10)) s m args below meth c 4 G A 0 0 (MQ below (QV G ad A S dy') args s 0 0 A) ad 7 [(0, .ref (ad x0)), (1, .int x1), (2, .int x2)] [] S dy := by
  intro k
  induction k with
  | zero => exact fun _ _ _ _ _ E => nomatch (show none = some dy' from E)
  | succ k ih =>
    intro x0 x1 x2 dy Tx0 E
    rw [F_X10_findTwo_7_s] at E
    refine ww_iload_n C dX10_findTwo_7 rfl 2 rfl ?_
    refine ww_bipush (v := 9) C dX10_findTwo_8 (by decide) ?_
    refine ww_icmp_ge (tgt := 26) C dX10_findTwo_10 (by decide) E (fun _ E => ?_) (fun _ E => ?_)
    · refine ww_aload_n C dX10_findTwo_26 rfl 0 rfl ?_
      refine ww_iconst (v := 1) C dX10_findTwo_27 (by decide) ?_
      refine ww_putz (ci := 10) (k0 := 45) C dX10_findTwo_28 rfl rfl inm10 tyX10_ok nmX10 (by decide) Tx0 q1323 rfl rfl rfl (Or.inr rfl) ?_
      refine ww_bd E (fun dy1 E => ?_)
      refine ww_iconst (v := 0) C dX10_findTwo_31 (by decide) ?_
      refine ww_istore_n (lv' := [(2, .int (0 : Int32)), (0, .ref (ad x0)), (1, .int x1)]) C dX10_findTwo_32 rfl (by decide) rfl ?_
      refine ww_aload_n C dX10_findTwo_33 rfl 1 rfl ?_
      have T_2 : gs S (gr S x0 52) = (1, 9) := hG.1 _ 10 Tx0 52 (by decide)
      refine ww_getr (ci := 10) (k0 := 52) C dX10_findTwo_34 rfl rfl inm10 (by decide) Tx0 q1330 rfl T_2 (by decide) ?_
      refine ww_iconst (v := 0) C dX10_findTwo_37 (by decide) ?_
      refine ww_iconst (v := 1) C dX10_findTwo_38 (by decide) ?_
      refine ww_iast C dX10_findTwo_39 T_2 E (fun _ E => ?_)
      refine ww_bd E (fun dy3 E => ?_)
      refine ww_aload_n C dX10_findTwo_40 rfl 1 rfl ?_
      have T_4 : gs S (gr S x0 50) = (1, 9) := hG.1 _ 10 Tx0 50 (by decide)
      refine ww_getr (ci := 10) (k0 := 50) C dX10_findTwo_41 rfl rfl inm10 (by decide) Tx0 q1328 rfl T_4 (by decide) ?_
      refine ww_iconst (v := 0) C dX10_findTwo_44 (by decide) ?_
      refine ww_iconst (v := 0) C dX10_findTwo_45 (by decide) ?_
      refine ww_iast C dX10_findTwo_46 T_4 E (fun _ E => ?_)
      refine ww_bd E (fun dy5 E => ?_)
      refine ww_aload_n C dX10_findTwo_47 rfl 1 rfl ?_
      have T_6 : gs S (gr S x0 51) = (1, 9) := hG.1 _ 10 Tx0 51 (by decide)
      refine ww_getr (ci := 10) (k0 := 51) C dX10_findTwo_48 rfl rfl inm10 (by decide) Tx0 q1329 rfl T_6 (by decide) ?_
      refine ww_iconst (v := 0) C dX10_findTwo_51 (by decide) ?_
      refine ww_iconst (v := 1) C dX10_findTwo_52 (by decide) ?_
      refine ww_iast C dX10_findTwo_53 T_6 E (fun _ E => ?_)
      refine ww_bd E (fun dy7 E => ?_)
      refine ww_sub (lv' := [(0, .ref (ad x0)), (1, .int x1), (2, .int (0 : Int32))]) [1, 2, 0] rfl ?_
      exact (B_X10_findTwo_54 C HR HL hG N) x0 x1 (0 : Int32) dy7 Tx0 E
    · refine ww_aload_n C dX10_findTwo_13 rfl 0 rfl ?_
      have T_8 : gs S (gr S x0 54) = (1, 9) := hG.1 _ 10 Tx0 54 (by decide)
      refine ww_getr (ci := 10) (k0 := 54) C dX10_findTwo_14 rfl rfl inm10 (by decide) Tx0 q1332 rfl T_8 (by decide) ?_
      refine ww_iload_n C dX10_findTwo_17 rfl 2 rfl ?_
      refine ww_iconst (v := 0) C dX10_findTwo_18 (by decide) ?_
      refine ww_iast C dX10_findTwo_19 T_8 E (fun _ E => ?_)
      refine ww_bd E (fun dy9 E => ?_)
      refine ww_iinc (v := (x2 + (1 : Int32))) (lv' := [(2, .int (x2 + (1 : Int32))), (0, .ref (ad x0)), (1, .int x1)]) C dX10_findTwo_20 2 rfl rfl (by decide) rfl ?_
      refine ww_goto (tgt := 7) C dX10_findTwo_23 (by decide) ?_
      refine ww_sub (lv' := [(0, .ref (ad x0)), (1, .int x1), (2, .int (x2 + (1 : Int32)))]) [1, 2, 0] rfl ?_
      exact ih x0 x1 (x2 + (1 : Int32)) dy9 Tx0 E
end P_X10_findTwo
set_option maxHeartbeats 4000000 in
set_option maxRecDepth 100000 in
theorem M_X10_findTwo (l : Launch) (G : GG) (ad : Nat → Nat) {S : ST} (N : Nat) (hG : Good S) (a0 : Nat) (a1 : Int32) (dy : DY) (T0 : gs S a0 = (0, 10)) {dy' : DY} (E : F_X10_findTwo S N a0 a1 dy = some dy') : MC l yX10_findTwo cX10_findTwo 4 (Option.none : Option Jvm.ClassFile.FieldType) (10) G ad [.ref (ad a0), .int a1] S dy (fun A => QV G ad A S dy') := by
  rw [F_X10_findTwo_s] at E
  refine mc_of RX10 (by decide) rfl (Nat.le_of_ble_eq_true rfl) (fun p e s m args below meth c A C HR HL => ?_)
  refine ww_sub (lv' := [(0, .ref (ad a0)), (1, .int a1)]) [0, 1] rfl ?_
  refine ww_aload_n C dX10_findTwo_0 rfl 0 rfl ?_
  refine ww_iconst (v := 0) C dX10_findTwo_1 (by decide) ?_
  refine ww_puti (ci := 10) (k0 := 53) C dX10_findTwo_2 rfl rfl inm10 tyX10_ok nmX10 (by decide) T0 q1331 rfl rfl rfl ?_
  refine ww_bd E (fun dy1 E => ?_)
  refine ww_iconst (v := 0) C dX10_findTwo_5 (by decide) ?_
  refine ww_istore_n (lv' := [(2, .int (0 : Int32)), (0, .ref (ad a0)), (1, .int a1)]) C dX10_findTwo_6 rfl (by decide) rfl ?_
  refine ww_sub (lv' := [(0, .ref (ad a0)), (1, .int a1), (2, .int (0 : Int32))]) [1, 2, 0] rfl ?_
  exact (B_X10_findTwo_7 C HR HL hG N) a0 a1 (0 : Int32) dy1 T0 E
section P_X10_finds
variable {p : Program} {l : Launch} {e : Env} {s : State} {m : MethodId} {args : Array Value} {below : List Frame} {meth : Method} {c : Code} {G : GG} {A : Nat → Prop} {ad : Nat → Nat} {S : ST} {N : Nat} {r : Int32} {dy' : DY}
end P_X10_finds
set_option maxHeartbeats 4000000 in
set_option maxRecDepth 100000 in
theorem M_X10_finds (l : Launch) (G : GG) (ad : Nat → Nat) {S : ST} (N : Nat) (hG : Good S) (a0 : Nat) (a1 : Int32) (a2 : Int32) (dy : DY) (T0 : gs S a0 = (0, 10)) {r : Int32} {dy' : DY} (E : F_X10_finds S N a0 a1 a2 dy = some (r, dy')) : MC l yX10_finds cX10_finds 3 (Option.some Jvm.ClassFile.FieldType.int) (6) G ad [.ref (ad a0), .int a1, .int a2] S dy (fun A => QI G ad A S r dy') := by
  rw [F_X10_finds_s] at E
  refine mc_of RX10 (by decide) rfl (Nat.le_of_ble_eq_true rfl) (fun p e s m args below meth c A C HR HL => ?_)
  refine ww_sub (lv' := [(0, .ref (ad a0)), (1, .int a1), (2, .int a2)]) [0, 1, 2] rfl ?_
  refine ww_aload_n C dX10_finds_0 rfl 0 rfl ?_
  refine ww_iconst (v := 0) C dX10_finds_1 (by decide) ?_
  refine ww_puti (ci := 10) (k0 := 0) C dX10_finds_2 rfl rfl inm10 tyX10_ok nmX10 (by decide) T0 q1278 rfl rfl rfl ?_
  refine ww_bd E (fun dy1 E => ?_)
  refine ww_aload_n C dX10_finds_5 rfl 0 rfl ?_
  refine ww_iload_n C dX10_finds_6 rfl 1 rfl ?_
  obtain ⟨u2, e_3, E⟩ := bind_of E
  refine ww_callI C (runs_V (n := 1) (st := []) C [.int a1] (M_X10_isRunner l G ad N hG a0 a1 dy1 T0 e_3) ⟨q1749, q118, by decide⟩ q1746 q1748 q90 (ci := 10) rfl T0 rfl (Nat.le_of_ble_eq_true rfl) ⟨Nat.le_of_ble_eq_true rfl, Nat.le_of_ble_eq_true rfl⟩ ⟨Nat.zero_le _, Nat.zero_le _⟩ dX10_finds_7 rfl) ?_
  refine ww_if_eq (tgt := 32) C dX10_finds_10 (by decide) E (fun _ E => ?_) (fun _ E => ?_)
  · refine ww_bipush (v := (-2)) C dX10_finds_32 (by decide) ?_
    exact ww_iret C HR HL dX10_finds_34 E
  · refine ww_aload_n C dX10_finds_13 rfl 0 rfl ?_
    refine ww_iconst (v := 0) C dX10_finds_14 (by decide) ?_
    refine ww_iload_n C dX10_finds_15 rfl 1 rfl ?_
    obtain ⟨u4, e_5, E⟩ := bind_of E
    refine ww_callI C (runs_V (n := 2) (st := []) C [.int (0 : Int32), .int a1] (M_X10_isThere l G ad N hG a0 (0 : Int32) a1 u2.2 T0 e_5) ⟨q1660, q118, by decide⟩ q1657 q1659 q69 (ci := 10) rfl T0 rfl (Nat.le_of_ble_eq_true rfl) ⟨Nat.le_of_ble_eq_true rfl, Nat.le_of_ble_eq_true rfl⟩ ⟨Nat.zero_le _, Nat.zero_le _⟩ dX10_finds_16 rfl) ?_
    refine ww_if_eq (tgt := 32) C dX10_finds_19 (by decide) E (fun _ E => ?_) (fun _ E => ?_)
    · refine ww_bipush (v := (-2)) C dX10_finds_32 (by decide) ?_
      exact ww_iret C HR HL dX10_finds_34 E
    · refine ww_iload_n C dX10_finds_22 rfl 2 rfl ?_
      refine ww_iconst (v := 0) C dX10_finds_23 (by decide) ?_
      refine ww_bipush (v := 10) C dX10_finds_24 (by decide) ?_
      obtain ⟨u6, e_7, E⟩ := bind_of E
      refine ww_callI C (runs_S (n := 3) (st := []) C [.int a2, .int (0 : Int32), .int (10 : Int32)] (M_X10_in l G ad N hG a2 (0 : Int32) (10 : Int32) u4.2 e_7) ⟨q1476, q118, by decide⟩ q1474 q1475 rfl (Nat.le_of_ble_eq_true rfl) ⟨Nat.le_of_ble_eq_true rfl, Nat.le_of_ble_eq_true rfl⟩ ⟨Nat.zero_le _, Nat.zero_le _⟩ dX10_finds_26 rfl) ?_
      refine ww_if_ne (tgt := 35) C dX10_finds_29 (by decide) E (fun _ E => ?_) (fun _ E => ?_)
      · refine ww_aload_n C dX10_finds_35 rfl 0 rfl ?_
        refine ww_iconst (v := 0) C dX10_finds_36 (by decide) ?_
        refine ww_iload_n C dX10_finds_37 rfl 1 rfl ?_
        obtain ⟨u8, e_9, E⟩ := bind_of E
        refine ww_callV C (runs_V (n := 2) (st := []) C [.int (0 : Int32), .int a1] (M_X10_look l G ad N hG a0 (0 : Int32) a1 u6.2 T0 e_9) ⟨q1668, q118, by decide⟩ q1665 q1667 q71 (ci := 10) rfl T0 rfl (Nat.le_of_ble_eq_true rfl) ⟨Nat.le_of_ble_eq_true rfl, Nat.le_of_ble_eq_true rfl⟩ ⟨Nat.zero_le _, Nat.zero_le _⟩ dX10_finds_38 rfl) ?_
        refine ww_aload_n C dX10_finds_41 rfl 0 rfl ?_
        refine ww_iconst (v := 0) C dX10_finds_42 (by decide) ?_
        refine ww_iload_n C dX10_finds_43 rfl 1 rfl ?_
        refine ww_iload_n C dX10_finds_44 rfl 2 rfl ?_
        obtain ⟨u10, e_11, E⟩ := bind_of E
        refine ww_callI C (runs_V (n := 3) (st := []) C [.int (0 : Int32), .int a1, .int a2] (M_X10_found l G ad N hG a0 (0 : Int32) a1 a2 u8 T0 e_11) ⟨q1676, q118, by decide⟩ q1673 q1675 q73 (ci := 10) rfl T0 rfl (Nat.le_of_ble_eq_true rfl) ⟨Nat.le_of_ble_eq_true rfl, Nat.le_of_ble_eq_true rfl⟩ ⟨Nat.zero_le _, Nat.zero_le _⟩ dX10_finds_45 rfl) ?_
        exact ww_iret C HR HL dX10_finds_48 E
      · refine ww_bipush (v := (-2)) C dX10_finds_32 (by decide) ?_
        exact ww_iret C HR HL dX10_finds_34 E
section P_X10_hasHat
variable {p : Program} {l : Launch} {e : Env} {s : State} {m : MethodId} {args : Array Value} {below : List Frame} {meth : Method} {c : Code} {G : GG} {A : Nat → Prop} {ad : Nat → Nat} {S : ST} {N : Nat} {r : Int32} {dy' : DY}
set_option maxHeartbeats 4000000 in
set_option maxRecDepth 100000 in
theorem B_X10_hasHat_6 (C : CX p s m args c cX10_hasHat 5 RX10 G A) (HR : meth.sig.returnType = (Option.some Jvm.ClassFile.FieldType.boolean)) (HL : meth.locks = false) (hG : Good S) : ∀ k : Nat, ∀ (x0 : Nat) (x1 : Int32) (x2 : Int32) (x3 : Int32) (x4 : Int32) (dy : DY), gs S x0 = (0, 10) → (F_X10_hasHat_6 S N k) x0 x1 x2 x3 x4 dy = some (r, dy') → WJ p l e (rmD (1)) s m args below meth c 5 G A 0 0 (MQ below (QI G ad A S r dy') args s 0 0 A) ad 6 [(0, .ref (ad x0)), (1, .int x1), (2, .int x2), (3, .int x3), (4, .int x4)] [] S dy := by
  intro k
  induction k with
  | zero => exact fun _ _ _ _ _ _ _ E => nomatch (show none = some (r, dy') from E)
  | succ k ih =>
    intro x0 x1 x2 x3 x4 dy Tx0 E
    rw [F_X10_hasHat_6_s] at E
    refine ww_iload C dX10_hasHat_6 4 rfl ?_
    refine ww_bipush (v := 6) C dX10_hasHat_8 (by decide) ?_
    refine ww_iload_n C dX10_hasHat_10 rfl 1 rfl ?_
    refine ww_imul C dX10_hasHat_11 ?_
    refine ww_aload_n C dX10_hasHat_12 rfl 0 rfl ?_
    have T_1 : gs S (gr S x0 15) = (1, 32) := hG.1 _ 10 Tx0 15 (by decide)
    refine ww_getr (ci := 10) (k0 := 15) C dX10_hasHat_13 rfl rfl inm10 (by decide) Tx0 q1293 rfl T_1 (by decide) ?_
    refine ww_iload_n C dX10_hasHat_16 rfl 1 rfl ?_
    refine ww_iald C dX10_hasHat_17 T_1 E (fun _ E => ?_)
    refine ww_iadd C dX10_hasHat_18 ?_
    refine ww_icmp_ge (tgt := 52) C dX10_hasHat_19 (by decide) E (fun _ E => ?_) (fun _ E => ?_)
    · refine ww_iconst (v := 0) C dX10_hasHat_52 (by decide) ?_
      exact ww_zret C HR HL dX10_hasHat_53 (Or.inl rfl) E
    · refine ww_aload_n C dX10_hasHat_22 rfl 0 rfl ?_
      have T_2 : gs S (gr S x0 16) = (1, 192) := hG.1 _ 10 Tx0 16 (by decide)
      refine ww_getr (ci := 10) (k0 := 16) C dX10_hasHat_23 rfl rfl inm10 (by decide) Tx0 q1294 rfl T_2 (by decide) ?_
      refine ww_iload C dX10_hasHat_26 4 rfl ?_
      refine ww_iald C dX10_hasHat_28 T_2 E (fun _ E => ?_)
      refine ww_iload_n C dX10_hasHat_29 rfl 2 rfl ?_
      refine ww_icmp_ne (tgt := 46) C dX10_hasHat_30 (by decide) E (fun _ E => ?_) (fun _ E => ?_)
      · refine ww_iinc (v := (x4 + (1 : Int32))) (lv' := [(4, .int (x4 + (1 : Int32))), (0, .ref (ad x0)), (1, .int x1), (2, .int x2), (3, .int x3)]) C dX10_hasHat_46 4 rfl rfl (by decide) rfl ?_
        refine ww_goto (tgt := 6) C dX10_hasHat_49 (by decide) ?_
        refine ww_sub (lv' := [(0, .ref (ad x0)), (1, .int x1), (2, .int x2), (3, .int x3), (4, .int (x4 + (1 : Int32)))]) [1, 2, 3, 4, 0] rfl ?_
        exact ih x0 x1 x2 x3 (x4 + (1 : Int32)) dy Tx0 E
      · refine ww_aload_n C dX10_hasHat_33 rfl 0 rfl ?_
        have T_3 : gs S (gr S x0 17) = (1, 192) := hG.1 _ 10 Tx0 17 (by decide)
        refine ww_getr (ci := 10) (k0 := 17) C dX10_hasHat_34 rfl rfl inm10 (by decide) Tx0 q1295 rfl T_3 (by decide) ?_
        refine ww_iload C dX10_hasHat_37 4 rfl ?_
        refine ww_iald C dX10_hasHat_39 T_3 E (fun _ E => ?_)
        refine ww_iload_n C dX10_hasHat_40 rfl 3 rfl ?_
        refine ww_icmp_ne (tgt := 46) C dX10_hasHat_41 (by decide) E (fun _ E => ?_) (fun _ E => ?_)
        · refine ww_iinc (v := (x4 + (1 : Int32))) (lv' := [(4, .int (x4 + (1 : Int32))), (0, .ref (ad x0)), (1, .int x1), (2, .int x2), (3, .int x3)]) C dX10_hasHat_46 4 rfl rfl (by decide) rfl ?_
          refine ww_goto (tgt := 6) C dX10_hasHat_49 (by decide) ?_
          refine ww_sub (lv' := [(0, .ref (ad x0)), (1, .int x1), (2, .int x2), (3, .int x3), (4, .int (x4 + (1 : Int32)))]) [1, 2, 3, 4, 0] rfl ?_
          exact ih x0 x1 x2 x3 (x4 + (1 : Int32)) dy Tx0 E
        · refine ww_iconst (v := 1) C dX10_hasHat_44 (by decide) ?_
          exact ww_zret C HR HL dX10_hasHat_45 (Or.inr rfl) E
end P_X10_hasHat
set_option maxHeartbeats 4000000 in
set_option maxRecDepth 100000 in
theorem M_X10_hasHat (l : Launch) (G : GG) (ad : Nat → Nat) {S : ST} (N : Nat) (hG : Good S) (a0 : Nat) (a1 : Int32) (a2 : Int32) (a3 : Int32) (dy : DY) (T0 : gs S a0 = (0, 10)) {r : Int32} {dy' : DY} (E : F_X10_hasHat S N a0 a1 a2 a3 dy = some (r, dy')) : MC l yX10_hasHat cX10_hasHat 5 (Option.some Jvm.ClassFile.FieldType.boolean) (1) G ad [.ref (ad a0), .int a1, .int a2, .int a3] S dy (fun A => QI G ad A S r dy') := by
  rw [F_X10_hasHat_s] at E
  refine mc_of RX10 (by decide) rfl (Nat.le_of_ble_eq_true rfl) (fun p e s m args below meth c A C HR HL => ?_)
  refine ww_sub (lv' := [(0, .ref (ad a0)), (1, .int a1), (2, .int a2), (3, .int a3)]) [0, 1, 2, 3] rfl ?_
  refine ww_bipush (v := 6) C dX10_hasHat_0 (by decide) ?_
  refine ww_iload_n C dX10_hasHat_2 rfl 1 rfl ?_
  refine ww_imul C dX10_hasHat_3 ?_
  refine ww_istore (lv' := [(4, .int ((6 : Int32) * a1)), (0, .ref (ad a0)), (1, .int a1), (2, .int a2), (3, .int a3)]) C dX10_hasHat_4 (by decide) rfl ?_
  refine ww_sub (lv' := [(0, .ref (ad a0)), (1, .int a1), (2, .int a2), (3, .int a3), (4, .int ((6 : Int32) * a1))]) [1, 2, 3, 4, 0] rfl ?_
  exact (B_X10_hasHat_6 C HR HL hG N) a0 a1 a2 a3 ((6 : Int32) * a1) dy T0 E
section P_X10_isTrodden
variable {p : Program} {l : Launch} {e : Env} {s : State} {m : MethodId} {args : Array Value} {below : List Frame} {meth : Method} {c : Code} {G : GG} {A : Nat → Prop} {ad : Nat → Nat} {S : ST} {N : Nat} {r : Int32} {dy' : DY}
set_option maxHeartbeats 4000000 in
set_option maxRecDepth 100000 in
theorem B_X10_isTrodden_2 (C : CX p s m args c cX10_isTrodden 4 RX10 G A) (HR : meth.sig.returnType = (Option.some Jvm.ClassFile.FieldType.boolean)) (HL : meth.locks = false) (hG : Good S) : ∀ k : Nat, ∀ (x0 : Nat) (x1 : Int32) (x2 : Int32) (x3 : Int32) (dy : DY), gs S x0 = (0, 10) → (F_X10_isTrodden_2 S N k) x0 x1 x2 x3 dy = some (r, dy') → WJ p l e (rmD (2)) s m args below meth c 4 G A 0 0 (MQ below (QI G ad A S r dy') args s 0 0 A) ad 2 [(0, .ref (ad x0)), (1, .int x1), (2, .int x2), (3, .int x3)] [] S dy := by
  intro k
  induction k with
  | zero => exact fun _ _ _ _ _ _ E => nomatch (show none = some (r, dy') from E)
  | succ k ih =>
    intro x0 x1 x2 x3 dy Tx0 E
    rw [F_X10_isTrodden_2_s] at E
    refine ww_iload_n C dX10_isTrodden_2 rfl 3 rfl ?_
    refine ww_aload_n C dX10_isTrodden_3 rfl 0 rfl ?_
    have T_1 : gs S (gr S x0 39) = (1, 10080) := hG.1 _ 10 Tx0 39 (by decide)
    refine ww_getr (ci := 10) (k0 := 39) C dX10_isTrodden_4 rfl rfl inm10 (by decide) Tx0 q1317 rfl T_1 (by decide) ?_
    refine ww_sipush (v := 2882) C dX10_isTrodden_7 (by decide) ?_
    refine ww_iald C dX10_isTrodden_10 T_1 E (fun _ E => ?_)
    refine ww_icmp_ge (tgt := 52) C dX10_isTrodden_11 (by decide) E (fun _ E => ?_) (fun _ E => ?_)
    · refine ww_iconst (v := 0) C dX10_isTrodden_52 (by decide) ?_
      exact ww_zret C HR HL dX10_isTrodden_53 (Or.inl rfl) E
    · refine ww_aload_n C dX10_isTrodden_14 rfl 0 rfl ?_
      have T_2 : gs S (gr S x0 39) = (1, 10080) := hG.1 _ 10 Tx0 39 (by decide)
      refine ww_getr (ci := 10) (k0 := 39) C dX10_isTrodden_15 rfl rfl inm10 (by decide) Tx0 q1317 rfl T_2 (by decide) ?_
      refine ww_iconst (v := 4) C dX10_isTrodden_18 (by decide) ?_
      refine ww_iload_n C dX10_isTrodden_19 rfl 3 rfl ?_
      obtain ⟨u3, e_4, E⟩ := bind_of E
      refine ww_callI C (runs_S (n := 2) (st := [.ref (ad (gr S x0 39))]) C [.int (4 : Int32), .int x3] (M_X10_at l G ad N hG (4 : Int32) x3 dy e_4) ⟨q1644, q118, by decide⟩ q1642 q1643 rfl (Nat.le_of_ble_eq_true rfl) ⟨Nat.le_of_ble_eq_true rfl, Nat.le_of_ble_eq_true rfl⟩ ⟨Nat.zero_le _, Nat.zero_le _⟩ dX10_isTrodden_20 rfl) ?_
      refine ww_iald C dX10_isTrodden_23 T_2 E (fun _ E => ?_)
      refine ww_iload_n C dX10_isTrodden_24 rfl 1 rfl ?_
      refine ww_icmp_ne (tgt := 46) C dX10_isTrodden_25 (by decide) E (fun _ E => ?_) (fun _ E => ?_)
      · refine ww_iinc (v := (x3 + (1 : Int32))) (lv' := [(3, .int (x3 + (1 : Int32))), (0, .ref (ad x0)), (1, .int x1), (2, .int x2)]) C dX10_isTrodden_46 3 rfl rfl (by decide) rfl ?_
        refine ww_goto (tgt := 2) C dX10_isTrodden_49 (by decide) ?_
        refine ww_sub (lv' := [(0, .ref (ad x0)), (1, .int x1), (2, .int x2), (3, .int (x3 + (1 : Int32)))]) [1, 2, 3, 0] rfl ?_
        exact ih x0 x1 x2 (x3 + (1 : Int32)) u3.2 Tx0 E
      · refine ww_aload_n C dX10_isTrodden_28 rfl 0 rfl ?_
        have T_5 : gs S (gr S x0 39) = (1, 10080) := hG.1 _ 10 Tx0 39 (by decide)
        refine ww_getr (ci := 10) (k0 := 39) C dX10_isTrodden_29 rfl rfl inm10 (by decide) Tx0 q1317 rfl T_5 (by decide) ?_
        refine ww_iconst (v := 4) C dX10_isTrodden_32 (by decide) ?_
        refine ww_iload_n C dX10_isTrodden_33 rfl 3 rfl ?_
        obtain ⟨u6, e_7, E⟩ := bind_of E
        refine ww_callI C (runs_S (n := 2) (st := [.ref (ad (gr S x0 39))]) C [.int (4 : Int32), .int x3] (M_X10_at l G ad N hG (4 : Int32) x3 u3.2 e_7) ⟨q1644, q118, by decide⟩ q1642 q1643 rfl (Nat.le_of_ble_eq_true rfl) ⟨Nat.le_of_ble_eq_true rfl, Nat.le_of_ble_eq_true rfl⟩ ⟨Nat.zero_le _, Nat.zero_le _⟩ dX10_isTrodden_34 rfl) ?_
        refine ww_iconst (v := 4) C dX10_isTrodden_37 (by decide) ?_
        refine ww_iadd C dX10_isTrodden_38 ?_
        refine ww_iald C dX10_isTrodden_39 T_5 E (fun _ E => ?_)
        refine ww_iload_n C dX10_isTrodden_40 rfl 2 rfl ?_
        refine ww_icmp_ne (tgt := 46) C dX10_isTrodden_41 (by decide) E (fun _ E => ?_) (fun _ E => ?_)
        · refine ww_iinc (v := (x3 + (1 : Int32))) (lv' := [(3, .int (x3 + (1 : Int32))), (0, .ref (ad x0)), (1, .int x1), (2, .int x2)]) C dX10_isTrodden_46 3 rfl rfl (by decide) rfl ?_
          refine ww_goto (tgt := 2) C dX10_isTrodden_49 (by decide) ?_
          refine ww_sub (lv' := [(0, .ref (ad x0)), (1, .int x1), (2, .int x2), (3, .int (x3 + (1 : Int32)))]) [1, 2, 3, 0] rfl ?_
          exact ih x0 x1 x2 (x3 + (1 : Int32)) u6.2 Tx0 E
        · refine ww_iconst (v := 1) C dX10_isTrodden_44 (by decide) ?_
          exact ww_zret C HR HL dX10_isTrodden_45 (Or.inr rfl) E
end P_X10_isTrodden
set_option maxHeartbeats 4000000 in
set_option maxRecDepth 100000 in
theorem M_X10_isTrodden (l : Launch) (G : GG) (ad : Nat → Nat) {S : ST} (N : Nat) (hG : Good S) (a0 : Nat) (a1 : Int32) (a2 : Int32) (dy : DY) (T0 : gs S a0 = (0, 10)) {r : Int32} {dy' : DY} (E : F_X10_isTrodden S N a0 a1 a2 dy = some (r, dy')) : MC l yX10_isTrodden cX10_isTrodden 4 (Option.some Jvm.ClassFile.FieldType.boolean) (2) G ad [.ref (ad a0), .int a1, .int a2] S dy (fun A => QI G ad A S r dy') := by
  rw [F_X10_isTrodden_s] at E
  refine mc_of RX10 (by decide) rfl (Nat.le_of_ble_eq_true rfl) (fun p e s m args below meth c A C HR HL => ?_)
  refine ww_sub (lv' := [(0, .ref (ad a0)), (1, .int a1), (2, .int a2)]) [0, 1, 2] rfl ?_
  refine ww_iconst (v := 0) C dX10_isTrodden_0 (by decide) ?_
  refine ww_istore_n (lv' := [(3, .int (0 : Int32)), (0, .ref (ad a0)), (1, .int a1), (2, .int a2)]) C dX10_isTrodden_1 rfl (by decide) rfl ?_
  refine ww_sub (lv' := [(0, .ref (ad a0)), (1, .int a1), (2, .int a2), (3, .int (0 : Int32))]) [1, 2, 3, 0] rfl ?_
  exact (B_X10_isTrodden_2 C HR HL hG N) a0 a1 a2 (0 : Int32) dy T0 E
section P_X10_fitsNow
variable {p : Program} {l : Launch} {e : Env} {s : State} {m : MethodId} {args : Array Value} {below : List Frame} {meth : Method} {c : Code} {G : GG} {A : Nat → Prop} {ad : Nat → Nat} {S : ST} {N : Nat} {r : Int32} {dy' : DY}
set_option maxHeartbeats 4000000 in
set_option maxRecDepth 100000 in
theorem B_X10_fitsNow_49 (C : CX p s m args c cX10_fitsNow 3 RX10 G A) (HR : meth.sig.returnType = (Option.some Jvm.ClassFile.FieldType.boolean)) (HL : meth.locks = false) (hG : Good S) : ∀ k : Nat, ∀ (x0 : Nat) (x1 : Int32) (x2 : Int32) (dy : DY), gs S x0 = (0, 10) → (F_X10_fitsNow_49 S N k) x0 x1 x2 dy = some (r, dy') → WJ p l e (rmD (3)) s m args below meth c 3 G A 0 0 (MQ below (QI G ad A S r dy') args s 0 0 A) ad 49 [(0, .ref (ad x0)), (1, .int x1), (2, .int x2)] [] S dy := by
  intro k
  induction k with
  | zero => exact fun _ _ _ _ _ E => nomatch (show none = some (r, dy') from E)
  | succ k ih =>
    intro x0 x1 x2 dy Tx0 E
    rw [F_X10_fitsNow_49_s] at E
    refine ww_iload_n C dX10_fitsNow_49 rfl 2 rfl ?_
    refine ww_aload_n C dX10_fitsNow_50 rfl 0 rfl ?_
    have T_1 : gs S (gr S x0 39) = (1, 10080) := hG.1 _ 10 Tx0 39 (by decide)
    refine ww_getr (ci := 10) (k0 := 39) C dX10_fitsNow_51 rfl rfl inm10 (by decide) Tx0 q1317 rfl T_1 (by decide) ?_
    refine ww_sipush (v := 2882) C dX10_fitsNow_54 (by decide) ?_
    refine ww_iald C dX10_fitsNow_57 T_1 E (fun _ E => ?_)
    refine ww_icmp_ge (tgt := 108) C dX10_fitsNow_58 (by decide) E (fun _ E => ?_) (fun _ E => ?_)
    · refine ww_aload_n C dX10_fitsNow_108 rfl 0 rfl ?_
      have T_2 : gs S (gr S x0 15) = (1, 32) := hG.1 _ 10 Tx0 15 (by decide)
      refine ww_getr (ci := 10) (k0 := 15) C dX10_fitsNow_109 rfl rfl inm10 (by decide) Tx0 q1293 rfl T_2 (by decide) ?_
      refine ww_iload_n C dX10_fitsNow_112 rfl 1 rfl ?_
      refine ww_iald C dX10_fitsNow_113 T_2 E (fun _ E => ?_)
      refine ww_if_le (tgt := 121) C dX10_fitsNow_114 (by decide) E (fun _ E => ?_) (fun _ E => ?_)
      · refine ww_iconst (v := 0) C dX10_fitsNow_121 (by decide) ?_
        exact ww_zret C HR HL dX10_fitsNow_122 (Or.inl rfl) E
      · refine ww_iconst (v := 1) C dX10_fitsNow_117 (by decide) ?_
        refine ww_goto (tgt := 122) C dX10_fitsNow_118 (by decide) ?_
        exact ww_zret C HR HL dX10_fitsNow_122 (Or.inr rfl) E
    · refine ww_aload_n C dX10_fitsNow_61 rfl 0 rfl ?_
      refine ww_iconst (v := 4) C dX10_fitsNow_62 (by decide) ?_
      refine ww_iload_n C dX10_fitsNow_63 rfl 2 rfl ?_
      obtain ⟨u3, e_4, E⟩ := bind_of E
      refine ww_callI C (runs_V (n := 2) (st := []) C [.int (4 : Int32), .int x2] (M_X10_isThere l G ad N hG x0 (4 : Int32) x2 dy Tx0 e_4) ⟨q1660, q118, by decide⟩ q1657 q1659 q69 (ci := 10) rfl Tx0 rfl (Nat.le_of_ble_eq_true rfl) ⟨Nat.le_of_ble_eq_true rfl, Nat.le_of_ble_eq_true rfl⟩ ⟨Nat.zero_le _, Nat.zero_le _⟩ dX10_fitsNow_64 rfl) ?_
      refine ww_if_eq (tgt := 102) C dX10_fitsNow_67 (by decide) E (fun _ E => ?_) (fun _ E => ?_)
      · refine ww_iinc (v := (x2 + (1 : Int32))) (lv' := [(2, .int (x2 + (1 : Int32))), (0, .ref (ad x0)), (1, .int x1)]) C dX10_fitsNow_102 2 rfl rfl (by decide) rfl ?_
        refine ww_goto (tgt := 49) C dX10_fitsNow_105 (by decide) ?_
        refine ww_sub (lv' := [(0, .ref (ad x0)), (1, .int x1), (2, .int (x2 + (1 : Int32)))]) [1, 2, 0] rfl ?_
        exact ih x0 x1 (x2 + (1 : Int32)) u3.2 Tx0 E
      · refine ww_aload_n C dX10_fitsNow_70 rfl 0 rfl ?_
        refine ww_iload_n C dX10_fitsNow_71 rfl 1 rfl ?_
        refine ww_aload_n C dX10_fitsNow_72 rfl 0 rfl ?_
        have T_5 : gs S (gr S x0 39) = (1, 10080) := hG.1 _ 10 Tx0 39 (by decide)
        refine ww_getr (ci := 10) (k0 := 39) C dX10_fitsNow_73 rfl rfl inm10 (by decide) Tx0 q1317 rfl T_5 (by decide) ?_
        refine ww_iconst (v := 4) C dX10_fitsNow_76 (by decide) ?_
        refine ww_iload_n C dX10_fitsNow_77 rfl 2 rfl ?_
        obtain ⟨u6, e_7, E⟩ := bind_of E
        refine ww_callI C (runs_S (n := 2) (st := [.ref (ad (gr S x0 39)), .int x1, .ref (ad x0)]) C [.int (4 : Int32), .int x2] (M_X10_at l G ad N hG (4 : Int32) x2 u3.2 e_7) ⟨q1644, q118, by decide⟩ q1642 q1643 rfl (Nat.le_of_ble_eq_true rfl) ⟨Nat.le_of_ble_eq_true rfl, Nat.le_of_ble_eq_true rfl⟩ ⟨Nat.zero_le _, Nat.zero_le _⟩ dX10_fitsNow_78 rfl) ?_
        refine ww_iald C dX10_fitsNow_81 T_5 E (fun _ E => ?_)
        refine ww_aload_n C dX10_fitsNow_82 rfl 0 rfl ?_
        have T_8 : gs S (gr S x0 39) = (1, 10080) := hG.1 _ 10 Tx0 39 (by decide)
        refine ww_getr (ci := 10) (k0 := 39) C dX10_fitsNow_83 rfl rfl inm10 (by decide) Tx0 q1317 rfl T_8 (by decide) ?_
        refine ww_iconst (v := 4) C dX10_fitsNow_86 (by decide) ?_
        refine ww_iload_n C dX10_fitsNow_87 rfl 2 rfl ?_
        obtain ⟨u9, e_10, E⟩ := bind_of E
        refine ww_callI C (runs_S (n := 2) (st := [.ref (ad (gr S x0 39)), .int (gi u6.2 (gr S x0 39) u6.1.toNatClampNeg), .int x1, .ref (ad x0)]) C [.int (4 : Int32), .int x2] (M_X10_at l G ad N hG (4 : Int32) x2 u6.2 e_10) ⟨q1644, q118, by decide⟩ q1642 q1643 rfl (Nat.le_of_ble_eq_true rfl) ⟨Nat.le_of_ble_eq_true rfl, Nat.le_of_ble_eq_true rfl⟩ ⟨Nat.zero_le _, Nat.zero_le _⟩ dX10_fitsNow_88 rfl) ?_
        refine ww_iconst (v := 4) C dX10_fitsNow_91 (by decide) ?_
        refine ww_iadd C dX10_fitsNow_92 ?_
        refine ww_iald C dX10_fitsNow_93 T_8 E (fun _ E => ?_)
        obtain ⟨u11, e_12, E⟩ := bind_of E
        refine ww_callI C (runs_V (n := 3) (st := []) C [.int x1, .int (gi u6.2 (gr S x0 39) u6.1.toNatClampNeg), .int (gi u9.2 (gr S x0 39) (u9.1 + (4 : Int32)).toNatClampNeg)] (M_X10_hasHat l G ad N hG x0 x1 (gi u6.2 (gr S x0 39) u6.1.toNatClampNeg) (gi u9.2 (gr S x0 39) (u9.1 + (4 : Int32)).toNatClampNeg) u9.2 Tx0 e_12) ⟨q1862, q118, by decide⟩ q1859 q1861 q103 (ci := 10) rfl Tx0 rfl (Nat.le_of_ble_eq_true rfl) ⟨Nat.le_of_ble_eq_true rfl, Nat.le_of_ble_eq_true rfl⟩ ⟨Nat.zero_le _, Nat.zero_le _⟩ dX10_fitsNow_94 rfl) ?_
        refine ww_if_ne (tgt := 102) C dX10_fitsNow_97 (by decide) E (fun _ E => ?_) (fun _ E => ?_)
        · refine ww_iinc (v := (x2 + (1 : Int32))) (lv' := [(2, .int (x2 + (1 : Int32))), (0, .ref (ad x0)), (1, .int x1)]) C dX10_fitsNow_102 2 rfl rfl (by decide) rfl ?_
          refine ww_goto (tgt := 49) C dX10_fitsNow_105 (by decide) ?_
          refine ww_sub (lv' := [(0, .ref (ad x0)), (1, .int x1), (2, .int (x2 + (1 : Int32)))]) [1, 2, 0] rfl ?_
          exact ih x0 x1 (x2 + (1 : Int32)) u11.2 Tx0 E
        · refine ww_iconst (v := 0) C dX10_fitsNow_100 (by decide) ?_
          exact ww_zret C HR HL dX10_fitsNow_101 (Or.inl rfl) E
set_option maxHeartbeats 4000000 in
set_option maxRecDepth 100000 in
theorem B_X10_fitsNow_5 (C : CX p s m args c cX10_fitsNow 3 RX10 G A) (HR : meth.sig.returnType = (Option.some Jvm.ClassFile.FieldType.boolean)) (HL : meth.locks = false) (hG : Good S) : ∀ k : Nat, ∀ (x0 : Nat) (x1 : Int32) (x2 : Int32) (dy : DY), gs S x0 = (0, 10) → (F_X10_fitsNow_5 S N k) x0 x1 x2 dy = some (r, dy') → WJ p l e (rmD (3)) s m args below meth c 3 G A 0 0 (MQ below (QI G ad A S r dy') args s 0 0 A) ad 5 [(0, .ref (ad x0)), (1, .int x1), (2, .int x2)] [] S dy := by
  intro k
  induction k with
  | zero => exact fun _ _ _ _ _ E => nomatch (show none = some (r, dy') from E)
  | succ k ih =>
    intro x0 x1 x2 dy Tx0 E
    rw [F_X10_fitsNow_5_s] at E
    refine ww_iload_n C dX10_fitsNow_5 rfl 2 rfl ?_
    refine ww_bipush (v := 6) C dX10_fitsNow_6 (by decide) ?_
    refine ww_iload_n C dX10_fitsNow_8 rfl 1 rfl ?_
    refine ww_imul C dX10_fitsNow_9 ?_
    refine ww_aload_n C dX10_fitsNow_10 rfl 0 rfl ?_
    have T_1 : gs S (gr S x0 15) = (1, 32) := hG.1 _ 10 Tx0 15 (by decide)
    refine ww_getr (ci := 10) (k0 := 15) C dX10_fitsNow_11 rfl rfl inm10 (by decide) Tx0 q1293 rfl T_1 (by decide) ?_
    refine ww_iload_n C dX10_fitsNow_14 rfl 1 rfl ?_
    refine ww_iald C dX10_fitsNow_15 T_1 E (fun _ E => ?_)
    refine ww_iadd C dX10_fitsNow_16 ?_
    refine ww_icmp_ge (tgt := 47) C dX10_fitsNow_17 (by decide) E (fun _ E => ?_) (fun _ E => ?_)
    · refine ww_iconst (v := 0) C dX10_fitsNow_47 (by decide) ?_
      refine ww_istore_n (lv' := [(2, .int (0 : Int32)), (0, .ref (ad x0)), (1, .int x1)]) C dX10_fitsNow_48 rfl (by decide) rfl ?_
      refine ww_sub (lv' := [(0, .ref (ad x0)), (1, .int x1), (2, .int (0 : Int32))]) [1, 2, 0] rfl ?_
      exact (B_X10_fitsNow_49 C HR HL hG N) x0 x1 (0 : Int32) dy Tx0 E
    · refine ww_aload_n C dX10_fitsNow_20 rfl 0 rfl ?_
      refine ww_aload_n C dX10_fitsNow_21 rfl 0 rfl ?_
      have T_2 : gs S (gr S x0 16) = (1, 192) := hG.1 _ 10 Tx0 16 (by decide)
      refine ww_getr (ci := 10) (k0 := 16) C dX10_fitsNow_22 rfl rfl inm10 (by decide) Tx0 q1294 rfl T_2 (by decide) ?_
      refine ww_iload_n C dX10_fitsNow_25 rfl 2 rfl ?_
      refine ww_iald C dX10_fitsNow_26 T_2 E (fun _ E => ?_)
      refine ww_aload_n C dX10_fitsNow_27 rfl 0 rfl ?_
      have T_3 : gs S (gr S x0 17) = (1, 192) := hG.1 _ 10 Tx0 17 (by decide)
      refine ww_getr (ci := 10) (k0 := 17) C dX10_fitsNow_28 rfl rfl inm10 (by decide) Tx0 q1295 rfl T_3 (by decide) ?_
      refine ww_iload_n C dX10_fitsNow_31 rfl 2 rfl ?_
      refine ww_iald C dX10_fitsNow_32 T_3 E (fun _ E => ?_)
      obtain ⟨u4, e_5, E⟩ := bind_of E
      refine ww_callI C (runs_V (n := 2) (st := []) C [.int (gi dy (gr S x0 16) x2.toNatClampNeg), .int (gi dy (gr S x0 17) x2.toNatClampNeg)] (M_X10_isTrodden l G ad N hG x0 (gi dy (gr S x0 16) x2.toNatClampNeg) (gi dy (gr S x0 17) x2.toNatClampNeg) dy Tx0 e_5) ⟨q1858, q118, by decide⟩ q1855 q1857 q102 (ci := 10) rfl Tx0 rfl (Nat.le_of_ble_eq_true rfl) ⟨Nat.le_of_ble_eq_true rfl, Nat.le_of_ble_eq_true rfl⟩ ⟨Nat.zero_le _, Nat.zero_le _⟩ dX10_fitsNow_33 rfl) ?_
      refine ww_if_ne (tgt := 41) C dX10_fitsNow_36 (by decide) E (fun _ E => ?_) (fun _ E => ?_)
      · refine ww_iinc (v := (x2 + (1 : Int32))) (lv' := [(2, .int (x2 + (1 : Int32))), (0, .ref (ad x0)), (1, .int x1)]) C dX10_fitsNow_41 2 rfl rfl (by decide) rfl ?_
        refine ww_goto (tgt := 5) C dX10_fitsNow_44 (by decide) ?_
        refine ww_sub (lv' := [(0, .ref (ad x0)), (1, .int x1), (2, .int (x2 + (1 : Int32)))]) [1, 2, 0] rfl ?_
        exact ih x0 x1 (x2 + (1 : Int32)) u4.2 Tx0 E
      · refine ww_iconst (v := 0) C dX10_fitsNow_39 (by decide) ?_
        exact ww_zret C HR HL dX10_fitsNow_40 (Or.inl rfl) E
end P_X10_fitsNow
set_option maxHeartbeats 4000000 in
set_option maxRecDepth 100000 in
theorem M_X10_fitsNow (l : Launch) (G : GG) (ad : Nat → Nat) {S : ST} (N : Nat) (hG : Good S) (a0 : Nat) (a1 : Int32) (dy : DY) (T0 : gs S a0 = (0, 10)) {r : Int32} {dy' : DY} (E : F_X10_fitsNow S N a0 a1 dy = some (r, dy')) : MC l yX10_fitsNow cX10_fitsNow 3 (Option.some Jvm.ClassFile.FieldType.boolean) (3) G ad [.ref (ad a0), .int a1] S dy (fun A => QI G ad A S r dy') := by
  rw [F_X10_fitsNow_s] at E
  refine mc_of RX10 (by decide) rfl (Nat.le_of_ble_eq_true rfl) (fun p e s m args below meth c A C HR HL => ?_)
  refine ww_sub (lv' := [(0, .ref (ad a0)), (1, .int a1)]) [0, 1] rfl ?_
  refine ww_bipush (v := 6) C dX10_fitsNow_0 (by decide) ?_
  refine ww_iload_n C dX10_fitsNow_2 rfl 1 rfl ?_
  refine ww_imul C dX10_fitsNow_3 ?_
  refine ww_istore_n (lv' := [(2, .int ((6 : Int32) * a1)), (0, .ref (ad a0)), (1, .int a1)]) C dX10_fitsNow_4 rfl (by decide) rfl ?_
  refine ww_sub (lv' := [(0, .ref (ad a0)), (1, .int a1), (2, .int ((6 : Int32) * a1))]) [1, 2, 0] rfl ?_
  exact (B_X10_fitsNow_5 C HR HL hG N) a0 a1 ((6 : Int32) * a1) dy T0 E
section P_X10_fits
variable {p : Program} {l : Launch} {e : Env} {s : State} {m : MethodId} {args : Array Value} {below : List Frame} {meth : Method} {c : Code} {G : GG} {A : Nat → Prop} {ad : Nat → Nat} {S : ST} {N : Nat} {r : Int32} {dy' : DY}
set_option maxHeartbeats 4000000 in
set_option maxRecDepth 100000 in
theorem B_X10_fits_63 (C : CX p s m args c cX10_fits 6 RX10 G A) (HR : meth.sig.returnType = (Option.some Jvm.ClassFile.FieldType.int)) (HL : meth.locks = false) (hG : Good S) {K40 : Nat → Int32 → Int32 → DY → Option (Int32 × DY)} (hK40 : ∀ (x0 : Nat) (x4 : Int32) (x5 : Int32) (dy : DY), gs S x0 = (0, 10) → K40 x0 x4 x5 dy = some (r, dy') → WJ p l e (rmD (11)) s m args below meth c 6 G A 0 0 (MQ below (QI G ad A S r dy') args s 0 0 A) ad 40 [(0, .ref (ad x0)), (4, .int x4), (5, .int x5)] [] S dy) : ∀ (x0 : Nat) (x5 : Int32) (y0 : Int32) (y1 : Int32) (dy : DY), gs S x0 = (0, 10) → F_X10_fits_63 S N K40 x0 x5 y0 y1 dy = some (r, dy') → WJ p l e (rmD (11)) s m args below meth c 6 G A 0 0 (MQ below (QI G ad A S r dy') args s 0 0 A) ad 63 [(0, .ref (ad x0)), (5, .int x5)] [.int y1, .int y0] S dy := by
  intro x0 x5 y0 y1 dy Tx0 E
  rw [F_X10_fits_63_s] at E
  refine ww_iadd C dX10_fits_63 ?_
  refine ww_istore (lv' := [(4, .int (y0 + y1)), (0, .ref (ad x0)), (5, .int x5)]) C dX10_fits_64 (by decide) rfl ?_
  refine ww_aload_n C dX10_fits_66 rfl 1 rfl ?_
  refine ww_iconst (v := 1) C dX10_fits_67 (by decide) ?_
  obtain ⟨u1, e_2, E⟩ := bind_of E
  refine ww_callV C (runs_V (n := 1) (st := []) C [.int (1 : Int32)] (M_X10_tryOn l G ad N hG x0 (1 : Int32) dy Tx0 e_2) ⟨q1801, q118, by decide⟩ q1798 q1800 q96 (ci := 10) rfl Tx0 rfl (Nat.le_of_ble_eq_true rfl) ⟨Nat.le_of_ble_eq_true rfl, Nat.le_of_ble_eq_true rfl⟩ ⟨Nat.zero_le _, Nat.zero_le _⟩ dX10_fits_68 rfl) ?_
  refine ww_iinc (v := (x5 + (1 : Int32))) (lv' := [(5, .int (x5 + (1 : Int32))), (4, .int (y0 + y1)), (0, .ref (ad x0))]) C dX10_fits_71 2 rfl rfl (by decide) rfl ?_
  refine ww_goto (tgt := 40) C dX10_fits_74 (by decide) ?_
  refine ww_sub (lv' := [(0, .ref (ad x0)), (4, .int (y0 + y1)), (5, .int (x5 + (1 : Int32)))]) [2, 1, 0] rfl ?_
  exact hK40 x0 (y0 + y1) (x5 + (1 : Int32)) u1 Tx0 E
set_option maxHeartbeats 4000000 in
set_option maxRecDepth 100000 in
theorem B_X10_fits_40 (C : CX p s m args c cX10_fits 6 RX10 G A) (HR : meth.sig.returnType = (Option.some Jvm.ClassFile.FieldType.int)) (HL : meth.locks = false) (hG : Good S) : ∀ k : Nat, ∀ (x0 : Nat) (x4 : Int32) (x5 : Int32) (dy : DY), gs S x0 = (0, 10) → (F_X10_fits_40 S N k) x0 x4 x5 dy = some (r, dy') → WJ p l e (rmD (11)) s m args below meth c 6 G A 0 0 (MQ below (QI G ad A S r dy') args s 0 0 A) ad 40 [(0, .ref (ad x0)), (4, .int x4), (5, .int x5)] [] S dy := by
  intro k
  induction k with
  | zero => exact fun _ _ _ _ _ E => nomatch (show none = some (r, dy') from E)
  | succ k ih =>
    intro x0 x4 x5 dy Tx0 E
    rw [F_X10_fits_40_s] at E
    refine ww_iload C dX10_fits_40 2 rfl ?_
    refine ww_bipush (v := 8) C dX10_fits_42 (by decide) ?_
    refine ww_icmp_ge (tgt := 77) C dX10_fits_44 (by decide) E (fun _ E => ?_) (fun _ E => ?_)
    · refine ww_iload C dX10_fits_77 1 rfl ?_
      exact ww_iret C HR HL dX10_fits_79 E
    · refine ww_iload C dX10_fits_47 1 rfl ?_
      refine ww_aload_n C dX10_fits_49 rfl 0 rfl ?_
      refine ww_iload C dX10_fits_50 2 rfl ?_
      obtain ⟨u1, e_2, E⟩ := bind_of E
      refine ww_callI C (runs_V (n := 1) (st := [.int x4]) C [.int x5] (M_X10_fitsNow l G ad N hG x0 x5 dy Tx0 e_2) ⟨q1854, q118, by decide⟩ q1851 q1853 q101 (ci := 10) rfl Tx0 rfl (Nat.le_of_ble_eq_true rfl) ⟨Nat.le_of_ble_eq_true rfl, Nat.le_of_ble_eq_true rfl⟩ ⟨Nat.zero_le _, Nat.zero_le _⟩ dX10_fits_52 rfl) ?_
      refine ww_if_eq (tgt := 62) C dX10_fits_55 (by decide) E (fun _ E => ?_) (fun _ E => ?_)
      · refine ww_iconst (v := 0) C dX10_fits_62 (by decide) ?_
        refine ww_sub (lv' := [(0, .ref (ad x0)), (5, .int x5)]) [0, 2] rfl ?_
        exact (B_X10_fits_63 C HR HL hG ih) x0 x5 x4 (0 : Int32) u1.2 Tx0 E
      · refine ww_iconst (v := 1) C dX10_fits_58 (by decide) ?_
        refine ww_goto (tgt := 63) C dX10_fits_59 (by decide) ?_
        refine ww_sub (lv' := [(0, .ref (ad x0)), (5, .int x5)]) [0, 2] rfl ?_
        exact (B_X10_fits_63 C HR HL hG ih) x0 x5 x4 (1 : Int32) u1.2 Tx0 E
end P_X10_fits
set_option maxHeartbeats 4000000 in
set_option maxRecDepth 100000 in
theorem M_X10_fits (l : Launch) (G : GG) (ad : Nat → Nat) {S : ST} (N : Nat) (hG : Good S) (a0 : Nat) (a1 : Int32) (a2 : Int32) (a3 : Int32) (dy : DY) (T0 : gs S a0 = (0, 10)) {r : Int32} {dy' : DY} (E : F_X10_fits S N a0 a1 a2 a3 dy = some (r, dy')) : MC l yX10_fits cX10_fits 6 (Option.some Jvm.ClassFile.FieldType.int) (11) G ad [.ref (ad a0), .int a1, .int a2, .int a3] S dy (fun A => QI G ad A S r dy') := by
  rw [F_X10_fits_s] at E
  refine mc_of RX10 (by decide) rfl (Nat.le_of_ble_eq_true rfl) (fun p e s m args below meth c A C HR HL => ?_)
  refine ww_sub (lv' := [(0, .ref (ad a0)), (1, .int a1), (2, .int a2), (3, .int a3)]) [0, 1, 2, 3] rfl ?_
  refine ww_aload_n C dX10_fits_0 rfl 0 rfl ?_
  refine ww_iconst (v := 0) C dX10_fits_1 (by decide) ?_
  refine ww_puti (ci := 10) (k0 := 0) C dX10_fits_2 rfl rfl inm10 tyX10_ok nmX10 (by decide) T0 q1278 rfl rfl rfl ?_
  refine ww_bd E (fun dy1 E => ?_)
  refine ww_aload_n C dX10_fits_5 rfl 0 rfl ?_
  refine ww_iload_n C dX10_fits_6 rfl 1 rfl ?_
  obtain ⟨u2, e_3, E⟩ := bind_of E
  refine ww_callI C (runs_V (n := 1) (st := []) C [.int a1] (M_X10_isPassage l G ad N hG a0 a1 dy1 T0 e_3) ⟨q1488, q118, by decide⟩ q1485 q1487 q41 (ci := 10) rfl T0 rfl (Nat.le_of_ble_eq_true rfl) ⟨Nat.le_of_ble_eq_true rfl, Nat.le_of_ble_eq_true rfl⟩ ⟨Nat.zero_le _, Nat.zero_le _⟩ dX10_fits_7 rfl) ?_
  refine ww_if_eq (tgt := 21) C dX10_fits_10 (by decide) E (fun _ E => ?_) (fun _ E => ?_)
  · refine ww_iconst (v := (-1)) C dX10_fits_21 (by decide) ?_
    exact ww_iret C HR HL dX10_fits_22 E
  · refine ww_aload_n C dX10_fits_13 rfl 0 rfl ?_
    refine ww_iload_n C dX10_fits_14 rfl 2 rfl ?_
    obtain ⟨u4, e_5, E⟩ := bind_of E
    refine ww_callI C (runs_V (n := 1) (st := []) C [.int a2] (M_X10_isLaw l G ad N hG a0 a2 u2.2 T0 e_5) ⟨q1587, q118, by decide⟩ q1584 q1586 q61 (ci := 10) rfl T0 rfl (Nat.le_of_ble_eq_true rfl) ⟨Nat.le_of_ble_eq_true rfl, Nat.le_of_ble_eq_true rfl⟩ ⟨Nat.zero_le _, Nat.zero_le _⟩ dX10_fits_15 rfl) ?_
    refine ww_if_ne (tgt := 23) C dX10_fits_18 (by decide) E (fun _ E => ?_) (fun _ E => ?_)
    · refine ww_aload_n C dX10_fits_23 rfl 0 rfl ?_
      refine ww_iconst (v := 4) C dX10_fits_24 (by decide) ?_
      refine ww_iload_n C dX10_fits_25 rfl 1 rfl ?_
      refine ww_iload_n C dX10_fits_26 rfl 2 rfl ?_
      refine ww_iload_n C dX10_fits_27 rfl 3 rfl ?_
      refine ww_bipush (v := 12) C dX10_fits_28 (by decide) ?_
      refine ww_iconst (v := (-1)) C dX10_fits_30 (by decide) ?_
      obtain ⟨u6, e_7, E⟩ := bind_of E
      refine ww_callV C (runs_V (n := 6) (st := []) C [.int (4 : Int32), .int a1, .int a2, .int a3, .int (12 : Int32), .int (-1 : Int32)] (M_X10_lay l G ad N hG a0 (4 : Int32) a1 a2 a3 (12 : Int32) (-1 : Int32) u4.2 T0 e_7) ⟨q1641, q118, by decide⟩ q1638 q1640 q66 (ci := 10) rfl T0 rfl (Nat.le_of_ble_eq_true rfl) ⟨Nat.le_of_ble_eq_true rfl, Nat.le_of_ble_eq_true rfl⟩ ⟨Nat.zero_le _, Nat.zero_le _⟩ dX10_fits_31 rfl) ?_
      refine ww_iconst (v := 0) C dX10_fits_34 (by decide) ?_
      refine ww_istore (lv' := [(4, .int (0 : Int32)), (0, .ref (ad a0)), (1, .int a1), (2, .int a2), (3, .int a3)]) C dX10_fits_35 (by decide) rfl ?_
      refine ww_iconst (v := 0) C dX10_fits_37 (by decide) ?_
      refine ww_istore (lv' := [(5, .int (0 : Int32)), (4, .int (0 : Int32)), (0, .ref (ad a0)), (1, .int a1), (2, .int a2), (3, .int a3)]) C dX10_fits_38 (by decide) rfl ?_
      refine ww_sub (lv' := [(0, .ref (ad a0)), (4, .int (0 : Int32)), (5, .int (0 : Int32))]) [2, 1, 0] rfl ?_
      exact (B_X10_fits_40 C HR HL hG N) a0 (0 : Int32) (0 : Int32) u6 T0 E
    · refine ww_iconst (v := (-1)) C dX10_fits_21 (by decide) ?_
      exact ww_iret C HR HL dX10_fits_22 E
