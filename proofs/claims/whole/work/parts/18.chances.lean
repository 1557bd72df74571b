noncomputable def F_X0_addDeeper_35 (S : ST) (N : Nat) : Nat → Nat → Int32 → Int32 → Int32 → Int32 → Int32 → DY → Option DY := fun k => Nat.rec (motive := fun _ => Nat → Int32 → Int32 → Int32 → Int32 → Int32 → DY → Option DY) (fun _ _ _ _ _ _ _ => none) (fun _ ih x0 x2 x3 x4 x5 x6 dy => (if (9 : Int32) ≤ x6 then some dy else (if x2 < 0 then ih x0 x2 x3 x4 x5 (x6 + (1 : Int32)) dy else (if x6 < x2 then ih x0 x2 x3 x4 x5 (x6 + (1 : Int32)) dy else if ib ((x4 + (1 : Int32)) + x6) 90 then if ib (((x5 + (1 : Int32)) + x6) - x2) 90 then if ib ((x4 + (1 : Int32)) + x6) 90 then bd (si dy (gr S x0 3) ((x4 + (1 : Int32)) + x6).toNatClampNeg ((gi dy (gr S x0 3) ((x4 + (1 : Int32)) + x6).toNatClampNeg) + (x3 * (gi dy (gr S x0 3) (((x5 + (1 : Int32)) + x6) - x2).toNatClampNeg)))) fun dy3 => ih x0 x2 x3 x4 x5 (x6 + (1 : Int32)) dy3 else none else none else none)))) k
theorem F_X0_addDeeper_35_s (S : ST) (N : Nat) (k : Nat) (x0 : Nat) (x2 : Int32) (x3 : Int32) (x4 : Int32) (x5 : Int32) (x6 : Int32) (dy : DY) : F_X0_addDeeper_35 S N (k + 1) x0 x2 x3 x4 x5 x6 dy = (if (9 : Int32) ≤ x6 then some dy else (if x2 < 0 then (F_X0_addDeeper_35 S N k) x0 x2 x3 x4 x5 (x6 + (1 : Int32)) dy else (if x6 < x2 then (F_X0_addDeeper_35 S N k) x0 x2 x3 x4 x5 (x6 + (1 : Int32)) dy else if ib ((x4 + (1 : Int32)) + x6) 90 then if ib (((x5 + (1 : Int32)) + x6) - x2) 90 then if ib ((x4 + (1 : Int32)) + x6) 90 then bd (si dy (gr S x0 3) ((x4 + (1 : Int32)) + x6).toNatClampNeg ((gi dy (gr S x0 3) ((x4 + (1 : Int32)) + x6).toNatClampNeg) + (x3 * (gi dy (gr S x0 3) (((x5 + (1 : Int32)) + x6) - x2).toNatClampNeg)))) fun dy3 => (F_X0_addDeeper_35 S N k) x0 x2 x3 x4 x5 (x6 + (1 : Int32)) dy3 else none else none else none))) := rfl
noncomputable def F_X0_addDeeper (S : ST) (N : Nat) (a0 : Nat) (a1 : Int32) (a2 : Int32) (a3 : Int32) (dy : DY) : Option DY := if ib (a1 * (10 : Int32)) 90 then if ib ((a1 * (10 : Int32)) + (10 : Int32)) 90 then if ib (a1 * (10 : Int32)) 90 then bd (si dy (gr S a0 3) (a1 * (10 : Int32)).toNatClampNeg ((gi dy (gr S a0 3) (a1 * (10 : Int32)).toNatClampNeg) + (a3 * (gi dy (gr S a0 3) ((a1 * (10 : Int32)) + (10 : Int32)).toNatClampNeg)))) fun dy3 => (F_X0_addDeeper_35 S N N) a0 a2 a3 (a1 * (10 : Int32)) ((a1 * (10 : Int32)) + (10 : Int32)) (0 : Int32) dy3 else none else none else none
theorem F_X0_addDeeper_s (S : ST) (N : Nat) (a0 : Nat) (a1 : Int32) (a2 : Int32) (a3 : Int32) (dy : DY) : F_X0_addDeeper S N a0 a1 a2 a3 dy = (if ib (a1 * (10 : Int32)) 90 then if ib ((a1 * (10 : Int32)) + (10 : Int32)) 90 then if ib (a1 * (10 : Int32)) 90 then bd (si dy (gr S a0 3) (a1 * (10 : Int32)).toNatClampNeg ((gi dy (gr S a0 3) (a1 * (10 : Int32)).toNatClampNeg) + (a3 * (gi dy (gr S a0 3) ((a1 * (10 : Int32)) + (10 : Int32)).toNatClampNeg)))) fun dy3 => (F_X0_addDeeper_35 S N N) a0 a2 a3 (a1 * (10 : Int32)) ((a1 * (10 : Int32)) + (10 : Int32)) (0 : Int32) dy3 else none else none else none) := rfl
noncomputable def F_X0_keyOf_67 (S : ST) (N : Nat) (K17 : Nat → Nat → Int64 → Int32 → Int32 → DY → Option (Int64 × DY)) (x0 : Nat) (x1 : Nat) (x2 : Int64) (x4 : Int32) (x5 : Int32) (y0 : Int32) (dy : DY) : Option (Int64 × DY) := K17 x0 x1 ((x2 <<< (((7 : Int32)).toInt64 &&& 63)) ||| (y0).toInt64) x4 (x5 + (1 : Int32)) dy
theorem F_X0_keyOf_67_s (S : ST) (N : Nat) (K17 : Nat → Nat → Int64 → Int32 → Int32 → DY → Option (Int64 × DY)) (x0 : Nat) (x1 : Nat) (x2 : Int64) (x4 : Int32) (x5 : Int32) (y0 : Int32) (dy : DY) : F_X0_keyOf_67 S N K17 x0 x1 x2 x4 x5 y0 dy = (K17 x0 x1 ((x2 <<< (((7 : Int32)).toInt64 &&& 63)) ||| (y0).toInt64) x4 (x5 + (1 : Int32)) dy) := rfl
noncomputable def F_X0_keyOf_17 (S : ST) (N : Nat) (K5 : Nat → Nat → Int64 → Int32 → DY → Option (Int64 × DY)) : Nat → Nat → Nat → Int64 → Int32 → Int32 → DY → Option (Int64 × DY) := fun k => Nat.rec (motive := fun _ => Nat → Nat → Int64 → Int32 → Int32 → DY → Option (Int64 × DY)) (fun _ _ _ _ _ _ => none) (fun _ ih x0 x1 x2 x4 x5 dy => (if (2 : Int32) ≤ x5 then K5 x0 x1 x2 (x4 + (1 : Int32)) dy else if ib ((x4 * (12 : Int32)) + x5) 48 then (if (gi dy (gr S x1 9) ((x4 * (12 : Int32)) + x5).toNatClampNeg) = (-1 : Int32) then (F_X0_keyOf_67 S N ih) x0 x1 x2 x4 x5 (96 : Int32) dy else if ib ((x4 * (12 : Int32)) + x5) 48 then if ib ((x4 * (12 : Int32)) + x5) 48 then (F_X0_keyOf_67 S N ih) x0 x1 x2 x4 x5 (((gi dy (gr S x1 9) ((x4 * (12 : Int32)) + x5).toNatClampNeg) * (6 : Int32)) + (gi dy (gr S x1 10) ((x4 * (12 : Int32)) + x5).toNatClampNeg)) dy else none else none) else none)) k
theorem F_X0_keyOf_17_s (S : ST) (N : Nat) (K5 : Nat → Nat → Int64 → Int32 → DY → Option (Int64 × DY)) (k : Nat) (x0 : Nat) (x1 : Nat) (x2 : Int64) (x4 : Int32) (x5 : Int32) (dy : DY) : F_X0_keyOf_17 S N K5 (k + 1) x0 x1 x2 x4 x5 dy = (if (2 : Int32) ≤ x5 then K5 x0 x1 x2 (x4 + (1 : Int32)) dy else if ib ((x4 * (12 : Int32)) + x5) 48 then (if (gi dy (gr S x1 9) ((x4 * (12 : Int32)) + x5).toNatClampNeg) = (-1 : Int32) then (F_X0_keyOf_67 S N (F_X0_keyOf_17 S N K5 k)) x0 x1 x2 x4 x5 (96 : Int32) dy else if ib ((x4 * (12 : Int32)) + x5) 48 then if ib ((x4 * (12 : Int32)) + x5) 48 then (F_X0_keyOf_67 S N (F_X0_keyOf_17 S N K5 k)) x0 x1 x2 x4 x5 (((gi dy (gr S x1 9) ((x4 * (12 : Int32)) + x5).toNatClampNeg) * (6 : Int32)) + (gi dy (gr S x1 10) ((x4 * (12 : Int32)) + x5).toNatClampNeg)) dy else none else none) else none) := rfl
noncomputable def F_X0_keyOf_5 (S : ST) (N : Nat) : Nat → Nat → Nat → Int64 → Int32 → DY → Option (Int64 × DY) := fun k => Nat.rec (motive := fun _ => Nat → Nat → Int64 → Int32 → DY → Option (Int64 × DY)) (fun _ _ _ _ _ => none) (fun _ ih x0 x1 x2 x4 dy => (if (gi dy x0 7) ≤ x4 then (if (nr 3 (gi dy x0 8)) = 0 then some (x2, dy) else if ib (0 : Int32) 12 then if ib (1 : Int32) 12 then some ((((x2 <<< (((8 : Int32)).toInt64 &&& 63)) ||| (((gi dy (gr S x1 15) (0 : Int32).toNatClampNeg) <<< ((4 : Int32) &&& 31))).toInt64) ||| ((gi dy (gr S x1 15) (1 : Int32).toNatClampNeg)).toInt64), dy) else none else none) else (F_X0_keyOf_17 S N ih N) x0 x1 x2 x4 (0 : Int32) dy)) k
theorem F_X0_keyOf_5_s (S : ST) (N : Nat) (k : Nat) (x0 : Nat) (x1 : Nat) (x2 : Int64) (x4 : Int32) (dy : DY) : F_X0_keyOf_5 S N (k + 1) x0 x1 x2 x4 dy = (if (gi dy x0 7) ≤ x4 then (if (nr 3 (gi dy x0 8)) = 0 then some (x2, dy) else if ib (0 : Int32) 12 then if ib (1 : Int32) 12 then some ((((x2 <<< (((8 : Int32)).toInt64 &&& 63)) ||| (((gi dy (gr S x1 15) (0 : Int32).toNatClampNeg) <<< ((4 : Int32) &&& 31))).toInt64) ||| ((gi dy (gr S x1 15) (1 : Int32).toNatClampNeg)).toInt64), dy) else none else none) else (F_X0_keyOf_17 S N (F_X0_keyOf_5 S N k) N) x0 x1 x2 x4 (0 : Int32) dy) := rfl
noncomputable def F_X0_keyOf (S : ST) (N : Nat) (a0 : Nat) (a1 : Nat) (dy : DY) : Option (Int64 × DY) := (F_X0_keyOf_5 S N N) a0 a1 (0 : Int64) (0 : Int32) dy
theorem F_X0_keyOf_s (S : ST) (N : Nat) (a0 : Nat) (a1 : Nat) (dy : DY) : F_X0_keyOf S N a0 a1 dy = ((F_X0_keyOf_5 S N N) a0 a1 (0 : Int64) (0 : Int32) dy) := rfl
noncomputable def F_X0_slotOf (S : ST) (N : Nat) (a0 : Int64) (a1 : Int32) (dy : DY) : Option (Int32 × DY) := some ((((((((a0 * (10 : Int64)) + (a1).toInt64) * (-7046029254386353131 : Int64))).toUInt64 >>> (((55 : Int32)).toInt64.toUInt64 &&& Int64.toUInt64 63)).toInt64)).toInt32, dy)
theorem F_X0_slotOf_s (S : ST) (N : Nat) (a0 : Int64) (a1 : Int32) (dy : DY) : F_X0_slotOf S N a0 a1 dy = (some ((((((((a0 * (10 : Int64)) + (a1).toInt64) * (-7046029254386353131 : Int64))).toUInt64 >>> (((55 : Int32)).toInt64.toUInt64 &&& Int64.toUInt64 63)).toInt64)).toInt32, dy)) := rfl
noncomputable def F_X0_spreadLots_117 (S : ST) (N : Nat) (rec : Nat → Int32 → Int32 → DY → Option DY) (K118 : Nat → Int32 → Int32 → Nat → Nat → Int32 → Int32 → Int32 → Int32 → DY → Option DY) (x0 : Nat) (x1 : Int32) (x2 : Int32) (x3 : Nat) (x4 : Nat) (x5 : Int32) (x6 : Int32) (x7 : Int32) (x8 : Int32) (y0 : Nat) (y1 : Int32) (y2 : Int32) (dy : DY) : Option DY := if ib y1 12 then bd (si dy y0 y1.toNatClampNeg y2) fun dy1 => K118 x0 x1 x2 x3 x4 x5 x6 x7 x8 dy1 else none
theorem F_X0_spreadLots_117_s (S : ST) (N : Nat) (rec : Nat → Int32 → Int32 → DY → Option DY) (K118 : Nat → Int32 → Int32 → Nat → Nat → Int32 → Int32 → Int32 → Int32 → DY → Option DY) (x0 : Nat) (x1 : Int32) (x2 : Int32) (x3 : Nat) (x4 : Nat) (x5 : Int32) (x6 : Int32) (x7 : Int32) (x8 : Int32) (y0 : Nat) (y1 : Int32) (y2 : Int32) (dy : DY) : F_X0_spreadLots_117 S N rec K118 x0 x1 x2 x3 x4 x5 x6 x7 x8 y0 y1 y2 dy = (if ib y1 12 then bd (si dy y0 y1.toNatClampNeg y2) fun dy1 => K118 x0 x1 x2 x3 x4 x5 x6 x7 x8 dy1 else none) := rfl
noncomputable def F_X0_spreadLots_140 (S : ST) (N : Nat) (rec : Nat → Int32 → Int32 → DY → Option DY) (K141 : Nat → Int32 → Int32 → Nat → Nat → Int32 → Int32 → Int32 → Int32 → DY → Option DY) (x0 : Nat) (x1 : Int32) (x2 : Int32) (x3 : Nat) (x4 : Nat) (x5 : Int32) (x6 : Int32) (x7 : Int32) (x8 : Int32) (y0 : Nat) (y1 : Int32) (y2 : Int32) (dy : DY) : Option DY := if ib y1 12 then bd (si dy y0 y1.toNatClampNeg y2) fun dy1 => K141 x0 x1 x2 x3 x4 x5 x6 x7 x8 dy1 else none
theorem F_X0_spreadLots_140_s (S : ST) (N : Nat) (rec : Nat → Int32 → Int32 → DY → Option DY) (K141 : Nat → Int32 → Int32 → Nat → Nat → Int32 → Int32 → Int32 → Int32 → DY → Option DY) (x0 : Nat) (x1 : Int32) (x2 : Int32) (x3 : Nat) (x4 : Nat) (x5 : Int32) (x6 : Int32) (x7 : Int32) (x8 : Int32) (y0 : Nat) (y1 : Int32) (y2 : Int32) (dy : DY) : F_X0_spreadLots_140 S N rec K141 x0 x1 x2 x3 x4 x5 x6 x7 x8 y0 y1 y2 dy = (if ib y1 12 then bd (si dy y0 y1.toNatClampNeg y2) fun dy1 => K141 x0 x1 x2 x3 x4 x5 x6 x7 x8 dy1 else none) := rfl
noncomputable def F_X0_spreadLots_141 (S : ST) (N : Nat) (rec : Nat → Int32 → Int32 → DY → Option DY) (K82 : Nat → Int32 → Int32 → Nat → Nat → Int32 → Int32 → Int32 → Int32 → DY → Option DY) (x0 : Nat) (x1 : Int32) (x2 : Int32) (x3 : Nat) (x4 : Nat) (x5 : Int32) (x6 : Int32) (x7 : Int32) (x8 : Int32) (dy : DY) : Option DY := (F_X8_move S N x4 dy).bind fun u1 => (rec x0 (x1 + (1 : Int32)) (x2 - (1 : Int32)) u1.2).bind fun u3 => (F_X0_addDeeper S N x0 x1 ((gi u3 x4 6) - (gi u3 x3 6)) ((4 : Int32) >>> ((x5 + x6) &&& 31)) u3).bind fun u5 => K82 x0 x1 x2 x3 x4 x5 x6 x7 (x8 + (1 : Int32)) u5
theorem F_X0_spreadLots_141_s (S : ST) (N : Nat) (rec : Nat → Int32 → Int32 → DY → Option DY) (K82 : Nat → Int32 → Int32 → Nat → Nat → Int32 → Int32 → Int32 → Int32 → DY → Option DY) (x0 : Nat) (x1 : Int32) (x2 : Int32) (x3 : Nat) (x4 : Nat) (x5 : Int32) (x6 : Int32) (x7 : Int32) (x8 : Int32) (dy : DY) : F_X0_spreadLots_141 S N rec K82 x0 x1 x2 x3 x4 x5 x6 x7 x8 dy = ((F_X8_move S N x4 dy).bind fun u1 => (rec x0 (x1 + (1 : Int32)) (x2 - (1 : Int32)) u1.2).bind fun u3 => (F_X0_addDeeper S N x0 x1 ((gi u3 x4 6) - (gi u3 x3 6)) ((4 : Int32) >>> ((x5 + x6) &&& 31)) u3).bind fun u5 => K82 x0 x1 x2 x3 x4 x5 x6 x7 (x8 + (1 : Int32)) u5) := rfl
noncomputable def F_X0_spreadLots_118 (S : ST) (N : Nat) (rec : Nat → Int32 → Int32 → DY → Option DY) (K82 : Nat → Int32 → Int32 → Nat → Nat → Int32 → Int32 → Int32 → Int32 → DY → Option DY) (x0 : Nat) (x1 : Int32) (x2 : Int32) (x3 : Nat) (x4 : Nat) (x5 : Int32) (x6 : Int32) (x7 : Int32) (x8 : Int32) (dy : DY) : Option DY := (if x6 = (1 : Int32) then (if x8 = 0 then (F_X0_spreadLots_140 S N rec (F_X0_spreadLots_141 S N rec K82)) x0 x1 x2 x3 x4 x5 x6 x7 x8 (gr S x4 16) (1 : Int32) (1 : Int32) dy else (F_X0_spreadLots_140 S N rec (F_X0_spreadLots_141 S N rec K82)) x0 x1 x2 x3 x4 x5 x6 x7 x8 (gr S x4 16) (1 : Int32) (2 : Int32) dy) else (F_X0_spreadLots_141 S N rec K82) x0 x1 x2 x3 x4 x5 x6 x7 x8 dy)
theorem F_X0_spreadLots_118_s (S : ST) (N : Nat) (rec : Nat → Int32 → Int32 → DY → Option DY) (K82 : Nat → Int32 → Int32 → Nat → Nat → Int32 → Int32 → Int32 → Int32 → DY → Option DY) (x0 : Nat) (x1 : Int32) (x2 : Int32) (x3 : Nat) (x4 : Nat) (x5 : Int32) (x6 : Int32) (x7 : Int32) (x8 : Int32) (dy : DY) : F_X0_spreadLots_118 S N rec K82 x0 x1 x2 x3 x4 x5 x6 x7 x8 dy = (if x6 = (1 : Int32) then (if x8 = 0 then (F_X0_spreadLots_140 S N rec (F_X0_spreadLots_141 S N rec K82)) x0 x1 x2 x3 x4 x5 x6 x7 x8 (gr S x4 16) (1 : Int32) (1 : Int32) dy else (F_X0_spreadLots_140 S N rec (F_X0_spreadLots_141 S N rec K82)) x0 x1 x2 x3 x4 x5 x6 x7 x8 (gr S x4 16) (1 : Int32) (2 : Int32) dy) else (F_X0_spreadLots_141 S N rec K82) x0 x1 x2 x3 x4 x5 x6 x7 x8 dy) := rfl
noncomputable def F_X0_spreadLots_82 (S : ST) (N : Nat) (rec : Nat → Int32 → Int32 → DY → Option DY) (K72 : Nat → Int32 → Int32 → Nat → Nat → Int32 → Int32 → Int32 → DY → Option DY) : Nat → Nat → Int32 → Int32 → Nat → Nat → Int32 → Int32 → Int32 → Int32 → DY → Option DY := fun k => Nat.rec (motive := fun _ => Nat → Int32 → Int32 → Nat → Nat → Int32 → Int32 → Int32 → Int32 → DY → Option DY) (fun _ _ _ _ _ _ _ _ _ _ => none) (fun _ ih x0 x1 x2 x3 x4 x5 x6 x7 x8 dy => (if x6 < x8 then K72 x0 x1 x2 x3 x4 x5 x6 (x7 + (1 : Int32)) dy else (F_X8_copyFrom S N x4 x3 dy).bind fun u1 => (if x5 = (1 : Int32) then (if x7 = 0 then (F_X0_spreadLots_117 S N rec (F_X0_spreadLots_118 S N rec ih)) x0 x1 x2 x3 x4 x5 x6 x7 x8 (gr S x4 16) (0 : Int32) (1 : Int32) u1 else (F_X0_spreadLots_117 S N rec (F_X0_spreadLots_118 S N rec ih)) x0 x1 x2 x3 x4 x5 x6 x7 x8 (gr S x4 16) (0 : Int32) (2 : Int32) u1) else (F_X0_spreadLots_118 S N rec ih) x0 x1 x2 x3 x4 x5 x6 x7 x8 u1))) k
theorem F_X0_spreadLots_82_s (S : ST) (N : Nat) (rec : Nat → Int32 → Int32 → DY → Option DY) (K72 : Nat → Int32 → Int32 → Nat → Nat → Int32 → Int32 → Int32 → DY → Option DY) (k : Nat) (x0 : Nat) (x1 : Int32) (x2 : Int32) (x3 : Nat) (x4 : Nat) (x5 : Int32) (x6 : Int32) (x7 : Int32) (x8 : Int32) (dy : DY) : F_X0_spreadLots_82 S N rec K72 (k + 1) x0 x1 x2 x3 x4 x5 x6 x7 x8 dy = (if x6 < x8 then K72 x0 x1 x2 x3 x4 x5 x6 (x7 + (1 : Int32)) dy else (F_X8_copyFrom S N x4 x3 dy).bind fun u1 => (if x5 = (1 : Int32) then (if x7 = 0 then (F_X0_spreadLots_117 S N rec (F_X0_spreadLots_118 S N rec (F_X0_spreadLots_82 S N rec K72 k))) x0 x1 x2 x3 x4 x5 x6 x7 x8 (gr S x4 16) (0 : Int32) (1 : Int32) u1 else (F_X0_spreadLots_117 S N rec (F_X0_spreadLots_118 S N rec (F_X0_spreadLots_82 S N rec K72 k))) x0 x1 x2 x3 x4 x5 x6 x7 x8 (gr S x4 16) (0 : Int32) (2 : Int32) u1) else (F_X0_spreadLots_118 S N rec (F_X0_spreadLots_82 S N rec K72 k)) x0 x1 x2 x3 x4 x5 x6 x7 x8 u1)) := rfl
noncomputable def F_X0_spreadLots_72 (S : ST) (N : Nat) (rec : Nat → Int32 → Int32 → DY → Option DY) : Nat → Nat → Int32 → Int32 → Nat → Nat → Int32 → Int32 → Int32 → DY → Option DY := fun k => Nat.rec (motive := fun _ => Nat → Int32 → Int32 → Nat → Nat → Int32 → Int32 → Int32 → DY → Option DY) (fun _ _ _ _ _ _ _ _ _ => none) (fun _ ih x0 x1 x2 x3 x4 x5 x6 x7 dy => (if x5 < x7 then some dy else (F_X0_spreadLots_82 S N rec ih N) x0 x1 x2 x3 x4 x5 x6 x7 (0 : Int32) dy)) k
theorem F_X0_spreadLots_72_s (S : ST) (N : Nat) (rec : Nat → Int32 → Int32 → DY → Option DY) (k : Nat) (x0 : Nat) (x1 : Int32) (x2 : Int32) (x3 : Nat) (x4 : Nat) (x5 : Int32) (x6 : Int32) (x7 : Int32) (dy : DY) : F_X0_spreadLots_72 S N rec (k + 1) x0 x1 x2 x3 x4 x5 x6 x7 dy = (if x5 < x7 then some dy else (F_X0_spreadLots_82 S N rec (F_X0_spreadLots_72 S N rec k) N) x0 x1 x2 x3 x4 x5 x6 x7 (0 : Int32) dy) := rfl
noncomputable def F_X0_spreadLots_52 (S : ST) (N : Nat) (rec : Nat → Int32 → Int32 → DY → Option DY) (x0 : Nat) (x1 : Int32) (x2 : Int32) (x3 : Nat) (x4 : Nat) (y0 : Int32) (dy : DY) : Option DY := (F_X8_needsLot S N x3 (1 : Int32) dy).bind fun u1 => (if u1.1 = 0 then (F_X0_spreadLots_72 S N rec N) x0 x1 x2 x3 x4 y0 (0 : Int32) (0 : Int32) u1.2 else (F_X0_spreadLots_72 S N rec N) x0 x1 x2 x3 x4 y0 (1 : Int32) (0 : Int32) u1.2)
theorem F_X0_spreadLots_52_s (S : ST) (N : Nat) (rec : Nat → Int32 → Int32 → DY → Option DY) (x0 : Nat) (x1 : Int32) (x2 : Int32) (x3 : Nat) (x4 : Nat) (y0 : Int32) (dy : DY) : F_X0_spreadLots_52 S N rec x0 x1 x2 x3 x4 y0 dy = ((F_X8_needsLot S N x3 (1 : Int32) dy).bind fun u1 => (if u1.1 = 0 then (F_X0_spreadLots_72 S N rec N) x0 x1 x2 x3 x4 y0 (0 : Int32) (0 : Int32) u1.2 else (F_X0_spreadLots_72 S N rec N) x0 x1 x2 x3 x4 y0 (1 : Int32) (0 : Int32) u1.2)) := rfl
noncomputable def F_X0_spreadLots (S : ST) (N : Nat) (rec : Nat → Int32 → Int32 → DY → Option DY) (a0 : Nat) (a1 : Int32) (a2 : Int32) (dy : DY) : Option DY := if ib a1 9 then if ib (a1 + (1 : Int32)) 9 then (F_X8_deed S N (gr S (gr S a0 2) a1.toNatClampNeg) (0 : Int32) dy).bind fun u6 => if ib (0 : Int32) 12 then bd (si u6.2 (gr S (gr S (gr S a0 2) a1.toNatClampNeg) 16) (0 : Int32).toNatClampNeg u6.1) fun dy8 => (F_X8_deed S N (gr S (gr S a0 2) a1.toNatClampNeg) (1 : Int32) dy8).bind fun u10 => if ib (1 : Int32) 12 then bd (si u10.2 (gr S (gr S (gr S a0 2) a1.toNatClampNeg) 16) (1 : Int32).toNatClampNeg u10.1) fun dy12 => (F_X8_needsLot S N (gr S (gr S a0 2) a1.toNatClampNeg) (0 : Int32) dy12).bind fun u13 => (if u13.1 = 0 then (F_X0_spreadLots_52 S N rec) a0 a1 a2 (gr S (gr S a0 2) a1.toNatClampNeg) (gr S (gr S a0 2) (a1 + (1 : Int32)).toNatClampNeg) (0 : Int32) u13.2 else (F_X0_spreadLots_52 S N rec) a0 a1 a2 (gr S (gr S a0 2) a1.toNatClampNeg) (gr S (gr S a0 2) (a1 + (1 : Int32)).toNatClampNeg) (1 : Int32) u13.2) else none else none else none else none
theorem F_X0_spreadLots_s (S : ST) (N : Nat) (rec : Nat → Int32 → Int32 → DY → Option DY) (a0 : Nat) (a1 : Int32) (a2 : Int32) (dy : DY) : F_X0_spreadLots S N rec a0 a1 a2 dy = (if ib a1 9 then if ib (a1 + (1 : Int32)) 9 then (F_X8_deed S N (gr S (gr S a0 2) a1.toNatClampNeg) (0 : Int32) dy).bind fun u6 => if ib (0 : Int32) 12 then bd (si u6.2 (gr S (gr S (gr S a0 2) a1.toNatClampNeg) 16) (0 : Int32).toNatClampNeg u6.1) fun dy8 => (F_X8_deed S N (gr S (gr S a0 2) a1.toNatClampNeg) (1 : Int32) dy8).bind fun u10 => if ib (1 : Int32) 12 then bd (si u10.2 (gr S (gr S (gr S a0 2) a1.toNatClampNeg) 16) (1 : Int32).toNatClampNeg u10.1) fun dy12 => (F_X8_needsLot S N (gr S (gr S a0 2) a1.toNatClampNeg) (0 : Int32) dy12).bind fun u13 => (if u13.1 = 0 then (F_X0_spreadLots_52 S N rec) a0 a1 a2 (gr S (gr S a0 2) a1.toNatClampNeg) (gr S (gr S a0 2) (a1 + (1 : Int32)).toNatClampNeg) (0 : Int32) u13.2 else (F_X0_spreadLots_52 S N rec) a0 a1 a2 (gr S (gr S a0 2) a1.toNatClampNeg) (gr S (gr S a0 2) (a1 + (1 : Int32)).toNatClampNeg) (1 : Int32) u13.2) else none else none else none else none) := rfl
noncomputable def F_X0_spread_81 (S : ST) (N : Nat) (rec : Nat → Int32 → Int32 → DY → Option DY) (x0 : Nat) (x2 : Int32) (x4 : Int32) (y0 : Nat) (y1 : Int32) (y2 : Int32) (dy : DY) : Option DY := if ib y1 90 then bd (si dy y0 y1.toNatClampNeg y2) fun dy1 => if ib (x4 + (1 : Int32)) 90 then bd (si dy1 (gr S x0 3) (x4 + (1 : Int32)).toNatClampNeg ((1 : Int32) <<< (((2 : Int32) * x2) &&& 31))) fun dy3 => some dy3 else none else none
theorem F_X0_spread_81_s (S : ST) (N : Nat) (rec : Nat → Int32 → Int32 → DY → Option DY) (x0 : Nat) (x2 : Int32) (x4 : Int32) (y0 : Nat) (y1 : Int32) (y2 : Int32) (dy : DY) : F_X0_spread_81 S N rec x0 x2 x4 y0 y1 y2 dy = (if ib y1 90 then bd (si dy y0 y1.toNatClampNeg y2) fun dy1 => if ib (x4 + (1 : Int32)) 90 then bd (si dy1 (gr S x0 3) (x4 + (1 : Int32)).toNatClampNeg ((1 : Int32) <<< (((2 : Int32) * x2) &&& 31))) fun dy3 => some dy3 else none else none) := rfl
noncomputable def F_X0_spread_58 (S : ST) (N : Nat) (rec : Nat → Int32 → Int32 → DY → Option DY) (x0 : Nat) (x2 : Int32) (x3 : Nat) (x4 : Int32) (dy : DY) : Option DY := (if (gi dy x3 5) = (2 : Int32) then (F_X0_spread_81 S N rec) x0 x2 x4 (gr S x0 3) x4 ((1 : Int32) <<< (((2 : Int32) * x2) &&& 31)) dy else (F_X0_spread_81 S N rec) x0 x2 x4 (gr S x0 3) x4 (0 : Int32) dy)
theorem F_X0_spread_58_s (S : ST) (N : Nat) (rec : Nat → Int32 → Int32 → DY → Option DY) (x0 : Nat) (x2 : Int32) (x3 : Nat) (x4 : Int32) (dy : DY) : F_X0_spread_58 S N rec x0 x2 x3 x4 dy = (if (gi dy x3 5) = (2 : Int32) then (F_X0_spread_81 S N rec) x0 x2 x4 (gr S x0 3) x4 ((1 : Int32) <<< (((2 : Int32) * x2) &&& 31)) dy else (F_X0_spread_81 S N rec) x0 x2 x4 (gr S x0 3) x4 (0 : Int32) dy) := rfl
noncomputable def F_X0_spread_157 (S : ST) (N : Nat) (rec : Nat → Int32 → Int32 → DY → Option DY) (x0 : Nat) (x1 : Int32) (x2 : Int32) (x4 : Int32) (x5 : Int64) (x7 : Int32) (dy : DY) : Option DY := (F_X0_spreadLots S N rec x0 x1 x2 dy).bind fun u1 => if ib x7 512 then bd (si u1 (gr S x0 5) x7.toNatClampNeg x2) fun dy4 => if ib x7 512 then bd (sl dy4 (gr S x0 4) x7.toNatClampNeg x5) fun dy6 => if ic x4 (10 : Int32) 90 ∧ ic (x7 * (10 : Int32)) (10 : Int32) 5120 then bd (cpi dy6 (gr S x0 3) (gr S x0 6) x4.toNatClampNeg (x7 * (10 : Int32)).toNatClampNeg (10 : Int32).toNatClampNeg) fun dy9 => some dy9 else none else none else none
theorem F_X0_spread_157_s (S : ST) (N : Nat) (rec : Nat → Int32 → Int32 → DY → Option DY) (x0 : Nat) (x1 : Int32) (x2 : Int32) (x4 : Int32) (x5 : Int64) (x7 : Int32) (dy : DY) : F_X0_spread_157 S N rec x0 x1 x2 x4 x5 x7 dy = ((F_X0_spreadLots S N rec x0 x1 x2 dy).bind fun u1 => if ib x7 512 then bd (si u1 (gr S x0 5) x7.toNatClampNeg x2) fun dy4 => if ib x7 512 then bd (sl dy4 (gr S x0 4) x7.toNatClampNeg x5) fun dy6 => if ic x4 (10 : Int32) 90 ∧ ic (x7 * (10 : Int32)) (10 : Int32) 5120 then bd (cpi dy6 (gr S x0 3) (gr S x0 6) x4.toNatClampNeg (x7 * (10 : Int32)).toNatClampNeg (10 : Int32).toNatClampNeg) fun dy9 => some dy9 else none else none else none) := rfl
noncomputable def F_X0_spread_16 (S : ST) (N : Nat) (rec : Nat → Int32 → Int32 → DY → Option DY) : Nat → Nat → Int32 → Int32 → Nat → Int32 → Int32 → DY → Option DY := fun k => Nat.rec (motive := fun _ => Nat → Int32 → Int32 → Nat → Int32 → Int32 → DY → Option DY) (fun _ _ _ _ _ _ _ => none) (fun _ ih x0 x1 x2 x3 x4 x5 dy => (if (10 : Int32) ≤ x5 then (if x2 ≤ 0 then (F_X0_spread_58 S N rec) x0 x2 x3 x4 dy else (if (8 : Int32) ≤ x1 then (F_X0_spread_58 S N rec) x0 x2 x3 x4 dy else (if (gi dy x3 5) = (2 : Int32) then (F_X0_spread_58 S N rec) x0 x2 x3 x4 dy else (F_X0_keyOf S N x0 x3 dy).bind fun u1 => (F_X0_slotOf S N u1.1 x2 u1.2).bind fun u3 => if ib u3.1 512 then (if (gi u3.2 (gr S x0 5) u3.1.toNatClampNeg) = x2 then if ib u3.1 512 then (if (lg_cmp (gl u3.2 (gr S x0 4) u3.1.toNatClampNeg) u1.1) = 0 then if ic (u3.1 * (10 : Int32)) (10 : Int32) 5120 ∧ ic x4 (10 : Int32) 90 then bd (cpi u3.2 (gr S x0 6) (gr S x0 3) (u3.1 * (10 : Int32)).toNatClampNeg x4.toNatClampNeg (10 : Int32).toNatClampNeg) fun dy9 => some dy9 else none else (F_X0_spread_157 S N rec) x0 x1 x2 x4 u1.1 u3.1 u3.2) else none else (F_X0_spread_157 S N rec) x0 x1 x2 x4 u1.1 u3.1 u3.2) else none))) else if ib (x4 + x5) 90 then bd (si dy (gr S x0 3) (x4 + x5).toNatClampNeg (0 : Int32)) fun dy12 => ih x0 x1 x2 x3 x4 (x5 + (1 : Int32)) dy12 else none)) k
theorem F_X0_spread_16_s (S : ST) (N : Nat) (rec : Nat → Int32 → Int32 → DY → Option DY) (k : Nat) (x0 : Nat) (x1 : Int32) (x2 : Int32) (x3 : Nat) (x4 : Int32) (x5 : Int32) (dy : DY) : F_X0_spread_16 S N rec (k + 1) x0 x1 x2 x3 x4 x5 dy = (if (10 : Int32) ≤ x5 then (if x2 ≤ 0 then (F_X0_spread_58 S N rec) x0 x2 x3 x4 dy else (if (8 : Int32) ≤ x1 then (F_X0_spread_58 S N rec) x0 x2 x3 x4 dy else (if (gi dy x3 5) = (2 : Int32) then (F_X0_spread_58 S N rec) x0 x2 x3 x4 dy else (F_X0_keyOf S N x0 x3 dy).bind fun u1 => (F_X0_slotOf S N u1.1 x2 u1.2).bind fun u3 => if ib u3.1 512 then (if (gi u3.2 (gr S x0 5) u3.1.toNatClampNeg) = x2 then if ib u3.1 512 then (if (lg_cmp (gl u3.2 (gr S x0 4) u3.1.toNatClampNeg) u1.1) = 0 then if ic (u3.1 * (10 : Int32)) (10 : Int32) 5120 ∧ ic x4 (10 : Int32) 90 then bd (cpi u3.2 (gr S x0 6) (gr S x0 3) (u3.1 * (10 : Int32)).toNatClampNeg x4.toNatClampNeg (10 : Int32).toNatClampNeg) fun dy9 => some dy9 else none else (F_X0_spread_157 S N rec) x0 x1 x2 x4 u1.1 u3.1 u3.2) else none else (F_X0_spread_157 S N rec) x0 x1 x2 x4 u1.1 u3.1 u3.2) else none))) else if ib (x4 + x5) 90 then bd (si dy (gr S x0 3) (x4 + x5).toNatClampNeg (0 : Int32)) fun dy12 => (F_X0_spread_16 S N rec k) x0 x1 x2 x3 x4 (x5 + (1 : Int32)) dy12 else none) := rfl
noncomputable def F_X0_spread (S : ST) (N : Nat) : Nat → Nat → Int32 → Int32 → DY → Option DY := fun k => Nat.rec (motive := fun _ => Nat → Int32 → Int32 → DY → Option DY) (fun _ _ _ _ => none) (fun _ rec a0 a1 a2 dy => if ib a1 9 then (F_X0_spread_16 S N rec N) a0 a1 a2 (gr S (gr S a0 2) a1.toNatClampNeg) (a1 * (10 : Int32)) (0 : Int32) dy else none) k
theorem F_X0_spread_s (S : ST) (N : Nat) (dep : Nat) (a0 : Nat) (a1 : Int32) (a2 : Int32) (dy : DY) : F_X0_spread S N (dep + 1) a0 a1 a2 dy = (if ib a1 9 then (F_X0_spread_16 S N (F_X0_spread S N dep) N) a0 a1 a2 (gr S (gr S a0 2) a1.toNatClampNeg) (a1 * (10 : Int32)) (0 : Int32) dy else none) := rfl
noncomputable def F_X0_parts (S : ST) (N : Nat) (a0 : Nat) (a1 : Int32) (a2 : Int32) (dy : DY) : Option (Int32 × DY) := (if (gi dy (gr S a0 0) 3) = (2 : Int32) then (if a1 < 0 then some ((-1 : Int32), dy) else (if (8 : Int32) < a1 then some ((-1 : Int32), dy) else (if a2 < 0 then some ((-1 : Int32), dy) else (if a2 < (10 : Int32) then if ib (0 : Int32) 12 then if ib (1 : Int32) 12 then bd (si dy a0 7 ((1 : Int32) + (if (if (gi dy (gr S (gr S a0 0) 9) (0 : Int32).toNatClampNeg) < (gi dy (gr S (gr S a0 0) 9) (1 : Int32).toNatClampNeg) then (gi dy (gr S (gr S a0 0) 9) (1 : Int32).toNatClampNeg) else (gi dy (gr S (gr S a0 0) 9) (0 : Int32).toNatClampNeg)) < (3 : Int32) then (if (gi dy (gr S (gr S a0 0) 9) (0 : Int32).toNatClampNeg) < (gi dy (gr S (gr S a0 0) 9) (1 : Int32).toNatClampNeg) then (gi dy (gr S (gr S a0 0) 9) (1 : Int32).toNatClampNeg) else (gi dy (gr S (gr S a0 0) 9) (0 : Int32).toNatClampNeg)) else (3 : Int32)))) fun dy6 => (F_X2_weighs S N (gr S a0 1) (5 : Int32) dy6).bind fun u8 => if zb u8.1 then bd (si u8.2 a0 8 u8.1) fun dy10 => (F_J7_fill_53178 S N 512 (gr S a0 5) (0 : Int32) dy10).bind fun u13 => if ib (0 : Int32) 9 then (F_X8_begin S N (gr S (gr S a0 2) (0 : Int32).toNatClampNeg) (0 : Int32) u13).bind fun u17 => (F_X0_spread S N 10 a0 (0 : Int32) a1 u17).bind fun u19 => if ib a2 90 then some ((gi u19 (gr S a0 3) a2.toNatClampNeg), u19) else none else none else none else none else none else some ((-1 : Int32), dy))))) else some ((-1 : Int32), dy))
theorem F_X0_parts_s (S : ST) (N : Nat) (a0 : Nat) (a1 : Int32) (a2 : Int32) (dy : DY) : F_X0_parts S N a0 a1 a2 dy = (if (gi dy (gr S a0 0) 3) = (2 : Int32) then (if a1 < 0 then some ((-1 : Int32), dy) else (if (8 : Int32) < a1 then some ((-1 : Int32), dy) else (if a2 < 0 then some ((-1 : Int32), dy) else (if a2 < (10 : Int32) then if ib (0 : Int32) 12 then if ib (1 : Int32) 12 then bd (si dy a0 7 ((1 : Int32) + (if (if (gi dy (gr S (gr S a0 0) 9) (0 : Int32).toNatClampNeg) < (gi dy (gr S (gr S a0 0) 9) (1 : Int32).toNatClampNeg) then (gi dy (gr S (gr S a0 0) 9) (1 : Int32).toNatClampNeg) else (gi dy (gr S (gr S a0 0) 9) (0 : Int32).toNatClampNeg)) < (3 : Int32) then (if (gi dy (gr S (gr S a0 0) 9) (0 : Int32).toNatClampNeg) < (gi dy (gr S (gr S a0 0) 9) (1 : Int32).toNatClampNeg) then (gi dy (gr S (gr S a0 0) 9) (1 : Int32).toNatClampNeg) else (gi dy (gr S (gr S a0 0) 9) (0 : Int32).toNatClampNeg)) else (3 : Int32)))) fun dy6 => (F_X2_weighs S N (gr S a0 1) (5 : Int32) dy6).bind fun u8 => if zb u8.1 then bd (si u8.2 a0 8 u8.1) fun dy10 => (F_J7_fill_53178 S N 512 (gr S a0 5) (0 : Int32) dy10).bind fun u13 => if ib (0 : Int32) 9 then (F_X8_begin S N (gr S (gr S a0 2) (0 : Int32).toNatClampNeg) (0 : Int32) u13).bind fun u17 => (F_X0_spread S N 10 a0 (0 : Int32) a1 u17).bind fun u19 => if ib a2 90 then some ((gi u19 (gr S a0 3) a2.toNatClampNeg), u19) else none else none else none else none else none else some ((-1 : Int32), dy))))) else some ((-1 : Int32), dy)) := rfl
theorem dX0_addDeeper_0 : decode cX0_addDeeper 0 = .ok (.iload_n 1, 1) := by decide +kernel
theorem dX0_addDeeper_1 : decode cX0_addDeeper 1 = .ok (.bipush 10, 2) := by decide +kernel
theorem dX0_addDeeper_3 : decode cX0_addDeeper 3 = .ok (.imul, 1) := by decide +kernel
theorem dX0_addDeeper_4 : decode cX0_addDeeper 4 = .ok (.istore 4, 2) := by decide +kernel
theorem dX0_addDeeper_6 : decode cX0_addDeeper 6 = .ok (.iload 4, 2) := by decide +kernel
theorem dX0_addDeeper_8 : decode cX0_addDeeper 8 = .ok (.bipush 10, 2) := by decide +kernel
theorem dX0_addDeeper_10 : decode cX0_addDeeper 10 = .ok (.iadd, 1) := by decide +kernel
theorem dX0_addDeeper_11 : decode cX0_addDeeper 11 = .ok (.istore 5, 2) := by decide +kernel
theorem dX0_addDeeper_13 : decode cX0_addDeeper 13 = .ok (.aload_n 0, 1) := by decide +kernel
theorem dX0_addDeeper_14 : decode cX0_addDeeper 14 = .ok (.getfield 17, 3) := by decide +kernel
theorem dX0_addDeeper_17 : decode cX0_addDeeper 17 = .ok (.iload 4, 2) := by decide +kernel
theorem dX0_addDeeper_19 : decode cX0_addDeeper 19 = .ok (.dup2, 1) := by decide +kernel
theorem dX0_addDeeper_20 : decode cX0_addDeeper 20 = .ok (.iaload, 1) := by decide +kernel
theorem dX0_addDeeper_21 : decode cX0_addDeeper 21 = .ok (.iload_n 3, 1) := by decide +kernel
theorem dX0_addDeeper_22 : decode cX0_addDeeper 22 = .ok (.aload_n 0, 1) := by decide +kernel
theorem dX0_addDeeper_23 : decode cX0_addDeeper 23 = .ok (.getfield 17, 3) := by decide +kernel
theorem dX0_addDeeper_26 : decode cX0_addDeeper 26 = .ok (.iload 5, 2) := by decide +kernel
theorem dX0_addDeeper_28 : decode cX0_addDeeper 28 = .ok (.iaload, 1) := by decide +kernel
theorem dX0_addDeeper_29 : decode cX0_addDeeper 29 = .ok (.imul, 1) := by decide +kernel
theorem dX0_addDeeper_30 : decode cX0_addDeeper 30 = .ok (.iadd, 1) := by decide +kernel
theorem dX0_addDeeper_31 : decode cX0_addDeeper 31 = .ok (.iastore, 1) := by decide +kernel
theorem dX0_addDeeper_32 : decode cX0_addDeeper 32 = .ok (.iconst 0, 1) := by decide +kernel
theorem dX0_addDeeper_33 : decode cX0_addDeeper 33 = .ok (.istore 6, 2) := by decide +kernel
theorem dX0_addDeeper_35 : decode cX0_addDeeper 35 = .ok (.iload 6, 2) := by decide +kernel
theorem dX0_addDeeper_37 : decode cX0_addDeeper 37 = .ok (.bipush 9, 2) := by decide +kernel
theorem dX0_addDeeper_39 : decode cX0_addDeeper 39 = .ok (.if_icmp .ge 50, 3) := by decide +kernel
theorem dX0_addDeeper_42 : decode cX0_addDeeper 42 = .ok (.iload_n 2, 1) := by decide +kernel
theorem dX0_addDeeper_43 : decode cX0_addDeeper 43 = .ok (.ifCond .lt 40, 3) := by decide +kernel
theorem dX0_addDeeper_46 : decode cX0_addDeeper 46 = .ok (.iload_n 2, 1) := by decide +kernel
theorem dX0_addDeeper_47 : decode cX0_addDeeper 47 = .ok (.iload 6, 2) := by decide +kernel
theorem dX0_addDeeper_49 : decode cX0_addDeeper 49 = .ok (.if_icmp .gt 34, 3) := by decide +kernel
theorem dX0_addDeeper_52 : decode cX0_addDeeper 52 = .ok (.aload_n 0, 1) := by decide +kernel
theorem dX0_addDeeper_53 : decode cX0_addDeeper 53 = .ok (.getfield 17, 3) := by decide +kernel
theorem dX0_addDeeper_56 : decode cX0_addDeeper 56 = .ok (.iload 4, 2) := by decide +kernel
theorem dX0_addDeeper_58 : decode cX0_addDeeper 58 = .ok (.iconst 1, 1) := by decide +kernel
theorem dX0_addDeeper_59 : decode cX0_addDeeper 59 = .ok (.iadd, 1) := by decide +kernel
theorem dX0_addDeeper_60 : decode cX0_addDeeper 60 = .ok (.iload 6, 2) := by decide +kernel
theorem dX0_addDeeper_62 : decode cX0_addDeeper 62 = .ok (.iadd, 1) := by decide +kernel
theorem dX0_addDeeper_63 : decode cX0_addDeeper 63 = .ok (.dup2, 1) := by decide +kernel
theorem dX0_addDeeper_64 : decode cX0_addDeeper 64 = .ok (.iaload, 1) := by decide +kernel
theorem dX0_addDeeper_65 : decode cX0_addDeeper 65 = .ok (.iload_n 3, 1) := by decide +kernel
theorem dX0_addDeeper_66 : decode cX0_addDeeper 66 = .ok (.aload_n 0, 1) := by decide +kernel
theorem dX0_addDeeper_67 : decode cX0_addDeeper 67 = .ok (.getfield 17, 3) := by decide +kernel
theorem dX0_addDeeper_70 : decode cX0_addDeeper 70 = .ok (.iload 5, 2) := by decide +kernel
theorem dX0_addDeeper_72 : decode cX0_addDeeper 72 = .ok (.iconst 1, 1) := by decide +kernel
theorem dX0_addDeeper_73 : decode cX0_addDeeper 73 = .ok (.iadd, 1) := by decide +kernel
theorem dX0_addDeeper_74 : decode cX0_addDeeper 74 = .ok (.iload 6, 2) := by decide +kernel
theorem dX0_addDeeper_76 : decode cX0_addDeeper 76 = .ok (.iadd, 1) := by decide +kernel
theorem dX0_addDeeper_77 : decode cX0_addDeeper 77 = .ok (.iload_n 2, 1) := by decide +kernel
theorem dX0_addDeeper_78 : decode cX0_addDeeper 78 = .ok (.isub, 1) := by decide +kernel
theorem dX0_addDeeper_79 : decode cX0_addDeeper 79 = .ok (.iaload, 1) := by decide +kernel
theorem dX0_addDeeper_80 : decode cX0_addDeeper 80 = .ok (.imul, 1) := by decide +kernel
theorem dX0_addDeeper_81 : decode cX0_addDeeper 81 = .ok (.iadd, 1) := by decide +kernel
theorem dX0_addDeeper_82 : decode cX0_addDeeper 82 = .ok (.iastore, 1) := by decide +kernel
theorem dX0_addDeeper_83 : decode cX0_addDeeper 83 = .ok (.iinc 6 1, 3) := by decide +kernel
theorem dX0_addDeeper_86 : decode cX0_addDeeper 86 = .ok (.goto (-51), 3) := by decide +kernel
theorem dX0_addDeeper_89 : decode cX0_addDeeper 89 = .ok (.return_, 1) := by decide +kernel
theorem dX0_keyOf_0 : decode cX0_keyOf 0 = .ok (.lconst 0, 1) := by decide +kernel
theorem dX0_keyOf_1 : decode cX0_keyOf 1 = .ok (.lstore_n 2, 1) := by decide +kernel
theorem dX0_keyOf_2 : decode cX0_keyOf 2 = .ok (.iconst 0, 1) := by decide +kernel
theorem dX0_keyOf_3 : decode cX0_keyOf 3 = .ok (.istore 4, 2) := by decide +kernel
theorem dX0_keyOf_5 : decode cX0_keyOf 5 = .ok (.iload 4, 2) := by decide +kernel
theorem dX0_keyOf_7 : decode cX0_keyOf 7 = .ok (.aload_n 0, 1) := by decide +kernel
theorem dX0_keyOf_8 : decode cX0_keyOf 8 = .ok (.getfield 60, 3) := by decide +kernel
theorem dX0_keyOf_11 : decode cX0_keyOf 11 = .ok (.if_icmp .ge 79, 3) := by decide +kernel
theorem dX0_keyOf_14 : decode cX0_keyOf 14 = .ok (.iconst 0, 1) := by decide +kernel
theorem dX0_keyOf_15 : decode cX0_keyOf 15 = .ok (.istore 5, 2) := by decide +kernel
theorem dX0_keyOf_17 : decode cX0_keyOf 17 = .ok (.iload 5, 2) := by decide +kernel
theorem dX0_keyOf_19 : decode cX0_keyOf 19 = .ok (.iconst 2, 1) := by decide +kernel
theorem dX0_keyOf_20 : decode cX0_keyOf 20 = .ok (.if_icmp .ge 64, 3) := by decide +kernel
theorem dX0_keyOf_23 : decode cX0_keyOf 23 = .ok (.iload 4, 2) := by decide +kernel
theorem dX0_keyOf_25 : decode cX0_keyOf 25 = .ok (.bipush 12, 2) := by decide +kernel
theorem dX0_keyOf_27 : decode cX0_keyOf 27 = .ok (.imul, 1) := by decide +kernel
theorem dX0_keyOf_28 : decode cX0_keyOf 28 = .ok (.iload 5, 2) := by decide +kernel
theorem dX0_keyOf_30 : decode cX0_keyOf 30 = .ok (.iadd, 1) := by decide +kernel
theorem dX0_keyOf_31 : decode cX0_keyOf 31 = .ok (.istore 6, 2) := by decide +kernel
theorem dX0_keyOf_33 : decode cX0_keyOf 33 = .ok (.aload_n 1, 1) := by decide +kernel
theorem dX0_keyOf_34 : decode cX0_keyOf 34 = .ok (.getfield 132, 3) := by decide +kernel
theorem dX0_keyOf_37 : decode cX0_keyOf 37 = .ok (.iload 6, 2) := by decide +kernel
theorem dX0_keyOf_39 : decode cX0_keyOf 39 = .ok (.iaload, 1) := by decide +kernel
theorem dX0_keyOf_40 : decode cX0_keyOf 40 = .ok (.iconst (-1), 1) := by decide +kernel
theorem dX0_keyOf_41 : decode cX0_keyOf 41 = .ok (.if_icmp .ne 8, 3) := by decide +kernel
theorem dX0_keyOf_44 : decode cX0_keyOf 44 = .ok (.bipush 96, 2) := by decide +kernel
theorem dX0_keyOf_46 : decode cX0_keyOf 46 = .ok (.goto 21, 3) := by decide +kernel
theorem dX0_keyOf_49 : decode cX0_keyOf 49 = .ok (.aload_n 1, 1) := by decide +kernel
theorem dX0_keyOf_50 : decode cX0_keyOf 50 = .ok (.getfield 132, 3) := by decide +kernel
theorem dX0_keyOf_53 : decode cX0_keyOf 53 = .ok (.iload 6, 2) := by decide +kernel
theorem dX0_keyOf_55 : decode cX0_keyOf 55 = .ok (.iaload, 1) := by decide +kernel
theorem dX0_keyOf_56 : decode cX0_keyOf 56 = .ok (.bipush 6, 2) := by decide +kernel
theorem dX0_keyOf_58 : decode cX0_keyOf 58 = .ok (.imul, 1) := by decide +kernel
theorem dX0_keyOf_59 : decode cX0_keyOf 59 = .ok (.aload_n 1, 1) := by decide +kernel
theorem dX0_keyOf_60 : decode cX0_keyOf 60 = .ok (.getfield 135, 3) := by decide +kernel
theorem dX0_keyOf_63 : decode cX0_keyOf 63 = .ok (.iload 6, 2) := by decide +kernel
theorem dX0_keyOf_65 : decode cX0_keyOf 65 = .ok (.iaload, 1) := by decide +kernel
theorem dX0_keyOf_66 : decode cX0_keyOf 66 = .ok (.iadd, 1) := by decide +kernel
theorem dX0_keyOf_67 : decode cX0_keyOf 67 = .ok (.istore 7, 2) := by decide +kernel
theorem dX0_keyOf_69 : decode cX0_keyOf 69 = .ok (.lload_n 2, 1) := by decide +kernel
theorem dX0_keyOf_70 : decode cX0_keyOf 70 = .ok (.bipush 7, 2) := by decide +kernel
theorem dX0_keyOf_72 : decode cX0_keyOf 72 = .ok (.lshl, 1) := by decide +kernel
theorem dX0_keyOf_73 : decode cX0_keyOf 73 = .ok (.iload 7, 2) := by decide +kernel
theorem dX0_keyOf_75 : decode cX0_keyOf 75 = .ok (.i2l, 1) := by decide +kernel
theorem dX0_keyOf_76 : decode cX0_keyOf 76 = .ok (.lor, 1) := by decide +kernel
theorem dX0_keyOf_77 : decode cX0_keyOf 77 = .ok (.lstore_n 2, 1) := by decide +kernel
theorem dX0_keyOf_78 : decode cX0_keyOf 78 = .ok (.iinc 5 1, 3) := by decide +kernel
theorem dX0_keyOf_81 : decode cX0_keyOf 81 = .ok (.goto (-64), 3) := by decide +kernel
theorem dX0_keyOf_84 : decode cX0_keyOf 84 = .ok (.iinc 4 1, 3) := by decide +kernel
theorem dX0_keyOf_87 : decode cX0_keyOf 87 = .ok (.goto (-82), 3) := by decide +kernel
theorem dX0_keyOf_90 : decode cX0_keyOf 90 = .ok (.aload_n 0, 1) := by decide +kernel
theorem dX0_keyOf_91 : decode cX0_keyOf 91 = .ok (.getfield 69, 3) := by decide +kernel
theorem dX0_keyOf_94 : decode cX0_keyOf 94 = .ok (.ifCond .eq 26, 3) := by decide +kernel
theorem dX0_keyOf_97 : decode cX0_keyOf 97 = .ok (.lload_n 2, 1) := by decide +kernel
theorem dX0_keyOf_98 : decode cX0_keyOf 98 = .ok (.bipush 8, 2) := by decide +kernel
theorem dX0_keyOf_100 : decode cX0_keyOf 100 = .ok (.lshl, 1) := by decide +kernel
theorem dX0_keyOf_101 : decode cX0_keyOf 101 = .ok (.aload_n 1, 1) := by decide +kernel
theorem dX0_keyOf_102 : decode cX0_keyOf 102 = .ok (.getfield 138, 3) := by decide +kernel
theorem dX0_keyOf_105 : decode cX0_keyOf 105 = .ok (.iconst 0, 1) := by decide +kernel
theorem dX0_keyOf_106 : decode cX0_keyOf 106 = .ok (.iaload, 1) := by decide +kernel
theorem dX0_keyOf_107 : decode cX0_keyOf 107 = .ok (.iconst 4, 1) := by decide +kernel
theorem dX0_keyOf_108 : decode cX0_keyOf 108 = .ok (.ishl, 1) := by decide +kernel
theorem dX0_keyOf_109 : decode cX0_keyOf 109 = .ok (.i2l, 1) := by decide +kernel
theorem dX0_keyOf_110 : decode cX0_keyOf 110 = .ok (.lor, 1) := by decide +kernel
theorem dX0_keyOf_111 : decode cX0_keyOf 111 = .ok (.aload_n 1, 1) := by decide +kernel
theorem dX0_keyOf_112 : decode cX0_keyOf 112 = .ok (.getfield 138, 3) := by decide +kernel
theorem dX0_keyOf_115 : decode cX0_keyOf 115 = .ok (.iconst 1, 1) := by decide +kernel
theorem dX0_keyOf_116 : decode cX0_keyOf 116 = .ok (.iaload, 1) := by decide +kernel
theorem dX0_keyOf_117 : decode cX0_keyOf 117 = .ok (.i2l, 1) := by decide +kernel
theorem dX0_keyOf_118 : decode cX0_keyOf 118 = .ok (.lor, 1) := by decide +kernel
theorem dX0_keyOf_119 : decode cX0_keyOf 119 = .ok (.lstore_n 2, 1) := by decide +kernel
theorem dX0_keyOf_120 : decode cX0_keyOf 120 = .ok (.lload_n 2, 1) := by decide +kernel
theorem dX0_keyOf_121 : decode cX0_keyOf 121 = .ok (.lreturn, 1) := by decide +kernel
theorem dX0_slotOf_0 : decode cX0_slotOf 0 = .ok (.lload_n 0, 1) := by decide +kernel
theorem dX0_slotOf_1 : decode cX0_slotOf 1 = .ok (.ldc2_w 141, 3) := by decide +kernel
theorem dX0_slotOf_4 : decode cX0_slotOf 4 = .ok (.lmul, 1) := by decide +kernel
theorem dX0_slotOf_5 : decode cX0_slotOf 5 = .ok (.iload_n 2, 1) := by decide +kernel
theorem dX0_slotOf_6 : decode cX0_slotOf 6 = .ok (.i2l, 1) := by decide +kernel
theorem dX0_slotOf_7 : decode cX0_slotOf 7 = .ok (.ladd, 1) := by decide +kernel
theorem dX0_slotOf_8 : decode cX0_slotOf 8 = .ok (.ldc2_w 143, 3) := by decide +kernel
theorem dX0_slotOf_11 : decode cX0_slotOf 11 = .ok (.lmul, 1) := by decide +kernel
theorem dX0_slotOf_12 : decode cX0_slotOf 12 = .ok (.lstore_n 3, 1) := by decide +kernel
theorem dX0_slotOf_13 : decode cX0_slotOf 13 = .ok (.lload_n 3, 1) := by decide +kernel
theorem dX0_slotOf_14 : decode cX0_slotOf 14 = .ok (.bipush 55, 2) := by decide +kernel
theorem dX0_slotOf_16 : decode cX0_slotOf 16 = .ok (.lushr, 1) := by decide +kernel
theorem dX0_slotOf_17 : decode cX0_slotOf 17 = .ok (.l2i, 1) := by decide +kernel
theorem dX0_slotOf_18 : decode cX0_slotOf 18 = .ok (.ireturn, 1) := by decide +kernel
theorem dX0_spreadLots_0 : decode cX0_spreadLots 0 = .ok (.aload_n 0, 1) := by decide +kernel
theorem dX0_spreadLots_1 : decode cX0_spreadLots 1 = .ok (.getfield 13, 3) := by decide +kernel
theorem dX0_spreadLots_4 : decode cX0_spreadLots 4 = .ok (.iload_n 1, 1) := by decide +kernel
theorem dX0_spreadLots_5 : decode cX0_spreadLots 5 = .ok (.aaload, 1) := by decide +kernel
theorem dX0_spreadLots_6 : decode cX0_spreadLots 6 = .ok (.astore_n 3, 1) := by decide +kernel
theorem dX0_spreadLots_7 : decode cX0_spreadLots 7 = .ok (.aload_n 0, 1) := by decide +kernel
theorem dX0_spreadLots_8 : decode cX0_spreadLots 8 = .ok (.getfield 13, 3) := by decide +kernel
theorem dX0_spreadLots_11 : decode cX0_spreadLots 11 = .ok (.iload_n 1, 1) := by decide +kernel
theorem dX0_spreadLots_12 : decode cX0_spreadLots 12 = .ok (.iconst 1, 1) := by decide +kernel
theorem dX0_spreadLots_13 : decode cX0_spreadLots 13 = .ok (.iadd, 1) := by decide +kernel
theorem dX0_spreadLots_14 : decode cX0_spreadLots 14 = .ok (.aaload, 1) := by decide +kernel
theorem dX0_spreadLots_15 : decode cX0_spreadLots 15 = .ok (.astore 4, 2) := by decide +kernel
theorem dX0_spreadLots_17 : decode cX0_spreadLots 17 = .ok (.aload_n 3, 1) := by decide +kernel
theorem dX0_spreadLots_18 : decode cX0_spreadLots 18 = .ok (.getfield 107, 3) := by decide +kernel
theorem dX0_spreadLots_21 : decode cX0_spreadLots 21 = .ok (.iconst 0, 1) := by decide +kernel
theorem dX0_spreadLots_22 : decode cX0_spreadLots 22 = .ok (.aload_n 3, 1) := by decide +kernel
theorem dX0_spreadLots_23 : decode cX0_spreadLots 23 = .ok (.iconst 0, 1) := by decide +kernel
theorem dX0_spreadLots_24 : decode cX0_spreadLots 24 = .ok (.invokevirtual 110, 3) := by decide +kernel
theorem dX0_spreadLots_27 : decode cX0_spreadLots 27 = .ok (.iastore, 1) := by decide +kernel
theorem dX0_spreadLots_28 : decode cX0_spreadLots 28 = .ok (.aload_n 3, 1) := by decide +kernel
theorem dX0_spreadLots_29 : decode cX0_spreadLots 29 = .ok (.getfield 107, 3) := by decide +kernel
theorem dX0_spreadLots_32 : decode cX0_spreadLots 32 = .ok (.iconst 1, 1) := by decide +kernel
theorem dX0_spreadLots_33 : decode cX0_spreadLots 33 = .ok (.aload_n 3, 1) := by decide +kernel
theorem dX0_spreadLots_34 : decode cX0_spreadLots 34 = .ok (.iconst 1, 1) := by decide +kernel
theorem dX0_spreadLots_35 : decode cX0_spreadLots 35 = .ok (.invokevirtual 110, 3) := by decide +kernel
theorem dX0_spreadLots_38 : decode cX0_spreadLots 38 = .ok (.iastore, 1) := by decide +kernel
theorem dX0_spreadLots_39 : decode cX0_spreadLots 39 = .ok (.aload_n 3, 1) := by decide +kernel
theorem dX0_spreadLots_40 : decode cX0_spreadLots 40 = .ok (.iconst 0, 1) := by decide +kernel
theorem dX0_spreadLots_41 : decode cX0_spreadLots 41 = .ok (.invokevirtual 114, 3) := by decide +kernel
theorem dX0_spreadLots_44 : decode cX0_spreadLots 44 = .ok (.ifCond .eq 7, 3) := by decide +kernel
theorem dX0_spreadLots_47 : decode cX0_spreadLots 47 = .ok (.iconst 1, 1) := by decide +kernel
theorem dX0_spreadLots_48 : decode cX0_spreadLots 48 = .ok (.goto 4, 3) := by decide +kernel
theorem dX0_spreadLots_51 : decode cX0_spreadLots 51 = .ok (.iconst 0, 1) := by decide +kernel
theorem dX0_spreadLots_52 : decode cX0_spreadLots 52 = .ok (.istore 5, 2) := by decide +kernel
theorem dX0_spreadLots_54 : decode cX0_spreadLots 54 = .ok (.aload_n 3, 1) := by decide +kernel
theorem dX0_spreadLots_55 : decode cX0_spreadLots 55 = .ok (.iconst 1, 1) := by decide +kernel
theorem dX0_spreadLots_56 : decode cX0_spreadLots 56 = .ok (.invokevirtual 114, 3) := by decide +kernel
theorem dX0_spreadLots_59 : decode cX0_spreadLots 59 = .ok (.ifCond .eq 7, 3) := by decide +kernel
theorem dX0_spreadLots_62 : decode cX0_spreadLots 62 = .ok (.iconst 1, 1) := by decide +kernel
theorem dX0_spreadLots_63 : decode cX0_spreadLots 63 = .ok (.goto 4, 3) := by decide +kernel
theorem dX0_spreadLots_66 : decode cX0_spreadLots 66 = .ok (.iconst 0, 1) := by decide +kernel
theorem dX0_spreadLots_67 : decode cX0_spreadLots 67 = .ok (.istore 6, 2) := by decide +kernel
theorem dX0_spreadLots_69 : decode cX0_spreadLots 69 = .ok (.iconst 0, 1) := by decide +kernel
theorem dX0_spreadLots_70 : decode cX0_spreadLots 70 = .ok (.istore 7, 2) := by decide +kernel
theorem dX0_spreadLots_72 : decode cX0_spreadLots 72 = .ok (.iload 7, 2) := by decide +kernel
theorem dX0_spreadLots_74 : decode cX0_spreadLots 74 = .ok (.iload 5, 2) := by decide +kernel
theorem dX0_spreadLots_76 : decode cX0_spreadLots 76 = .ok (.if_icmp .gt 115, 3) := by decide +kernel
theorem dX0_spreadLots_79 : decode cX0_spreadLots 79 = .ok (.iconst 0, 1) := by decide +kernel
theorem dX0_spreadLots_80 : decode cX0_spreadLots 80 = .ok (.istore 8, 2) := by decide +kernel
theorem dX0_spreadLots_82 : decode cX0_spreadLots 82 = .ok (.iload 8, 2) := by decide +kernel
theorem dX0_spreadLots_84 : decode cX0_spreadLots 84 = .ok (.iload 6, 2) := by decide +kernel
theorem dX0_spreadLots_86 : decode cX0_spreadLots 86 = .ok (.if_icmp .gt 99, 3) := by decide +kernel
theorem dX0_spreadLots_89 : decode cX0_spreadLots 89 = .ok (.aload 4, 2) := by decide +kernel
theorem dX0_spreadLots_91 : decode cX0_spreadLots 91 = .ok (.aload_n 3, 1) := by decide +kernel
theorem dX0_spreadLots_92 : decode cX0_spreadLots 92 = .ok (.invokevirtual 117, 3) := by decide +kernel
theorem dX0_spreadLots_95 : decode cX0_spreadLots 95 = .ok (.iload 5, 2) := by decide +kernel
theorem dX0_spreadLots_97 : decode cX0_spreadLots 97 = .ok (.iconst 1, 1) := by decide +kernel
theorem dX0_spreadLots_98 : decode cX0_spreadLots 98 = .ok (.if_icmp .ne 20, 3) := by decide +kernel
theorem dX0_spreadLots_101 : decode cX0_spreadLots 101 = .ok (.aload 4, 2) := by decide +kernel
theorem dX0_spreadLots_103 : decode cX0_spreadLots 103 = .ok (.getfield 107, 3) := by decide +kernel
theorem dX0_spreadLots_106 : decode cX0_spreadLots 106 = .ok (.iconst 0, 1) := by decide +kernel
theorem dX0_spreadLots_107 : decode cX0_spreadLots 107 = .ok (.iload 7, 2) := by decide +kernel
theorem dX0_spreadLots_109 : decode cX0_spreadLots 109 = .ok (.ifCond .ne 7, 3) := by decide +kernel
theorem dX0_spreadLots_112 : decode cX0_spreadLots 112 = .ok (.iconst 1, 1) := by decide +kernel
theorem dX0_spreadLots_113 : decode cX0_spreadLots 113 = .ok (.goto 4, 3) := by decide +kernel
theorem dX0_spreadLots_116 : decode cX0_spreadLots 116 = .ok (.iconst 2, 1) := by decide +kernel
theorem dX0_spreadLots_117 : decode cX0_spreadLots 117 = .ok (.iastore, 1) := by decide +kernel
theorem dX0_spreadLots_118 : decode cX0_spreadLots 118 = .ok (.iload 6, 2) := by decide +kernel
theorem dX0_spreadLots_120 : decode cX0_spreadLots 120 = .ok (.iconst 1, 1) := by decide +kernel
theorem dX0_spreadLots_121 : decode cX0_spreadLots 121 = .ok (.if_icmp .ne 20, 3) := by decide +kernel
theorem dX0_spreadLots_124 : decode cX0_spreadLots 124 = .ok (.aload 4, 2) := by decide +kernel
theorem dX0_spreadLots_126 : decode cX0_spreadLots 126 = .ok (.getfield 107, 3) := by decide +kernel
theorem dX0_spreadLots_129 : decode cX0_spreadLots 129 = .ok (.iconst 1, 1) := by decide +kernel
theorem dX0_spreadLots_130 : decode cX0_spreadLots 130 = .ok (.iload 8, 2) := by decide +kernel
theorem dX0_spreadLots_132 : decode cX0_spreadLots 132 = .ok (.ifCond .ne 7, 3) := by decide +kernel
theorem dX0_spreadLots_135 : decode cX0_spreadLots 135 = .ok (.iconst 1, 1) := by decide +kernel
theorem dX0_spreadLots_136 : decode cX0_spreadLots 136 = .ok (.goto 4, 3) := by decide +kernel
theorem dX0_spreadLots_139 : decode cX0_spreadLots 139 = .ok (.iconst 2, 1) := by decide +kernel
theorem dX0_spreadLots_140 : decode cX0_spreadLots 140 = .ok (.iastore, 1) := by decide +kernel
theorem dX0_spreadLots_141 : decode cX0_spreadLots 141 = .ok (.aload 4, 2) := by decide +kernel
theorem dX0_spreadLots_143 : decode cX0_spreadLots 143 = .ok (.invokevirtual 121, 3) := by decide +kernel
theorem dX0_spreadLots_146 : decode cX0_spreadLots 146 = .ok (.pop, 1) := by decide +kernel
theorem dX0_spreadLots_147 : decode cX0_spreadLots 147 = .ok (.aload_n 0, 1) := by decide +kernel
theorem dX0_spreadLots_148 : decode cX0_spreadLots 148 = .ok (.iload_n 1, 1) := by decide +kernel
theorem dX0_spreadLots_149 : decode cX0_spreadLots 149 = .ok (.iconst 1, 1) := by decide +kernel
theorem dX0_spreadLots_150 : decode cX0_spreadLots 150 = .ok (.iadd, 1) := by decide +kernel
theorem dX0_spreadLots_151 : decode cX0_spreadLots 151 = .ok (.iload_n 2, 1) := by decide +kernel
theorem dX0_spreadLots_152 : decode cX0_spreadLots 152 = .ok (.iconst 1, 1) := by decide +kernel
theorem dX0_spreadLots_153 : decode cX0_spreadLots 153 = .ok (.isub, 1) := by decide +kernel
theorem dX0_spreadLots_154 : decode cX0_spreadLots 154 = .ok (.invokevirtual 83, 3) := by decide +kernel
theorem dX0_spreadLots_157 : decode cX0_spreadLots 157 = .ok (.aload_n 0, 1) := by decide +kernel
theorem dX0_spreadLots_158 : decode cX0_spreadLots 158 = .ok (.iload_n 1, 1) := by decide +kernel
theorem dX0_spreadLots_159 : decode cX0_spreadLots 159 = .ok (.aload 4, 2) := by decide +kernel
theorem dX0_spreadLots_161 : decode cX0_spreadLots 161 = .ok (.getfield 125, 3) := by decide +kernel
theorem dX0_spreadLots_164 : decode cX0_spreadLots 164 = .ok (.aload_n 3, 1) := by decide +kernel
theorem dX0_spreadLots_165 : decode cX0_spreadLots 165 = .ok (.getfield 125, 3) := by decide +kernel
theorem dX0_spreadLots_168 : decode cX0_spreadLots 168 = .ok (.isub, 1) := by decide +kernel
theorem dX0_spreadLots_169 : decode cX0_spreadLots 169 = .ok (.iconst 4, 1) := by decide +kernel
theorem dX0_spreadLots_170 : decode cX0_spreadLots 170 = .ok (.iload 5, 2) := by decide +kernel
theorem dX0_spreadLots_172 : decode cX0_spreadLots 172 = .ok (.iload 6, 2) := by decide +kernel
theorem dX0_spreadLots_174 : decode cX0_spreadLots 174 = .ok (.iadd, 1) := by decide +kernel
theorem dX0_spreadLots_175 : decode cX0_spreadLots 175 = .ok (.ishr, 1) := by decide +kernel
theorem dX0_spreadLots_176 : decode cX0_spreadLots 176 = .ok (.invokevirtual 128, 3) := by decide +kernel
theorem dX0_spreadLots_179 : decode cX0_spreadLots 179 = .ok (.iinc 8 1, 3) := by decide +kernel
theorem dX0_spreadLots_182 : decode cX0_spreadLots 182 = .ok (.goto (-100), 3) := by decide +kernel
theorem dX0_spreadLots_185 : decode cX0_spreadLots 185 = .ok (.iinc 7 1, 3) := by decide +kernel
theorem dX0_spreadLots_188 : decode cX0_spreadLots 188 = .ok (.goto (-116), 3) := by decide +kernel
theorem dX0_spreadLots_191 : decode cX0_spreadLots 191 = .ok (.return_, 1) := by decide +kernel
theorem dX0_spread_0 : decode cX0_spread 0 = .ok (.aload_n 0, 1) := by decide +kernel
theorem dX0_spread_1 : decode cX0_spread 1 = .ok (.getfield 13, 3) := by decide +kernel
theorem dX0_spread_4 : decode cX0_spread 4 = .ok (.iload_n 1, 1) := by decide +kernel
theorem dX0_spread_5 : decode cX0_spread 5 = .ok (.aaload, 1) := by decide +kernel
theorem dX0_spread_6 : decode cX0_spread 6 = .ok (.astore_n 3, 1) := by decide +kernel
theorem dX0_spread_7 : decode cX0_spread 7 = .ok (.iload_n 1, 1) := by decide +kernel
theorem dX0_spread_8 : decode cX0_spread 8 = .ok (.bipush 10, 2) := by decide +kernel
theorem dX0_spread_10 : decode cX0_spread 10 = .ok (.imul, 1) := by decide +kernel
theorem dX0_spread_11 : decode cX0_spread 11 = .ok (.istore 4, 2) := by decide +kernel
theorem dX0_spread_13 : decode cX0_spread 13 = .ok (.iconst 0, 1) := by decide +kernel
theorem dX0_spread_14 : decode cX0_spread 14 = .ok (.istore 5, 2) := by decide +kernel
theorem dX0_spread_16 : decode cX0_spread 16 = .ok (.iload 5, 2) := by decide +kernel
theorem dX0_spread_18 : decode cX0_spread 18 = .ok (.bipush 10, 2) := by decide +kernel
theorem dX0_spread_20 : decode cX0_spread 20 = .ok (.if_icmp .ge 20, 3) := by decide +kernel
theorem dX0_spread_23 : decode cX0_spread 23 = .ok (.aload_n 0, 1) := by decide +kernel
theorem dX0_spread_24 : decode cX0_spread 24 = .ok (.getfield 17, 3) := by decide +kernel
theorem dX0_spread_27 : decode cX0_spread 27 = .ok (.iload 4, 2) := by decide +kernel
theorem dX0_spread_29 : decode cX0_spread 29 = .ok (.iload 5, 2) := by decide +kernel
theorem dX0_spread_31 : decode cX0_spread 31 = .ok (.iadd, 1) := by decide +kernel
theorem dX0_spread_32 : decode cX0_spread 32 = .ok (.iconst 0, 1) := by decide +kernel
theorem dX0_spread_33 : decode cX0_spread 33 = .ok (.iastore, 1) := by decide +kernel
theorem dX0_spread_34 : decode cX0_spread 34 = .ok (.iinc 5 1, 3) := by decide +kernel
theorem dX0_spread_37 : decode cX0_spread 37 = .ok (.goto (-21), 3) := by decide +kernel
theorem dX0_spread_40 : decode cX0_spread 40 = .ok (.iload_n 2, 1) := by decide +kernel
theorem dX0_spread_41 : decode cX0_spread 41 = .ok (.ifCond .le 17, 3) := by decide +kernel
theorem dX0_spread_44 : decode cX0_spread 44 = .ok (.iload_n 1, 1) := by decide +kernel
theorem dX0_spread_45 : decode cX0_spread 45 = .ok (.bipush 8, 2) := by decide +kernel
theorem dX0_spread_47 : decode cX0_spread 47 = .ok (.if_icmp .ge 11, 3) := by decide +kernel
theorem dX0_spread_50 : decode cX0_spread 50 = .ok (.aload_n 3, 1) := by decide +kernel
theorem dX0_spread_51 : decode cX0_spread 51 = .ok (.getfield 87, 3) := by decide +kernel
theorem dX0_spread_54 : decode cX0_spread 54 = .ok (.iconst 2, 1) := by decide +kernel
theorem dX0_spread_55 : decode cX0_spread 55 = .ok (.if_icmp .ne 42, 3) := by decide +kernel
theorem dX0_spread_58 : decode cX0_spread 58 = .ok (.aload_n 0, 1) := by decide +kernel
theorem dX0_spread_59 : decode cX0_spread 59 = .ok (.getfield 17, 3) := by decide +kernel
theorem dX0_spread_62 : decode cX0_spread 62 = .ok (.iload 4, 2) := by decide +kernel
theorem dX0_spread_64 : decode cX0_spread 64 = .ok (.aload_n 3, 1) := by decide +kernel
theorem dX0_spread_65 : decode cX0_spread 65 = .ok (.getfield 87, 3) := by decide +kernel
theorem dX0_spread_68 : decode cX0_spread 68 = .ok (.iconst 2, 1) := by decide +kernel
theorem dX0_spread_69 : decode cX0_spread 69 = .ok (.if_icmp .ne 11, 3) := by decide +kernel
theorem dX0_spread_72 : decode cX0_spread 72 = .ok (.iconst 1, 1) := by decide +kernel
theorem dX0_spread_73 : decode cX0_spread 73 = .ok (.iconst 2, 1) := by decide +kernel
theorem dX0_spread_74 : decode cX0_spread 74 = .ok (.iload_n 2, 1) := by decide +kernel
theorem dX0_spread_75 : decode cX0_spread 75 = .ok (.imul, 1) := by decide +kernel
theorem dX0_spread_76 : decode cX0_spread 76 = .ok (.ishl, 1) := by decide +kernel
theorem dX0_spread_77 : decode cX0_spread 77 = .ok (.goto 4, 3) := by decide +kernel
theorem dX0_spread_80 : decode cX0_spread 80 = .ok (.iconst 0, 1) := by decide +kernel
theorem dX0_spread_81 : decode cX0_spread 81 = .ok (.iastore, 1) := by decide +kernel
theorem dX0_spread_82 : decode cX0_spread 82 = .ok (.aload_n 0, 1) := by decide +kernel
theorem dX0_spread_83 : decode cX0_spread 83 = .ok (.getfield 17, 3) := by decide +kernel
theorem dX0_spread_86 : decode cX0_spread 86 = .ok (.iload 4, 2) := by decide +kernel
theorem dX0_spread_88 : decode cX0_spread 88 = .ok (.iconst 1, 1) := by decide +kernel
theorem dX0_spread_89 : decode cX0_spread 89 = .ok (.iadd, 1) := by decide +kernel
theorem dX0_spread_90 : decode cX0_spread 90 = .ok (.iconst 1, 1) := by decide +kernel
theorem dX0_spread_91 : decode cX0_spread 91 = .ok (.iconst 2, 1) := by decide +kernel
theorem dX0_spread_92 : decode cX0_spread 92 = .ok (.iload_n 2, 1) := by decide +kernel
theorem dX0_spread_93 : decode cX0_spread 93 = .ok (.imul, 1) := by decide +kernel
theorem dX0_spread_94 : decode cX0_spread 94 = .ok (.ishl, 1) := by decide +kernel
theorem dX0_spread_95 : decode cX0_spread 95 = .ok (.iastore, 1) := by decide +kernel
theorem dX0_spread_96 : decode cX0_spread 96 = .ok (.return_, 1) := by decide +kernel
theorem dX0_spread_97 : decode cX0_spread 97 = .ok (.aload_n 0, 1) := by decide +kernel
theorem dX0_spread_98 : decode cX0_spread 98 = .ok (.aload_n 3, 1) := by decide +kernel
theorem dX0_spread_99 : decode cX0_spread 99 = .ok (.invokevirtual 90, 3) := by decide +kernel
theorem dX0_spread_102 : decode cX0_spread 102 = .ok (.lstore 5, 2) := by decide +kernel
theorem dX0_spread_104 : decode cX0_spread 104 = .ok (.lload 5, 2) := by decide +kernel
theorem dX0_spread_106 : decode cX0_spread 106 = .ok (.iload_n 2, 1) := by decide +kernel
theorem dX0_spread_107 : decode cX0_spread 107 = .ok (.invokestatic 94, 3) := by decide +kernel
theorem dX0_spread_110 : decode cX0_spread 110 = .ok (.istore 7, 2) := by decide +kernel
theorem dX0_spread_112 : decode cX0_spread 112 = .ok (.aload_n 0, 1) := by decide +kernel
theorem dX0_spread_113 : decode cX0_spread 113 = .ok (.getfield 25, 3) := by decide +kernel
theorem dX0_spread_116 : decode cX0_spread 116 = .ok (.iload 7, 2) := by decide +kernel
theorem dX0_spread_118 : decode cX0_spread 118 = .ok (.iaload, 1) := by decide +kernel
theorem dX0_spread_119 : decode cX0_spread 119 = .ok (.iload_n 2, 1) := by decide +kernel
theorem dX0_spread_120 : decode cX0_spread 120 = .ok (.if_icmp .ne 37, 3) := by decide +kernel
theorem dX0_spread_123 : decode cX0_spread 123 = .ok (.aload_n 0, 1) := by decide +kernel
theorem dX0_spread_124 : decode cX0_spread 124 = .ok (.getfield 21, 3) := by decide +kernel
theorem dX0_spread_127 : decode cX0_spread 127 = .ok (.iload 7, 2) := by decide +kernel
theorem dX0_spread_129 : decode cX0_spread 129 = .ok (.laload, 1) := by decide +kernel
theorem dX0_spread_130 : decode cX0_spread 130 = .ok (.lload 5, 2) := by decide +kernel
theorem dX0_spread_132 : decode cX0_spread 132 = .ok (.lcmp, 1) := by decide +kernel
theorem dX0_spread_133 : decode cX0_spread 133 = .ok (.ifCond .ne 24, 3) := by decide +kernel
theorem dX0_spread_136 : decode cX0_spread 136 = .ok (.aload_n 0, 1) := by decide +kernel
theorem dX0_spread_137 : decode cX0_spread 137 = .ok (.getfield 28, 3) := by decide +kernel
theorem dX0_spread_140 : decode cX0_spread 140 = .ok (.iload 7, 2) := by decide +kernel
theorem dX0_spread_142 : decode cX0_spread 142 = .ok (.bipush 10, 2) := by decide +kernel
theorem dX0_spread_144 : decode cX0_spread 144 = .ok (.imul, 1) := by decide +kernel
theorem dX0_spread_145 : decode cX0_spread 145 = .ok (.aload_n 0, 1) := by decide +kernel
theorem dX0_spread_146 : decode cX0_spread 146 = .ok (.getfield 17, 3) := by decide +kernel
theorem dX0_spread_149 : decode cX0_spread 149 = .ok (.iload 4, 2) := by decide +kernel
theorem dX0_spread_151 : decode cX0_spread 151 = .ok (.bipush 10, 2) := by decide +kernel
theorem dX0_spread_153 : decode cX0_spread 153 = .ok (.invokestatic 98, 3) := by decide +kernel
theorem dX0_spread_156 : decode cX0_spread 156 = .ok (.return_, 1) := by decide +kernel
theorem dX0_spread_157 : decode cX0_spread 157 = .ok (.aload_n 0, 1) := by decide +kernel
theorem dX0_spread_158 : decode cX0_spread 158 = .ok (.iload_n 1, 1) := by decide +kernel
theorem dX0_spread_159 : decode cX0_spread 159 = .ok (.iload_n 2, 1) := by decide +kernel
theorem dX0_spread_160 : decode cX0_spread 160 = .ok (.invokevirtual 104, 3) := by decide +kernel
theorem dX0_spread_163 : decode cX0_spread 163 = .ok (.aload_n 0, 1) := by decide +kernel
theorem dX0_spread_164 : decode cX0_spread 164 = .ok (.getfield 25, 3) := by decide +kernel
theorem dX0_spread_167 : decode cX0_spread 167 = .ok (.iload 7, 2) := by decide +kernel
theorem dX0_spread_169 : decode cX0_spread 169 = .ok (.iload_n 2, 1) := by decide +kernel
theorem dX0_spread_170 : decode cX0_spread 170 = .ok (.iastore, 1) := by decide +kernel
theorem dX0_spread_171 : decode cX0_spread 171 = .ok (.aload_n 0, 1) := by decide +kernel
theorem dX0_spread_172 : decode cX0_spread 172 = .ok (.getfield 21, 3) := by decide +kernel
theorem dX0_spread_175 : decode cX0_spread 175 = .ok (.iload 7, 2) := by decide +kernel
theorem dX0_spread_177 : decode cX0_spread 177 = .ok (.lload 5, 2) := by decide +kernel
theorem dX0_spread_179 : decode cX0_spread 179 = .ok (.lastore, 1) := by decide +kernel
theorem dX0_spread_180 : decode cX0_spread 180 = .ok (.aload_n 0, 1) := by decide +kernel
theorem dX0_spread_181 : decode cX0_spread 181 = .ok (.getfield 17, 3) := by decide +kernel
theorem dX0_spread_184 : decode cX0_spread 184 = .ok (.iload 4, 2) := by decide +kernel
theorem dX0_spread_186 : decode cX0_spread 186 = .ok (.aload_n 0, 1) := by decide +kernel
theorem dX0_spread_187 : decode cX0_spread 187 = .ok (.getfield 28, 3) := by decide +kernel
theorem dX0_spread_190 : decode cX0_spread 190 = .ok (.iload 7, 2) := by decide +kernel
theorem dX0_spread_192 : decode cX0_spread 192 = .ok (.bipush 10, 2) := by decide +kernel
theorem dX0_spread_194 : decode cX0_spread 194 = .ok (.imul, 1) := by decide +kernel
theorem dX0_spread_195 : decode cX0_spread 195 = .ok (.bipush 10, 2) := by decide +kernel
theorem dX0_spread_197 : decode cX0_spread 197 = .ok (.invokestatic 98, 3) := by decide +kernel
theorem dX0_spread_200 : decode cX0_spread 200 = .ok (.return_, 1) := by decide +kernel
theorem dX0_parts_0 : decode cX0_parts 0 = .ok (.aload_n 0, 1) := by decide +kernel
theorem dX0_parts_1 : decode cX0_parts 1 = .ok (.getfield 31, 3) := by decide +kernel
theorem dX0_parts_4 : decode cX0_parts 4 = .ok (.getfield 42, 3) := by decide +kernel
theorem dX0_parts_7 : decode cX0_parts 7 = .ok (.iconst 2, 1) := by decide +kernel
theorem dX0_parts_8 : decode cX0_parts 8 = .ok (.if_icmp .ne 23, 3) := by decide +kernel
theorem dX0_parts_11 : decode cX0_parts 11 = .ok (.iload_n 1, 1) := by decide +kernel
theorem dX0_parts_12 : decode cX0_parts 12 = .ok (.ifCond .lt 19, 3) := by decide +kernel
theorem dX0_parts_15 : decode cX0_parts 15 = .ok (.iload_n 1, 1) := by decide +kernel
theorem dX0_parts_16 : decode cX0_parts 16 = .ok (.bipush 8, 2) := by decide +kernel
theorem dX0_parts_18 : decode cX0_parts 18 = .ok (.if_icmp .gt 13, 3) := by decide +kernel
theorem dX0_parts_21 : decode cX0_parts 21 = .ok (.iload_n 2, 1) := by decide +kernel
theorem dX0_parts_22 : decode cX0_parts 22 = .ok (.ifCond .lt 9, 3) := by decide +kernel
theorem dX0_parts_25 : decode cX0_parts 25 = .ok (.iload_n 2, 1) := by decide +kernel
theorem dX0_parts_26 : decode cX0_parts 26 = .ok (.bipush 10, 2) := by decide +kernel
theorem dX0_parts_28 : decode cX0_parts 28 = .ok (.if_icmp .lt 5, 3) := by decide +kernel
theorem dX0_parts_31 : decode cX0_parts 31 = .ok (.iconst (-1), 1) := by decide +kernel
theorem dX0_parts_32 : decode cX0_parts 32 = .ok (.ireturn, 1) := by decide +kernel
theorem dX0_parts_33 : decode cX0_parts 33 = .ok (.aload_n 0, 1) := by decide +kernel
theorem dX0_parts_34 : decode cX0_parts 34 = .ok (.iconst 1, 1) := by decide +kernel
theorem dX0_parts_35 : decode cX0_parts 35 = .ok (.iconst 3, 1) := by decide +kernel
theorem dX0_parts_36 : decode cX0_parts 36 = .ok (.aload_n 0, 1) := by decide +kernel
theorem dX0_parts_37 : decode cX0_parts 37 = .ok (.getfield 31, 3) := by decide +kernel
theorem dX0_parts_40 : decode cX0_parts 40 = .ok (.getfield 48, 3) := by decide +kernel
theorem dX0_parts_43 : decode cX0_parts 43 = .ok (.iconst 0, 1) := by decide +kernel
theorem dX0_parts_44 : decode cX0_parts 44 = .ok (.iaload, 1) := by decide +kernel
theorem dX0_parts_45 : decode cX0_parts 45 = .ok (.aload_n 0, 1) := by decide +kernel
theorem dX0_parts_46 : decode cX0_parts 46 = .ok (.getfield 31, 3) := by decide +kernel
theorem dX0_parts_49 : decode cX0_parts 49 = .ok (.getfield 48, 3) := by decide +kernel
theorem dX0_parts_52 : decode cX0_parts 52 = .ok (.iconst 1, 1) := by decide +kernel
theorem dX0_parts_53 : decode cX0_parts 53 = .ok (.iaload, 1) := by decide +kernel
theorem dX0_parts_54 : decode cX0_parts 54 = .ok (.invokestatic 51, 3) := by decide +kernel
theorem dX0_parts_57 : decode cX0_parts 57 = .ok (.invokestatic 57, 3) := by decide +kernel
theorem dX0_parts_60 : decode cX0_parts 60 = .ok (.iadd, 1) := by decide +kernel
theorem dX0_parts_61 : decode cX0_parts 61 = .ok (.putfield 60, 3) := by decide +kernel
theorem dX0_parts_64 : decode cX0_parts 64 = .ok (.aload_n 0, 1) := by decide +kernel
theorem dX0_parts_65 : decode cX0_parts 65 = .ok (.aload_n 0, 1) := by decide +kernel
theorem dX0_parts_66 : decode cX0_parts 66 = .ok (.getfield 35, 3) := by decide +kernel
theorem dX0_parts_69 : decode cX0_parts 69 = .ok (.iconst 5, 1) := by decide +kernel
theorem dX0_parts_70 : decode cX0_parts 70 = .ok (.invokevirtual 63, 3) := by decide +kernel
theorem dX0_parts_73 : decode cX0_parts 73 = .ok (.putfield 69, 3) := by decide +kernel
theorem dX0_parts_76 : decode cX0_parts 76 = .ok (.aload_n 0, 1) := by decide +kernel
theorem dX0_parts_77 : decode cX0_parts 77 = .ok (.getfield 25, 3) := by decide +kernel
theorem dX0_parts_80 : decode cX0_parts 80 = .ok (.iconst 0, 1) := by decide +kernel
theorem dX0_parts_81 : decode cX0_parts 81 = .ok (.invokestatic 73, 3) := by decide +kernel
theorem dX0_parts_84 : decode cX0_parts 84 = .ok (.aload_n 0, 1) := by decide +kernel
theorem dX0_parts_85 : decode cX0_parts 85 = .ok (.getfield 13, 3) := by decide +kernel
theorem dX0_parts_88 : decode cX0_parts 88 = .ok (.iconst 0, 1) := by decide +kernel
theorem dX0_parts_89 : decode cX0_parts 89 = .ok (.aaload, 1) := by decide +kernel
theorem dX0_parts_90 : decode cX0_parts 90 = .ok (.iconst 0, 1) := by decide +kernel
theorem dX0_parts_91 : decode cX0_parts 91 = .ok (.invokevirtual 79, 3) := by decide +kernel
theorem dX0_parts_94 : decode cX0_parts 94 = .ok (.aload_n 0, 1) := by decide +kernel
theorem dX0_parts_95 : decode cX0_parts 95 = .ok (.iconst 0, 1) := by decide +kernel
theorem dX0_parts_96 : decode cX0_parts 96 = .ok (.iload_n 1, 1) := by decide +kernel
theorem dX0_parts_97 : decode cX0_parts 97 = .ok (.invokevirtual 83, 3) := by decide +kernel
theorem dX0_parts_100 : decode cX0_parts 100 = .ok (.aload_n 0, 1) := by decide +kernel
theorem dX0_parts_101 : decode cX0_parts 101 = .ok (.getfield 17, 3) := by decide +kernel
theorem dX0_parts_104 : decode cX0_parts 104 = .ok (.iload_n 2, 1) := by decide +kernel
theorem dX0_parts_105 : decode cX0_parts 105 = .ok (.iaload, 1) := by decide +kernel
theorem dX0_parts_106 : decode cX0_parts 106 = .ok (.ireturn, 1) := by decide +kernel
section P_X0_addDeeper
variable {p : Program} {l : Launch} {e : Env} {s : State} {m : MethodId} {args : Array Value} {below : List Frame} {meth : Method} {c : Code} {G : GG} {A : Nat → Prop} {ad : Nat → Nat} {S : ST} {N : Nat} {dy' : DY}
set_option maxHeartbeats 4000000 in
set_option maxRecDepth 100000 in
theorem B_X0_addDeeper_35 (C : CX p s m args c cX0_addDeeper 7 RX0 G A) (HR : meth.sig.returnType = (Option.none : Option Jvm.ClassFile.FieldType)) (HL : meth.locks = false) (hG : Good S) : ∀ k : Nat, ∀ (x0 : Nat) (x2 : Int32) (x3 : Int32) (x4 : Int32) (x5 : Int32) (x6 : Int32) (dy : DY), gs S x0 = (0, 0) → (F_X0_addDeeper_35 S N k) x0 x2 x3 x4 x5 x6 dy = some dy' → WJ p l e (rmD (1)) s m args below meth c 7 G A 0 0 (MQ below (QV G ad A S dy') args s 0 0 A) ad 35 [(0, .ref (ad x0)), (2, .int x2), (3, .int x3), (4, .int x4), (5, .int x5), (6, .int x6)] [] S dy := by
  intro k
  induction k with
  | zero => exact fun _ _ _ _ _ _ _ _ E => nomatch (show none = some dy' from E)
  | succ k ih =>
    intro x0 x2 x3 x4 x5 x6 dy Tx0 E
    rw [F_X0_addDeeper_35_s] at E
    refine ww_iload C dX0_addDeeper_35 5 rfl ?_
    refine ww_bipush (v := 9) C dX0_addDeeper_37 (by decide) ?_
    refine ww_icmp_ge (tgt := 89) C dX0_addDeeper_39 (by decide) E (fun _ E => ?_) (fun _ E => ?_)
    · exact ww_vret C HR HL dX0_addDeeper_89 E
    · refine ww_iload_n C dX0_addDeeper_42 rfl 1 rfl ?_
      refine ww_if_lt (tgt := 83) C dX0_addDeeper_43 (by decide) E (fun _ E => ?_) (fun _ E => ?_)
      · refine ww_iinc (v := (x6 + (1 : Int32))) (lv' := [(6, .int (x6 + (1 : Int32))), (0, .ref (ad x0)), (2, .int x2), (3, .int x3), (4, .int x4), (5, .int x5)]) C dX0_addDeeper_83 5 rfl rfl (by decide) rfl ?_
        refine ww_goto (tgt := 35) C dX0_addDeeper_86 (by decide) ?_
        refine ww_sub (lv' := [(0, .ref (ad x0)), (2, .int x2), (3, .int x3), (4, .int x4), (5, .int x5), (6, .int (x6 + (1 : Int32)))]) [1, 2, 3, 4, 5, 0] rfl ?_
        exact ih x0 x2 x3 x4 x5 (x6 + (1 : Int32)) dy Tx0 E
      · refine ww_iload_n C dX0_addDeeper_46 rfl 1 rfl ?_
        refine ww_iload C dX0_addDeeper_47 5 rfl ?_
        refine ww_icmp_gt (tgt := 83) C dX0_addDeeper_49 (by decide) E (fun _ E => ?_) (fun _ E => ?_)
        · refine ww_iinc (v := (x6 + (1 : Int32))) (lv' := [(6, .int (x6 + (1 : Int32))), (0, .ref (ad x0)), (2, .int x2), (3, .int x3), (4, .int x4), (5, .int x5)]) C dX0_addDeeper_83 5 rfl rfl (by decide) rfl ?_
          refine ww_goto (tgt := 35) C dX0_addDeeper_86 (by decide) ?_
          refine ww_sub (lv' := [(0, .ref (ad x0)), (2, .int x2), (3, .int x3), (4, .int x4), (5, .int x5), (6, .int (x6 + (1 : Int32)))]) [1, 2, 3, 4, 5, 0] rfl ?_
          exact ih x0 x2 x3 x4 x5 (x6 + (1 : Int32)) dy Tx0 E
        · refine ww_aload_n C dX0_addDeeper_52 rfl 0 rfl ?_
          have T_1 : gs S (gr S x0 3) = (1, 90) := hG.1 _ 0 Tx0 3 (by decide)
          refine ww_getr (ci := 0) (k0 := 3) C dX0_addDeeper_53 rfl rfl inm0 (by decide) Tx0 q472 rfl T_1 (by decide) ?_
          refine ww_iload C dX0_addDeeper_56 3 rfl ?_
          refine ww_iconst (v := 1) C dX0_addDeeper_58 (by decide) ?_
          refine ww_iadd C dX0_addDeeper_59 ?_
          refine ww_iload C dX0_addDeeper_60 5 rfl ?_
          refine ww_iadd C dX0_addDeeper_62 ?_
          refine ww_dup2 C dX0_addDeeper_63 rfl rfl ?_
          refine ww_iald C dX0_addDeeper_64 T_1 E (fun _ E => ?_)
          refine ww_iload_n C dX0_addDeeper_65 rfl 2 rfl ?_
          refine ww_aload_n C dX0_addDeeper_66 rfl 0 rfl ?_
          have T_2 : gs S (gr S x0 3) = (1, 90) := hG.1 _ 0 Tx0 3 (by decide)
          refine ww_getr (ci := 0) (k0 := 3) C dX0_addDeeper_67 rfl rfl inm0 (by decide) Tx0 q472 rfl T_2 (by decide) ?_
          refine ww_iload C dX0_addDeeper_70 4 rfl ?_
          refine ww_iconst (v := 1) C dX0_addDeeper_72 (by decide) ?_
          refine ww_iadd C dX0_addDeeper_73 ?_
          refine ww_iload C dX0_addDeeper_74 5 rfl ?_
          refine ww_iadd C dX0_addDeeper_76 ?_
          refine ww_iload_n C dX0_addDeeper_77 rfl 1 rfl ?_
          refine ww_isub C dX0_addDeeper_78 ?_
          refine ww_iald C dX0_addDeeper_79 T_2 E (fun _ E => ?_)
          refine ww_imul C dX0_addDeeper_80 ?_
          refine ww_iadd C dX0_addDeeper_81 ?_
          refine ww_iast C dX0_addDeeper_82 T_1 E (fun _ E => ?_)
          refine ww_bd E (fun dy3 E => ?_)
          refine ww_iinc (v := (x6 + (1 : Int32))) (lv' := [(6, .int (x6 + (1 : Int32))), (0, .ref (ad x0)), (2, .int x2), (3, .int x3), (4, .int x4), (5, .int x5)]) C dX0_addDeeper_83 5 rfl rfl (by decide) rfl ?_
          refine ww_goto (tgt := 35) C dX0_addDeeper_86 (by decide) ?_
          refine ww_sub (lv' := [(0, .ref (ad x0)), (2, .int x2), (3, .int x3), (4, .int x4), (5, .int x5), (6, .int (x6 + (1 : Int32)))]) [1, 2, 3, 4, 5, 0] rfl ?_
          exact ih x0 x2 x3 x4 x5 (x6 + (1 : Int32)) dy3 Tx0 E
end P_X0_addDeeper
set_option maxHeartbeats 4000000 in
set_option maxRecDepth 100000 in
theorem M_X0_addDeeper (l : Launch) (G : GG) (ad : Nat → Nat) {S : ST} (N : Nat) (hG : Good S) (a0 : Nat) (a1 : Int32) (a2 : Int32) (a3 : Int32) (dy : DY) (T0 : gs S a0 = (0, 0)) {dy' : DY} (E : F_X0_addDeeper S N a0 a1 a2 a3 dy = some dy') : MC l yX0_addDeeper cX0_addDeeper 7 (Option.none : Option Jvm.ClassFile.FieldType) (1) G ad [.ref (ad a0), .int a1, .int a2, .int a3] S dy (fun A => QV G ad A S dy') := by
  rw [F_X0_addDeeper_s] at E
  refine mc_of RX0 (by decide) rfl (Nat.le_of_ble_eq_true rfl) (fun p e s m args below meth c A C HR HL => ?_)
  refine ww_sub (lv' := [(0, .ref (ad a0)), (1, .int a1), (2, .int a2), (3, .int a3)]) [0, 1, 2, 3] rfl ?_
  refine ww_iload_n C dX0_addDeeper_0 rfl 1 rfl ?_
  refine ww_bipush (v := 10) C dX0_addDeeper_1 (by decide) ?_
  refine ww_imul C dX0_addDeeper_3 ?_
  refine ww_istore (lv' := [(4, .int (a1 * (10 : Int32))), (0, .ref (ad a0)), (1, .int a1), (2, .int a2), (3, .int a3)]) C dX0_addDeeper_4 (by decide) rfl ?_
  refine ww_iload C dX0_addDeeper_6 0 rfl ?_
  refine ww_bipush (v := 10) C dX0_addDeeper_8 (by decide) ?_
  refine ww_iadd C dX0_addDeeper_10 ?_
  refine ww_istore (lv' := [(5, .int ((a1 * (10 : Int32)) + (10 : Int32))), (4, .int (a1 * (10 : Int32))), (0, .ref (ad a0)), (1, .int a1), (2, .int a2), (3, .int a3)]) C dX0_addDeeper_11 (by decide) rfl ?_
  refine ww_aload_n C dX0_addDeeper_13 rfl 2 rfl ?_
  have T_1 : gs S (gr S a0 3) = (1, 90) := hG.1 _ 0 T0 3 (by decide)
  refine ww_getr (ci := 0) (k0 := 3) C dX0_addDeeper_14 rfl rfl inm0 (by decide) T0 q472 rfl T_1 (by decide) ?_
  refine ww_iload C dX0_addDeeper_17 1 rfl ?_
  refine ww_dup2 C dX0_addDeeper_19 rfl rfl ?_
  refine ww_iald C dX0_addDeeper_20 T_1 E (fun _ E => ?_)
  refine ww_iload_n C dX0_addDeeper_21 rfl 5 rfl ?_
  refine ww_aload_n C dX0_addDeeper_22 rfl 2 rfl ?_
  have T_2 : gs S (gr S a0 3) = (1, 90) := hG.1 _ 0 T0 3 (by decide)
  refine ww_getr (ci := 0) (k0 := 3) C dX0_addDeeper_23 rfl rfl inm0 (by decide) T0 q472 rfl T_2 (by decide) ?_
  refine ww_iload C dX0_addDeeper_26 0 rfl ?_
  refine ww_iald C dX0_addDeeper_28 T_2 E (fun _ E => ?_)
  refine ww_imul C dX0_addDeeper_29 ?_
  refine ww_iadd C dX0_addDeeper_30 ?_
  refine ww_iast C dX0_addDeeper_31 T_1 E (fun _ E => ?_)
  refine ww_bd E (fun dy3 E => ?_)
  refine ww_iconst (v := 0) C dX0_addDeeper_32 (by decide) ?_
  refine ww_istore (lv' := [(6, .int (0 : Int32)), (5, .int ((a1 * (10 : Int32)) + (10 : Int32))), (4, .int (a1 * (10 : Int32))), (0, .ref (ad a0)), (1, .int a1), (2, .int a2), (3, .int a3)]) C dX0_addDeeper_33 (by decide) rfl ?_
  refine ww_sub (lv' := [(0, .ref (ad a0)), (2, .int a2), (3, .int a3), (4, .int (a1 * (10 : Int32))), (5, .int ((a1 * (10 : Int32)) + (10 : Int32))), (6, .int (0 : Int32))]) [3, 5, 6, 2, 1, 0] rfl ?_
  exact (B_X0_addDeeper_35 C HR HL hG N) a0 a2 a3 (a1 * (10 : Int32)) ((a1 * (10 : Int32)) + (10 : Int32)) (0 : Int32) dy3 T0 E
section P_X0_keyOf
variable {p : Program} {l : Launch} {e : Env} {s : State} {m : MethodId} {args : Array Value} {below : List Frame} {meth : Method} {c : Code} {G : GG} {A : Nat → Prop} {ad : Nat → Nat} {S : ST} {N : Nat} {r : Int64} {dy' : DY}
set_option maxHeartbeats 4000000 in
set_option maxRecDepth 100000 in
theorem B_X0_keyOf_67 (C : CX p s m args c cX0_keyOf 8 RX0 G A) (HR : meth.sig.returnType = (Option.some Jvm.ClassFile.FieldType.long)) (HL : meth.locks = false) (hG : Good S) {K17 : Nat → Nat → Int64 → Int32 → Int32 → DY → Option (Int64 × DY)} (hK17 : ∀ (x0 : Nat) (x1 : Nat) (x2 : Int64) (x4 : Int32) (x5 : Int32) (dy : DY), gs S x0 = (0, 0) → gs S x1 = (0, 8) → K17 x0 x1 x2 x4 x5 dy = some (r, dy') → WJ p l e (rmD (1)) s m args below meth c 8 G A 0 0 (MQ below (QL G ad A S r dy') args s 0 0 A) ad 17 [(0, .ref (ad x0)), (1, .ref (ad x1)), (2, .long x2), (4, .int x4), (5, .int x5)] [] S dy) : ∀ (x0 : Nat) (x1 : Nat) (x2 : Int64) (x4 : Int32) (x5 : Int32) (y0 : Int32) (dy : DY), gs S x0 = (0, 0) → gs S x1 = (0, 8) → F_X0_keyOf_67 S N K17 x0 x1 x2 x4 x5 y0 dy = some (r, dy') → WJ p l e (rmD (1)) s m args below meth c 8 G A 0 0 (MQ below (QL G ad A S r dy') args s 0 0 A) ad 67 [(0, .ref (ad x0)), (1, .ref (ad x1)), (2, .long x2), (4, .int x4), (5, .int x5)] [.int y0] S dy := by
  intro x0 x1 x2 x4 x5 y0 dy Tx0 Tx1 E
  rw [F_X0_keyOf_67_s] at E
  refine ww_istore (lv' := [(7, .int y0), (0, .ref (ad x0)), (1, .ref (ad x1)), (2, .long x2), (4, .int x4), (5, .int x5)]) C dX0_keyOf_67 (by decide) rfl ?_
  refine ww_lload_n C dX0_keyOf_69 rfl 3 rfl ?_
  refine ww_bipush (v := 7) C dX0_keyOf_70 (by decide) ?_
  refine ww_lshl C dX0_keyOf_72 ?_
  refine ww_iload C dX0_keyOf_73 0 rfl ?_
  refine ww_i2l C dX0_keyOf_75 ?_
  refine ww_lor C dX0_keyOf_76 ?_
  refine ww_lstore_n (lv' := [(2, .long ((x2 <<< (((7 : Int32)).toInt64 &&& 63)) ||| (y0).toInt64)), (7, .int y0), (0, .ref (ad x0)), (1, .ref (ad x1)), (4, .int x4), (5, .int x5)]) C dX0_keyOf_77 rfl (by decide) rfl ?_
  refine ww_iinc (v := (x5 + (1 : Int32))) (lv' := [(5, .int (x5 + (1 : Int32))), (2, .long ((x2 <<< (((7 : Int32)).toInt64 &&& 63)) ||| (y0).toInt64)), (7, .int y0), (0, .ref (ad x0)), (1, .ref (ad x1)), (4, .int x4)]) C dX0_keyOf_78 5 rfl rfl (by decide) rfl ?_
  refine ww_goto (tgt := 17) C dX0_keyOf_81 (by decide) ?_
  refine ww_sub (lv' := [(0, .ref (ad x0)), (1, .ref (ad x1)), (2, .long ((x2 <<< (((7 : Int32)).toInt64 &&& 63)) ||| (y0).toInt64)), (4, .int x4), (5, .int (x5 + (1 : Int32)))]) [3, 4, 1, 5, 0] rfl ?_
  exact hK17 x0 x1 ((x2 <<< (((7 : Int32)).toInt64 &&& 63)) ||| (y0).toInt64) x4 (x5 + (1 : Int32)) dy Tx0 Tx1 E
set_option maxHeartbeats 4000000 in
set_option maxRecDepth 100000 in
theorem B_X0_keyOf_17 (C : CX p s m args c cX0_keyOf 8 RX0 G A) (HR : meth.sig.returnType = (Option.some Jvm.ClassFile.FieldType.long)) (HL : meth.locks = false) (hG : Good S) {K5 : Nat → Nat → Int64 → Int32 → DY → Option (Int64 × DY)} (hK5 : ∀ (x0 : Nat) (x1 : Nat) (x2 : Int64) (x4 : Int32) (dy : DY), gs S x0 = (0, 0) → gs S x1 = (0, 8) → K5 x0 x1 x2 x4 dy = some (r, dy') → WJ p l e (rmD (1)) s m args below meth c 8 G A 0 0 (MQ below (QL G ad A S r dy') args s 0 0 A) ad 5 [(0, .ref (ad x0)), (1, .ref (ad x1)), (2, .long x2), (4, .int x4)] [] S dy) : ∀ k : Nat, ∀ (x0 : Nat) (x1 : Nat) (x2 : Int64) (x4 : Int32) (x5 : Int32) (dy : DY), gs S x0 = (0, 0) → gs S x1 = (0, 8) → (F_X0_keyOf_17 S N K5 k) x0 x1 x2 x4 x5 dy = some (r, dy') → WJ p l e (rmD (1)) s m args below meth c 8 G A 0 0 (MQ below (QL G ad A S r dy') args s 0 0 A) ad 17 [(0, .ref (ad x0)), (1, .ref (ad x1)), (2, .long x2), (4, .int x4), (5, .int x5)] [] S dy := by
  intro k
  induction k with
  | zero => exact fun _ _ _ _ _ _ _ _ E => nomatch (show none = some (r, dy') from E)
  | succ k ih =>
    intro x0 x1 x2 x4 x5 dy Tx0 Tx1 E
    rw [F_X0_keyOf_17_s] at E
    refine ww_iload C dX0_keyOf_17 4 rfl ?_
    refine ww_iconst (v := 2) C dX0_keyOf_19 (by decide) ?_
    refine ww_icmp_ge (tgt := 84) C dX0_keyOf_20 (by decide) E (fun _ E => ?_) (fun _ E => ?_)
    · refine ww_iinc (v := (x4 + (1 : Int32))) (lv' := [(4, .int (x4 + (1 : Int32))), (0, .ref (ad x0)), (1, .ref (ad x1)), (2, .long x2), (5, .int x5)]) C dX0_keyOf_84 3 rfl rfl (by decide) rfl ?_
      refine ww_goto (tgt := 5) C dX0_keyOf_87 (by decide) ?_
      refine ww_sub (lv' := [(0, .ref (ad x0)), (1, .ref (ad x1)), (2, .long x2), (4, .int (x4 + (1 : Int32)))]) [1, 2, 3, 0] rfl ?_
      exact hK5 x0 x1 x2 (x4 + (1 : Int32)) dy Tx0 Tx1 E
    · refine ww_iload C dX0_keyOf_23 3 rfl ?_
      refine ww_bipush (v := 12) C dX0_keyOf_25 (by decide) ?_
      refine ww_imul C dX0_keyOf_27 ?_
      refine ww_iload C dX0_keyOf_28 4 rfl ?_
      refine ww_iadd C dX0_keyOf_30 ?_
      refine ww_istore (lv' := [(6, .int ((x4 * (12 : Int32)) + x5)), (0, .ref (ad x0)), (1, .ref (ad x1)), (2, .long x2), (4, .int x4), (5, .int x5)]) C dX0_keyOf_31 (by decide) rfl ?_
      refine ww_aload_n C dX0_keyOf_33 rfl 2 rfl ?_
      have T_1 : gs S (gr S x1 9) = (1, 48) := hG.1 _ 8 Tx1 9 (by decide)
      refine ww_getr (ci := 8) (k0 := 9) C dX0_keyOf_34 rfl rfl inm8 (by decide) Tx1 q278 rfl T_1 (by decide) ?_
      refine ww_iload C dX0_keyOf_37 0 rfl ?_
      refine ww_iald C dX0_keyOf_39 T_1 E (fun _ E => ?_)
      refine ww_iconst (v := (-1)) C dX0_keyOf_40 (by decide) ?_
      refine ww_icmp_ne (tgt := 49) C dX0_keyOf_41 (by decide) E (fun _ E => ?_) (fun _ E => ?_)
      · refine ww_aload_n C dX0_keyOf_49 rfl 2 rfl ?_
        have T_2 : gs S (gr S x1 9) = (1, 48) := hG.1 _ 8 Tx1 9 (by decide)
        refine ww_getr (ci := 8) (k0 := 9) C dX0_keyOf_50 rfl rfl inm8 (by decide) Tx1 q278 rfl T_2 (by decide) ?_
        refine ww_iload C dX0_keyOf_53 0 rfl ?_
        refine ww_iald C dX0_keyOf_55 T_2 E (fun _ E => ?_)
        refine ww_bipush (v := 6) C dX0_keyOf_56 (by decide) ?_
        refine ww_imul C dX0_keyOf_58 ?_
        refine ww_aload_n C dX0_keyOf_59 rfl 2 rfl ?_
        have T_3 : gs S (gr S x1 10) = (1, 48) := hG.1 _ 8 Tx1 10 (by decide)
        refine ww_getr (ci := 8) (k0 := 10) C dX0_keyOf_60 rfl rfl inm8 (by decide) Tx1 q281 rfl T_3 (by decide) ?_
        refine ww_iload C dX0_keyOf_63 0 rfl ?_
        refine ww_iald C dX0_keyOf_65 T_3 E (fun _ E => ?_)
        refine ww_iadd C dX0_keyOf_66 ?_
        refine ww_sub (lv' := [(0, .ref (ad x0)), (1, .ref (ad x1)), (2, .long x2), (4, .int x4), (5, .int x5)]) [1, 2, 3, 4, 5] rfl ?_
        exact (B_X0_keyOf_67 C HR HL hG ih) x0 x1 x2 x4 x5 (((gi dy (gr S x1 9) ((x4 * (12 : Int32)) + x5).toNatClampNeg) * (6 : Int32)) + (gi dy (gr S x1 10) ((x4 * (12 : Int32)) + x5).toNatClampNeg)) dy Tx0 Tx1 E
      · refine ww_bipush (v := 96) C dX0_keyOf_44 (by decide) ?_
        refine ww_goto (tgt := 67) C dX0_keyOf_46 (by decide) ?_
        refine ww_sub (lv' := [(0, .ref (ad x0)), (1, .ref (ad x1)), (2, .long x2), (4, .int x4), (5, .int x5)]) [1, 2, 3, 4, 5] rfl ?_
        exact (B_X0_keyOf_67 C HR HL hG ih) x0 x1 x2 x4 x5 (96 : Int32) dy Tx0 Tx1 E
set_option maxHeartbeats 4000000 in
set_option maxRecDepth 100000 in
theorem B_X0_keyOf_5 (C : CX p s m args c cX0_keyOf 8 RX0 G A) (HR : meth.sig.returnType = (Option.some Jvm.ClassFile.FieldType.long)) (HL : meth.locks = false) (hG : Good S) : ∀ k : Nat, ∀ (x0 : Nat) (x1 : Nat) (x2 : Int64) (x4 : Int32) (dy : DY), gs S x0 = (0, 0) → gs S x1 = (0, 8) → (F_X0_keyOf_5 S N k) x0 x1 x2 x4 dy = some (r, dy') → WJ p l e (rmD (1)) s m args below meth c 8 G A 0 0 (MQ below (QL G ad A S r dy') args s 0 0 A) ad 5 [(0, .ref (ad x0)), (1, .ref (ad x1)), (2, .long x2), (4, .int x4)] [] S dy := by
  intro k
  induction k with
  | zero => exact fun _ _ _ _ _ _ _ E => nomatch (show none = some (r, dy') from E)
  | succ k ih =>
    intro x0 x1 x2 x4 dy Tx0 Tx1 E
    rw [F_X0_keyOf_5_s] at E
    refine ww_iload C dX0_keyOf_5 3 rfl ?_
    refine ww_aload_n C dX0_keyOf_7 rfl 0 rfl ?_
    refine ww_geti (ci := 0) (k0 := 7) C dX0_keyOf_8 rfl rfl inm0 (by decide) Tx0 q476 rfl ?_
    refine ww_icmp_ge (tgt := 90) C dX0_keyOf_11 (by decide) E (fun _ E => ?_) (fun _ E => ?_)
    · refine ww_aload_n C dX0_keyOf_90 rfl 0 rfl ?_
      refine ww_getz (ci := 0) (k0 := 8) C dX0_keyOf_91 rfl rfl inm0 (by decide) Tx0 q477 rfl ?_
      refine ww_if_eq (tgt := 120) C dX0_keyOf_94 (by decide) E (fun _ E => ?_) (fun _ E => ?_)
      · refine ww_lload_n C dX0_keyOf_120 rfl 2 rfl ?_
        exact ww_lret C HR HL dX0_keyOf_121 E
      · refine ww_lload_n C dX0_keyOf_97 rfl 2 rfl ?_
        refine ww_bipush (v := 8) C dX0_keyOf_98 (by decide) ?_
        refine ww_lshl C dX0_keyOf_100 ?_
        refine ww_aload_n C dX0_keyOf_101 rfl 1 rfl ?_
        have T_1 : gs S (gr S x1 15) = (1, 12) := hG.1 _ 8 Tx1 15 (by decide)
        refine ww_getr (ci := 8) (k0 := 15) C dX0_keyOf_102 rfl rfl inm8 (by decide) Tx1 q292 rfl T_1 (by decide) ?_
        refine ww_iconst (v := 0) C dX0_keyOf_105 (by decide) ?_
        refine ww_iald C dX0_keyOf_106 T_1 E (fun _ E => ?_)
        refine ww_iconst (v := 4) C dX0_keyOf_107 (by decide) ?_
        refine ww_ishl C dX0_keyOf_108 ?_
        refine ww_i2l C dX0_keyOf_109 ?_
        refine ww_lor C dX0_keyOf_110 ?_
        refine ww_aload_n C dX0_keyOf_111 rfl 1 rfl ?_
        have T_2 : gs S (gr S x1 15) = (1, 12) := hG.1 _ 8 Tx1 15 (by decide)
        refine ww_getr (ci := 8) (k0 := 15) C dX0_keyOf_112 rfl rfl inm8 (by decide) Tx1 q292 rfl T_2 (by decide) ?_
        refine ww_iconst (v := 1) C dX0_keyOf_115 (by decide) ?_
        refine ww_iald C dX0_keyOf_116 T_2 E (fun _ E => ?_)
        refine ww_i2l C dX0_keyOf_117 ?_
        refine ww_lor C dX0_keyOf_118 ?_
        refine ww_lstore_n (lv' := [(2, .long (((x2 <<< (((8 : Int32)).toInt64 &&& 63)) ||| (((gi dy (gr S x1 15) (0 : Int32).toNatClampNeg) <<< ((4 : Int32) &&& 31))).toInt64) ||| ((gi dy (gr S x1 15) (1 : Int32).toNatClampNeg)).toInt64)), (0, .ref (ad x0)), (1, .ref (ad x1)), (4, .int x4)]) C dX0_keyOf_119 rfl (by decide) rfl ?_
        refine ww_lload_n C dX0_keyOf_120 rfl 0 rfl ?_
        exact ww_lret C HR HL dX0_keyOf_121 E
    · refine ww_iconst (v := 0) C dX0_keyOf_14 (by decide) ?_
      refine ww_istore (lv' := [(5, .int (0 : Int32)), (0, .ref (ad x0)), (1, .ref (ad x1)), (2, .long x2), (4, .int x4)]) C dX0_keyOf_15 (by decide) rfl ?_
      refine ww_sub (lv' := [(0, .ref (ad x0)), (1, .ref (ad x1)), (2, .long x2), (4, .int x4), (5, .int (0 : Int32))]) [1, 2, 3, 4, 0] rfl ?_
      exact (B_X0_keyOf_17 C HR HL hG ih N) x0 x1 x2 x4 (0 : Int32) dy Tx0 Tx1 E
end P_X0_keyOf
set_option maxHeartbeats 4000000 in
set_option maxRecDepth 100000 in
theorem M_X0_keyOf (l : Launch) (G : GG) (ad : Nat → Nat) {S : ST} (N : Nat) (hG : Good S) (a0 : Nat) (a1 : Nat) (dy : DY) (T0 : gs S a0 = (0, 0)) (T1 : gs S a1 = (0, 8)) {r : Int64} {dy' : DY} (E : F_X0_keyOf S N a0 a1 dy = some (r, dy')) : MC l yX0_keyOf cX0_keyOf 8 (Option.some Jvm.ClassFile.FieldType.long) (1) G ad [.ref (ad a0), .ref (ad a1)] S dy (fun A => QL G ad A S r dy') := by
  rw [F_X0_keyOf_s] at E
  refine mc_of RX0 (by decide) rfl (Nat.le_of_ble_eq_true rfl) (fun p e s m args below meth c A C HR HL => ?_)
  refine ww_sub (lv' := [(0, .ref (ad a0)), (1, .ref (ad a1))]) [0, 1] rfl ?_
  refine ww_lconst (v := 0) C dX0_keyOf_0 (by decide) ?_
  refine ww_lstore_n (lv' := [(2, .long (0 : Int64)), (0, .ref (ad a0)), (1, .ref (ad a1))]) C dX0_keyOf_1 rfl (by decide) rfl ?_
  refine ww_iconst (v := 0) C dX0_keyOf_2 (by decide) ?_
  refine ww_istore (lv' := [(4, .int (0 : Int32)), (2, .long (0 : Int64)), (0, .ref (ad a0)), (1, .ref (ad a1))]) C dX0_keyOf_3 (by decide) rfl ?_
  refine ww_sub (lv' := [(0, .ref (ad a0)), (1, .ref (ad a1)), (2, .long (0 : Int64)), (4, .int (0 : Int32))]) [2, 3, 1, 0] rfl ?_
  exact (B_X0_keyOf_5 C HR HL hG N) a0 a1 (0 : Int64) (0 : Int32) dy T0 T1 E
section P_X0_slotOf
variable {p : Program} {l : Launch} {e : Env} {s : State} {m : MethodId} {args : Array Value} {below : List Frame} {meth : Method} {c : Code} {G : GG} {A : Nat → Prop} {ad : Nat → Nat} {S : ST} {N : Nat} {r : Int32} {dy' : DY}
end P_X0_slotOf
set_option maxHeartbeats 4000000 in
set_option maxRecDepth 100000 in
theorem M_X0_slotOf (l : Launch) (G : GG) (ad : Nat → Nat) {S : ST} (N : Nat) (hG : Good S) (a0 : Int64) (a1 : Int32) (dy : DY) {r : Int32} {dy' : DY} (E : F_X0_slotOf S N a0 a1 dy = some (r, dy')) : MC l yX0_slotOf cX0_slotOf 5 (Option.some Jvm.ClassFile.FieldType.int) (1) G ad [.long a0, .int a1] S dy (fun A => QI G ad A S r dy') := by
  rw [F_X0_slotOf_s] at E
  refine mc_of RX0 (by decide) rfl (Nat.le_of_ble_eq_true rfl) (fun p e s m args below meth c A C HR HL => ?_)
  refine ww_sub (lv' := [(0, .long a0), (2, .int a1)]) [0, 1] rfl ?_
  refine ww_lload_n C dX0_slotOf_0 rfl 0 rfl ?_
  refine ww_ldc2 (v := (10)) C dX0_slotOf_1 q1084 ?_
  refine ww_lmul C dX0_slotOf_4 ?_
  refine ww_iload_n C dX0_slotOf_5 rfl 1 rfl ?_
  refine ww_i2l C dX0_slotOf_6 ?_
  refine ww_ladd C dX0_slotOf_7 ?_
  refine ww_ldc2 (v := (-7046029254386353131)) C dX0_slotOf_8 q1085 ?_
  refine ww_lmul C dX0_slotOf_11 ?_
  refine ww_lstore_n (lv' := [(3, .long (((a0 * (10 : Int64)) + (a1).toInt64) * (-7046029254386353131 : Int64))), (0, .long a0), (2, .int a1)]) C dX0_slotOf_12 rfl (by decide) rfl ?_
  refine ww_lload_n C dX0_slotOf_13 rfl 0 rfl ?_
  refine ww_bipush (v := 55) C dX0_slotOf_14 (by decide) ?_
  refine ww_lushr C dX0_slotOf_16 ?_
  refine ww_l2i C dX0_slotOf_17 ?_
  exact ww_iret C HR HL dX0_slotOf_18 E
section P_X0_spreadLots
variable {p : Program} {l : Launch} {e : Env} {s : State} {m : MethodId} {args : Array Value} {below : List Frame} {meth : Method} {c : Code} {G : GG} {A : Nat → Prop} {ad : Nat → Nat} {S : ST} {N : Nat} {dy' : DY} {dep : Nat}
set_option maxHeartbeats 4000000 in
set_option maxRecDepth 100000 in
theorem B_X0_spreadLots_117 (C : CX p s m args c cX0_spreadLots 9 RX0 G A) (HR : meth.sig.returnType = (Option.none : Option Jvm.ClassFile.FieldType)) (HL : meth.locks = false) (hG : Good S) {rec : Nat → Int32 → Int32 → DY → Option DY} (hrec : ∀ (a0 : Nat) (a1 : Int32) (a2 : Int32) (dy : DY) (T0 : gs S a0 = (0, 0)) {dy9 : DY}, rec a0 a1 a2 dy = some dy9 → MC l yX0_spread cX0_spread 8 (Option.none : Option Jvm.ClassFile.FieldType) (2 * dep + 20) G ad [.ref (ad a0), .int a1, .int a2] S dy (fun A => QV G ad A S dy9)) {K118 : Nat → Int32 → Int32 → Nat → Nat → Int32 → Int32 → Int32 → Int32 → DY → Option DY} (hK118 : ∀ (x0 : Nat) (x1 : Int32) (x2 : Int32) (x3 : Nat) (x4 : Nat) (x5 : Int32) (x6 : Int32) (x7 : Int32) (x8 : Int32) (dy : DY), gs S x0 = (0, 0) → gs S x3 = (0, 8) → gs S x4 = (0, 8) → K118 x0 x1 x2 x3 x4 x5 x6 x7 x8 dy = some dy' → WJ p l e (rmD (2 * dep + 21)) s m args below meth c 9 G A 0 0 (MQ below (QV G ad A S dy') args s 0 0 A) ad 118 [(0, .ref (ad x0)), (1, .int x1), (2, .int x2), (3, .ref (ad x3)), (4, .ref (ad x4)), (5, .int x5), (6, .int x6), (7, .int x7), (8, .int x8)] [] S dy) : ∀ (x0 : Nat) (x1 : Int32) (x2 : Int32) (x3 : Nat) (x4 : Nat) (x5 : Int32) (x6 : Int32) (x7 : Int32) (x8 : Int32) (y0 : Nat) (y1 : Int32) (y2 : Int32) (dy : DY), gs S x0 = (0, 0) → gs S x3 = (0, 8) → gs S x4 = (0, 8) → gs S y0 = (1, 12) → F_X0_spreadLots_117 S N rec K118 x0 x1 x2 x3 x4 x5 x6 x7 x8 y0 y1 y2 dy = some dy' → WJ p l e (rmD (2 * dep + 21)) s m args below meth c 9 G A 0 0 (MQ below (QV G ad A S dy') args s 0 0 A) ad 117 [(0, .ref (ad x0)), (1, .int x1), (2, .int x2), (3, .ref (ad x3)), (4, .ref (ad x4)), (5, .int x5), (6, .int x6), (7, .int x7), (8, .int x8)] [.int y2, .int y1, .ref (ad y0)] S dy := by
  intro x0 x1 x2 x3 x4 x5 x6 x7 x8 y0 y1 y2 dy Tx0 Tx3 Tx4 Ty0 E
  rw [F_X0_spreadLots_117_s] at E
  refine ww_iast C dX0_spreadLots_117 Ty0 E (fun _ E => ?_)
  refine ww_bd E (fun dy1 E => ?_)
  refine ww_sub (lv' := [(0, .ref (ad x0)), (1, .int x1), (2, .int x2), (3, .ref (ad x3)), (4, .ref (ad x4)), (5, .int x5), (6, .int x6), (7, .int x7), (8, .int x8)]) [0, 1, 2, 3, 4, 5, 6, 7, 8] rfl ?_
  exact hK118 x0 x1 x2 x3 x4 x5 x6 x7 x8 dy1 Tx0 Tx3 Tx4 E
set_option maxHeartbeats 4000000 in
set_option maxRecDepth 100000 in
theorem B_X0_spreadLots_140 (C : CX p s m args c cX0_spreadLots 9 RX0 G A) (HR : meth.sig.returnType = (Option.none : Option Jvm.ClassFile.FieldType)) (HL : meth.locks = false) (hG : Good S) {rec : Nat → Int32 → Int32 → DY → Option DY} (hrec : ∀ (a0 : Nat) (a1 : Int32) (a2 : Int32) (dy : DY) (T0 : gs S a0 = (0, 0)) {dy9 : DY}, rec a0 a1 a2 dy = some dy9 → MC l yX0_spread cX0_spread 8 (Option.none : Option Jvm.ClassFile.FieldType) (2 * dep + 20) G ad [.ref (ad a0), .int a1, .int a2] S dy (fun A => QV G ad A S dy9)) {K141 : Nat → Int32 → Int32 → Nat → Nat → Int32 → Int32 → Int32 → Int32 → DY → Option DY} (hK141 : ∀ (x0 : Nat) (x1 : Int32) (x2 : Int32) (x3 : Nat) (x4 : Nat) (x5 : Int32) (x6 : Int32) (x7 : Int32) (x8 : Int32) (dy : DY), gs S x0 = (0, 0) → gs S x3 = (0, 8) → gs S x4 = (0, 8) → K141 x0 x1 x2 x3 x4 x5 x6 x7 x8 dy = some dy' → WJ p l e (rmD (2 * dep + 21)) s m args below meth c 9 G A 0 0 (MQ below (QV G ad A S dy') args s 0 0 A) ad 141 [(0, .ref (ad x0)), (1, .int x1), (2, .int x2), (3, .ref (ad x3)), (4, .ref (ad x4)), (5, .int x5), (6, .int x6), (7, .int x7), (8, .int x8)] [] S dy) : ∀ (x0 : Nat) (x1 : Int32) (x2 : Int32) (x3 : Nat) (x4 : Nat) (x5 : Int32) (x6 : Int32) (x7 : Int32) (x8 : Int32) (y0 : Nat) (y1 : Int32) (y2 : Int32) (dy : DY), gs S x0 = (0, 0) → gs S x3 = (0, 8) → gs S x4 = (0, 8) → gs S y0 = (1, 12) → F_X0_spreadLots_140 S N rec K141 x0 x1 x2 x3 x4 x5 x6 x7 x8 y0 y1 y2 dy = some dy' → WJ p l e (rmD (2 * dep + 21)) s m args below meth c 9 G A 0 0 (MQ below (QV G ad A S dy') args s 0 0 A) ad 140 [(0, .ref (ad x0)), (1, .int x1), (2, .int x2), (3, .ref (ad x3)), (4, .ref (ad x4)), (5, .int x5), (6, .int x6), (7, .int x7), (8, .int x8)] [.int y2, .int y1, .ref (ad y0)] S dy := by
  intro x0 x1 x2 x3 x4 x5 x6 x7 x8 y0 y1 y2 dy Tx0 Tx3 Tx4 Ty0 E
  rw [F_X0_spreadLots_140_s] at E
  refine ww_iast C dX0_spreadLots_140 Ty0 E (fun _ E => ?_)
  refine ww_bd E (fun dy1 E => ?_)
  refine ww_sub (lv' := [(0, .ref (ad x0)), (1, .int x1), (2, .int x2), (3, .ref (ad x3)), (4, .ref (ad x4)), (5, .int x5), (6, .int x6), (7, .int x7), (8, .int x8)]) [0, 1, 2, 3, 4, 5, 6, 7, 8] rfl ?_
  exact hK141 x0 x1 x2 x3 x4 x5 x6 x7 x8 dy1 Tx0 Tx3 Tx4 E
set_option maxHeartbeats 4000000 in
set_option maxRecDepth 100000 in
theorem B_X0_spreadLots_141 (C : CX p s m args c cX0_spreadLots 9 RX0 G A) (HR : meth.sig.returnType = (Option.none : Option Jvm.ClassFile.FieldType)) (HL : meth.locks = false) (hG : Good S) {rec : Nat → Int32 → Int32 → DY → Option DY} (hrec : ∀ (a0 : Nat) (a1 : Int32) (a2 : Int32) (dy : DY) (T0 : gs S a0 = (0, 0)) {dy9 : DY}, rec a0 a1 a2 dy = some dy9 → MC l yX0_spread cX0_spread 8 (Option.none : Option Jvm.ClassFile.FieldType) (2 * dep + 20) G ad [.ref (ad a0), .int a1, .int a2] S dy (fun A => QV G ad A S dy9)) {K82 : Nat → Int32 → Int32 → Nat → Nat → Int32 → Int32 → Int32 → Int32 → DY → Option DY} (hK82 : ∀ (x0 : Nat) (x1 : Int32) (x2 : Int32) (x3 : Nat) (x4 : Nat) (x5 : Int32) (x6 : Int32) (x7 : Int32) (x8 : Int32) (dy : DY), gs S x0 = (0, 0) → gs S x3 = (0, 8) → gs S x4 = (0, 8) → K82 x0 x1 x2 x3 x4 x5 x6 x7 x8 dy = some dy' → WJ p l e (rmD (2 * dep + 21)) s m args below meth c 9 G A 0 0 (MQ below (QV G ad A S dy') args s 0 0 A) ad 82 [(0, .ref (ad x0)), (1, .int x1), (2, .int x2), (3, .ref (ad x3)), (4, .ref (ad x4)), (5, .int x5), (6, .int x6), (7, .int x7), (8, .int x8)] [] S dy) : ∀ (x0 : Nat) (x1 : Int32) (x2 : Int32) (x3 : Nat) (x4 : Nat) (x5 : Int32) (x6 : Int32) (x7 : Int32) (x8 : Int32) (dy : DY), gs S x0 = (0, 0) → gs S x3 = (0, 8) → gs S x4 = (0, 8) → F_X0_spreadLots_141 S N rec K82 x0 x1 x2 x3 x4 x5 x6 x7 x8 dy = some dy' → WJ p l e (rmD (2 * dep + 21)) s m args below meth c 9 G A 0 0 (MQ below (QV G ad A S dy') args s 0 0 A) ad 141 [(0, .ref (ad x0)), (1, .int x1), (2, .int x2), (3, .ref (ad x3)), (4, .ref (ad x4)), (5, .int x5), (6, .int x6), (7, .int x7), (8, .int x8)] [] S dy := by
  intro x0 x1 x2 x3 x4 x5 x6 x7 x8 dy Tx0 Tx3 Tx4 E
  rw [F_X0_spreadLots_141_s] at E
  refine ww_aload C dX0_spreadLots_141 4 rfl ?_
  obtain ⟨u1, e_2, E⟩ := bind_of E
  refine ww_callI C (runs_V (n := 0) (st := []) C [] (M_X8_move l G ad N hG x4 dy Tx4 e_2) ⟨q975, q112, by decide⟩ q1097 q973 q974 (ci := 8) rfl Tx4 rfl (Nat.le_of_ble_eq_true rfl) (by constructor <;> (simp only [rmD]; omega)) ⟨Nat.zero_le _, Nat.zero_le _⟩ dX0_spreadLots_143 rfl) ?_
  refine ww_pop C dX0_spreadLots_146 rfl ?_
  refine ww_aload_n C dX0_spreadLots_147 rfl 0 rfl ?_
  refine ww_iload_n C dX0_spreadLots_148 rfl 1 rfl ?_
  refine ww_iconst (v := 1) C dX0_spreadLots_149 (by decide) ?_
  refine ww_iadd C dX0_spreadLots_150 ?_
  refine ww_iload_n C dX0_spreadLots_151 rfl 2 rfl ?_
  refine ww_iconst (v := 1) C dX0_spreadLots_152 (by decide) ?_
  refine ww_isub C dX0_spreadLots_153 ?_
  obtain ⟨u3, e_4, E⟩ := bind_of E
  refine ww_callV C (runs_V (n := 2) (st := []) C [.int (x1 + (1 : Int32)), .int (x2 - (1 : Int32))] (hrec x0 (x1 + (1 : Int32)) (x2 - (1 : Int32)) u1.2 Tx0 e_4) ⟨q1076, q115, by decide⟩ q1073 q1075 q28 (ci := 0) rfl Tx0 rfl (Nat.le_of_ble_eq_true rfl) (by constructor <;> (simp only [rmD]; omega)) ⟨Nat.zero_le _, Nat.zero_le _⟩ dX0_spreadLots_154 rfl) ?_
  refine ww_aload_n C dX0_spreadLots_157 rfl 0 rfl ?_
  refine ww_iload_n C dX0_spreadLots_158 rfl 1 rfl ?_
  refine ww_aload C dX0_spreadLots_159 4 rfl ?_
  refine ww_geti (ci := 8) (k0 := 6) C dX0_spreadLots_161 rfl rfl inm8 (by decide) Tx4 q272 rfl ?_
  refine ww_aload_n C dX0_spreadLots_164 rfl 3 rfl ?_
  refine ww_geti (ci := 8) (k0 := 6) C dX0_spreadLots_165 rfl rfl inm8 (by decide) Tx3 q272 rfl ?_
  refine ww_isub C dX0_spreadLots_168 ?_
  refine ww_iconst (v := 4) C dX0_spreadLots_169 (by decide) ?_
  refine ww_iload C dX0_spreadLots_170 5 rfl ?_
  refine ww_iload C dX0_spreadLots_172 6 rfl ?_
  refine ww_iadd C dX0_spreadLots_174 ?_
  refine ww_ishr C dX0_spreadLots_175 ?_
  obtain ⟨u5, e_6, E⟩ := bind_of E
  refine ww_callV C (runs_V (n := 3) (st := []) C [.int x1, .int ((gi u3 x4 6) - (gi u3 x3 6)), .int ((4 : Int32) >>> ((x5 + x6) &&& 31))] (M_X0_addDeeper l G ad N hG x0 x1 ((gi u3 x4 6) - (gi u3 x3 6)) ((4 : Int32) >>> ((x5 + x6) &&& 31)) u3 Tx0 e_6) ⟨q1101, q115, by decide⟩ q1098 q1100 q31 (ci := 0) rfl Tx0 rfl (Nat.le_of_ble_eq_true rfl) (by constructor <;> (simp only [rmD]; omega)) ⟨Nat.zero_le _, Nat.zero_le _⟩ dX0_spreadLots_176 rfl) ?_
  refine ww_iinc (v := (x8 + (1 : Int32))) (lv' := [(8, .int (x8 + (1 : Int32))), (0, .ref (ad x0)), (1, .int x1), (2, .int x2), (3, .ref (ad x3)), (4, .ref (ad x4)), (5, .int x5), (6, .int x6), (7, .int x7)]) C dX0_spreadLots_179 8 rfl rfl (by decide) rfl ?_
  refine ww_goto (tgt := 82) C dX0_spreadLots_182 (by decide) ?_
  refine ww_sub (lv' := [(0, .ref (ad x0)), (1, .int x1), (2, .int x2), (3, .ref (ad x3)), (4, .ref (ad x4)), (5, .int x5), (6, .int x6), (7, .int x7), (8, .int (x8 + (1 : Int32)))]) [1, 2, 3, 4, 5, 6, 7, 8, 0] rfl ?_
  exact hK82 x0 x1 x2 x3 x4 x5 x6 x7 (x8 + (1 : Int32)) u5 Tx0 Tx3 Tx4 E
set_option maxHeartbeats 4000000 in
set_option maxRecDepth 100000 in
theorem B_X0_spreadLots_118 (C : CX p s m args c cX0_spreadLots 9 RX0 G A) (HR : meth.sig.returnType = (Option.none : Option Jvm.ClassFile.FieldType)) (HL : meth.locks = false) (hG : Good S) {rec : Nat → Int32 → Int32 → DY → Option DY} (hrec : ∀ (a0 : Nat) (a1 : Int32) (a2 : Int32) (dy : DY) (T0 : gs S a0 = (0, 0)) {dy9 : DY}, rec a0 a1 a2 dy = some dy9 → MC l yX0_spread cX0_spread 8 (Option.none : Option Jvm.ClassFile.FieldType) (2 * dep + 20) G ad [.ref (ad a0), .int a1, .int a2] S dy (fun A => QV G ad A S dy9)) {K82 : Nat → Int32 → Int32 → Nat → Nat → Int32 → Int32 → Int32 → Int32 → DY → Option DY} (hK82 : ∀ (x0 : Nat) (x1 : Int32) (x2 : Int32) (x3 : Nat) (x4 : Nat) (x5 : Int32) (x6 : Int32) (x7 : Int32) (x8 : Int32) (dy : DY), gs S x0 = (0, 0) → gs S x3 = (0, 8) → gs S x4 = (0, 8) → K82 x0 x1 x2 x3 x4 x5 x6 x7 x8 dy = some dy' → WJ p l e (rmD (2 * dep + 21)) s m args below meth c 9 G A 0 0 (MQ below (QV G ad A S dy') args s 0 0 A) ad 82 [(0, .ref (ad x0)), (1, .int x1), (2, .int x2), (3, .ref (ad x3)), (4, .ref (ad x4)), (5, .int x5), (6, .int x6), (7, .int x7), (8, .int x8)] [] S dy) : ∀ (x0 : Nat) (x1 : Int32) (x2 : Int32) (x3 : Nat) (x4 : Nat) (x5 : Int32) (x6 : Int32) (x7 : Int32) (x8 : Int32) (dy : DY), gs S x0 = (0, 0) → gs S x3 = (0, 8) → gs S x4 = (0, 8) → F_X0_spreadLots_118 S N rec K82 x0 x1 x2 x3 x4 x5 x6 x7 x8 dy = some dy' → WJ p l e (rmD (2 * dep + 21)) s m args below meth c 9 G A 0 0 (MQ below (QV G ad A S dy') args s 0 0 A) ad 118 [(0, .ref (ad x0)), (1, .int x1), (2, .int x2), (3, .ref (ad x3)), (4, .ref (ad x4)), (5, .int x5), (6, .int x6), (7, .int x7), (8, .int x8)] [] S dy := by
  intro x0 x1 x2 x3 x4 x5 x6 x7 x8 dy Tx0 Tx3 Tx4 E
  rw [F_X0_spreadLots_118_s] at E
  refine ww_iload C dX0_spreadLots_118 6 rfl ?_
  refine ww_iconst (v := 1) C dX0_spreadLots_120 (by decide) ?_
  refine ww_icmp_ne (tgt := 141) C dX0_spreadLots_121 (by decide) E (fun _ E => ?_) (fun _ E => ?_)
  · refine ww_sub (lv' := [(0, .ref (ad x0)), (1, .int x1), (2, .int x2), (3, .ref (ad x3)), (4, .ref (ad x4)), (5, .int x5), (6, .int x6), (7, .int x7), (8, .int x8)]) [0, 1, 2, 3, 4, 5, 6, 7, 8] rfl ?_
    exact (B_X0_spreadLots_141 C HR HL hG hrec hK82) x0 x1 x2 x3 x4 x5 x6 x7 x8 dy Tx0 Tx3 Tx4 E
  · refine ww_aload C dX0_spreadLots_124 4 rfl ?_
    have T_1 : gs S (gr S x4 16) = (1, 12) := hG.1 _ 8 Tx4 16 (by decide)
    refine ww_getr (ci := 8) (k0 := 16) C dX0_spreadLots_126 rfl rfl inm8 (by decide) Tx4 q295 rfl T_1 (by decide) ?_
    refine ww_iconst (v := 1) C dX0_spreadLots_129 (by decide) ?_
    refine ww_iload C dX0_spreadLots_130 8 rfl ?_
    refine ww_if_ne (tgt := 139) C dX0_spreadLots_132 (by decide) E (fun _ E => ?_) (fun _ E => ?_)
    · refine ww_iconst (v := 2) C dX0_spreadLots_139 (by decide) ?_
      refine ww_sub (lv' := [(0, .ref (ad x0)), (1, .int x1), (2, .int x2), (3, .ref (ad x3)), (4, .ref (ad x4)), (5, .int x5), (6, .int x6), (7, .int x7), (8, .int x8)]) [0, 1, 2, 3, 4, 5, 6, 7, 8] rfl ?_
      exact (B_X0_spreadLots_140 C HR HL hG hrec (B_X0_spreadLots_141 C HR HL hG hrec hK82)) x0 x1 x2 x3 x4 x5 x6 x7 x8 (gr S x4 16) (1 : Int32) (2 : Int32) dy Tx0 Tx3 Tx4 T_1 E
    · refine ww_iconst (v := 1) C dX0_spreadLots_135 (by decide) ?_
      refine ww_goto (tgt := 140) C dX0_spreadLots_136 (by decide) ?_
      refine ww_sub (lv' := [(0, .ref (ad x0)), (1, .int x1), (2, .int x2), (3, .ref (ad x3)), (4, .ref (ad x4)), (5, .int x5), (6, .int x6), (7, .int x7), (8, .int x8)]) [0, 1, 2, 3, 4, 5, 6, 7, 8] rfl ?_
      exact (B_X0_spreadLots_140 C HR HL hG hrec (B_X0_spreadLots_141 C HR HL hG hrec hK82)) x0 x1 x2 x3 x4 x5 x6 x7 x8 (gr S x4 16) (1 : Int32) (1 : Int32) dy Tx0 Tx3 Tx4 T_1 E
set_option maxHeartbeats 4000000 in
set_option maxRecDepth 100000 in
theorem B_X0_spreadLots_82 (C : CX p s m args c cX0_spreadLots 9 RX0 G A) (HR : meth.sig.returnType = (Option.none : Option Jvm.ClassFile.FieldType)) (HL : meth.locks = false) (hG : Good S) {rec : Nat → Int32 → Int32 → DY → Option DY} (hrec : ∀ (a0 : Nat) (a1 : Int32) (a2 : Int32) (dy : DY) (T0 : gs S a0 = (0, 0)) {dy9 : DY}, rec a0 a1 a2 dy = some dy9 → MC l yX0_spread cX0_spread 8 (Option.none : Option Jvm.ClassFile.FieldType) (2 * dep + 20) G ad [.ref (ad a0), .int a1, .int a2] S dy (fun A => QV G ad A S dy9)) {K72 : Nat → Int32 → Int32 → Nat → Nat → Int32 → Int32 → Int32 → DY → Option DY} (hK72 : ∀ (x0 : Nat) (x1 : Int32) (x2 : Int32) (x3 : Nat) (x4 : Nat) (x5 : Int32) (x6 : Int32) (x7 : Int32) (dy : DY), gs S x0 = (0, 0) → gs S x3 = (0, 8) → gs S x4 = (0, 8) → K72 x0 x1 x2 x3 x4 x5 x6 x7 dy = some dy' → WJ p l e (rmD (2 * dep + 21)) s m args below meth c 9 G A 0 0 (MQ below (QV G ad A S dy') args s 0 0 A) ad 72 [(0, .ref (ad x0)), (1, .int x1), (2, .int x2), (3, .ref (ad x3)), (4, .ref (ad x4)), (5, .int x5), (6, .int x6), (7, .int x7)] [] S dy) : ∀ k : Nat, ∀ (x0 : Nat) (x1 : Int32) (x2 : Int32) (x3 : Nat) (x4 : Nat) (x5 : Int32) (x6 : Int32) (x7 : Int32) (x8 : Int32) (dy : DY), gs S x0 = (0, 0) → gs S x3 = (0, 8) → gs S x4 = (0, 8) → (F_X0_spreadLots_82 S N rec K72 k) x0 x1 x2 x3 x4 x5 x6 x7 x8 dy = some dy' → WJ p l e (rmD (2 * dep + 21)) s m args below meth c 9 G A 0 0 (MQ below (QV G ad A S dy') args s 0 0 A) ad 82 [(0, .ref (ad x0)), (1, .int x1), (2, .int x2), (3, .ref (ad x3)), (4, .ref (ad x4)), (5, .int x5), (6, .int x6), (7, .int x7), (8, .int x8)] [] S dy := by
  intro k
  induction k with
  | zero => exact fun _ _ _ _ _ _ _ _ _ _ _ _ _ E => nomatch (show none = some dy' from E)
  | succ k ih =>
    intro x0 x1 x2 x3 x4 x5 x6 x7 x8 dy Tx0 Tx3 Tx4 E
    rw [F_X0_spreadLots_82_s] at E
    refine ww_iload C dX0_spreadLots_82 8 rfl ?_
    refine ww_iload C dX0_spreadLots_84 6 rfl ?_
    refine ww_icmp_gt (tgt := 185) C dX0_spreadLots_86 (by decide) E (fun _ E => ?_) (fun _ E => ?_)
    · refine ww_iinc (v := (x7 + (1 : Int32))) (lv' := [(7, .int (x7 + (1 : Int32))), (0, .ref (ad x0)), (1, .int x1), (2, .int x2), (3, .ref (ad x3)), (4, .ref (ad x4)), (5, .int x5), (6, .int x6), (8, .int x8)]) C dX0_spreadLots_185 7 rfl rfl (by decide) rfl ?_
      refine ww_goto (tgt := 72) C dX0_spreadLots_188 (by decide) ?_
      refine ww_sub (lv' := [(0, .ref (ad x0)), (1, .int x1), (2, .int x2), (3, .ref (ad x3)), (4, .ref (ad x4)), (5, .int x5), (6, .int x6), (7, .int (x7 + (1 : Int32)))]) [1, 2, 3, 4, 5, 6, 7, 0] rfl ?_
      exact hK72 x0 x1 x2 x3 x4 x5 x6 (x7 + (1 : Int32)) dy Tx0 Tx3 Tx4 E
    · refine ww_aload C dX0_spreadLots_89 4 rfl ?_
      refine ww_aload_n C dX0_spreadLots_91 rfl 3 rfl ?_
      obtain ⟨u1, e_2, E⟩ := bind_of E
      refine ww_callV C (runs_V (n := 1) (st := []) C [.ref (ad x3)] (M_X8_copyFrom l G ad N hG x4 x3 dy Tx4 Tx3 e_2) ⟨q1096, q112, by decide⟩ q1093 q1094 q1095 (ci := 8) rfl Tx4 rfl (Nat.le_of_ble_eq_true rfl) (by constructor <;> (simp only [rmD]; omega)) ⟨Nat.zero_le _, Nat.zero_le _⟩ dX0_spreadLots_92 rfl) ?_
      refine ww_iload C dX0_spreadLots_95 5 rfl ?_
      refine ww_iconst (v := 1) C dX0_spreadLots_97 (by decide) ?_
      refine ww_icmp_ne (tgt := 118) C dX0_spreadLots_98 (by decide) E (fun _ E => ?_) (fun _ E => ?_)
      · refine ww_sub (lv' := [(0, .ref (ad x0)), (1, .int x1), (2, .int x2), (3, .ref (ad x3)), (4, .ref (ad x4)), (5, .int x5), (6, .int x6), (7, .int x7), (8, .int x8)]) [0, 1, 2, 3, 4, 5, 6, 7, 8] rfl ?_
        exact (B_X0_spreadLots_118 C HR HL hG hrec ih) x0 x1 x2 x3 x4 x5 x6 x7 x8 u1 Tx0 Tx3 Tx4 E
      · refine ww_aload C dX0_spreadLots_101 4 rfl ?_
        have T_3 : gs S (gr S x4 16) = (1, 12) := hG.1 _ 8 Tx4 16 (by decide)
        refine ww_getr (ci := 8) (k0 := 16) C dX0_spreadLots_103 rfl rfl inm8 (by decide) Tx4 q295 rfl T_3 (by decide) ?_
        refine ww_iconst (v := 0) C dX0_spreadLots_106 (by decide) ?_
        refine ww_iload C dX0_spreadLots_107 7 rfl ?_
        refine ww_if_ne (tgt := 116) C dX0_spreadLots_109 (by decide) E (fun _ E => ?_) (fun _ E => ?_)
        · refine ww_iconst (v := 2) C dX0_spreadLots_116 (by decide) ?_
          refine ww_sub (lv' := [(0, .ref (ad x0)), (1, .int x1), (2, .int x2), (3, .ref (ad x3)), (4, .ref (ad x4)), (5, .int x5), (6, .int x6), (7, .int x7), (8, .int x8)]) [0, 1, 2, 3, 4, 5, 6, 7, 8] rfl ?_
          exact (B_X0_spreadLots_117 C HR HL hG hrec (B_X0_spreadLots_118 C HR HL hG hrec ih)) x0 x1 x2 x3 x4 x5 x6 x7 x8 (gr S x4 16) (0 : Int32) (2 : Int32) u1 Tx0 Tx3 Tx4 T_3 E
        · refine ww_iconst (v := 1) C dX0_spreadLots_112 (by decide) ?_
          refine ww_goto (tgt := 117) C dX0_spreadLots_113 (by decide) ?_
          refine ww_sub (lv' := [(0, .ref (ad x0)), (1, .int x1), (2, .int x2), (3, .ref (ad x3)), (4, .ref (ad x4)), (5, .int x5), (6, .int x6), (7, .int x7), (8, .int x8)]) [0, 1, 2, 3, 4, 5, 6, 7, 8] rfl ?_
          exact (B_X0_spreadLots_117 C HR HL hG hrec (B_X0_spreadLots_118 C HR HL hG hrec ih)) x0 x1 x2 x3 x4 x5 x6 x7 x8 (gr S x4 16) (0 : Int32) (1 : Int32) u1 Tx0 Tx3 Tx4 T_3 E
set_option maxHeartbeats 4000000 in
set_option maxRecDepth 100000 in
theorem B_X0_spreadLots_72 (C : CX p s m args c cX0_spreadLots 9 RX0 G A) (HR : meth.sig.returnType = (Option.none : Option Jvm.ClassFile.FieldType)) (HL : meth.locks = false) (hG : Good S) {rec : Nat → Int32 → Int32 → DY → Option DY} (hrec : ∀ (a0 : Nat) (a1 : Int32) (a2 : Int32) (dy : DY) (T0 : gs S a0 = (0, 0)) {dy9 : DY}, rec a0 a1 a2 dy = some dy9 → MC l yX0_spread cX0_spread 8 (Option.none : Option Jvm.ClassFile.FieldType) (2 * dep + 20) G ad [.ref (ad a0), .int a1, .int a2] S dy (fun A => QV G ad A S dy9)) : ∀ k : Nat, ∀ (x0 : Nat) (x1 : Int32) (x2 : Int32) (x3 : Nat) (x4 : Nat) (x5 : Int32) (x6 : Int32) (x7 : Int32) (dy : DY), gs S x0 = (0, 0) → gs S x3 = (0, 8) → gs S x4 = (0, 8) → (F_X0_spreadLots_72 S N rec k) x0 x1 x2 x3 x4 x5 x6 x7 dy = some dy' → WJ p l e (rmD (2 * dep + 21)) s m args below meth c 9 G A 0 0 (MQ below (QV G ad A S dy') args s 0 0 A) ad 72 [(0, .ref (ad x0)), (1, .int x1), (2, .int x2), (3, .ref (ad x3)), (4, .ref (ad x4)), (5, .int x5), (6, .int x6), (7, .int x7)] [] S dy := by
  intro k
  induction k with
  | zero => exact fun _ _ _ _ _ _ _ _ _ _ _ _ E => nomatch (show none = some dy' from E)
  | succ k ih =>
    intro x0 x1 x2 x3 x4 x5 x6 x7 dy Tx0 Tx3 Tx4 E
    rw [F_X0_spreadLots_72_s] at E
    refine ww_iload C dX0_spreadLots_72 7 rfl ?_
    refine ww_iload C dX0_spreadLots_74 5 rfl ?_
    refine ww_icmp_gt (tgt := 191) C dX0_spreadLots_76 (by decide) E (fun _ E => ?_) (fun _ E => ?_)
    · exact ww_vret C HR HL dX0_spreadLots_191 E
    · refine ww_iconst (v := 0) C dX0_spreadLots_79 (by decide) ?_
      refine ww_istore (lv' := [(8, .int (0 : Int32)), (0, .ref (ad x0)), (1, .int x1), (2, .int x2), (3, .ref (ad x3)), (4, .ref (ad x4)), (5, .int x5), (6, .int x6), (7, .int x7)]) C dX0_spreadLots_80 (by decide) rfl ?_
      refine ww_sub (lv' := [(0, .ref (ad x0)), (1, .int x1), (2, .int x2), (3, .ref (ad x3)), (4, .ref (ad x4)), (5, .int x5), (6, .int x6), (7, .int x7), (8, .int (0 : Int32))]) [1, 2, 3, 4, 5, 6, 7, 8, 0] rfl ?_
      exact (B_X0_spreadLots_82 C HR HL hG hrec ih N) x0 x1 x2 x3 x4 x5 x6 x7 (0 : Int32) dy Tx0 Tx3 Tx4 E
set_option maxHeartbeats 4000000 in
set_option maxRecDepth 100000 in
theorem B_X0_spreadLots_52 (C : CX p s m args c cX0_spreadLots 9 RX0 G A) (HR : meth.sig.returnType = (Option.none : Option Jvm.ClassFile.FieldType)) (HL : meth.locks = false) (hG : Good S) {rec : Nat → Int32 → Int32 → DY → Option DY} (hrec : ∀ (a0 : Nat) (a1 : Int32) (a2 : Int32) (dy : DY) (T0 : gs S a0 = (0, 0)) {dy9 : DY}, rec a0 a1 a2 dy = some dy9 → MC l yX0_spread cX0_spread 8 (Option.none : Option Jvm.ClassFile.FieldType) (2 * dep + 20) G ad [.ref (ad a0), .int a1, .int a2] S dy (fun A => QV G ad A S dy9)) : ∀ (x0 : Nat) (x1 : Int32) (x2 : Int32) (x3 : Nat) (x4 : Nat) (y0 : Int32) (dy : DY), gs S x0 = (0, 0) → gs S x3 = (0, 8) → gs S x4 = (0, 8) → F_X0_spreadLots_52 S N rec x0 x1 x2 x3 x4 y0 dy = some dy' → WJ p l e (rmD (2 * dep + 21)) s m args below meth c 9 G A 0 0 (MQ below (QV G ad A S dy') args s 0 0 A) ad 52 [(0, .ref (ad x0)), (1, .int x1), (2, .int x2), (3, .ref (ad x3)), (4, .ref (ad x4))] [.int y0] S dy := by
  intro x0 x1 x2 x3 x4 y0 dy Tx0 Tx3 Tx4 E
  rw [F_X0_spreadLots_52_s] at E
  refine ww_istore (lv' := [(5, .int y0), (0, .ref (ad x0)), (1, .int x1), (2, .int x2), (3, .ref (ad x3)), (4, .ref (ad x4))]) C dX0_spreadLots_52 (by decide) rfl ?_
  refine ww_aload_n C dX0_spreadLots_54 rfl 4 rfl ?_
  refine ww_iconst (v := 1) C dX0_spreadLots_55 (by decide) ?_
  obtain ⟨u1, e_2, E⟩ := bind_of E
  refine ww_callI C (runs_V (n := 1) (st := []) C [.int (1 : Int32)] (M_X8_needsLot l G ad N hG x3 (1 : Int32) dy Tx3 e_2) ⟨q966, q112, by decide⟩ q1092 q964 q965 (ci := 8) rfl Tx3 rfl (Nat.le_of_ble_eq_true rfl) (by constructor <;> (simp only [rmD]; omega)) ⟨Nat.zero_le _, Nat.zero_le _⟩ dX0_spreadLots_56 rfl) ?_
  refine ww_if_eq (tgt := 66) C dX0_spreadLots_59 (by decide) E (fun _ E => ?_) (fun _ E => ?_)
  · refine ww_iconst (v := 0) C dX0_spreadLots_66 (by decide) ?_
    refine ww_istore (lv' := [(6, .int (0 : Int32)), (5, .int y0), (0, .ref (ad x0)), (1, .int x1), (2, .int x2), (3, .ref (ad x3)), (4, .ref (ad x4))]) C dX0_spreadLots_67 (by decide) rfl ?_
    refine ww_iconst (v := 0) C dX0_spreadLots_69 (by decide) ?_
    refine ww_istore (lv' := [(7, .int (0 : Int32)), (6, .int (0 : Int32)), (5, .int y0), (0, .ref (ad x0)), (1, .int x1), (2, .int x2), (3, .ref (ad x3)), (4, .ref (ad x4))]) C dX0_spreadLots_70 (by decide) rfl ?_
    refine ww_sub (lv' := [(0, .ref (ad x0)), (1, .int x1), (2, .int x2), (3, .ref (ad x3)), (4, .ref (ad x4)), (5, .int y0), (6, .int (0 : Int32)), (7, .int (0 : Int32))]) [3, 4, 5, 6, 7, 2, 1, 0] rfl ?_
    exact (B_X0_spreadLots_72 C HR HL hG hrec N) x0 x1 x2 x3 x4 y0 (0 : Int32) (0 : Int32) u1.2 Tx0 Tx3 Tx4 E
  · refine ww_iconst (v := 1) C dX0_spreadLots_62 (by decide) ?_
    refine ww_goto (tgt := 67) C dX0_spreadLots_63 (by decide) ?_
    refine ww_istore (lv' := [(6, .int (1 : Int32)), (5, .int y0), (0, .ref (ad x0)), (1, .int x1), (2, .int x2), (3, .ref (ad x3)), (4, .ref (ad x4))]) C dX0_spreadLots_67 (by decide) rfl ?_
    refine ww_iconst (v := 0) C dX0_spreadLots_69 (by decide) ?_
    refine ww_istore (lv' := [(7, .int (0 : Int32)), (6, .int (1 : Int32)), (5, .int y0), (0, .ref (ad x0)), (1, .int x1), (2, .int x2), (3, .ref (ad x3)), (4, .ref (ad x4))]) C dX0_spreadLots_70 (by decide) rfl ?_
    refine ww_sub (lv' := [(0, .ref (ad x0)), (1, .int x1), (2, .int x2), (3, .ref (ad x3)), (4, .ref (ad x4)), (5, .int y0), (6, .int (1 : Int32)), (7, .int (0 : Int32))]) [3, 4, 5, 6, 7, 2, 1, 0] rfl ?_
    exact (B_X0_spreadLots_72 C HR HL hG hrec N) x0 x1 x2 x3 x4 y0 (1 : Int32) (0 : Int32) u1.2 Tx0 Tx3 Tx4 E
end P_X0_spreadLots
set_option maxHeartbeats 4000000 in
set_option maxRecDepth 100000 in
theorem M_X0_spreadLots (l : Launch) (G : GG) (ad : Nat → Nat) {S : ST} (N : Nat) {dep : Nat} {rec : Nat → Int32 → Int32 → DY → Option DY} (hrec : ∀ (a0 : Nat) (a1 : Int32) (a2 : Int32) (dy : DY) (T0 : gs S a0 = (0, 0)) {dy9 : DY}, rec a0 a1 a2 dy = some dy9 → MC l yX0_spread cX0_spread 8 (Option.none : Option Jvm.ClassFile.FieldType) (2 * dep + 20) G ad [.ref (ad a0), .int a1, .int a2] S dy (fun A => QV G ad A S dy9)) (hG : Good S) (a0 : Nat) (a1 : Int32) (a2 : Int32) (dy : DY) (T0 : gs S a0 = (0, 0)) {dy' : DY} (E : F_X0_spreadLots S N rec a0 a1 a2 dy = some dy') : MC l yX0_spreadLots cX0_spreadLots 9 (Option.none : Option Jvm.ClassFile.FieldType) (2 * dep + 21) G ad [.ref (ad a0), .int a1, .int a2] S dy (fun A => QV G ad A S dy') := by
  rw [F_X0_spreadLots_s] at E
  refine mc_of RX0 (by decide) rfl (Nat.le_of_ble_eq_true rfl) (fun p e s m args below meth c A C HR HL => ?_)
  refine ww_sub (lv' := [(0, .ref (ad a0)), (1, .int a1), (2, .int a2)]) [0, 1, 2] rfl ?_
  refine ww_aload_n C dX0_spreadLots_0 rfl 0 rfl ?_
  have T_1 : gs S (gr S a0 2) = (5, 9) := hG.1 _ 0 T0 2 (by decide)
  refine ww_getr (ci := 0) (k0 := 2) C dX0_spreadLots_1 rfl rfl inm0 (by decide) T0 q471 rfl T_1 (by decide) ?_
  refine ww_iload_n C dX0_spreadLots_4 rfl 1 rfl ?_
  have T_2 : ib a1 9 → gs S (gr S (gr S a0 2) a1.toNatClampNeg) = (0, 8) := fun q => hG.2 _ 5 9 T_1 (by decide) (by decide) _ (ib_lt q)
  refine ww_aald C dX0_spreadLots_5 T_1 (by decide) (by decide) rfl E T_2 (by decide) (fun q_ E => ?_)
  have T_2 := T_2 q_
  refine ww_astore_n (lv' := [(3, .ref (ad (gr S (gr S a0 2) a1.toNatClampNeg))), (0, .ref (ad a0)), (1, .int a1), (2, .int a2)]) C dX0_spreadLots_6 rfl (by decide) rfl ?_
  refine ww_aload_n C dX0_spreadLots_7 rfl 1 rfl ?_
  have T_3 : gs S (gr S a0 2) = (5, 9) := hG.1 _ 0 T0 2 (by decide)
  refine ww_getr (ci := 0) (k0 := 2) C dX0_spreadLots_8 rfl rfl inm0 (by decide) T0 q471 rfl T_3 (by decide) ?_
  refine ww_iload_n C dX0_spreadLots_11 rfl 2 rfl ?_
  refine ww_iconst (v := 1) C dX0_spreadLots_12 (by decide) ?_
  refine ww_iadd C dX0_spreadLots_13 ?_
  have T_4 : ib (a1 + (1 : Int32)) 9 → gs S (gr S (gr S a0 2) (a1 + (1 : Int32)).toNatClampNeg) = (0, 8) := fun q => hG.2 _ 5 9 T_3 (by decide) (by decide) _ (ib_lt q)
  refine ww_aald C dX0_spreadLots_14 T_3 (by decide) (by decide) rfl E T_4 (by decide) (fun q_ E => ?_)
  have T_4 := T_4 q_
  refine ww_astore (lv' := [(4, .ref (ad (gr S (gr S a0 2) (a1 + (1 : Int32)).toNatClampNeg))), (3, .ref (ad (gr S (gr S a0 2) a1.toNatClampNeg))), (0, .ref (ad a0)), (1, .int a1), (2, .int a2)]) C dX0_spreadLots_15 (by decide) rfl ?_
  refine ww_aload_n C dX0_spreadLots_17 rfl 1 rfl ?_
  have T_5 : gs S (gr S (gr S (gr S a0 2) a1.toNatClampNeg) 16) = (1, 12) := hG.1 _ 8 T_2 16 (by decide)
  refine ww_getr (ci := 8) (k0 := 16) C dX0_spreadLots_18 rfl rfl inm8 (by decide) T_2 q295 rfl T_5 (by decide) ?_
  refine ww_iconst (v := 0) C dX0_spreadLots_21 (by decide) ?_
  refine ww_aload_n C dX0_spreadLots_22 rfl 1 rfl ?_
  refine ww_iconst (v := 0) C dX0_spreadLots_23 (by decide) ?_
  obtain ⟨u6, e_7, E⟩ := bind_of E
  refine ww_callI C (runs_V (n := 1) (st := [.int (0 : Int32), .ref (ad (gr S (gr S (gr S a0 2) a1.toNatClampNeg) 16))]) C [.int (0 : Int32)] (M_X8_deed l G ad N hG (gr S (gr S a0 2) a1.toNatClampNeg) (0 : Int32) dy T_2 e_7) ⟨q927, q112, by decide⟩ q1091 q925 q926 (ci := 8) rfl T_2 rfl (Nat.le_of_ble_eq_true rfl) (by constructor <;> (simp only [rmD]; omega)) ⟨Nat.zero_le _, Nat.zero_le _⟩ dX0_spreadLots_24 rfl) ?_
  refine ww_iast C dX0_spreadLots_27 T_5 E (fun _ E => ?_)
  refine ww_bd E (fun dy8 E => ?_)
  refine ww_aload_n C dX0_spreadLots_28 rfl 1 rfl ?_
  have T_9 : gs S (gr S (gr S (gr S a0 2) a1.toNatClampNeg) 16) = (1, 12) := hG.1 _ 8 T_2 16 (by decide)
  refine ww_getr (ci := 8) (k0 := 16) C dX0_spreadLots_29 rfl rfl inm8 (by decide) T_2 q295 rfl T_9 (by decide) ?_
  refine ww_iconst (v := 1) C dX0_spreadLots_32 (by decide) ?_
  refine ww_aload_n C dX0_spreadLots_33 rfl 1 rfl ?_
  refine ww_iconst (v := 1) C dX0_spreadLots_34 (by decide) ?_
  obtain ⟨u10, e_11, E⟩ := bind_of E
  refine ww_callI C (runs_V (n := 1) (st := [.int (1 : Int32), .ref (ad (gr S (gr S (gr S a0 2) a1.toNatClampNeg) 16))]) C [.int (1 : Int32)] (M_X8_deed l G ad N hG (gr S (gr S a0 2) a1.toNatClampNeg) (1 : Int32) dy8 T_2 e_11) ⟨q927, q112, by decide⟩ q1091 q925 q926 (ci := 8) rfl T_2 rfl (Nat.le_of_ble_eq_true rfl) (by constructor <;> (simp only [rmD]; omega)) ⟨Nat.zero_le _, Nat.zero_le _⟩ dX0_spreadLots_35 rfl) ?_
  refine ww_iast C dX0_spreadLots_38 T_9 E (fun _ E => ?_)
  refine ww_bd E (fun dy12 E => ?_)
  refine ww_aload_n C dX0_spreadLots_39 rfl 1 rfl ?_
  refine ww_iconst (v := 0) C dX0_spreadLots_40 (by decide) ?_
  obtain ⟨u13, e_14, E⟩ := bind_of E
  refine ww_callI C (runs_V (n := 1) (st := []) C [.int (0 : Int32)] (M_X8_needsLot l G ad N hG (gr S (gr S a0 2) a1.toNatClampNeg) (0 : Int32) dy12 T_2 e_14) ⟨q966, q112, by decide⟩ q1092 q964 q965 (ci := 8) rfl T_2 rfl (Nat.le_of_ble_eq_true rfl) (by constructor <;> (simp only [rmD]; omega)) ⟨Nat.zero_le _, Nat.zero_le _⟩ dX0_spreadLots_41 rfl) ?_
  refine ww_if_eq (tgt := 51) C dX0_spreadLots_44 (by decide) E (fun _ E => ?_) (fun _ E => ?_)
  · refine ww_iconst (v := 0) C dX0_spreadLots_51 (by decide) ?_
    refine ww_sub (lv' := [(0, .ref (ad a0)), (1, .int a1), (2, .int a2), (3, .ref (ad (gr S (gr S a0 2) a1.toNatClampNeg))), (4, .ref (ad (gr S (gr S a0 2) (a1 + (1 : Int32)).toNatClampNeg)))]) [2, 3, 4, 1, 0] rfl ?_
    exact (B_X0_spreadLots_52 C HR HL hG hrec) a0 a1 a2 (gr S (gr S a0 2) a1.toNatClampNeg) (gr S (gr S a0 2) (a1 + (1 : Int32)).toNatClampNeg) (0 : Int32) u13.2 T0 T_2 T_4 E
  · refine ww_iconst (v := 1) C dX0_spreadLots_47 (by decide) ?_
    refine ww_goto (tgt := 52) C dX0_spreadLots_48 (by decide) ?_
    refine ww_sub (lv' := [(0, .ref (ad a0)), (1, .int a1), (2, .int a2), (3, .ref (ad (gr S (gr S a0 2) a1.toNatClampNeg))), (4, .ref (ad (gr S (gr S a0 2) (a1 + (1 : Int32)).toNatClampNeg)))]) [2, 3, 4, 1, 0] rfl ?_
    exact (B_X0_spreadLots_52 C HR HL hG hrec) a0 a1 a2 (gr S (gr S a0 2) a1.toNatClampNeg) (gr S (gr S a0 2) (a1 + (1 : Int32)).toNatClampNeg) (1 : Int32) u13.2 T0 T_2 T_4 E
section P_X0_spread
variable {p : Program} {l : Launch} {e : Env} {s : State} {m : MethodId} {args : Array Value} {below : List Frame} {meth : Method} {c : Code} {G : GG} {A : Nat → Prop} {ad : Nat → Nat} {S : ST} {N : Nat} {dy' : DY} {dep : Nat}
set_option maxHeartbeats 4000000 in
set_option maxRecDepth 100000 in
theorem B_X0_spread_81 (C : CX p s m args c cX0_spread 8 RX0 G A) (HR : meth.sig.returnType = (Option.none : Option Jvm.ClassFile.FieldType)) (HL : meth.locks = false) (hG : Good S) {rec : Nat → Int32 → Int32 → DY → Option DY} (hrec : ∀ (a0 : Nat) (a1 : Int32) (a2 : Int32) (dy : DY) (T0 : gs S a0 = (0, 0)) {dy9 : DY}, rec a0 a1 a2 dy = some dy9 → MC l yX0_spread cX0_spread 8 (Option.none : Option Jvm.ClassFile.FieldType) (2 * dep + 20) G ad [.ref (ad a0), .int a1, .int a2] S dy (fun A => QV G ad A S dy9)) : ∀ (x0 : Nat) (x2 : Int32) (x4 : Int32) (y0 : Nat) (y1 : Int32) (y2 : Int32) (dy : DY), gs S x0 = (0, 0) → gs S y0 = (1, 90) → F_X0_spread_81 S N rec x0 x2 x4 y0 y1 y2 dy = some dy' → WJ p l e (rmD (2 * (dep + 1) + 20)) s m args below meth c 8 G A 0 0 (MQ below (QV G ad A S dy') args s 0 0 A) ad 81 [(0, .ref (ad x0)), (2, .int x2), (4, .int x4)] [.int y2, .int y1, .ref (ad y0)] S dy := by
  intro x0 x2 x4 y0 y1 y2 dy Tx0 Ty0 E
  rw [F_X0_spread_81_s] at E
  refine ww_iast C dX0_spread_81 Ty0 E (fun _ E => ?_)
  refine ww_bd E (fun dy1 E => ?_)
  refine ww_aload_n C dX0_spread_82 rfl 0 rfl ?_
  have T_2 : gs S (gr S x0 3) = (1, 90) := hG.1 _ 0 Tx0 3 (by decide)
  refine ww_getr (ci := 0) (k0 := 3) C dX0_spread_83 rfl rfl inm0 (by decide) Tx0 q472 rfl T_2 (by decide) ?_
  refine ww_iload C dX0_spread_86 2 rfl ?_
  refine ww_iconst (v := 1) C dX0_spread_88 (by decide) ?_
  refine ww_iadd C dX0_spread_89 ?_
  refine ww_iconst (v := 1) C dX0_spread_90 (by decide) ?_
  refine ww_iconst (v := 2) C dX0_spread_91 (by decide) ?_
  refine ww_iload_n C dX0_spread_92 rfl 1 rfl ?_
  refine ww_imul C dX0_spread_93 ?_
  refine ww_ishl C dX0_spread_94 ?_
  refine ww_iast C dX0_spread_95 T_2 E (fun _ E => ?_)
  refine ww_bd E (fun dy3 E => ?_)
  exact ww_vret C HR HL dX0_spread_96 E
set_option maxHeartbeats 4000000 in
set_option maxRecDepth 100000 in
theorem B_X0_spread_58 (C : CX p s m args c cX0_spread 8 RX0 G A) (HR : meth.sig.returnType = (Option.none : Option Jvm.ClassFile.FieldType)) (HL : meth.locks = false) (hG : Good S) {rec : Nat → Int32 → Int32 → DY → Option DY} (hrec : ∀ (a0 : Nat) (a1 : Int32) (a2 : Int32) (dy : DY) (T0 : gs S a0 = (0, 0)) {dy9 : DY}, rec a0 a1 a2 dy = some dy9 → MC l yX0_spread cX0_spread 8 (Option.none : Option Jvm.ClassFile.FieldType) (2 * dep + 20) G ad [.ref (ad a0), .int a1, .int a2] S dy (fun A => QV G ad A S dy9)) : ∀ (x0 : Nat) (x2 : Int32) (x3 : Nat) (x4 : Int32) (dy : DY), gs S x0 = (0, 0) → gs S x3 = (0, 8) → F_X0_spread_58 S N rec x0 x2 x3 x4 dy = some dy' → WJ p l e (rmD (2 * (dep + 1) + 20)) s m args below meth c 8 G A 0 0 (MQ below (QV G ad A S dy') args s 0 0 A) ad 58 [(0, .ref (ad x0)), (2, .int x2), (3, .ref (ad x3)), (4, .int x4)] [] S dy := by
  intro x0 x2 x3 x4 dy Tx0 Tx3 E
  rw [F_X0_spread_58_s] at E
  refine ww_aload_n C dX0_spread_58 rfl 0 rfl ?_
  have T_1 : gs S (gr S x0 3) = (1, 90) := hG.1 _ 0 Tx0 3 (by decide)
  refine ww_getr (ci := 0) (k0 := 3) C dX0_spread_59 rfl rfl inm0 (by decide) Tx0 q472 rfl T_1 (by decide) ?_
  refine ww_iload C dX0_spread_62 3 rfl ?_
  refine ww_aload_n C dX0_spread_64 rfl 2 rfl ?_
  refine ww_geti (ci := 8) (k0 := 5) C dX0_spread_65 rfl rfl inm8 (by decide) Tx3 q269 rfl ?_
  refine ww_iconst (v := 2) C dX0_spread_68 (by decide) ?_
  refine ww_icmp_ne (tgt := 80) C dX0_spread_69 (by decide) E (fun _ E => ?_) (fun _ E => ?_)
  · refine ww_iconst (v := 0) C dX0_spread_80 (by decide) ?_
    refine ww_sub (lv' := [(0, .ref (ad x0)), (2, .int x2), (4, .int x4)]) [0, 1, 3] rfl ?_
    exact (B_X0_spread_81 C HR HL hG hrec) x0 x2 x4 (gr S x0 3) x4 (0 : Int32) dy Tx0 T_1 E
  · refine ww_iconst (v := 1) C dX0_spread_72 (by decide) ?_
    refine ww_iconst (v := 2) C dX0_spread_73 (by decide) ?_
    refine ww_iload_n C dX0_spread_74 rfl 1 rfl ?_
    refine ww_imul C dX0_spread_75 ?_
    refine ww_ishl C dX0_spread_76 ?_
    refine ww_goto (tgt := 81) C dX0_spread_77 (by decide) ?_
    refine ww_sub (lv' := [(0, .ref (ad x0)), (2, .int x2), (4, .int x4)]) [0, 1, 3] rfl ?_
    exact (B_X0_spread_81 C HR HL hG hrec) x0 x2 x4 (gr S x0 3) x4 ((1 : Int32) <<< (((2 : Int32) * x2) &&& 31)) dy Tx0 T_1 E
set_option maxHeartbeats 4000000 in
set_option maxRecDepth 100000 in
theorem B_X0_spread_157 (C : CX p s m args c cX0_spread 8 RX0 G A) (HR : meth.sig.returnType = (Option.none : Option Jvm.ClassFile.FieldType)) (HL : meth.locks = false) (hG : Good S) {rec : Nat → Int32 → Int32 → DY → Option DY} (hrec : ∀ (a0 : Nat) (a1 : Int32) (a2 : Int32) (dy : DY) (T0 : gs S a0 = (0, 0)) {dy9 : DY}, rec a0 a1 a2 dy = some dy9 → MC l yX0_spread cX0_spread 8 (Option.none : Option Jvm.ClassFile.FieldType) (2 * dep + 20) G ad [.ref (ad a0), .int a1, .int a2] S dy (fun A => QV G ad A S dy9)) : ∀ (x0 : Nat) (x1 : Int32) (x2 : Int32) (x4 : Int32) (x5 : Int64) (x7 : Int32) (dy : DY), gs S x0 = (0, 0) → F_X0_spread_157 S N rec x0 x1 x2 x4 x5 x7 dy = some dy' → WJ p l e (rmD (2 * (dep + 1) + 20)) s m args below meth c 8 G A 0 0 (MQ below (QV G ad A S dy') args s 0 0 A) ad 157 [(0, .ref (ad x0)), (1, .int x1), (2, .int x2), (4, .int x4), (5, .long x5), (7, .int x7)] [] S dy := by
  intro x0 x1 x2 x4 x5 x7 dy Tx0 E
  rw [F_X0_spread_157_s] at E
  refine ww_aload_n C dX0_spread_157 rfl 0 rfl ?_
  refine ww_iload_n C dX0_spread_158 rfl 1 rfl ?_
  refine ww_iload_n C dX0_spread_159 rfl 2 rfl ?_
  obtain ⟨u1, e_2, E⟩ := bind_of E
  refine ww_callV C (runs_V (n := 2) (st := []) C [.int x1, .int x2] (M_X0_spreadLots l G ad N hrec hG x0 x1 x2 dy Tx0 e_2) ⟨q1090, q115, by decide⟩ q1087 q1089 q30 (ci := 0) rfl Tx0 rfl (Nat.le_of_ble_eq_true rfl) (by constructor <;> (simp only [rmD]; omega)) ⟨Nat.zero_le _, Nat.zero_le _⟩ dX0_spread_160 rfl) ?_
  refine ww_aload_n C dX0_spread_163 rfl 0 rfl ?_
  have T_3 : gs S (gr S x0 5) = (1, 512) := hG.1 _ 0 Tx0 5 (by decide)
  refine ww_getr (ci := 0) (k0 := 5) C dX0_spread_164 rfl rfl inm0 (by decide) Tx0 q474 rfl T_3 (by decide) ?_
  refine ww_iload C dX0_spread_167 5 rfl ?_
  refine ww_iload_n C dX0_spread_169 rfl 2 rfl ?_
  refine ww_iast C dX0_spread_170 T_3 E (fun _ E => ?_)
  refine ww_bd E (fun dy4 E => ?_)
  refine ww_aload_n C dX0_spread_171 rfl 0 rfl ?_
  have T_5 : gs S (gr S x0 4) = (4, 512) := hG.1 _ 0 Tx0 4 (by decide)
  refine ww_getr (ci := 0) (k0 := 4) C dX0_spread_172 rfl rfl inm0 (by decide) Tx0 q473 rfl T_5 (by decide) ?_
  refine ww_iload C dX0_spread_175 5 rfl ?_
  refine ww_lload C dX0_spread_177 4 rfl ?_
  refine ww_last C dX0_spread_179 T_5 E (fun _ E => ?_)
  refine ww_bd E (fun dy6 E => ?_)
  refine ww_aload_n C dX0_spread_180 rfl 0 rfl ?_
  have T_7 : gs S (gr S x0 3) = (1, 90) := hG.1 _ 0 Tx0 3 (by decide)
  refine ww_getr (ci := 0) (k0 := 3) C dX0_spread_181 rfl rfl inm0 (by decide) Tx0 q472 rfl T_7 (by decide) ?_
  refine ww_iload C dX0_spread_184 3 rfl ?_
  refine ww_aload_n C dX0_spread_186 rfl 0 rfl ?_
  have T_8 : gs S (gr S x0 6) = (1, 5120) := hG.1 _ 0 Tx0 6 (by decide)
  refine ww_getr (ci := 0) (k0 := 6) C dX0_spread_187 rfl rfl inm0 (by decide) Tx0 q475 rfl T_8 (by decide) ?_
  refine ww_iload C dX0_spread_190 5 rfl ?_
  refine ww_bipush (v := 10) C dX0_spread_192 (by decide) ?_
  refine ww_imul C dX0_spread_194 ?_
  refine ww_bipush (v := 10) C dX0_spread_195 (by decide) ?_
  obtain ⟨g_10, E⟩ := gd_of E
  refine ww_copy (t := 1) C dX0_spread_197 T_7 T_8 (by decide) (by decide) g_10.1 g_10.2 q1086 q790 q789 q124 (by simp only [rmD]; omega) (by simp only [rmD]; omega) (Nat.le_of_ble_eq_true rfl) ?_
  refine ww_bd E (fun dy9 E => ?_)
  exact ww_vret C HR HL dX0_spread_200 E
set_option maxHeartbeats 4000000 in
set_option maxRecDepth 100000 in
theorem B_X0_spread_16 (C : CX p s m args c cX0_spread 8 RX0 G A) (HR : meth.sig.returnType = (Option.none : Option Jvm.ClassFile.FieldType)) (HL : meth.locks = false) (hG : Good S) {rec : Nat → Int32 → Int32 → DY → Option DY} (hrec : ∀ (a0 : Nat) (a1 : Int32) (a2 : Int32) (dy : DY) (T0 : gs S a0 = (0, 0)) {dy9 : DY}, rec a0 a1 a2 dy = some dy9 → MC l yX0_spread cX0_spread 8 (Option.none : Option Jvm.ClassFile.FieldType) (2 * dep + 20) G ad [.ref (ad a0), .int a1, .int a2] S dy (fun A => QV G ad A S dy9)) : ∀ k : Nat, ∀ (x0 : Nat) (x1 : Int32) (x2 : Int32) (x3 : Nat) (x4 : Int32) (x5 : Int32) (dy : DY), gs S x0 = (0, 0) → gs S x3 = (0, 8) → (F_X0_spread_16 S N rec k) x0 x1 x2 x3 x4 x5 dy = some dy' → WJ p l e (rmD (2 * (dep + 1) + 20)) s m args below meth c 8 G A 0 0 (MQ below (QV G ad A S dy') args s 0 0 A) ad 16 [(0, .ref (ad x0)), (1, .int x1), (2, .int x2), (3, .ref (ad x3)), (4, .int x4), (5, .int x5)] [] S dy := by
  intro k
  induction k with
  | zero => exact fun _ _ _ _ _ _ _ _ _ E => nomatch (show none = some dy' from E)
  | succ k ih =>
    intro x0 x1 x2 x3 x4 x5 dy Tx0 Tx3 E
    rw [F_X0_spread_16_s] at E
    refine ww_iload C dX0_spread_16 5 rfl ?_
    refine ww_bipush (v := 10) C dX0_spread_18 (by decide) ?_
    refine ww_icmp_ge (tgt := 40) C dX0_spread_20 (by decide) E (fun _ E => ?_) (fun _ E => ?_)
    · refine ww_iload_n C dX0_spread_40 rfl 2 rfl ?_
      refine ww_if_le (tgt := 58) C dX0_spread_41 (by decide) E (fun _ E => ?_) (fun _ E => ?_)
      · refine ww_sub (lv' := [(0, .ref (ad x0)), (2, .int x2), (3, .ref (ad x3)), (4, .int x4)]) [0, 2, 3, 4] rfl ?_
        exact (B_X0_spread_58 C HR HL hG hrec) x0 x2 x3 x4 dy Tx0 Tx3 E
      · refine ww_iload_n C dX0_spread_44 rfl 1 rfl ?_
        refine ww_bipush (v := 8) C dX0_spread_45 (by decide) ?_
        refine ww_icmp_ge (tgt := 58) C dX0_spread_47 (by decide) E (fun _ E => ?_) (fun _ E => ?_)
        · refine ww_sub (lv' := [(0, .ref (ad x0)), (2, .int x2), (3, .ref (ad x3)), (4, .int x4)]) [0, 2, 3, 4] rfl ?_
          exact (B_X0_spread_58 C HR HL hG hrec) x0 x2 x3 x4 dy Tx0 Tx3 E
        · refine ww_aload_n C dX0_spread_50 rfl 3 rfl ?_
          refine ww_geti (ci := 8) (k0 := 5) C dX0_spread_51 rfl rfl inm8 (by decide) Tx3 q269 rfl ?_
          refine ww_iconst (v := 2) C dX0_spread_54 (by decide) ?_
          refine ww_icmp_ne (tgt := 97) C dX0_spread_55 (by decide) E (fun _ E => ?_) (fun _ E => ?_)
          · refine ww_aload_n C dX0_spread_97 rfl 0 rfl ?_
            refine ww_aload_n C dX0_spread_98 rfl 3 rfl ?_
            obtain ⟨u1, e_2, E⟩ := bind_of E
            refine ww_callL C (runs_V (n := 1) (st := []) C [.ref (ad x3)] (M_X0_keyOf l G ad N hG x0 x3 dy Tx0 Tx3 e_2) ⟨q1080, q115, by decide⟩ q1077 q1079 q29 (ci := 0) rfl Tx0 rfl (Nat.le_of_ble_eq_true rfl) (by constructor <;> (simp only [rmD]; omega)) ⟨Nat.zero_le _, Nat.zero_le _⟩ dX0_spread_99 rfl) ?_
            refine ww_lstore (lv' := [(5, .long u1.1), (0, .ref (ad x0)), (1, .int x1), (2, .int x2), (3, .ref (ad x3)), (4, .int x4)]) C dX0_spread_102 (by decide) rfl ?_
            refine ww_lload C dX0_spread_104 0 rfl ?_
            refine ww_iload_n C dX0_spread_106 rfl 3 rfl ?_
            obtain ⟨u3, e_4, E⟩ := bind_of E
            refine ww_callI C (runs_S (n := 2) (st := []) C [.long u1.1, .int x2] (M_X0_slotOf l G ad N hG u1.1 x2 u1.2 e_4) ⟨q1083, q115, by decide⟩ q1081 q1082 rfl (Nat.le_of_ble_eq_true rfl) (by constructor <;> (simp only [rmD]; omega)) ⟨Nat.zero_le _, Nat.zero_le _⟩ dX0_spread_107 rfl) ?_
            refine ww_istore (lv' := [(7, .int u3.1), (5, .long u1.1), (0, .ref (ad x0)), (1, .int x1), (2, .int x2), (3, .ref (ad x3)), (4, .int x4)]) C dX0_spread_110 (by decide) rfl ?_
            refine ww_aload_n C dX0_spread_112 rfl 2 rfl ?_
            have T_5 : gs S (gr S x0 5) = (1, 512) := hG.1 _ 0 Tx0 5 (by decide)
            refine ww_getr (ci := 0) (k0 := 5) C dX0_spread_113 rfl rfl inm0 (by decide) Tx0 q474 rfl T_5 (by decide) ?_
            refine ww_iload C dX0_spread_116 0 rfl ?_
            refine ww_iald C dX0_spread_118 T_5 E (fun _ E => ?_)
            refine ww_iload_n C dX0_spread_119 rfl 4 rfl ?_
            refine ww_icmp_ne (tgt := 157) C dX0_spread_120 (by decide) E (fun _ E => ?_) (fun _ E => ?_)
            · refine ww_sub (lv' := [(0, .ref (ad x0)), (1, .int x1), (2, .int x2), (4, .int x4), (5, .long u1.1), (7, .int u3.1)]) [2, 3, 4, 6, 1, 0] rfl ?_
              exact (B_X0_spread_157 C HR HL hG hrec) x0 x1 x2 x4 u1.1 u3.1 u3.2 Tx0 E
            · refine ww_aload_n C dX0_spread_123 rfl 2 rfl ?_
              have T_6 : gs S (gr S x0 4) = (4, 512) := hG.1 _ 0 Tx0 4 (by decide)
              refine ww_getr (ci := 0) (k0 := 4) C dX0_spread_124 rfl rfl inm0 (by decide) Tx0 q473 rfl T_6 (by decide) ?_
              refine ww_iload C dX0_spread_127 0 rfl ?_
              refine ww_lald C dX0_spread_129 T_6 E (fun _ E => ?_)
              refine ww_lload C dX0_spread_130 1 rfl ?_
              refine ww_lcmp C dX0_spread_132 ?_
              refine ww_if_ne (tgt := 157) C dX0_spread_133 (by decide) E (fun _ E => ?_) (fun _ E => ?_)
              · refine ww_sub (lv' := [(0, .ref (ad x0)), (1, .int x1), (2, .int x2), (4, .int x4), (5, .long u1.1), (7, .int u3.1)]) [2, 3, 4, 6, 1, 0] rfl ?_
                exact (B_X0_spread_157 C HR HL hG hrec) x0 x1 x2 x4 u1.1 u3.1 u3.2 Tx0 E
              · refine ww_aload_n C dX0_spread_136 rfl 2 rfl ?_
                have T_7 : gs S (gr S x0 6) = (1, 5120) := hG.1 _ 0 Tx0 6 (by decide)
                refine ww_getr (ci := 0) (k0 := 6) C dX0_spread_137 rfl rfl inm0 (by decide) Tx0 q475 rfl T_7 (by decide) ?_
                refine ww_iload C dX0_spread_140 0 rfl ?_
                refine ww_bipush (v := 10) C dX0_spread_142 (by decide) ?_
                refine ww_imul C dX0_spread_144 ?_
                refine ww_aload_n C dX0_spread_145 rfl 2 rfl ?_
                have T_8 : gs S (gr S x0 3) = (1, 90) := hG.1 _ 0 Tx0 3 (by decide)
                refine ww_getr (ci := 0) (k0 := 3) C dX0_spread_146 rfl rfl inm0 (by decide) Tx0 q472 rfl T_8 (by decide) ?_
                refine ww_iload C dX0_spread_149 6 rfl ?_
                refine ww_bipush (v := 10) C dX0_spread_151 (by decide) ?_
                obtain ⟨g_10, E⟩ := gd_of E
                refine ww_copy (t := 1) C dX0_spread_153 T_7 T_8 (by decide) (by decide) g_10.1 g_10.2 q1086 q790 q789 q124 (by simp only [rmD]; omega) (by simp only [rmD]; omega) (Nat.le_of_ble_eq_true rfl) ?_
                refine ww_bd E (fun dy9 E => ?_)
                exact ww_vret C HR HL dX0_spread_156 E
          · refine ww_sub (lv' := [(0, .ref (ad x0)), (2, .int x2), (3, .ref (ad x3)), (4, .int x4)]) [0, 2, 3, 4] rfl ?_
            exact (B_X0_spread_58 C HR HL hG hrec) x0 x2 x3 x4 dy Tx0 Tx3 E
    · refine ww_aload_n C dX0_spread_23 rfl 0 rfl ?_
      have T_11 : gs S (gr S x0 3) = (1, 90) := hG.1 _ 0 Tx0 3 (by decide)
      refine ww_getr (ci := 0) (k0 := 3) C dX0_spread_24 rfl rfl inm0 (by decide) Tx0 q472 rfl T_11 (by decide) ?_
      refine ww_iload C dX0_spread_27 4 rfl ?_
      refine ww_iload C dX0_spread_29 5 rfl ?_
      refine ww_iadd C dX0_spread_31 ?_
      refine ww_iconst (v := 0) C dX0_spread_32 (by decide) ?_
      refine ww_iast C dX0_spread_33 T_11 E (fun _ E => ?_)
      refine ww_bd E (fun dy12 E => ?_)
      refine ww_iinc (v := (x5 + (1 : Int32))) (lv' := [(5, .int (x5 + (1 : Int32))), (0, .ref (ad x0)), (1, .int x1), (2, .int x2), (3, .ref (ad x3)), (4, .int x4)]) C dX0_spread_34 5 rfl rfl (by decide) rfl ?_
      refine ww_goto (tgt := 16) C dX0_spread_37 (by decide) ?_
      refine ww_sub (lv' := [(0, .ref (ad x0)), (1, .int x1), (2, .int x2), (3, .ref (ad x3)), (4, .int x4), (5, .int (x5 + (1 : Int32)))]) [1, 2, 3, 4, 5, 0] rfl ?_
      exact ih x0 x1 x2 x3 x4 (x5 + (1 : Int32)) dy12 Tx0 Tx3 E
end P_X0_spread
set_option maxHeartbeats 4000000 in
set_option maxRecDepth 100000 in
theorem M_X0_spread (l : Launch) (G : GG) (ad : Nat → Nat) {S : ST} (N : Nat) : ∀ (dep : Nat) (hG : Good S) (a0 : Nat) (a1 : Int32) (a2 : Int32) (dy : DY) (T0 : gs S a0 = (0, 0)) {dy' : DY}, F_X0_spread S N dep a0 a1 a2 dy = some dy' → MC l yX0_spread cX0_spread 8 (Option.none : Option Jvm.ClassFile.FieldType) (2 * dep + 20) G ad [.ref (ad a0), .int a1, .int a2] S dy (fun A => QV G ad A S dy') := by
  intro dep
  induction dep with
  | zero => exact fun _ _ _ _ _ _ _ E => nomatch (show none = some _ from E)
  | succ dep ihd =>
    intro hG a0 a1 a2 dy T0 dy' E
    have hrec := @ihd hG
    rw [F_X0_spread_s] at E
    refine mc_of RX0 (by decide) rfl (Nat.le_of_ble_eq_true rfl) (fun p e s m args below meth c A C HR HL => ?_)
    refine ww_sub (lv' := [(0, .ref (ad a0)), (1, .int a1), (2, .int a2)]) [0, 1, 2] rfl ?_
    refine ww_aload_n C dX0_spread_0 rfl 0 rfl ?_
    have T_1 : gs S (gr S a0 2) = (5, 9) := hG.1 _ 0 T0 2 (by decide)
    refine ww_getr (ci := 0) (k0 := 2) C dX0_spread_1 rfl rfl inm0 (by decide) T0 q471 rfl T_1 (by decide) ?_
    refine ww_iload_n C dX0_spread_4 rfl 1 rfl ?_
    have T_2 : ib a1 9 → gs S (gr S (gr S a0 2) a1.toNatClampNeg) = (0, 8) := fun q => hG.2 _ 5 9 T_1 (by decide) (by decide) _ (ib_lt q)
    refine ww_aald C dX0_spread_5 T_1 (by decide) (by decide) rfl E T_2 (by decide) (fun q_ E => ?_)
    have T_2 := T_2 q_
    refine ww_astore_n (lv' := [(3, .ref (ad (gr S (gr S a0 2) a1.toNatClampNeg))), (0, .ref (ad a0)), (1, .int a1), (2, .int a2)]) C dX0_spread_6 rfl (by decide) rfl ?_
    refine ww_iload_n C dX0_spread_7 rfl 2 rfl ?_
    refine ww_bipush (v := 10) C dX0_spread_8 (by decide) ?_
    refine ww_imul C dX0_spread_10 ?_
    refine ww_istore (lv' := [(4, .int (a1 * (10 : Int32))), (3, .ref (ad (gr S (gr S a0 2) a1.toNatClampNeg))), (0, .ref (ad a0)), (1, .int a1), (2, .int a2)]) C dX0_spread_11 (by decide) rfl ?_
    refine ww_iconst (v := 0) C dX0_spread_13 (by decide) ?_
    refine ww_istore (lv' := [(5, .int (0 : Int32)), (4, .int (a1 * (10 : Int32))), (3, .ref (ad (gr S (gr S a0 2) a1.toNatClampNeg))), (0, .ref (ad a0)), (1, .int a1), (2, .int a2)]) C dX0_spread_14 (by decide) rfl ?_
    refine ww_sub (lv' := [(0, .ref (ad a0)), (1, .int a1), (2, .int a2), (3, .ref (ad (gr S (gr S a0 2) a1.toNatClampNeg))), (4, .int (a1 * (10 : Int32))), (5, .int (0 : Int32))]) [3, 4, 5, 2, 1, 0] rfl ?_
    exact (B_X0_spread_16 C HR HL hG hrec N) a0 a1 a2 (gr S (gr S a0 2) a1.toNatClampNeg) (a1 * (10 : Int32)) (0 : Int32) dy T0 T_2 E
section P_X0_parts
variable {p : Program} {l : Launch} {e : Env} {s : State} {m : MethodId} {args : Array Value} {below : List Frame} {meth : Method} {c : Code} {G : GG} {A : Nat → Prop} {ad : Nat → Nat} {S : ST} {N : Nat} {r : Int32} {dy' : DY}
end P_X0_parts
set_option maxHeartbeats 4000000 in
set_option maxRecDepth 100000 in
theorem M_X0_parts (l : Launch) (G : GG) (ad : Nat → Nat) {S : ST} (N : Nat) (hG : Good S) (a0 : Nat) (a1 : Int32) (a2 : Int32) (dy : DY) (T0 : gs S a0 = (0, 0)) {r : Int32} {dy' : DY} (E : F_X0_parts S N a0 a1 a2 dy = some (r, dy')) : MC l yX0_parts cX0_parts 3 (Option.some Jvm.ClassFile.FieldType.int) (41) G ad [.ref (ad a0), .int a1, .int a2] S dy (fun A => QI G ad A S r dy') := by
  rw [F_X0_parts_s] at E
  refine mc_of RX0 (by decide) rfl (Nat.le_of_ble_eq_true rfl) (fun p e s m args below meth c A C HR HL => ?_)
  refine ww_sub (lv' := [(0, .ref (ad a0)), (1, .int a1), (2, .int a2)]) [0, 1, 2] rfl ?_
  refine ww_aload_n C dX0_parts_0 rfl 0 rfl ?_
  have T_1 : gs S (gr S a0 0) = (0, 4) := hG.1 _ 0 T0 0 (by decide)
  refine ww_getr (ci := 0) (k0 := 0) C dX0_parts_1 rfl rfl inm0 (by decide) T0 q469 rfl T_1 (by decide) ?_
  refine ww_geti (ci := 4) (k0 := 3) C dX0_parts_4 rfl rfl inm4 (by decide) T_1 q160 rfl ?_
  refine ww_iconst (v := 2) C dX0_parts_7 (by decide) ?_
  refine ww_icmp_ne (tgt := 31) C dX0_parts_8 (by decide) E (fun _ E => ?_) (fun _ E => ?_)
  · refine ww_iconst (v := (-1)) C dX0_parts_31 (by decide) ?_
    exact ww_iret C HR HL dX0_parts_32 E
  · refine ww_iload_n C dX0_parts_11 rfl 1 rfl ?_
    refine ww_if_lt (tgt := 31) C dX0_parts_12 (by decide) E (fun _ E => ?_) (fun _ E => ?_)
    · refine ww_iconst (v := (-1)) C dX0_parts_31 (by decide) ?_
      exact ww_iret C HR HL dX0_parts_32 E
    · refine ww_iload_n C dX0_parts_15 rfl 1 rfl ?_
      refine ww_bipush (v := 8) C dX0_parts_16 (by decide) ?_
      refine ww_icmp_gt (tgt := 31) C dX0_parts_18 (by decide) E (fun _ E => ?_) (fun _ E => ?_)
      · refine ww_iconst (v := (-1)) C dX0_parts_31 (by decide) ?_
        exact ww_iret C HR HL dX0_parts_32 E
      · refine ww_iload_n C dX0_parts_21 rfl 2 rfl ?_
        refine ww_if_lt (tgt := 31) C dX0_parts_22 (by decide) E (fun _ E => ?_) (fun _ E => ?_)
        · refine ww_iconst (v := (-1)) C dX0_parts_31 (by decide) ?_
          exact ww_iret C HR HL dX0_parts_32 E
        · refine ww_iload_n C dX0_parts_25 rfl 2 rfl ?_
          refine ww_bipush (v := 10) C dX0_parts_26 (by decide) ?_
          refine ww_icmp_lt (tgt := 33) C dX0_parts_28 (by decide) E (fun _ E => ?_) (fun _ E => ?_)
          · refine ww_aload_n C dX0_parts_33 rfl 0 rfl ?_
            refine ww_iconst (v := 1) C dX0_parts_34 (by decide) ?_
            refine ww_iconst (v := 3) C dX0_parts_35 (by decide) ?_
            refine ww_aload_n C dX0_parts_36 rfl 0 rfl ?_
            have T_2 : gs S (gr S a0 0) = (0, 4) := hG.1 _ 0 T0 0 (by decide)
            refine ww_getr (ci := 0) (k0 := 0) C dX0_parts_37 rfl rfl inm0 (by decide) T0 q469 rfl T_2 (by decide) ?_
            have T_3 : gs S (gr S (gr S a0 0) 9) = (1, 12) := hG.1 _ 4 T_2 9 (by decide)
            refine ww_getr (ci := 4) (k0 := 9) C dX0_parts_40 rfl rfl inm4 (by decide) T_2 q181 rfl T_3 (by decide) ?_
            refine ww_iconst (v := 0) C dX0_parts_43 (by decide) ?_
            refine ww_iald C dX0_parts_44 T_3 E (fun _ E => ?_)
            refine ww_aload_n C dX0_parts_45 rfl 0 rfl ?_
            have T_4 : gs S (gr S a0 0) = (0, 4) := hG.1 _ 0 T0 0 (by decide)
            refine ww_getr (ci := 0) (k0 := 0) C dX0_parts_46 rfl rfl inm0 (by decide) T0 q469 rfl T_4 (by decide) ?_
            have T_5 : gs S (gr S (gr S a0 0) 9) = (1, 12) := hG.1 _ 4 T_4 9 (by decide)
            refine ww_getr (ci := 4) (k0 := 9) C dX0_parts_49 rfl rfl inm4 (by decide) T_4 q181 rfl T_5 (by decide) ?_
            refine ww_iconst (v := 1) C dX0_parts_52 (by decide) ?_
            refine ww_iald C dX0_parts_53 T_5 E (fun _ E => ?_)
            refine ww_mmax C dX0_parts_54 q1065 q590 q119 q591 (Nat.le_of_ble_eq_true rfl) (Nat.le_of_ble_eq_true rfl) (Nat.le_of_ble_eq_true rfl) (Nat.zero_le _) (Nat.zero_le _) ?_
            refine ww_mmin C dX0_parts_57 q1066 q587 q119 q588 (Nat.le_of_ble_eq_true rfl) (Nat.le_of_ble_eq_true rfl) (Nat.le_of_ble_eq_true rfl) (Nat.zero_le _) (Nat.zero_le _) ?_
            refine ww_iadd C dX0_parts_60 ?_
            refine ww_puti (ci := 0) (k0 := 7) C dX0_parts_61 rfl rfl inm0 tyX0_ok nmX0 (by decide) T0 q476 rfl rfl rfl ?_
            refine ww_bd E (fun dy6 E => ?_)
            refine ww_aload_n C dX0_parts_64 rfl 0 rfl ?_
            refine ww_aload_n C dX0_parts_65 rfl 0 rfl ?_
            have T_7 : gs S (gr S a0 1) = (0, 2) := hG.1 _ 0 T0 1 (by decide)
            refine ww_getr (ci := 0) (k0 := 1) C dX0_parts_66 rfl rfl inm0 (by decide) T0 q470 rfl T_7 (by decide) ?_
            refine ww_iconst (v := 5) C dX0_parts_69 (by decide) ?_
            obtain ⟨u8, e_9, E⟩ := bind_of E
            refine ww_callI C (runs_V (n := 1) (st := [.ref (ad a0)]) C [.int (5 : Int32)] (M_X2_weighs l G ad N hG (gr S a0 1) (5 : Int32) dy6 T_7 e_9) ⟨q1070, q111, by decide⟩ q1067 q1068 q1069 (ci := 2) rfl T_7 rfl (Nat.le_of_ble_eq_true rfl) ⟨Nat.le_of_ble_eq_true rfl, Nat.le_of_ble_eq_true rfl⟩ ⟨Nat.zero_le _, Nat.zero_le _⟩ dX0_parts_70 rfl) ?_
            obtain ⟨z_11, E⟩ := gd_of E
            refine ww_putz (ci := 0) (k0 := 8) C dX0_parts_73 rfl rfl inm0 tyX0_ok nmX0 (by decide) T0 q477 rfl rfl rfl z_11 ?_
            refine ww_bd E (fun dy10 E => ?_)
            refine ww_aload_n C dX0_parts_76 rfl 0 rfl ?_
            have T_12 : gs S (gr S a0 5) = (1, 512) := hG.1 _ 0 T0 5 (by decide)
            refine ww_getr (ci := 0) (k0 := 5) C dX0_parts_77 rfl rfl inm0 (by decide) T0 q474 rfl T_12 (by decide) ?_
            refine ww_iconst (v := 0) C dX0_parts_80 (by decide) ?_
            obtain ⟨u13, e_14, E⟩ := bind_of E
            refine ww_callV C (runs_S (n := 2) (st := []) C [.ref (ad (gr S a0 5)), .int (0 : Int32)] (M_J7_fill_53178 l G ad N 512 hG (gr S a0 5) (0 : Int32) dy10 T_12 e_14) ⟨q911, q125, by decide⟩ q1071 q910 rfl (Nat.le_of_ble_eq_true rfl) ⟨Nat.le_of_ble_eq_true rfl, Nat.le_of_ble_eq_true rfl⟩ ⟨Nat.zero_le _, Nat.zero_le _⟩ dX0_parts_81 rfl) ?_
            refine ww_aload_n C dX0_parts_84 rfl 0 rfl ?_
            have T_15 : gs S (gr S a0 2) = (5, 9) := hG.1 _ 0 T0 2 (by decide)
            refine ww_getr (ci := 0) (k0 := 2) C dX0_parts_85 rfl rfl inm0 (by decide) T0 q471 rfl T_15 (by decide) ?_
            refine ww_iconst (v := 0) C dX0_parts_88 (by decide) ?_
            have T_16 : ib (0 : Int32) 9 → gs S (gr S (gr S a0 2) (0 : Int32).toNatClampNeg) = (0, 8) := fun q => hG.2 _ 5 9 T_15 (by decide) (by decide) _ (ib_lt q)
            refine ww_aald C dX0_parts_89 T_15 (by decide) (by decide) rfl E T_16 (by decide) (fun q_ E => ?_)
            have T_16 := T_16 q_
            refine ww_iconst (v := 0) C dX0_parts_90 (by decide) ?_
            obtain ⟨u17, e_18, E⟩ := bind_of E
            refine ww_callV C (runs_V (n := 1) (st := []) C [.int (0 : Int32)] (M_X8_begin l G ad N hG (gr S (gr S a0 2) (0 : Int32).toNatClampNeg) (0 : Int32) u13 T_16 e_18) ⟨q907, q112, by decide⟩ q1072 q905 q906 (ci := 8) rfl T_16 rfl (Nat.le_of_ble_eq_true rfl) ⟨Nat.le_of_ble_eq_true rfl, Nat.le_of_ble_eq_true rfl⟩ ⟨Nat.zero_le _, Nat.zero_le _⟩ dX0_parts_91 rfl) ?_
            refine ww_aload_n C dX0_parts_94 rfl 0 rfl ?_
            refine ww_iconst (v := 0) C dX0_parts_95 (by decide) ?_
            refine ww_iload_n C dX0_parts_96 rfl 1 rfl ?_
            obtain ⟨u19, e_20, E⟩ := bind_of E
            refine ww_callV C (runs_V (n := 2) (st := []) C [.int (0 : Int32), .int a1] (M_X0_spread l G ad N 10 hG a0 (0 : Int32) a1 u17 T0 e_20) ⟨q1076, q115, by decide⟩ q1073 q1075 q28 (ci := 0) rfl T0 rfl (Nat.le_of_ble_eq_true rfl) ⟨Nat.le_of_ble_eq_true rfl, Nat.le_of_ble_eq_true rfl⟩ ⟨Nat.zero_le _, Nat.zero_le _⟩ dX0_parts_97 rfl) ?_
            refine ww_aload_n C dX0_parts_100 rfl 0 rfl ?_
            have T_21 : gs S (gr S a0 3) = (1, 90) := hG.1 _ 0 T0 3 (by decide)
            refine ww_getr (ci := 0) (k0 := 3) C dX0_parts_101 rfl rfl inm0 (by decide) T0 q472 rfl T_21 (by decide) ?_
            refine ww_iload_n C dX0_parts_104 rfl 2 rfl ?_
            refine ww_iald C dX0_parts_105 T_21 E (fun _ E => ?_)
            exact ww_iret C HR HL dX0_parts_106 E
          · refine ww_iconst (v := (-1)) C dX0_parts_31 (by decide) ?_
            exact ww_iret C HR HL dX0_parts_32 E
