noncomputable def F_X10_in (S : ST) (N : Nat) (a0 : Int32) (a1 : Int32) (a2 : Int32) (dy : DY) : Option (Int32 × DY) := (if a0 < a1 then some ((0 : Int32), dy) else (if a2 < a0 then some ((0 : Int32), dy) else some ((1 : Int32), dy)))
theorem F_X10_in_s (S : ST) (N : Nat) (a0 : Int32) (a1 : Int32) (a2 : Int32) (dy : DY) : F_X10_in S N a0 a1 a2 dy = (if a0 < a1 then some ((0 : Int32), dy) else (if a2 < a0 then some ((0 : Int32), dy) else some ((1 : Int32), dy))) := rfl
noncomputable def F_X10_isPassage (S : ST) (N : Nat) (a0 : Nat) (a1 : Int32) (dy : DY) : Option (Int32 × DY) := if ib (0 : Int32) 4 then (F_X10_in S N a1 (0 : Int32) ((gi dy (gr S a0 5) (0 : Int32).toNatClampNeg) - (1 : Int32)) dy).bind fun u2 => if zb u2.1 then some (u2.1, u2.2) else none else none
theorem F_X10_isPassage_s (S : ST) (N : Nat) (a0 : Nat) (a1 : Int32) (dy : DY) : F_X10_isPassage S N a0 a1 dy = (if ib (0 : Int32) 4 then (F_X10_in S N a1 (0 : Int32) ((gi dy (gr S a0 5) (0 : Int32).toNatClampNeg) - (1 : Int32)) dy).bind fun u2 => if zb u2.1 then some (u2.1, u2.2) else none else none) := rfl
noncomputable def F_X10_about (S : ST) (N : Nat) (a0 : Nat) (a1 : Int32) (a2 : Int32) (dy : DY) : Option (Int32 × DY) := bd (si dy a0 0 (0 : Int32)) fun dy1 => (F_X10_isPassage S N a0 a1 dy1).bind fun u2 => (if u2.1 = 0 then some ((-1 : Int32), u2.2) else (if a2 = 0 then if ib a1 12 then some ((gi u2.2 (gr S a0 6) a1.toNatClampNeg), u2.2) else none else (if a2 = (1 : Int32) then if ib a1 12 then some ((gi u2.2 (gr S a0 7) a1.toNatClampNeg), u2.2) else none else (if a2 = (2 : Int32) then if ib a1 12 then some ((gi u2.2 (gr S a0 8) a1.toNatClampNeg), u2.2) else none else (if a2 = (3 : Int32) then if ib a1 12 then some ((gi u2.2 (gr S a0 9) a1.toNatClampNeg), u2.2) else none else some ((-1 : Int32), u2.2))))))
theorem F_X10_about_s (S : ST) (N : Nat) (a0 : Nat) (a1 : Int32) (a2 : Int32) (dy : DY) : F_X10_about S N a0 a1 a2 dy = (bd (si dy a0 0 (0 : Int32)) fun dy1 => (F_X10_isPassage S N a0 a1 dy1).bind fun u2 => (if u2.1 = 0 then some ((-1 : Int32), u2.2) else (if a2 = 0 then if ib a1 12 then some ((gi u2.2 (gr S a0 6) a1.toNatClampNeg), u2.2) else none else (if a2 = (1 : Int32) then if ib a1 12 then some ((gi u2.2 (gr S a0 7) a1.toNatClampNeg), u2.2) else none else (if a2 = (2 : Int32) then if ib a1 12 then some ((gi u2.2 (gr S a0 8) a1.toNatClampNeg), u2.2) else none else (if a2 = (3 : Int32) then if ib a1 12 then some ((gi u2.2 (gr S a0 9) a1.toNatClampNeg), u2.2) else none else some ((-1 : Int32), u2.2))))))) := rfl
noncomputable def F_X10_at (S : ST) (N : Nat) (a0 : Int32) (a1 : Int32) (dy : DY) : Option (Int32 × DY) := some (((((720 : Int32) * a0) + (16 : Int32)) + ((20 : Int32) * a1)), dy)
theorem F_X10_at_s (S : ST) (N : Nat) (a0 : Int32) (a1 : Int32) (dy : DY) : F_X10_at S N a0 a1 dy = (some (((((720 : Int32) * a0) + (16 : Int32)) + ((20 : Int32) * a1)), dy)) := rfl
noncomputable def F_X10_isInside (S : ST) (N : Nat) (a0 : Nat) (a1 : Int32) (a2 : Int32) (a3 : Int32) (dy : DY) : Option (Int32 × DY) := if ib (((720 : Int32) * a1) + (0 : Int32)) 10080 then (F_X10_in S N a2 (0 : Int32) ((gi dy (gr S a0 39) (((720 : Int32) * a1) + (0 : Int32)).toNatClampNeg) - (1 : Int32)) dy).bind fun u2 => (if u2.1 = 0 then some ((0 : Int32), u2.2) else if ib (((720 : Int32) * a1) + (1 : Int32)) 10080 then (F_X10_in S N a3 (0 : Int32) ((gi u2.2 (gr S a0 39) (((720 : Int32) * a1) + (1 : Int32)).toNatClampNeg) - (1 : Int32)) u2.2).bind fun u5 => (if u5.1 = 0 then some ((0 : Int32), u5.2) else some ((1 : Int32), u5.2)) else none) else none
theorem F_X10_isInside_s (S : ST) (N : Nat) (a0 : Nat) (a1 : Int32) (a2 : Int32) (a3 : Int32) (dy : DY) : F_X10_isInside S N a0 a1 a2 a3 dy = (if ib (((720 : Int32) * a1) + (0 : Int32)) 10080 then (F_X10_in S N a2 (0 : Int32) ((gi dy (gr S a0 39) (((720 : Int32) * a1) + (0 : Int32)).toNatClampNeg) - (1 : Int32)) dy).bind fun u2 => (if u2.1 = 0 then some ((0 : Int32), u2.2) else if ib (((720 : Int32) * a1) + (1 : Int32)) 10080 then (F_X10_in S N a3 (0 : Int32) ((gi u2.2 (gr S a0 39) (((720 : Int32) * a1) + (1 : Int32)).toNatClampNeg) - (1 : Int32)) u2.2).bind fun u5 => (if u5.1 = 0 then some ((0 : Int32), u5.2) else some ((1 : Int32), u5.2)) else none) else none) := rfl
noncomputable def F_X10_isWall (S : ST) (N : Nat) (a0 : Nat) (a1 : Int32) (a2 : Int32) (a3 : Int32) (dy : DY) : Option (Int32 × DY) := if ib (((((720 : Int32) * a1) + (256 : Int32)) + ((6 : Int32) * a2)) + a3) 10080 then (if (gi dy (gr S a0 39) (((((720 : Int32) * a1) + (256 : Int32)) + ((6 : Int32) * a2)) + a3).toNatClampNeg) = (1 : Int32) then some ((1 : Int32), dy) else some ((0 : Int32), dy)) else none
theorem F_X10_isWall_s (S : ST) (N : Nat) (a0 : Nat) (a1 : Int32) (a2 : Int32) (a3 : Int32) (dy : DY) : F_X10_isWall S N a0 a1 a2 a3 dy = (if ib (((((720 : Int32) * a1) + (256 : Int32)) + ((6 : Int32) * a2)) + a3) 10080 then (if (gi dy (gr S a0 39) (((((720 : Int32) * a1) + (256 : Int32)) + ((6 : Int32) * a2)) + a3).toNatClampNeg) = (1 : Int32) then some ((1 : Int32), dy) else some ((0 : Int32), dy)) else none) := rfl
noncomputable def F_X10_seenOn_3 (S : ST) (N : Nat) : Nat → Nat → Int32 → Int32 → Int32 → Int32 → Int32 → DY → Option (Int32 × DY) := fun k => Nat.rec (motive := fun _ => Nat → Int32 → Int32 → Int32 → Int32 → Int32 → DY → Option (Int32 × DY)) (fun _ _ _ _ _ _ _ => none) (fun _ ih x0 x1 x2 x3 x4 x5 dy => if ib (((720 : Int32) * x1) + (2 : Int32)) 10080 then (if (gi dy (gr S x0 39) (((720 : Int32) * x1) + (2 : Int32)).toNatClampNeg) ≤ x5 then some ((-1 : Int32), dy) else (if x5 = x2 then ih x0 x1 x2 x3 x4 (x5 + (1 : Int32)) dy else if ib x5 12 then (if (gi dy (gr S x0 40) x5.toNatClampNeg) = x3 then if ib x5 12 then (if (gi dy (gr S x0 41) x5.toNatClampNeg) = x4 then if ib x5 12 then (if (gi dy (gr S x0 40) x5.toNatClampNeg) = (-1 : Int32) then ih x0 x1 x2 x3 x4 (x5 + (1 : Int32)) dy else some (x5, dy)) else none else ih x0 x1 x2 x3 x4 (x5 + (1 : Int32)) dy) else none else ih x0 x1 x2 x3 x4 (x5 + (1 : Int32)) dy) else none)) else none) k
theorem F_X10_seenOn_3_s (S : ST) (N : Nat) (k : Nat) (x0 : Nat) (x1 : Int32) (x2 : Int32) (x3 : Int32) (x4 : Int32) (x5 : Int32) (dy : DY) : F_X10_seenOn_3 S N (k + 1) x0 x1 x2 x3 x4 x5 dy = (if ib (((720 : Int32) * x1) + (2 : Int32)) 10080 then (if (gi dy (gr S x0 39) (((720 : Int32) * x1) + (2 : Int32)).toNatClampNeg) ≤ x5 then some ((-1 : Int32), dy) else (if x5 = x2 then (F_X10_seenOn_3 S N k) x0 x1 x2 x3 x4 (x5 + (1 : Int32)) dy else if ib x5 12 then (if (gi dy (gr S x0 40) x5.toNatClampNeg) = x3 then if ib x5 12 then (if (gi dy (gr S x0 41) x5.toNatClampNeg) = x4 then if ib x5 12 then (if (gi dy (gr S x0 40) x5.toNatClampNeg) = (-1 : Int32) then (F_X10_seenOn_3 S N k) x0 x1 x2 x3 x4 (x5 + (1 : Int32)) dy else some (x5, dy)) else none else (F_X10_seenOn_3 S N k) x0 x1 x2 x3 x4 (x5 + (1 : Int32)) dy) else none else (F_X10_seenOn_3 S N k) x0 x1 x2 x3 x4 (x5 + (1 : Int32)) dy) else none)) else none) := rfl
noncomputable def F_X10_seenOn (S : ST) (N : Nat) (a0 : Nat) (a1 : Int32) (a2 : Int32) (a3 : Int32) (a4 : Int32) (dy : DY) : Option (Int32 × DY) := (F_X10_seenOn_3 S N N) a0 a1 a2 a3 a4 (0 : Int32) dy
theorem F_X10_seenOn_s (S : ST) (N : Nat) (a0 : Nat) (a1 : Int32) (a2 : Int32) (a3 : Int32) (a4 : Int32) (dy : DY) : F_X10_seenOn S N a0 a1 a2 a3 a4 dy = ((F_X10_seenOn_3 S N N) a0 a1 a2 a3 a4 (0 : Int32) dy) := rfl
noncomputable def F_X10_freeOn_34 (S : ST) (N : Nat) : Nat → Nat → Int32 → Int32 → Int32 → Int32 → Int32 → Int32 → Int32 → Int32 → DY → Option (Int32 × DY) := fun k => Nat.rec (motive := fun _ => Nat → Int32 → Int32 → Int32 → Int32 → Int32 → Int32 → Int32 → Int32 → DY → Option (Int32 × DY)) (fun _ _ _ _ _ _ _ _ _ _ => none) (fun _ ih x0 x1 x2 x3 x4 x5 x6 x7 x8 dy => (if (16 : Int32) ≤ x8 then some ((9 : Int32), dy) else (F_X10_isInside S N x0 x1 (x6 + x3) (x7 + x4) dy).bind fun u1 => (if u1.1 = 0 then (if x5 = (-1 : Int32) then some (x8, u1.2) else some (x5, u1.2)) else (F_X10_isWall S N x0 x1 (x6 + x3) (x7 + x4) u1.2).bind fun u3 => (if u3.1 = 0 then (F_X10_seenOn S N x0 x1 x2 (x6 + x3) (x7 + x4) u3.2).bind fun u5 => bd (si u5.2 x0 42 u5.1) fun dy7 => (if (gi dy7 x0 42) = (-1 : Int32) then ih x0 x1 x2 x3 x4 x5 (x6 + x3) (x7 + x4) (x8 + (1 : Int32)) dy7 else (if (9 : Int32) ≤ x8 then some ((9 : Int32), dy7) else some (x8, dy7))) else (if (9 : Int32) ≤ x8 then some ((9 : Int32), u3.2) else some (x8, u3.2)))))) k
theorem F_X10_freeOn_34_s (S : ST) (N : Nat) (k : Nat) (x0 : Nat) (x1 : Int32) (x2 : Int32) (x3 : Int32) (x4 : Int32) (x5 : Int32) (x6 : Int32) (x7 : Int32) (x8 : Int32) (dy : DY) : F_X10_freeOn_34 S N (k + 1) x0 x1 x2 x3 x4 x5 x6 x7 x8 dy = (if (16 : Int32) ≤ x8 then some ((9 : Int32), dy) else (F_X10_isInside S N x0 x1 (x6 + x3) (x7 + x4) dy).bind fun u1 => (if u1.1 = 0 then (if x5 = (-1 : Int32) then some (x8, u1.2) else some (x5, u1.2)) else (F_X10_isWall S N x0 x1 (x6 + x3) (x7 + x4) u1.2).bind fun u3 => (if u3.1 = 0 then (F_X10_seenOn S N x0 x1 x2 (x6 + x3) (x7 + x4) u3.2).bind fun u5 => bd (si u5.2 x0 42 u5.1) fun dy7 => (if (gi dy7 x0 42) = (-1 : Int32) then (F_X10_freeOn_34 S N k) x0 x1 x2 x3 x4 x5 (x6 + x3) (x7 + x4) (x8 + (1 : Int32)) dy7 else (if (9 : Int32) ≤ x8 then some ((9 : Int32), dy7) else some (x8, dy7))) else (if (9 : Int32) ≤ x8 then some ((9 : Int32), u3.2) else some (x8, u3.2))))) := rfl
noncomputable def F_X10_freeOn (S : ST) (N : Nat) (a0 : Nat) (a1 : Int32) (a2 : Int32) (a3 : Int32) (a4 : Int32) (a5 : Int32) (dy : DY) : Option (Int32 × DY) := (F_X10_at S N a1 a2 dy).bind fun u2 => if ib u2.1 10080 then (F_X10_at S N a1 a2 u2.2).bind fun u5 => if ib (u5.1 + (4 : Int32)) 10080 then bd (si u5.2 a0 42 (-1 : Int32)) fun dy7 => (F_X10_freeOn_34 S N N) a0 a1 a2 a3 a4 a5 (gi u2.2 (gr S a0 39) u2.1.toNatClampNeg) (gi u5.2 (gr S a0 39) (u5.1 + (4 : Int32)).toNatClampNeg) (0 : Int32) dy7 else none else none
theorem F_X10_freeOn_s (S : ST) (N : Nat) (a0 : Nat) (a1 : Int32) (a2 : Int32) (a3 : Int32) (a4 : Int32) (a5 : Int32) (dy : DY) : F_X10_freeOn S N a0 a1 a2 a3 a4 a5 dy = ((F_X10_at S N a1 a2 dy).bind fun u2 => if ib u2.1 10080 then (F_X10_at S N a1 a2 u2.2).bind fun u5 => if ib (u5.1 + (4 : Int32)) 10080 then bd (si u5.2 a0 42 (-1 : Int32)) fun dy7 => (F_X10_freeOn_34 S N N) a0 a1 a2 a3 a4 a5 (gi u2.2 (gr S a0 39) u2.1.toNatClampNeg) (gi u5.2 (gr S a0 39) (u5.1 + (4 : Int32)).toNatClampNeg) (0 : Int32) dy7 else none else none) := rfl
noncomputable def F_X10_way (S : ST) (N : Nat) (a0 : Nat) (a1 : Int32) (a2 : Int32) (dy : DY) : Option (Int32 × DY) := (F_X10_at S N a1 a2 dy).bind fun u2 => if ib (u2.1 + (8 : Int32)) 10080 then (if (gi u2.2 (gr S a0 39) (u2.1 + (8 : Int32)).toNatClampNeg) = (1 : Int32) then some ((1 : Int32), u2.2) else some ((-1 : Int32), u2.2)) else none
theorem F_X10_way_s (S : ST) (N : Nat) (a0 : Nat) (a1 : Int32) (a2 : Int32) (dy : DY) : F_X10_way S N a0 a1 a2 dy = ((F_X10_at S N a1 a2 dy).bind fun u2 => if ib (u2.1 + (8 : Int32)) 10080 then (if (gi u2.2 (gr S a0 39) (u2.1 + (8 : Int32)).toNatClampNeg) = (1 : Int32) then some ((1 : Int32), u2.2) else some ((-1 : Int32), u2.2)) else none) := rfl
noncomputable def F_X10_isFacing (S : ST) (N : Nat) (a0 : Nat) (a1 : Int32) (a2 : Int32) (dy : DY) : Option (Int32 × DY) := (F_X10_way S N a0 a1 a2 dy).bind fun u1 => (F_X10_freeOn S N a0 a1 a2 u1.1 (0 : Int32) (9 : Int32) u1.2).bind fun u3 => (if (gi u3.2 a0 42) = (-1 : Int32) then some ((0 : Int32), u3.2) else (F_X10_way S N a0 a1 (gi u3.2 a0 42) u3.2).bind fun u5 => (F_X10_way S N a0 a1 a2 u5.2).bind fun u7 => (if u5.1 = u7.1 then some ((0 : Int32), u7.2) else some ((1 : Int32), u7.2)))
theorem F_X10_isFacing_s (S : ST) (N : Nat) (a0 : Nat) (a1 : Int32) (a2 : Int32) (dy : DY) : F_X10_isFacing S N a0 a1 a2 dy = ((F_X10_way S N a0 a1 a2 dy).bind fun u1 => (F_X10_freeOn S N a0 a1 a2 u1.1 (0 : Int32) (9 : Int32) u1.2).bind fun u3 => (if (gi u3.2 a0 42) = (-1 : Int32) then some ((0 : Int32), u3.2) else (F_X10_way S N a0 a1 (gi u3.2 a0 42) u3.2).bind fun u5 => (F_X10_way S N a0 a1 a2 u5.2).bind fun u7 => (if u5.1 = u7.1 then some ((0 : Int32), u7.2) else some ((1 : Int32), u7.2)))) := rfl
noncomputable def F_X10_distance_39 (S : ST) (N : Nat) (x4 : Int32) (y0 : Int32) (dy : DY) : Option (Int32 × DY) := (if 0 ≤ x4 then some ((y0 + x4), dy) else some ((y0 + (-x4)), dy))
theorem F_X10_distance_39_s (S : ST) (N : Nat) (x4 : Int32) (y0 : Int32) (dy : DY) : F_X10_distance_39 S N x4 y0 dy = (if 0 ≤ x4 then some ((y0 + x4), dy) else some ((y0 + (-x4)), dy)) := rfl
noncomputable def F_X10_distance (S : ST) (N : Nat) (a0 : Nat) (a1 : Int32) (a2 : Int32) (dy : DY) : Option (Int32 × DY) := if ib a1 12 then if ib a2 12 then if ib a1 12 then if ib a2 12 then (if 0 ≤ ((gi dy (gr S a0 40) a1.toNatClampNeg) - (gi dy (gr S a0 40) a2.toNatClampNeg)) then (F_X10_distance_39 S N) ((gi dy (gr S a0 41) a1.toNatClampNeg) - (gi dy (gr S a0 41) a2.toNatClampNeg)) ((gi dy (gr S a0 40) a1.toNatClampNeg) - (gi dy (gr S a0 40) a2.toNatClampNeg)) dy else (F_X10_distance_39 S N) ((gi dy (gr S a0 41) a1.toNatClampNeg) - (gi dy (gr S a0 41) a2.toNatClampNeg)) (-((gi dy (gr S a0 40) a1.toNatClampNeg) - (gi dy (gr S a0 40) a2.toNatClampNeg))) dy) else none else none else none else none
theorem F_X10_distance_s (S : ST) (N : Nat) (a0 : Nat) (a1 : Int32) (a2 : Int32) (dy : DY) : F_X10_distance S N a0 a1 a2 dy = (if ib a1 12 then if ib a2 12 then if ib a1 12 then if ib a2 12 then (if 0 ≤ ((gi dy (gr S a0 40) a1.toNatClampNeg) - (gi dy (gr S a0 40) a2.toNatClampNeg)) then (F_X10_distance_39 S N) ((gi dy (gr S a0 41) a1.toNatClampNeg) - (gi dy (gr S a0 41) a2.toNatClampNeg)) ((gi dy (gr S a0 40) a1.toNatClampNeg) - (gi dy (gr S a0 40) a2.toNatClampNeg)) dy else (F_X10_distance_39 S N) ((gi dy (gr S a0 41) a1.toNatClampNeg) - (gi dy (gr S a0 41) a2.toNatClampNeg)) (-((gi dy (gr S a0 40) a1.toNatClampNeg) - (gi dy (gr S a0 40) a2.toNatClampNeg))) dy) else none else none else none else none) := rfl
noncomputable def F_X10_isParted (S : ST) (N : Nat) (a0 : Nat) (a1 : Int32) (a2 : Int32) (dy : DY) : Option (Int32 × DY) := (F_X10_at S N a1 a2 dy).bind fun u2 => if ib (u2.1 + (13 : Int32)) 10080 then (if (gi u2.2 (gr S a0 39) (u2.1 + (13 : Int32)).toNatClampNeg) = (-1 : Int32) then some ((0 : Int32), u2.2) else if ib (gi u2.2 (gr S a0 39) (u2.1 + (13 : Int32)).toNatClampNeg) 12 then (if (gi u2.2 (gr S a0 40) (gi u2.2 (gr S a0 39) (u2.1 + (13 : Int32)).toNatClampNeg).toNatClampNeg) = (-1 : Int32) then some ((0 : Int32), u2.2) else (F_X10_distance S N a0 a2 (gi u2.2 (gr S a0 39) (u2.1 + (13 : Int32)).toNatClampNeg) u2.2).bind fun u5 => (if u5.1 ≤ (2 : Int32) then some ((0 : Int32), u5.2) else some ((1 : Int32), u5.2))) else none) else none
theorem F_X10_isParted_s (S : ST) (N : Nat) (a0 : Nat) (a1 : Int32) (a2 : Int32) (dy : DY) : F_X10_isParted S N a0 a1 a2 dy = ((F_X10_at S N a1 a2 dy).bind fun u2 => if ib (u2.1 + (13 : Int32)) 10080 then (if (gi u2.2 (gr S a0 39) (u2.1 + (13 : Int32)).toNatClampNeg) = (-1 : Int32) then some ((0 : Int32), u2.2) else if ib (gi u2.2 (gr S a0 39) (u2.1 + (13 : Int32)).toNatClampNeg) 12 then (if (gi u2.2 (gr S a0 40) (gi u2.2 (gr S a0 39) (u2.1 + (13 : Int32)).toNatClampNeg).toNatClampNeg) = (-1 : Int32) then some ((0 : Int32), u2.2) else (F_X10_distance S N a0 a2 (gi u2.2 (gr S a0 39) (u2.1 + (13 : Int32)).toNatClampNeg) u2.2).bind fun u5 => (if u5.1 ≤ (2 : Int32) then some ((0 : Int32), u5.2) else some ((1 : Int32), u5.2))) else none) else none) := rfl
noncomputable def F_X10_nearBy_67 (S : ST) (N : Nat) (K10 : Nat → Int32 → Int32 → Int32 → Int32 → Int32 → Int32 → DY → Option (Int32 × DY)) (x0 : Nat) (x1 : Int32) (x2 : Int32) (x3 : Int32) (x5 : Int32) (x6 : Int32) (x7 : Int32) (y0 : Int32) (dy : DY) : Option (Int32 × DY) := (if (2 : Int32) < x7 then K10 x0 x1 x2 x3 y0 (x5 + (0 : Int32)) (x6 + (1 : Int32)) dy else K10 x0 x1 x2 x3 y0 (x5 + (1 : Int32)) (x6 + (1 : Int32)) dy)
theorem F_X10_nearBy_67_s (S : ST) (N : Nat) (K10 : Nat → Int32 → Int32 → Int32 → Int32 → Int32 → Int32 → DY → Option (Int32 × DY)) (x0 : Nat) (x1 : Int32) (x2 : Int32) (x3 : Int32) (x5 : Int32) (x6 : Int32) (x7 : Int32) (y0 : Int32) (dy : DY) : F_X10_nearBy_67 S N K10 x0 x1 x2 x3 x5 x6 x7 y0 dy = (if (2 : Int32) < x7 then K10 x0 x1 x2 x3 y0 (x5 + (0 : Int32)) (x6 + (1 : Int32)) dy else K10 x0 x1 x2 x3 y0 (x5 + (1 : Int32)) (x6 + (1 : Int32)) dy) := rfl
noncomputable def F_X10_nearBy_10 (S : ST) (N : Nat) : Nat → Nat → Int32 → Int32 → Int32 → Int32 → Int32 → Int32 → DY → Option (Int32 × DY) := fun k => Nat.rec (motive := fun _ => Nat → Int32 → Int32 → Int32 → Int32 → Int32 → Int32 → DY → Option (Int32 × DY)) (fun _ _ _ _ _ _ _ _ => none) (fun _ ih x0 x1 x2 x3 x4 x5 x6 dy => if ib (((720 : Int32) * x1) + (2 : Int32)) 10080 then (if (gi dy (gr S x0 39) (((720 : Int32) * x1) + (2 : Int32)).toNatClampNeg) ≤ x6 then (if x3 = 0 then some (x4, dy) else some (x5, dy)) else (if x6 = x2 then ih x0 x1 x2 x3 x4 x5 (x6 + (1 : Int32)) dy else if ib x6 12 then (if (gi dy (gr S x0 40) x6.toNatClampNeg) = (-1 : Int32) then ih x0 x1 x2 x3 x4 x5 (x6 + (1 : Int32)) dy else (F_X10_distance S N x0 x2 x6 dy).bind fun u3 => (if x4 ≤ u3.1 then (F_X10_nearBy_67 S N ih) x0 x1 x2 x3 x5 x6 u3.1 x4 u3.2 else (F_X10_nearBy_67 S N ih) x0 x1 x2 x3 x5 x6 u3.1 u3.1 u3.2)) else none)) else none) k
theorem F_X10_nearBy_10_s (S : ST) (N : Nat) (k : Nat) (x0 : Nat) (x1 : Int32) (x2 : Int32) (x3 : Int32) (x4 : Int32) (x5 : Int32) (x6 : Int32) (dy : DY) : F_X10_nearBy_10 S N (k + 1) x0 x1 x2 x3 x4 x5 x6 dy = (if ib (((720 : Int32) * x1) + (2 : Int32)) 10080 then (if (gi dy (gr S x0 39) (((720 : Int32) * x1) + (2 : Int32)).toNatClampNeg) ≤ x6 then (if x3 = 0 then some (x4, dy) else some (x5, dy)) else (if x6 = x2 then (F_X10_nearBy_10 S N k) x0 x1 x2 x3 x4 x5 (x6 + (1 : Int32)) dy else if ib x6 12 then (if (gi dy (gr S x0 40) x6.toNatClampNeg) = (-1 : Int32) then (F_X10_nearBy_10 S N k) x0 x1 x2 x3 x4 x5 (x6 + (1 : Int32)) dy else (F_X10_distance S N x0 x2 x6 dy).bind fun u3 => (if x4 ≤ u3.1 then (F_X10_nearBy_67 S N (F_X10_nearBy_10 S N k)) x0 x1 x2 x3 x5 x6 u3.1 x4 u3.2 else (F_X10_nearBy_67 S N (F_X10_nearBy_10 S N k)) x0 x1 x2 x3 x5 x6 u3.1 u3.1 u3.2)) else none)) else none) := rfl
noncomputable def F_X10_nearBy (S : ST) (N : Nat) (a0 : Nat) (a1 : Int32) (a2 : Int32) (a3 : Int32) (dy : DY) : Option (Int32 × DY) := (F_X10_nearBy_10 S N N) a0 a1 a2 a3 (99 : Int32) (0 : Int32) (0 : Int32) dy
theorem F_X10_nearBy_s (S : ST) (N : Nat) (a0 : Nat) (a1 : Int32) (a2 : Int32) (a3 : Int32) (dy : DY) : F_X10_nearBy S N a0 a1 a2 a3 dy = ((F_X10_nearBy_10 S N N) a0 a1 a2 a3 (99 : Int32) (0 : Int32) (0 : Int32) dy) := rfl
noncomputable def F_X10_soonBy_113 (S : ST) (N : Nat) (y0 : Int32) (dy : DY) : Option (Int32 × DY) := (if (99 : Int32) ≤ y0 then some ((99 : Int32), dy) else some (y0, dy))
theorem F_X10_soonBy_113_s (S : ST) (N : Nat) (y0 : Int32) (dy : DY) : F_X10_soonBy_113 S N y0 dy = (if (99 : Int32) ≤ y0 then some ((99 : Int32), dy) else some (y0, dy)) := rfl
noncomputable def F_X10_soonBy_91 (S : ST) (N : Nat) (x3 : Int32) (x4 : Int32) (x5 : Int32) (y0 : Int32) (dy : DY) : Option (Int32 × DY) := (if y0 ≤ 0 then (F_X10_soonBy_113 S N) (99 : Int32) dy else if y0 = 0 then none else (F_X10_soonBy_113 S N) (((x3 * x4) * x5) / y0) dy)
theorem F_X10_soonBy_91_s (S : ST) (N : Nat) (x3 : Int32) (x4 : Int32) (x5 : Int32) (y0 : Int32) (dy : DY) : F_X10_soonBy_91 S N x3 x4 x5 y0 dy = (if y0 ≤ 0 then (F_X10_soonBy_113 S N) (99 : Int32) dy else if y0 = 0 then none else (F_X10_soonBy_113 S N) (((x3 * x4) * x5) / y0) dy) := rfl
noncomputable def F_X10_soonBy (S : ST) (N : Nat) (a0 : Nat) (a1 : Int32) (a2 : Int32) (dy : DY) : Option (Int32 × DY) := (F_X10_way S N a0 a1 a2 dy).bind fun u1 => (F_X10_freeOn S N a0 a1 a2 u1.1 (0 : Int32) (9 : Int32) u1.2).bind fun u3 => (if (gi u3.2 a0 42) = (-1 : Int32) then some ((99 : Int32), u3.2) else (F_X10_at S N a1 a2 u3.2).bind fun u6 => if ib (u6.1 + (9 : Int32)) 10080 then (F_X10_at S N a1 (gi u6.2 a0 42) u6.2).bind fun u9 => if ib (u9.1 + (9 : Int32)) 10080 then (F_X10_way S N a0 a1 a2 u9.2).bind fun u11 => (F_X10_way S N a0 a1 (gi u11.2 a0 42) u11.2).bind fun u13 => (if u11.1 = u13.1 then (F_X10_soonBy_91 S N) u3.1 (gi u6.2 (gr S a0 39) (u6.1 + (9 : Int32)).toNatClampNeg) (gi u9.2 (gr S a0 39) (u9.1 + (9 : Int32)).toNatClampNeg) ((gi u9.2 (gr S a0 39) (u9.1 + (9 : Int32)).toNatClampNeg) - (gi u6.2 (gr S a0 39) (u6.1 + (9 : Int32)).toNatClampNeg)) u13.2 else (F_X10_soonBy_91 S N) u3.1 (gi u6.2 (gr S a0 39) (u6.1 + (9 : Int32)).toNatClampNeg) (gi u9.2 (gr S a0 39) (u9.1 + (9 : Int32)).toNatClampNeg) ((gi u6.2 (gr S a0 39) (u6.1 + (9 : Int32)).toNatClampNeg) + (gi u9.2 (gr S a0 39) (u9.1 + (9 : Int32)).toNatClampNeg)) u13.2) else none else none)
theorem F_X10_soonBy_s (S : ST) (N : Nat) (a0 : Nat) (a1 : Int32) (a2 : Int32) (dy : DY) : F_X10_soonBy S N a0 a1 a2 dy = ((F_X10_way S N a0 a1 a2 dy).bind fun u1 => (F_X10_freeOn S N a0 a1 a2 u1.1 (0 : Int32) (9 : Int32) u1.2).bind fun u3 => (if (gi u3.2 a0 42) = (-1 : Int32) then some ((99 : Int32), u3.2) else (F_X10_at S N a1 a2 u3.2).bind fun u6 => if ib (u6.1 + (9 : Int32)) 10080 then (F_X10_at S N a1 (gi u6.2 a0 42) u6.2).bind fun u9 => if ib (u9.1 + (9 : Int32)) 10080 then (F_X10_way S N a0 a1 a2 u9.2).bind fun u11 => (F_X10_way S N a0 a1 (gi u11.2 a0 42) u11.2).bind fun u13 => (if u11.1 = u13.1 then (F_X10_soonBy_91 S N) u3.1 (gi u6.2 (gr S a0 39) (u6.1 + (9 : Int32)).toNatClampNeg) (gi u9.2 (gr S a0 39) (u9.1 + (9 : Int32)).toNatClampNeg) ((gi u9.2 (gr S a0 39) (u9.1 + (9 : Int32)).toNatClampNeg) - (gi u6.2 (gr S a0 39) (u6.1 + (9 : Int32)).toNatClampNeg)) u13.2 else (F_X10_soonBy_91 S N) u3.1 (gi u6.2 (gr S a0 39) (u6.1 + (9 : Int32)).toNatClampNeg) (gi u9.2 (gr S a0 39) (u9.1 + (9 : Int32)).toNatClampNeg) ((gi u6.2 (gr S a0 39) (u6.1 + (9 : Int32)).toNatClampNeg) + (gi u9.2 (gr S a0 39) (u9.1 + (9 : Int32)).toNatClampNeg)) u13.2) else none else none)) := rfl
noncomputable def F_X10_found (S : ST) (N : Nat) (a0 : Nat) (a1 : Int32) (a2 : Int32) (a3 : Int32) (dy : DY) : Option (Int32 × DY) := (F_X10_at S N a1 a2 dy).bind fun u1 => (if a3 = (0 : Int32) then (F_X10_way S N a0 a1 a2 u1.2).bind fun u4 => (F_X10_freeOn S N a0 a1 a2 u4.1 (0 : Int32) (9 : Int32) u4.2).bind fun u6 => some (u6.1, u6.2) else if a3 = (1 : Int32) then (F_X10_soonBy S N a0 a1 a2 u1.2).bind fun u9 => some (u9.1, u9.2) else if a3 = (2 : Int32) then (F_X10_nearBy S N a0 a1 a2 (0 : Int32) u1.2).bind fun u12 => some (u12.1, u12.2) else if a3 = (3 : Int32) then (F_X10_way S N a0 a1 a2 u1.2).bind fun u15 => (F_X10_freeOn S N a0 a1 a2 (0 : Int32) u15.1 (-1 : Int32) u15.2).bind fun u17 => some (u17.1, u17.2) else if a3 = (4 : Int32) then (F_X10_way S N a0 a1 a2 u1.2).bind fun u20 => (F_X10_freeOn S N a0 a1 a2 (0 : Int32) (-u20.1) (-1 : Int32) u20.2).bind fun u22 => some (u22.1, u22.2) else if a3 = (5 : Int32) then if ib (u1.1 + (18 : Int32)) 10080 then some ((gi u1.2 (gr S a0 39) (u1.1 + (18 : Int32)).toNatClampNeg), u1.2) else none else if a3 = (6 : Int32) then if ib (u1.1 + (11 : Int32)) 10080 then some ((gi u1.2 (gr S a0 39) (u1.1 + (11 : Int32)).toNatClampNeg), u1.2) else none else if a3 = (7 : Int32) then (F_X10_nearBy S N a0 a1 a2 (1 : Int32) u1.2).bind fun u29 => some (u29.1, u29.2) else if a3 = (8 : Int32) then (F_X10_way S N a0 a1 a2 u1.2).bind fun u32 => (F_X10_freeOn S N a0 a1 a2 u32.1 (0 : Int32) (9 : Int32) u32.2).bind fun u34 => (if u34.1 = 0 then some ((1 : Int32), u34.2) else some ((0 : Int32), u34.2)) else if a3 = (9 : Int32) then (F_X10_isFacing S N a0 a1 a2 u1.2).bind fun u37 => (if u37.1 = 0 then some ((0 : Int32), u37.2) else some ((1 : Int32), u37.2)) else (F_X10_isParted S N a0 a1 a2 u1.2).bind fun u39 => (if u39.1 = 0 then some ((0 : Int32), u39.2) else some ((1 : Int32), u39.2)))
theorem F_X10_found_s (S : ST) (N : Nat) (a0 : Nat) (a1 : Int32) (a2 : Int32) (a3 : Int32) (dy : DY) : F_X10_found S N a0 a1 a2 a3 dy = ((F_X10_at S N a1 a2 dy).bind fun u1 => (if a3 = (0 : Int32) then (F_X10_way S N a0 a1 a2 u1.2).bind fun u4 => (F_X10_freeOn S N a0 a1 a2 u4.1 (0 : Int32) (9 : Int32) u4.2).bind fun u6 => some (u6.1, u6.2) else if a3 = (1 : Int32) then (F_X10_soonBy S N a0 a1 a2 u1.2).bind fun u9 => some (u9.1, u9.2) else if a3 = (2 : Int32) then (F_X10_nearBy S N a0 a1 a2 (0 : Int32) u1.2).bind fun u12 => some (u12.1, u12.2) else if a3 = (3 : Int32) then (F_X10_way S N a0 a1 a2 u1.2).bind fun u15 => (F_X10_freeOn S N a0 a1 a2 (0 : Int32) u15.1 (-1 : Int32) u15.2).bind fun u17 => some (u17.1, u17.2) else if a3 = (4 : Int32) then (F_X10_way S N a0 a1 a2 u1.2).bind fun u20 => (F_X10_freeOn S N a0 a1 a2 (0 : Int32) (-u20.1) (-1 : Int32) u20.2).bind fun u22 => some (u22.1, u22.2) else if a3 = (5 : Int32) then if ib (u1.1 + (18 : Int32)) 10080 then some ((gi u1.2 (gr S a0 39) (u1.1 + (18 : Int32)).toNatClampNeg), u1.2) else none else if a3 = (6 : Int32) then if ib (u1.1 + (11 : Int32)) 10080 then some ((gi u1.2 (gr S a0 39) (u1.1 + (11 : Int32)).toNatClampNeg), u1.2) else none else if a3 = (7 : Int32) then (F_X10_nearBy S N a0 a1 a2 (1 : Int32) u1.2).bind fun u29 => some (u29.1, u29.2) else if a3 = (8 : Int32) then (F_X10_way S N a0 a1 a2 u1.2).bind fun u32 => (F_X10_freeOn S N a0 a1 a2 u32.1 (0 : Int32) (9 : Int32) u32.2).bind fun u34 => (if u34.1 = 0 then some ((1 : Int32), u34.2) else some ((0 : Int32), u34.2)) else if a3 = (9 : Int32) then (F_X10_isFacing S N a0 a1 a2 u1.2).bind fun u37 => (if u37.1 = 0 then some ((0 : Int32), u37.2) else some ((1 : Int32), u37.2)) else (F_X10_isParted S N a0 a1 a2 u1.2).bind fun u39 => (if u39.1 = 0 then some ((0 : Int32), u39.2) else some ((1 : Int32), u39.2)))) := rfl
noncomputable def F_X10_holds_131 (S : ST) (N : Nat) (y0 : Int32) (y1 : Int32) (dy : DY) : Option (Int32 × DY) := (if y0 = y1 then some ((1 : Int32), dy) else some ((0 : Int32), dy))
theorem F_X10_holds_131_s (S : ST) (N : Nat) (y0 : Int32) (y1 : Int32) (dy : DY) : F_X10_holds_131 S N y0 y1 dy = (if y0 = y1 then some ((1 : Int32), dy) else some ((0 : Int32), dy)) := rfl
noncomputable def F_X10_holds_111 (S : ST) (N : Nat) (x0 : Nat) (x3 : Int32) (y0 : Int32) (dy : DY) : Option (Int32 × DY) := if ib (x3 + (3 : Int32)) 10080 then (if (gi dy (gr S x0 39) (x3 + (3 : Int32)).toNatClampNeg) = 0 then (F_X10_holds_131 S N) y0 (1 : Int32) dy else (F_X10_holds_131 S N) y0 (0 : Int32) dy) else none
theorem F_X10_holds_111_s (S : ST) (N : Nat) (x0 : Nat) (x3 : Int32) (y0 : Int32) (dy : DY) : F_X10_holds_111 S N x0 x3 y0 dy = (if ib (x3 + (3 : Int32)) 10080 then (if (gi dy (gr S x0 39) (x3 + (3 : Int32)).toNatClampNeg) = 0 then (F_X10_holds_131 S N) y0 (1 : Int32) dy else (F_X10_holds_131 S N) y0 (0 : Int32) dy) else none) := rfl
noncomputable def F_X10_holds (S : ST) (N : Nat) (a0 : Nat) (a1 : Int32) (a2 : Int32) (a3 : Int32) (dy : DY) : Option (Int32 × DY) := if ib a3 10080 then (F_X10_found S N a0 a1 a2 (gi dy (gr S a0 39) a3.toNatClampNeg) dy).bind fun u2 => if ib (a3 + (1 : Int32)) 10080 then if ib (a3 + (2 : Int32)) 10080 then (if (gi u2.2 (gr S a0 39) (a3 + (1 : Int32)).toNatClampNeg) = (60 : Int32) then (if (gi u2.2 (gr S a0 39) (a3 + (2 : Int32)).toNatClampNeg) ≤ u2.1 then (F_X10_holds_111 S N) a0 a3 (0 : Int32) u2.2 else (F_X10_holds_111 S N) a0 a3 (1 : Int32) u2.2) else (if (gi u2.2 (gr S a0 39) (a3 + (1 : Int32)).toNatClampNeg) = (62 : Int32) then (if u2.1 ≤ (gi u2.2 (gr S a0 39) (a3 + (2 : Int32)).toNatClampNeg) then (F_X10_holds_111 S N) a0 a3 (0 : Int32) u2.2 else (F_X10_holds_111 S N) a0 a3 (1 : Int32) u2.2) else (if (gi u2.2 (gr S a0 39) (a3 + (1 : Int32)).toNatClampNeg) = (61 : Int32) then (if u2.1 = (gi u2.2 (gr S a0 39) (a3 + (2 : Int32)).toNatClampNeg) then (F_X10_holds_111 S N) a0 a3 (1 : Int32) u2.2 else (F_X10_holds_111 S N) a0 a3 (0 : Int32) u2.2) else (if u2.1 = (1 : Int32) then (F_X10_holds_111 S N) a0 a3 (1 : Int32) u2.2 else (F_X10_holds_111 S N) a0 a3 (0 : Int32) u2.2)))) else none else none else none
theorem F_X10_holds_s (S : ST) (N : Nat) (a0 : Nat) (a1 : Int32) (a2 : Int32) (a3 : Int32) (dy : DY) : F_X10_holds S N a0 a1 a2 a3 dy = (if ib a3 10080 then (F_X10_found S N a0 a1 a2 (gi dy (gr S a0 39) a3.toNatClampNeg) dy).bind fun u2 => if ib (a3 + (1 : Int32)) 10080 then if ib (a3 + (2 : Int32)) 10080 then (if (gi u2.2 (gr S a0 39) (a3 + (1 : Int32)).toNatClampNeg) = (60 : Int32) then (if (gi u2.2 (gr S a0 39) (a3 + (2 : Int32)).toNatClampNeg) ≤ u2.1 then (F_X10_holds_111 S N) a0 a3 (0 : Int32) u2.2 else (F_X10_holds_111 S N) a0 a3 (1 : Int32) u2.2) else (if (gi u2.2 (gr S a0 39) (a3 + (1 : Int32)).toNatClampNeg) = (62 : Int32) then (if u2.1 ≤ (gi u2.2 (gr S a0 39) (a3 + (2 : Int32)).toNatClampNeg) then (F_X10_holds_111 S N) a0 a3 (0 : Int32) u2.2 else (F_X10_holds_111 S N) a0 a3 (1 : Int32) u2.2) else (if (gi u2.2 (gr S a0 39) (a3 + (1 : Int32)).toNatClampNeg) = (61 : Int32) then (if u2.1 = (gi u2.2 (gr S a0 39) (a3 + (2 : Int32)).toNatClampNeg) then (F_X10_holds_111 S N) a0 a3 (1 : Int32) u2.2 else (F_X10_holds_111 S N) a0 a3 (0 : Int32) u2.2) else (if u2.1 = (1 : Int32) then (F_X10_holds_111 S N) a0 a3 (1 : Int32) u2.2 else (F_X10_holds_111 S N) a0 a3 (0 : Int32) u2.2)))) else none else none else none) := rfl
noncomputable def F_X10_look_45 (S : ST) (N : Nat) (K17 : Nat → Int32 → Int32 → Int32 → Int32 → DY → Option DY) (x0 : Nat) (x1 : Int32) (x2 : Int32) (x3 : Int32) (x4 : Int32) (y0 : Int32) (dy : DY) : Option DY := (F_X10_at S N x1 x4 dy).bind fun u3 => if ib (u3.1 + y0) 10080 then if ib x4 12 then bd (si u3.2 (gr S x0 40) x4.toNatClampNeg (gi u3.2 (gr S x0 39) (u3.1 + y0).toNatClampNeg)) fun dy5 => (F_X10_at S N x1 x4 dy5).bind fun u8 => if ib ((u8.1 + (4 : Int32)) + y0) 10080 then if ib x4 12 then bd (si u8.2 (gr S x0 41) x4.toNatClampNeg (gi u8.2 (gr S x0 39) ((u8.1 + (4 : Int32)) + y0).toNatClampNeg)) fun dy10 => K17 x0 x1 x2 x3 (x4 + (1 : Int32)) dy10 else none else none else none else none
theorem F_X10_look_45_s (S : ST) (N : Nat) (K17 : Nat → Int32 → Int32 → Int32 → Int32 → DY → Option DY) (x0 : Nat) (x1 : Int32) (x2 : Int32) (x3 : Int32) (x4 : Int32) (y0 : Int32) (dy : DY) : F_X10_look_45 S N K17 x0 x1 x2 x3 x4 y0 dy = ((F_X10_at S N x1 x4 dy).bind fun u3 => if ib (u3.1 + y0) 10080 then if ib x4 12 then bd (si u3.2 (gr S x0 40) x4.toNatClampNeg (gi u3.2 (gr S x0 39) (u3.1 + y0).toNatClampNeg)) fun dy5 => (F_X10_at S N x1 x4 dy5).bind fun u8 => if ib ((u8.1 + (4 : Int32)) + y0) 10080 then if ib x4 12 then bd (si u8.2 (gr S x0 41) x4.toNatClampNeg (gi u8.2 (gr S x0 39) ((u8.1 + (4 : Int32)) + y0).toNatClampNeg)) fun dy10 => K17 x0 x1 x2 x3 (x4 + (1 : Int32)) dy10 else none else none else none else none) := rfl
noncomputable def F_X10_look_17 (S : ST) (N : Nat) : Nat → Nat → Int32 → Int32 → Int32 → Int32 → DY → Option DY := fun k => Nat.rec (motive := fun _ => Nat → Int32 → Int32 → Int32 → Int32 → DY → Option DY) (fun _ _ _ _ _ _ => none) (fun _ ih x0 x1 x2 x3 x4 dy => if ib (((720 : Int32) * x1) + (2 : Int32)) 10080 then (if (gi dy (gr S x0 39) (((720 : Int32) * x1) + (2 : Int32)).toNatClampNeg) ≤ x4 then some dy else (if x4 = x2 then (F_X10_look_45 S N ih) x0 x1 x2 x3 x4 (0 : Int32) dy else (F_X10_look_45 S N ih) x0 x1 x2 x3 x4 x3 dy)) else none) k
theorem F_X10_look_17_s (S : ST) (N : Nat) (k : Nat) (x0 : Nat) (x1 : Int32) (x2 : Int32) (x3 : Int32) (x4 : Int32) (dy : DY) : F_X10_look_17 S N (k + 1) x0 x1 x2 x3 x4 dy = (if ib (((720 : Int32) * x1) + (2 : Int32)) 10080 then (if (gi dy (gr S x0 39) (((720 : Int32) * x1) + (2 : Int32)).toNatClampNeg) ≤ x4 then some dy else (if x4 = x2 then (F_X10_look_45 S N (F_X10_look_17 S N k)) x0 x1 x2 x3 x4 (0 : Int32) dy else (F_X10_look_45 S N (F_X10_look_17 S N k)) x0 x1 x2 x3 x4 x3 dy)) else none) := rfl
noncomputable def F_X10_look (S : ST) (N : Nat) (a0 : Nat) (a1 : Int32) (a2 : Int32) (dy : DY) : Option DY := (F_X10_at S N a1 a2 dy).bind fun u2 => if ib (u2.1 + (10 : Int32)) 10080 then (F_X10_look_17 S N N) a0 a1 a2 (gi u2.2 (gr S a0 39) (u2.1 + (10 : Int32)).toNatClampNeg) (0 : Int32) u2.2 else none
theorem F_X10_look_s (S : ST) (N : Nat) (a0 : Nat) (a1 : Int32) (a2 : Int32) (dy : DY) : F_X10_look S N a0 a1 a2 dy = ((F_X10_at S N a1 a2 dy).bind fun u2 => if ib (u2.1 + (10 : Int32)) 10080 then (F_X10_look_17 S N N) a0 a1 a2 (gi u2.2 (gr S a0 39) (u2.1 + (10 : Int32)).toNatClampNeg) (0 : Int32) u2.2 else none) := rfl
noncomputable def F_X10_actBy_117 (S : ST) (N : Nat) (K42 : Nat → Int32 → Int32 → Int32 → Int32 → DY → Option (Int32 × DY)) (x0 : Nat) (x1 : Int32) (x2 : Int32) (x3 : Int32) (x4 : Int32) (x5 : Int32) (x6 : Int32) (dy : DY) : Option (Int32 × DY) := (if x6 = 0 then K42 x0 x1 x2 x3 (x4 + (1 : Int32)) dy else if ib x5 10080 then some ((gi dy (gr S x0 39) x5.toNatClampNeg), dy) else none)
theorem F_X10_actBy_117_s (S : ST) (N : Nat) (K42 : Nat → Int32 → Int32 → Int32 → Int32 → DY → Option (Int32 × DY)) (x0 : Nat) (x1 : Int32) (x2 : Int32) (x3 : Int32) (x4 : Int32) (x5 : Int32) (x6 : Int32) (dy : DY) : F_X10_actBy_117 S N K42 x0 x1 x2 x3 x4 x5 x6 dy = (if x6 = 0 then K42 x0 x1 x2 x3 (x4 + (1 : Int32)) dy else if ib x5 10080 then some ((gi dy (gr S x0 39) x5.toNatClampNeg), dy) else none) := rfl
noncomputable def F_X10_actBy_75 (S : ST) (N : Nat) (K42 : Nat → Int32 → Int32 → Int32 → Int32 → DY → Option (Int32 × DY)) : Nat → Nat → Int32 → Int32 → Int32 → Int32 → Int32 → Int32 → Int32 → DY → Option (Int32 × DY) := fun k => Nat.rec (motive := fun _ => Nat → Int32 → Int32 → Int32 → Int32 → Int32 → Int32 → Int32 → DY → Option (Int32 × DY)) (fun _ _ _ _ _ _ _ _ _ => none) (fun _ ih x0 x1 x2 x3 x4 x5 x6 x7 dy => if ib (x5 + (1 : Int32)) 10080 then (if (gi dy (gr S x0 39) (x5 + (1 : Int32)).toNatClampNeg) ≤ x7 then (F_X10_actBy_117 S N K42) x0 x1 x2 x3 x4 x5 x6 dy else (if x6 = 0 then (F_X10_actBy_117 S N K42) x0 x1 x2 x3 x4 x5 x6 dy else (F_X10_holds S N x0 x1 x2 ((x5 + (2 : Int32)) + ((4 : Int32) * x7)) dy).bind fun u2 => ih x0 x1 x2 x3 x4 x5 u2.1 (x7 + (1 : Int32)) u2.2)) else none) k
theorem F_X10_actBy_75_s (S : ST) (N : Nat) (K42 : Nat → Int32 → Int32 → Int32 → Int32 → DY → Option (Int32 × DY)) (k : Nat) (x0 : Nat) (x1 : Int32) (x2 : Int32) (x3 : Int32) (x4 : Int32) (x5 : Int32) (x6 : Int32) (x7 : Int32) (dy : DY) : F_X10_actBy_75 S N K42 (k + 1) x0 x1 x2 x3 x4 x5 x6 x7 dy = (if ib (x5 + (1 : Int32)) 10080 then (if (gi dy (gr S x0 39) (x5 + (1 : Int32)).toNatClampNeg) ≤ x7 then (F_X10_actBy_117 S N K42) x0 x1 x2 x3 x4 x5 x6 dy else (if x6 = 0 then (F_X10_actBy_117 S N K42) x0 x1 x2 x3 x4 x5 x6 dy else (F_X10_holds S N x0 x1 x2 ((x5 + (2 : Int32)) + ((4 : Int32) * x7)) dy).bind fun u2 => (F_X10_actBy_75 S N K42 k) x0 x1 x2 x3 x4 x5 u2.1 (x7 + (1 : Int32)) u2.2)) else none) := rfl
noncomputable def F_X10_actBy_42 (S : ST) (N : Nat) : Nat → Nat → Int32 → Int32 → Int32 → Int32 → DY → Option (Int32 × DY) := fun k => Nat.rec (motive := fun _ => Nat → Int32 → Int32 → Int32 → Int32 → DY → Option (Int32 × DY)) (fun _ _ _ _ _ _ => none) (fun _ ih x0 x1 x2 x3 x4 dy => if ib (x3 + (9 : Int32)) 10080 then (if (gi dy (gr S x0 39) (x3 + (9 : Int32)).toNatClampNeg) ≤ x4 then some ((5 : Int32), dy) else (F_X10_actBy_75 S N ih N) x0 x1 x2 x3 x4 ((x3 + (352 : Int32)) + ((18 : Int32) * x4)) (1 : Int32) (0 : Int32) dy) else none) k
theorem F_X10_actBy_42_s (S : ST) (N : Nat) (k : Nat) (x0 : Nat) (x1 : Int32) (x2 : Int32) (x3 : Int32) (x4 : Int32) (dy : DY) : F_X10_actBy_42 S N (k + 1) x0 x1 x2 x3 x4 dy = (if ib (x3 + (9 : Int32)) 10080 then (if (gi dy (gr S x0 39) (x3 + (9 : Int32)).toNatClampNeg) ≤ x4 then some ((5 : Int32), dy) else (F_X10_actBy_75 S N (F_X10_actBy_42 S N k) N) x0 x1 x2 x3 x4 ((x3 + (352 : Int32)) + ((18 : Int32) * x4)) (1 : Int32) (0 : Int32) dy) else none) := rfl
noncomputable def F_X10_actBy (S : ST) (N : Nat) (a0 : Nat) (a1 : Int32) (a2 : Int32) (dy : DY) : Option (Int32 × DY) := if ib (((720 : Int32) * a1) + (3 : Int32)) 10080 then (F_X10_at S N a1 a2 dy).bind fun u3 => if ib (u3.1 + (9 : Int32)) 10080 then if (gi u3.2 (gr S a0 39) (u3.1 + (9 : Int32)).toNatClampNeg) = 0 then none else (if ((gi dy (gr S a0 39) (((720 : Int32) * a1) + (3 : Int32)).toNatClampNeg) - (gi dy (gr S a0 39) (((720 : Int32) * a1) + (3 : Int32)).toNatClampNeg) / (gi u3.2 (gr S a0 39) (u3.1 + (9 : Int32)).toNatClampNeg) * (gi u3.2 (gr S a0 39) (u3.1 + (9 : Int32)).toNatClampNeg)) = 0 then (F_X10_look S N a0 a1 a2 u3.2).bind fun u5 => (F_X10_actBy_42 S N N) a0 a1 a2 ((720 : Int32) * a1) (0 : Int32) u5 else some ((5 : Int32), u3.2)) else none else none
theorem F_X10_actBy_s (S : ST) (N : Nat) (a0 : Nat) (a1 : Int32) (a2 : Int32) (dy : DY) : F_X10_actBy S N a0 a1 a2 dy = (if ib (((720 : Int32) * a1) + (3 : Int32)) 10080 then (F_X10_at S N a1 a2 dy).bind fun u3 => if ib (u3.1 + (9 : Int32)) 10080 then if (gi u3.2 (gr S a0 39) (u3.1 + (9 : Int32)).toNatClampNeg) = 0 then none else (if ((gi dy (gr S a0 39) (((720 : Int32) * a1) + (3 : Int32)).toNatClampNeg) - (gi dy (gr S a0 39) (((720 : Int32) * a1) + (3 : Int32)).toNatClampNeg) / (gi u3.2 (gr S a0 39) (u3.1 + (9 : Int32)).toNatClampNeg) * (gi u3.2 (gr S a0 39) (u3.1 + (9 : Int32)).toNatClampNeg)) = 0 then (F_X10_look S N a0 a1 a2 u3.2).bind fun u5 => (F_X10_actBy_42 S N N) a0 a1 a2 ((720 : Int32) * a1) (0 : Int32) u5 else some ((5 : Int32), u3.2)) else none else none) := rfl
noncomputable def F_X10_isWord (S : ST) (N : Nat) (a0 : Nat) (a1 : Int64) (dy : DY) : Option (Int32 × DY) := (if (gi dy a0 21) = (2 : Int32) then (if (lg_cmp (gl dy a0 23) a1) = 0 then some ((1 : Int32), dy) else some ((0 : Int32), dy)) else some ((0 : Int32), dy))
theorem F_X10_isWord_s (S : ST) (N : Nat) (a0 : Nat) (a1 : Int64) (dy : DY) : F_X10_isWord S N a0 a1 dy = (if (gi dy a0 21) = (2 : Int32) then (if (lg_cmp (gl dy a0 23) a1) = 0 then some ((1 : Int32), dy) else some ((0 : Int32), dy)) else some ((0 : Int32), dy)) := rfl
noncomputable def F_X10_actOf (S : ST) (N : Nat) (a0 : Nat) (dy : DY) : Option (Int32 × DY) := (F_X10_isWord S N a0 (26479 : Int64) dy).bind fun u1 => (if u1.1 = 0 then (F_X10_isWord S N a0 (491394656372 : Int64) u1.2).bind fun u3 => (if u3.1 = 0 then (F_X10_isWord S N a0 (1818584692 : Int64) u3.2).bind fun u5 => (if u5.1 = 0 then (F_X10_isWord S N a0 (1751215716 : Int64) u5.2).bind fun u7 => (if u7.1 = 0 then (F_X10_isWord S N a0 (7106420 : Int64) u7.2).bind fun u9 => (if u9.1 = 0 then (F_X10_isWord S N a0 (2002872692 : Int64) u9.2).bind fun u11 => (if u11.1 = 0 then some ((-1 : Int32), u11.2) else some ((5 : Int32), u11.2)) else some ((4 : Int32), u9.2)) else some ((3 : Int32), u7.2)) else some ((2 : Int32), u5.2)) else some ((1 : Int32), u3.2)) else some ((0 : Int32), u1.2))
theorem F_X10_actOf_s (S : ST) (N : Nat) (a0 : Nat) (dy : DY) : F_X10_actOf S N a0 dy = ((F_X10_isWord S N a0 (26479 : Int64) dy).bind fun u1 => (if u1.1 = 0 then (F_X10_isWord S N a0 (491394656372 : Int64) u1.2).bind fun u3 => (if u3.1 = 0 then (F_X10_isWord S N a0 (1818584692 : Int64) u3.2).bind fun u5 => (if u5.1 = 0 then (F_X10_isWord S N a0 (1751215716 : Int64) u5.2).bind fun u7 => (if u7.1 = 0 then (F_X10_isWord S N a0 (7106420 : Int64) u7.2).bind fun u9 => (if u9.1 = 0 then (F_X10_isWord S N a0 (2002872692 : Int64) u9.2).bind fun u11 => (if u11.1 = 0 then some ((-1 : Int32), u11.2) else some ((5 : Int32), u11.2)) else some ((4 : Int32), u9.2)) else some ((3 : Int32), u7.2)) else some ((2 : Int32), u5.2)) else some ((1 : Int32), u3.2)) else some ((0 : Int32), u1.2))) := rfl
noncomputable def F_X10_move_3 (S : ST) (N : Nat) (n0 : Nat) : Nat → Nat → Int32 → Int32 → Int32 → Int32 → DY → Option DY := fun k => Nat.rec (motive := fun _ => Nat → Int32 → Int32 → Int32 → Int32 → DY → Option DY) (fun _ _ _ _ _ _ => none) (fun _ ih x0 x1 x2 x3 x4 dy => (if x1 ≤ x4 then some dy else if ib ((x1 * x2) + x4) n0 then if ib ((x1 * x3) + x4) n0 then bd (si dy x0 ((x1 * x3) + x4).toNatClampNeg (gi dy x0 ((x1 * x2) + x4).toNatClampNeg)) fun dy1 => ih x0 x1 x2 x3 (x4 + (1 : Int32)) dy1 else none else none)) k
theorem F_X10_move_3_s (S : ST) (N : Nat) (n0 : Nat) (k : Nat) (x0 : Nat) (x1 : Int32) (x2 : Int32) (x3 : Int32) (x4 : Int32) (dy : DY) : F_X10_move_3 S N n0 (k + 1) x0 x1 x2 x3 x4 dy = (if x1 ≤ x4 then some dy else if ib ((x1 * x2) + x4) n0 then if ib ((x1 * x3) + x4) n0 then bd (si dy x0 ((x1 * x3) + x4).toNatClampNeg (gi dy x0 ((x1 * x2) + x4).toNatClampNeg)) fun dy1 => (F_X10_move_3 S N n0 k) x0 x1 x2 x3 (x4 + (1 : Int32)) dy1 else none else none) := rfl
noncomputable def F_X10_move (S : ST) (N : Nat) (n0 : Nat) (a0 : Nat) (a1 : Int32) (a2 : Int32) (a3 : Int32) (dy : DY) : Option DY := (F_X10_move_3 S N n0 N) a0 a1 a2 a3 (0 : Int32) dy
theorem F_X10_move_s (S : ST) (N : Nat) (n0 : Nat) (a0 : Nat) (a1 : Int32) (a2 : Int32) (a3 : Int32) (dy : DY) : F_X10_move S N n0 a0 a1 a2 a3 dy = ((F_X10_move_3 S N n0 N) a0 a1 a2 a3 (0 : Int32) dy) := rfl
noncomputable def F_X10_copy_2 (S : ST) (N : Nat) : Nat → Nat → Int32 → Int32 → Int32 → DY → Option DY := fun k => Nat.rec (motive := fun _ => Nat → Int32 → Int32 → Int32 → DY → Option DY) (fun _ _ _ _ _ => none) (fun _ ih x0 x1 x2 x3 dy => (if (500 : Int32) ≤ x3 then (F_X10_move S N 4 (gr S x0 2) (1 : Int32) x1 x2 dy).bind fun u2 => (F_X10_move S N 4 (gr S x0 3) (1 : Int32) x1 x2 u2).bind fun u5 => (F_X10_move S N 4 (gr S x0 4) (1 : Int32) x1 x2 u5).bind fun u8 => (F_X10_move S N 4 (gr S x0 5) (1 : Int32) x1 x2 u8).bind fun u11 => (F_X10_move S N 12 (gr S x0 6) (3 : Int32) x1 x2 u11).bind fun u14 => (F_X10_move S N 12 (gr S x0 7) (3 : Int32) x1 x2 u14).bind fun u17 => (F_X10_move S N 12 (gr S x0 8) (3 : Int32) x1 x2 u17).bind fun u20 => (F_X10_move S N 12 (gr S x0 9) (3 : Int32) x1 x2 u20).bind fun u23 => (F_X10_move S N 1152 (gr S x0 10) (288 : Int32) x1 x2 u23).bind fun u26 => (F_X10_move S N 1152 (gr S x0 11) (288 : Int32) x1 x2 u26).bind fun u29 => (F_X10_move S N 4 (gr S x0 12) (1 : Int32) x1 x2 u29).bind fun u32 => (F_X10_move S N 12 (gr S x0 13) (3 : Int32) x1 x2 u32).bind fun u35 => (F_X10_move S N 3456 (gr S x0 14) (864 : Int32) x1 x2 u35).bind fun u38 => (F_X10_move S N 32 (gr S x0 15) (8 : Int32) x1 x2 u38).bind fun u41 => (F_X10_move S N 192 (gr S x0 16) (48 : Int32) x1 x2 u41).bind fun u44 => (F_X10_move S N 192 (gr S x0 17) (48 : Int32) x1 x2 u44).bind fun u47 => (F_X10_move S N 10080 (gr S x0 39) (720 : Int32) x1 x2 u47).bind fun u50 => some u50 else if ib (((500 : Int32) * x1) + x3) 2000 then if ib (((500 : Int32) * x2) + x3) 2000 then bd (si dy (gr S x0 1) (((500 : Int32) * x2) + x3).toNatClampNeg (nr 2 (gi dy (gr S x0 1) (((500 : Int32) * x1) + x3).toNatClampNeg))) fun dy54 => ih x0 x1 x2 (x3 + (1 : Int32)) dy54 else none else none)) k
theorem F_X10_copy_2_s (S : ST) (N : Nat) (k : Nat) (x0 : Nat) (x1 : Int32) (x2 : Int32) (x3 : Int32) (dy : DY) : F_X10_copy_2 S N (k + 1) x0 x1 x2 x3 dy = (if (500 : Int32) ≤ x3 then (F_X10_move S N 4 (gr S x0 2) (1 : Int32) x1 x2 dy).bind fun u2 => (F_X10_move S N 4 (gr S x0 3) (1 : Int32) x1 x2 u2).bind fun u5 => (F_X10_move S N 4 (gr S x0 4) (1 : Int32) x1 x2 u5).bind fun u8 => (F_X10_move S N 4 (gr S x0 5) (1 : Int32) x1 x2 u8).bind fun u11 => (F_X10_move S N 12 (gr S x0 6) (3 : Int32) x1 x2 u11).bind fun u14 => (F_X10_move S N 12 (gr S x0 7) (3 : Int32) x1 x2 u14).bind fun u17 => (F_X10_move S N 12 (gr S x0 8) (3 : Int32) x1 x2 u17).bind fun u20 => (F_X10_move S N 12 (gr S x0 9) (3 : Int32) x1 x2 u20).bind fun u23 => (F_X10_move S N 1152 (gr S x0 10) (288 : Int32) x1 x2 u23).bind fun u26 => (F_X10_move S N 1152 (gr S x0 11) (288 : Int32) x1 x2 u26).bind fun u29 => (F_X10_move S N 4 (gr S x0 12) (1 : Int32) x1 x2 u29).bind fun u32 => (F_X10_move S N 12 (gr S x0 13) (3 : Int32) x1 x2 u32).bind fun u35 => (F_X10_move S N 3456 (gr S x0 14) (864 : Int32) x1 x2 u35).bind fun u38 => (F_X10_move S N 32 (gr S x0 15) (8 : Int32) x1 x2 u38).bind fun u41 => (F_X10_move S N 192 (gr S x0 16) (48 : Int32) x1 x2 u41).bind fun u44 => (F_X10_move S N 192 (gr S x0 17) (48 : Int32) x1 x2 u44).bind fun u47 => (F_X10_move S N 10080 (gr S x0 39) (720 : Int32) x1 x2 u47).bind fun u50 => some u50 else if ib (((500 : Int32) * x1) + x3) 2000 then if ib (((500 : Int32) * x2) + x3) 2000 then bd (si dy (gr S x0 1) (((500 : Int32) * x2) + x3).toNatClampNeg (nr 2 (gi dy (gr S x0 1) (((500 : Int32) * x1) + x3).toNatClampNeg))) fun dy54 => (F_X10_copy_2 S N k) x0 x1 x2 (x3 + (1 : Int32)) dy54 else none else none) := rfl
noncomputable def F_X10_copy (S : ST) (N : Nat) (a0 : Nat) (a1 : Int32) (a2 : Int32) (dy : DY) : Option DY := (F_X10_copy_2 S N N) a0 a1 a2 (0 : Int32) dy
theorem F_X10_copy_s (S : ST) (N : Nat) (a0 : Nat) (a1 : Int32) (a2 : Int32) (dy : DY) : F_X10_copy S N a0 a1 a2 dy = ((F_X10_copy_2 S N N) a0 a1 a2 (0 : Int32) dy) := rfl
noncomputable def F_X10_again (S : ST) (N : Nat) (a0 : Nat) (a1 : Int32) (dy : DY) : Option (Int32 × DY) := bd (si dy a0 0 (0 : Int32)) fun dy1 => (F_X10_in S N a1 (0 : Int32) (2 : Int32) dy1).bind fun u2 => (if u2.1 = 0 then some ((0 : Int32), u2.2) else if ib a1 3 then (if (nr 3 (gi u2.2 (gr S a0 60) a1.toNatClampNeg)) = 0 then some ((0 : Int32), u2.2) else (F_X10_copy S N a0 (a1 + (1 : Int32)) (0 : Int32) u2.2).bind fun u5 => some ((1 : Int32), u5)) else none)
theorem F_X10_again_s (S : ST) (N : Nat) (a0 : Nat) (a1 : Int32) (dy : DY) : F_X10_again S N a0 a1 dy = (bd (si dy a0 0 (0 : Int32)) fun dy1 => (F_X10_in S N a1 (0 : Int32) (2 : Int32) dy1).bind fun u2 => (if u2.1 = 0 then some ((0 : Int32), u2.2) else if ib a1 3 then (if (nr 3 (gi u2.2 (gr S a0 60) a1.toNatClampNeg)) = 0 then some ((0 : Int32), u2.2) else (F_X10_copy S N a0 (a1 + (1 : Int32)) (0 : Int32) u2.2).bind fun u5 => some ((1 : Int32), u5)) else none)) := rfl
noncomputable def F_X10_isThere (S : ST) (N : Nat) (a0 : Nat) (a1 : Int32) (a2 : Int32) (dy : DY) : Option (Int32 × DY) := (F_X10_at S N a1 a2 dy).bind fun u2 => if ib u2.1 10080 then (if (gi u2.2 (gr S a0 39) u2.1.toNatClampNeg) = (-1 : Int32) then some ((0 : Int32), u2.2) else some ((1 : Int32), u2.2)) else none
theorem F_X10_isThere_s (S : ST) (N : Nat) (a0 : Nat) (a1 : Int32) (a2 : Int32) (dy : DY) : F_X10_isThere S N a0 a1 a2 dy = ((F_X10_at S N a1 a2 dy).bind fun u2 => if ib u2.1 10080 then (if (gi u2.2 (gr S a0 39) u2.1.toNatClampNeg) = (-1 : Int32) then some ((0 : Int32), u2.2) else some ((1 : Int32), u2.2)) else none) := rfl
noncomputable def F_X10_lotIsRight (S : ST) (N : Nat) (a0 : Nat) (a1 : Int32) (dy : DY) : Option (Int32 × DY) := bd (si dy a0 47 ((gi dy a0 47) + (1 : Int32))) fun dy1 => if ib (((720 : Int32) * a1) + (5 : Int32)) 10080 then if ib (((720 : Int32) * a1) + (5 : Int32)) 10080 then bd (si dy1 (gr S a0 39) (((720 : Int32) * a1) + (5 : Int32)).toNatClampNeg ((gi dy1 (gr S a0 39) (((720 : Int32) * a1) + (5 : Int32)).toNatClampNeg) + (1 : Int32))) fun dy3 => (if (nr 3 (gi dy3 a0 45)) = 0 then if ib (((720 : Int32) * a1) + (4 : Int32)) 10080 then if ib (((720 : Int32) * a1) + (4 : Int32)) 10080 then bd (si dy3 (gr S a0 39) (((720 : Int32) * a1) + (4 : Int32)).toNatClampNeg (((gi dy3 (gr S a0 39) (((720 : Int32) * a1) + (4 : Int32)).toNatClampNeg) * (1103515245 : Int32)) + (12345 : Int32))) fun dy6 => (if (((((gi dy3 (gr S a0 39) (((720 : Int32) * a1) + (4 : Int32)).toNatClampNeg) * (1103515245 : Int32)) + (12345 : Int32)) >>> ((16 : Int32) &&& 31)) &&& (1 : Int32)) = 0 then some ((1 : Int32), dy6) else some ((0 : Int32), dy6)) else none else none else (if (((gi dy3 a0 46) >>> (((gi dy3 a0 47) - (1 : Int32)) &&& 31)) &&& (1 : Int32)) = 0 then some ((1 : Int32), dy3) else some ((0 : Int32), dy3))) else none else none
theorem F_X10_lotIsRight_s (S : ST) (N : Nat) (a0 : Nat) (a1 : Int32) (dy : DY) : F_X10_lotIsRight S N a0 a1 dy = (bd (si dy a0 47 ((gi dy a0 47) + (1 : Int32))) fun dy1 => if ib (((720 : Int32) * a1) + (5 : Int32)) 10080 then if ib (((720 : Int32) * a1) + (5 : Int32)) 10080 then bd (si dy1 (gr S a0 39) (((720 : Int32) * a1) + (5 : Int32)).toNatClampNeg ((gi dy1 (gr S a0 39) (((720 : Int32) * a1) + (5 : Int32)).toNatClampNeg) + (1 : Int32))) fun dy3 => (if (nr 3 (gi dy3 a0 45)) = 0 then if ib (((720 : Int32) * a1) + (4 : Int32)) 10080 then if ib (((720 : Int32) * a1) + (4 : Int32)) 10080 then bd (si dy3 (gr S a0 39) (((720 : Int32) * a1) + (4 : Int32)).toNatClampNeg (((gi dy3 (gr S a0 39) (((720 : Int32) * a1) + (4 : Int32)).toNatClampNeg) * (1103515245 : Int32)) + (12345 : Int32))) fun dy6 => (if (((((gi dy3 (gr S a0 39) (((720 : Int32) * a1) + (4 : Int32)).toNatClampNeg) * (1103515245 : Int32)) + (12345 : Int32)) >>> ((16 : Int32) &&& 31)) &&& (1 : Int32)) = 0 then some ((1 : Int32), dy6) else some ((0 : Int32), dy6)) else none else none else (if (((gi dy3 a0 46) >>> (((gi dy3 a0 47) - (1 : Int32)) &&& 31)) &&& (1 : Int32)) = 0 then some ((1 : Int32), dy3) else some ((0 : Int32), dy3))) else none else none) := rfl
noncomputable def F_X10_aimBy_65 (S : ST) (N : Nat) (x0 : Nat) (x1 : Int32) (dy : DY) : Option (Int32 × DY) := (F_X10_lotIsRight S N x0 x1 dy).bind fun u1 => (if u1.1 = 0 then some ((2 : Int32), u1.2) else some ((1 : Int32), u1.2))
theorem F_X10_aimBy_65_s (S : ST) (N : Nat) (x0 : Nat) (x1 : Int32) (dy : DY) : F_X10_aimBy_65 S N x0 x1 dy = ((F_X10_lotIsRight S N x0 x1 dy).bind fun u1 => (if u1.1 = 0 then some ((2 : Int32), u1.2) else some ((1 : Int32), u1.2))) := rfl
noncomputable def F_X10_aimBy_55 (S : ST) (N : Nat) (x0 : Nat) (x1 : Int32) (x3 : Int32) (dy : DY) : Option (Int32 × DY) := (if x3 = (3 : Int32) then (F_X10_aimBy_65 S N) x0 x1 dy else (if x3 = (4 : Int32) then (F_X10_aimBy_65 S N) x0 x1 dy else some (x3, dy)))
theorem F_X10_aimBy_55_s (S : ST) (N : Nat) (x0 : Nat) (x1 : Int32) (x3 : Int32) (dy : DY) : F_X10_aimBy_55 S N x0 x1 x3 dy = (if x3 = (3 : Int32) then (F_X10_aimBy_65 S N) x0 x1 dy else (if x3 = (4 : Int32) then (F_X10_aimBy_65 S N) x0 x1 dy else some (x3, dy))) := rfl
noncomputable def F_X10_aimBy (S : ST) (N : Nat) (a0 : Nat) (a1 : Int32) (a2 : Int32) (dy : DY) : Option (Int32 × DY) := (F_X10_isThere S N a0 a1 a2 dy).bind fun u1 => (if u1.1 = 0 then some ((5 : Int32), u1.2) else (F_X10_actBy S N a0 a1 a2 u1.2).bind fun u3 => (F_X10_at S N a1 a2 u3.2).bind fun u6 => if ib (u6.1 + (12 : Int32)) 10080 then (if u3.1 = (3 : Int32) then (if (gi u6.2 (gr S a0 39) (u6.1 + (12 : Int32)).toNatClampNeg) ≤ 0 then (F_X10_aimBy_55 S N) a0 a1 u3.1 u6.2 else (if (gi u6.2 (gr S a0 39) (u6.1 + (12 : Int32)).toNatClampNeg) = (1 : Int32) then some ((1 : Int32), u6.2) else some ((2 : Int32), u6.2))) else (F_X10_aimBy_55 S N) a0 a1 u3.1 u6.2) else none)
theorem F_X10_aimBy_s (S : ST) (N : Nat) (a0 : Nat) (a1 : Int32) (a2 : Int32) (dy : DY) : F_X10_aimBy S N a0 a1 a2 dy = ((F_X10_isThere S N a0 a1 a2 dy).bind fun u1 => (if u1.1 = 0 then some ((5 : Int32), u1.2) else (F_X10_actBy S N a0 a1 a2 u1.2).bind fun u3 => (F_X10_at S N a1 a2 u3.2).bind fun u6 => if ib (u6.1 + (12 : Int32)) 10080 then (if u3.1 = (3 : Int32) then (if (gi u6.2 (gr S a0 39) (u6.1 + (12 : Int32)).toNatClampNeg) ≤ 0 then (F_X10_aimBy_55 S N) a0 a1 u3.1 u6.2 else (if (gi u6.2 (gr S a0 39) (u6.1 + (12 : Int32)).toNatClampNeg) = (1 : Int32) then some ((1 : Int32), u6.2) else some ((2 : Int32), u6.2))) else (F_X10_aimBy_55 S N) a0 a1 u3.1 u6.2) else none)) := rfl
noncomputable def F_X10_areBeside (S : ST) (N : Nat) (a0 : Nat) (a1 : Int32) (a2 : Int32) (dy : DY) : Option (Int32 × DY) := (F_X10_at S N (4 : Int32) a1 dy).bind fun u1 => (F_X10_at S N (4 : Int32) a2 u1.2).bind fun u3 => if ib u1.1 10080 then if ib u3.1 10080 then if ib (u1.1 + (4 : Int32)) 10080 then if ib (u3.1 + (4 : Int32)) 10080 then if ib u1.1 10080 then (if (gi u3.2 (gr S a0 39) u1.1.toNatClampNeg) = (-1 : Int32) then some ((0 : Int32), u3.2) else if ib u3.1 10080 then (if (gi u3.2 (gr S a0 39) u3.1.toNatClampNeg) = (-1 : Int32) then some ((0 : Int32), u3.2) else (if ((((gi u3.2 (gr S a0 39) u1.1.toNatClampNeg) - (gi u3.2 (gr S a0 39) u3.1.toNatClampNeg)) * ((gi u3.2 (gr S a0 39) u1.1.toNatClampNeg) - (gi u3.2 (gr S a0 39) u3.1.toNatClampNeg))) + (((gi u3.2 (gr S a0 39) (u1.1 + (4 : Int32)).toNatClampNeg) - (gi u3.2 (gr S a0 39) (u3.1 + (4 : Int32)).toNatClampNeg)) * ((gi u3.2 (gr S a0 39) (u1.1 + (4 : Int32)).toNatClampNeg) - (gi u3.2 (gr S a0 39) (u3.1 + (4 : Int32)).toNatClampNeg)))) = (1 : Int32) then some ((1 : Int32), u3.2) else some ((0 : Int32), u3.2))) else none) else none else none else none else none else none
theorem F_X10_areBeside_s (S : ST) (N : Nat) (a0 : Nat) (a1 : Int32) (a2 : Int32) (dy : DY) : F_X10_areBeside S N a0 a1 a2 dy = ((F_X10_at S N (4 : Int32) a1 dy).bind fun u1 => (F_X10_at S N (4 : Int32) a2 u1.2).bind fun u3 => if ib u1.1 10080 then if ib u3.1 10080 then if ib (u1.1 + (4 : Int32)) 10080 then if ib (u3.1 + (4 : Int32)) 10080 then if ib u1.1 10080 then (if (gi u3.2 (gr S a0 39) u1.1.toNatClampNeg) = (-1 : Int32) then some ((0 : Int32), u3.2) else if ib u3.1 10080 then (if (gi u3.2 (gr S a0 39) u3.1.toNatClampNeg) = (-1 : Int32) then some ((0 : Int32), u3.2) else (if ((((gi u3.2 (gr S a0 39) u1.1.toNatClampNeg) - (gi u3.2 (gr S a0 39) u3.1.toNatClampNeg)) * ((gi u3.2 (gr S a0 39) u1.1.toNatClampNeg) - (gi u3.2 (gr S a0 39) u3.1.toNatClampNeg))) + (((gi u3.2 (gr S a0 39) (u1.1 + (4 : Int32)).toNatClampNeg) - (gi u3.2 (gr S a0 39) (u3.1 + (4 : Int32)).toNatClampNeg)) * ((gi u3.2 (gr S a0 39) (u1.1 + (4 : Int32)).toNatClampNeg) - (gi u3.2 (gr S a0 39) (u3.1 + (4 : Int32)).toNatClampNeg)))) = (1 : Int32) then some ((1 : Int32), u3.2) else some ((0 : Int32), u3.2))) else none) else none else none else none else none else none) := rfl
noncomputable def F_X10_lay_237 (S : ST) (N : Nat) (K176 : Nat → Int32 → Int32 → Int32 → Int32 → Int32 → Int32 → Int32 → Int32 → Int32 → Int32 → Int32 → DY → Option DY) (x0 : Nat) (x1 : Int32) (x2 : Int32) (x3 : Int32) (x5 : Int32) (x6 : Int32) (x7 : Int32) (x8 : Int32) (x9 : Int32) (x10 : Int32) (x11 : Int32) (x12 : Int32) (y0 : Nat) (y1 : Int32) (y2 : Int32) (dy : DY) : Option DY := if ib y1 10080 then bd (si dy y0 y1.toNatClampNeg y2) fun dy1 => K176 x0 x1 x2 x3 x5 x6 x7 x8 x9 x10 x11 (x12 + (1 : Int32)) dy1 else none
theorem F_X10_lay_237_s (S : ST) (N : Nat) (K176 : Nat → Int32 → Int32 → Int32 → Int32 → Int32 → Int32 → Int32 → Int32 → Int32 → Int32 → Int32 → DY → Option DY) (x0 : Nat) (x1 : Int32) (x2 : Int32) (x3 : Int32) (x5 : Int32) (x6 : Int32) (x7 : Int32) (x8 : Int32) (x9 : Int32) (x10 : Int32) (x11 : Int32) (x12 : Int32) (y0 : Nat) (y1 : Int32) (y2 : Int32) (dy : DY) : F_X10_lay_237 S N K176 x0 x1 x2 x3 x5 x6 x7 x8 x9 x10 x11 x12 y0 y1 y2 dy = (if ib y1 10080 then bd (si dy y0 y1.toNatClampNeg y2) fun dy1 => K176 x0 x1 x2 x3 x5 x6 x7 x8 x9 x10 x11 (x12 + (1 : Int32)) dy1 else none) := rfl
noncomputable def F_X10_lay_207 (S : ST) (N : Nat) (K176 : Nat → Int32 → Int32 → Int32 → Int32 → Int32 → Int32 → Int32 → Int32 → Int32 → Int32 → Int32 → DY → Option DY) (x0 : Nat) (x1 : Int32) (x2 : Int32) (x3 : Int32) (x5 : Int32) (x6 : Int32) (x7 : Int32) (x8 : Int32) (x9 : Int32) (x10 : Int32) (x11 : Int32) (x12 : Int32) (y0 : Nat) (y1 : Int32) (y2 : Int32) (dy : DY) : Option DY := if ib y1 10080 then bd (si dy y0 y1.toNatClampNeg y2) fun dy1 => (if x11 = 0 then if ib (x10 + (1 : Int32)) 1152 then (F_X10_lay_237 S N K176) x0 x1 x2 x3 x5 x6 x7 x8 x9 x10 x11 x12 (gr S x0 39) ((x9 + (4 : Int32)) + x12) (gi dy1 (gr S x0 11) (x10 + (1 : Int32)).toNatClampNeg) dy1 else none else (F_X10_lay_237 S N K176) x0 x1 x2 x3 x5 x6 x7 x8 x9 x10 x11 x12 (gr S x0 39) ((x9 + (4 : Int32)) + x12) (-1 : Int32) dy1) else none
theorem F_X10_lay_207_s (S : ST) (N : Nat) (K176 : Nat → Int32 → Int32 → Int32 → Int32 → Int32 → Int32 → Int32 → Int32 → Int32 → Int32 → Int32 → DY → Option DY) (x0 : Nat) (x1 : Int32) (x2 : Int32) (x3 : Int32) (x5 : Int32) (x6 : Int32) (x7 : Int32) (x8 : Int32) (x9 : Int32) (x10 : Int32) (x11 : Int32) (x12 : Int32) (y0 : Nat) (y1 : Int32) (y2 : Int32) (dy : DY) : F_X10_lay_207 S N K176 x0 x1 x2 x3 x5 x6 x7 x8 x9 x10 x11 x12 y0 y1 y2 dy = (if ib y1 10080 then bd (si dy y0 y1.toNatClampNeg y2) fun dy1 => (if x11 = 0 then if ib (x10 + (1 : Int32)) 1152 then (F_X10_lay_237 S N K176) x0 x1 x2 x3 x5 x6 x7 x8 x9 x10 x11 x12 (gr S x0 39) ((x9 + (4 : Int32)) + x12) (gi dy1 (gr S x0 11) (x10 + (1 : Int32)).toNatClampNeg) dy1 else none else (F_X10_lay_237 S N K176) x0 x1 x2 x3 x5 x6 x7 x8 x9 x10 x11 x12 (gr S x0 39) ((x9 + (4 : Int32)) + x12) (-1 : Int32) dy1) else none) := rfl
noncomputable def F_X10_lay_247 (S : ST) (N : Nat) (K121 : Nat → Int32 → Int32 → Int32 → Int32 → Int32 → Int32 → Int32 → DY → Option DY) : Nat → Nat → Int32 → Int32 → Int32 → Int32 → Int32 → Int32 → Int32 → Int32 → Int32 → Int32 → DY → Option DY := fun k => Nat.rec (motive := fun _ => Nat → Int32 → Int32 → Int32 → Int32 → Int32 → Int32 → Int32 → Int32 → Int32 → Int32 → DY → Option DY) (fun _ _ _ _ _ _ _ _ _ _ _ _ => none) (fun _ ih x0 x1 x2 x3 x5 x6 x7 x8 x9 x10 x12 dy => (if (8 : Int32) ≤ x12 then if ib (x9 + (14 : Int32)) 10080 then bd (si dy (gr S x0 39) (x9 + (14 : Int32)).toNatClampNeg (-1 : Int32)) fun dy2 => K121 x0 x1 x2 x3 x5 x6 x7 (x8 + (1 : Int32)) dy2 else none else if ib (x10 + x12) 1152 then if ib (((x9 + (8 : Int32)) + x12) - (2 : Int32)) 10080 then bd (si dy (gr S x0 39) (((x9 + (8 : Int32)) + x12) - (2 : Int32)).toNatClampNeg (gi dy (gr S x0 11) (x10 + x12).toNatClampNeg)) fun dy5 => ih x0 x1 x2 x3 x5 x6 x7 x8 x9 x10 (x12 + (1 : Int32)) dy5 else none else none)) k
theorem F_X10_lay_247_s (S : ST) (N : Nat) (K121 : Nat → Int32 → Int32 → Int32 → Int32 → Int32 → Int32 → Int32 → DY → Option DY) (k : Nat) (x0 : Nat) (x1 : Int32) (x2 : Int32) (x3 : Int32) (x5 : Int32) (x6 : Int32) (x7 : Int32) (x8 : Int32) (x9 : Int32) (x10 : Int32) (x12 : Int32) (dy : DY) : F_X10_lay_247 S N K121 (k + 1) x0 x1 x2 x3 x5 x6 x7 x8 x9 x10 x12 dy = (if (8 : Int32) ≤ x12 then if ib (x9 + (14 : Int32)) 10080 then bd (si dy (gr S x0 39) (x9 + (14 : Int32)).toNatClampNeg (-1 : Int32)) fun dy2 => K121 x0 x1 x2 x3 x5 x6 x7 (x8 + (1 : Int32)) dy2 else none else if ib (x10 + x12) 1152 then if ib (((x9 + (8 : Int32)) + x12) - (2 : Int32)) 10080 then bd (si dy (gr S x0 39) (((x9 + (8 : Int32)) + x12) - (2 : Int32)).toNatClampNeg (gi dy (gr S x0 11) (x10 + x12).toNatClampNeg)) fun dy5 => (F_X10_lay_247 S N K121 k) x0 x1 x2 x3 x5 x6 x7 x8 x9 x10 (x12 + (1 : Int32)) dy5 else none else none) := rfl
noncomputable def F_X10_lay_176 (S : ST) (N : Nat) (K121 : Nat → Int32 → Int32 → Int32 → Int32 → Int32 → Int32 → Int32 → DY → Option DY) : Nat → Nat → Int32 → Int32 → Int32 → Int32 → Int32 → Int32 → Int32 → Int32 → Int32 → Int32 → Int32 → DY → Option DY := fun k => Nat.rec (motive := fun _ => Nat → Int32 → Int32 → Int32 → Int32 → Int32 → Int32 → Int32 → Int32 → Int32 → Int32 → Int32 → DY → Option DY) (fun _ _ _ _ _ _ _ _ _ _ _ _ _ => none) (fun _ ih x0 x1 x2 x3 x5 x6 x7 x8 x9 x10 x11 x12 dy => (if (4 : Int32) ≤ x12 then (F_X10_lay_247 S N K121 N) x0 x1 x2 x3 x5 x6 x7 x8 x9 x10 (2 : Int32) dy else (if x11 = 0 then if ib x10 1152 then (F_X10_lay_207 S N ih) x0 x1 x2 x3 x5 x6 x7 x8 x9 x10 x11 x12 (gr S x0 39) (x9 + x12) (gi dy (gr S x0 11) x10.toNatClampNeg) dy else none else (F_X10_lay_207 S N ih) x0 x1 x2 x3 x5 x6 x7 x8 x9 x10 x11 x12 (gr S x0 39) (x9 + x12) (-1 : Int32) dy))) k
theorem F_X10_lay_176_s (S : ST) (N : Nat) (K121 : Nat → Int32 → Int32 → Int32 → Int32 → Int32 → Int32 → Int32 → DY → Option DY) (k : Nat) (x0 : Nat) (x1 : Int32) (x2 : Int32) (x3 : Int32) (x5 : Int32) (x6 : Int32) (x7 : Int32) (x8 : Int32) (x9 : Int32) (x10 : Int32) (x11 : Int32) (x12 : Int32) (dy : DY) : F_X10_lay_176 S N K121 (k + 1) x0 x1 x2 x3 x5 x6 x7 x8 x9 x10 x11 x12 dy = (if (4 : Int32) ≤ x12 then (F_X10_lay_247 S N K121 N) x0 x1 x2 x3 x5 x6 x7 x8 x9 x10 (2 : Int32) dy else (if x11 = 0 then if ib x10 1152 then (F_X10_lay_207 S N (F_X10_lay_176 S N K121 k)) x0 x1 x2 x3 x5 x6 x7 x8 x9 x10 x11 x12 (gr S x0 39) (x9 + x12) (gi dy (gr S x0 11) x10.toNatClampNeg) dy else none else (F_X10_lay_207 S N (F_X10_lay_176 S N K121 k)) x0 x1 x2 x3 x5 x6 x7 x8 x9 x10 x11 x12 (gr S x0 39) (x9 + x12) (-1 : Int32) dy)) := rfl
noncomputable def F_X10_lay_347 (S : ST) (N : Nat) : Nat → Nat → Int32 → Int32 → Int32 → DY → Option DY := fun k => Nat.rec (motive := fun _ => Nat → Int32 → Int32 → Int32 → DY → Option DY) (fun _ _ _ _ _ => none) (fun _ ih x0 x3 x7 x8 dy => (if (288 : Int32) ≤ x8 then some dy else if ib (((288 : Int32) * x3) + x8) 3456 then if ib ((x7 + (352 : Int32)) + x8) 10080 then bd (si dy (gr S x0 39) ((x7 + (352 : Int32)) + x8).toNatClampNeg (gi dy (gr S x0 14) (((288 : Int32) * x3) + x8).toNatClampNeg)) fun dy3 => ih x0 x3 x7 (x8 + (1 : Int32)) dy3 else none else none)) k
theorem F_X10_lay_347_s (S : ST) (N : Nat) (k : Nat) (x0 : Nat) (x3 : Int32) (x7 : Int32) (x8 : Int32) (dy : DY) : F_X10_lay_347 S N (k + 1) x0 x3 x7 x8 dy = (if (288 : Int32) ≤ x8 then some dy else if ib (((288 : Int32) * x3) + x8) 3456 then if ib ((x7 + (352 : Int32)) + x8) 10080 then bd (si dy (gr S x0 39) ((x7 + (352 : Int32)) + x8).toNatClampNeg (gi dy (gr S x0 14) (((288 : Int32) * x3) + x8).toNatClampNeg)) fun dy3 => (F_X10_lay_347 S N k) x0 x3 x7 (x8 + (1 : Int32)) dy3 else none else none) := rfl
noncomputable def F_X10_lay_305 (S : ST) (N : Nat) : Nat → Nat → Int32 → Int32 → Int32 → Int32 → DY → Option DY := fun k => Nat.rec (motive := fun _ => Nat → Int32 → Int32 → Int32 → Int32 → DY → Option DY) (fun _ _ _ _ _ _ => none) (fun _ ih x0 x2 x3 x7 x8 dy => (if (96 : Int32) ≤ x8 then (F_X10_lay_347 S N N) x0 x3 x7 (0 : Int32) dy else if ib (((96 : Int32) * x2) + x8) 1152 then if ib ((x7 + (256 : Int32)) + x8) 10080 then bd (si dy (gr S x0 39) ((x7 + (256 : Int32)) + x8).toNatClampNeg (gi dy (gr S x0 10) (((96 : Int32) * x2) + x8).toNatClampNeg)) fun dy3 => ih x0 x2 x3 x7 (x8 + (1 : Int32)) dy3 else none else none)) k
theorem F_X10_lay_305_s (S : ST) (N : Nat) (k : Nat) (x0 : Nat) (x2 : Int32) (x3 : Int32) (x7 : Int32) (x8 : Int32) (dy : DY) : F_X10_lay_305 S N (k + 1) x0 x2 x3 x7 x8 dy = (if (96 : Int32) ≤ x8 then (F_X10_lay_347 S N N) x0 x3 x7 (0 : Int32) dy else if ib (((96 : Int32) * x2) + x8) 1152 then if ib ((x7 + (256 : Int32)) + x8) 10080 then bd (si dy (gr S x0 39) ((x7 + (256 : Int32)) + x8).toNatClampNeg (gi dy (gr S x0 10) (((96 : Int32) * x2) + x8).toNatClampNeg)) fun dy3 => (F_X10_lay_305 S N k) x0 x2 x3 x7 (x8 + (1 : Int32)) dy3 else none else none) := rfl
noncomputable def F_X10_lay_121 (S : ST) (N : Nat) : Nat → Nat → Int32 → Int32 → Int32 → Int32 → Int32 → Int32 → Int32 → DY → Option DY := fun k => Nat.rec (motive := fun _ => Nat → Int32 → Int32 → Int32 → Int32 → Int32 → Int32 → Int32 → DY → Option DY) (fun _ _ _ _ _ _ _ _ _ => none) (fun _ ih x0 x1 x2 x3 x5 x6 x7 x8 dy => if ib x2 12 then (if (gi dy (gr S x0 8) x2.toNatClampNeg) ≤ x8 then (F_X10_lay_305 S N N) x0 x2 x3 x7 (0 : Int32) dy else (F_X10_at S N x1 x8 dy).bind fun u2 => (if x5 ≤ x8 then (F_X10_lay_176 S N ih N) x0 x1 x2 x3 x5 x6 x7 x8 u2.1 ((8 : Int32) * (((12 : Int32) * x2) + x8)) (1 : Int32) (0 : Int32) u2.2 else (if x8 = x6 then (F_X10_lay_176 S N ih N) x0 x1 x2 x3 x5 x6 x7 x8 u2.1 ((8 : Int32) * (((12 : Int32) * x2) + x8)) (1 : Int32) (0 : Int32) u2.2 else (F_X10_lay_176 S N ih N) x0 x1 x2 x3 x5 x6 x7 x8 u2.1 ((8 : Int32) * (((12 : Int32) * x2) + x8)) (0 : Int32) (0 : Int32) u2.2))) else none) k
theorem F_X10_lay_121_s (S : ST) (N : Nat) (k : Nat) (x0 : Nat) (x1 : Int32) (x2 : Int32) (x3 : Int32) (x5 : Int32) (x6 : Int32) (x7 : Int32) (x8 : Int32) (dy : DY) : F_X10_lay_121 S N (k + 1) x0 x1 x2 x3 x5 x6 x7 x8 dy = (if ib x2 12 then (if (gi dy (gr S x0 8) x2.toNatClampNeg) ≤ x8 then (F_X10_lay_305 S N N) x0 x2 x3 x7 (0 : Int32) dy else (F_X10_at S N x1 x8 dy).bind fun u2 => (if x5 ≤ x8 then (F_X10_lay_176 S N (F_X10_lay_121 S N k) N) x0 x1 x2 x3 x5 x6 x7 x8 u2.1 ((8 : Int32) * (((12 : Int32) * x2) + x8)) (1 : Int32) (0 : Int32) u2.2 else (if x8 = x6 then (F_X10_lay_176 S N (F_X10_lay_121 S N k) N) x0 x1 x2 x3 x5 x6 x7 x8 u2.1 ((8 : Int32) * (((12 : Int32) * x2) + x8)) (1 : Int32) (0 : Int32) u2.2 else (F_X10_lay_176 S N (F_X10_lay_121 S N k) N) x0 x1 x2 x3 x5 x6 x7 x8 u2.1 ((8 : Int32) * (((12 : Int32) * x2) + x8)) (0 : Int32) (0 : Int32) u2.2))) else none) := rfl
noncomputable def F_X10_lay_10 (S : ST) (N : Nat) : Nat → Nat → Int32 → Int32 → Int32 → Int32 → Int32 → Int32 → Int32 → Int32 → DY → Option DY := fun k => Nat.rec (motive := fun _ => Nat → Int32 → Int32 → Int32 → Int32 → Int32 → Int32 → Int32 → Int32 → DY → Option DY) (fun _ _ _ _ _ _ _ _ _ _ => none) (fun _ ih x0 x1 x2 x3 x4 x5 x6 x7 x8 dy => (if (720 : Int32) ≤ x8 then if ib x2 12 then if ib (x7 + (0 : Int32)) 10080 then bd (si dy (gr S x0 39) (x7 + (0 : Int32)).toNatClampNeg (gi dy (gr S x0 6) x2.toNatClampNeg)) fun dy3 => if ib x2 12 then if ib (x7 + (1 : Int32)) 10080 then bd (si dy3 (gr S x0 39) (x7 + (1 : Int32)).toNatClampNeg (gi dy3 (gr S x0 7) x2.toNatClampNeg)) fun dy6 => if ib x2 12 then if ib (x7 + (2 : Int32)) 10080 then bd (si dy6 (gr S x0 39) (x7 + (2 : Int32)).toNatClampNeg (gi dy6 (gr S x0 8) x2.toNatClampNeg)) fun dy9 => if ib (x7 + (4 : Int32)) 10080 then bd (si dy9 (gr S x0 39) (x7 + (4 : Int32)).toNatClampNeg x4) fun dy11 => if ib x3 12 then if ib (x7 + (9 : Int32)) 10080 then bd (si dy11 (gr S x0 39) (x7 + (9 : Int32)).toNatClampNeg (gi dy11 (gr S x0 13) x3.toNatClampNeg)) fun dy14 => if ib (x7 + (10 : Int32)) 10080 then bd (si dy14 (gr S x0 39) (x7 + (10 : Int32)).toNatClampNeg (1 : Int32)) fun dy16 => (F_X10_lay_121 S N N) x0 x1 x2 x3 x5 x6 x7 (0 : Int32) dy16 else none else none else none else none else none else none else none else none else none else none else if ib (x7 + x8) 10080 then bd (si dy (gr S x0 39) (x7 + x8).toNatClampNeg (0 : Int32)) fun dy18 => ih x0 x1 x2 x3 x4 x5 x6 x7 (x8 + (1 : Int32)) dy18 else none)) k
theorem F_X10_lay_10_s (S : ST) (N : Nat) (k : Nat) (x0 : Nat) (x1 : Int32) (x2 : Int32) (x3 : Int32) (x4 : Int32) (x5 : Int32) (x6 : Int32) (x7 : Int32) (x8 : Int32) (dy : DY) : F_X10_lay_10 S N (k + 1) x0 x1 x2 x3 x4 x5 x6 x7 x8 dy = (if (720 : Int32) ≤ x8 then if ib x2 12 then if ib (x7 + (0 : Int32)) 10080 then bd (si dy (gr S x0 39) (x7 + (0 : Int32)).toNatClampNeg (gi dy (gr S x0 6) x2.toNatClampNeg)) fun dy3 => if ib x2 12 then if ib (x7 + (1 : Int32)) 10080 then bd (si dy3 (gr S x0 39) (x7 + (1 : Int32)).toNatClampNeg (gi dy3 (gr S x0 7) x2.toNatClampNeg)) fun dy6 => if ib x2 12 then if ib (x7 + (2 : Int32)) 10080 then bd (si dy6 (gr S x0 39) (x7 + (2 : Int32)).toNatClampNeg (gi dy6 (gr S x0 8) x2.toNatClampNeg)) fun dy9 => if ib (x7 + (4 : Int32)) 10080 then bd (si dy9 (gr S x0 39) (x7 + (4 : Int32)).toNatClampNeg x4) fun dy11 => if ib x3 12 then if ib (x7 + (9 : Int32)) 10080 then bd (si dy11 (gr S x0 39) (x7 + (9 : Int32)).toNatClampNeg (gi dy11 (gr S x0 13) x3.toNatClampNeg)) fun dy14 => if ib (x7 + (10 : Int32)) 10080 then bd (si dy14 (gr S x0 39) (x7 + (10 : Int32)).toNatClampNeg (1 : Int32)) fun dy16 => (F_X10_lay_121 S N N) x0 x1 x2 x3 x5 x6 x7 (0 : Int32) dy16 else none else none else none else none else none else none else none else none else none else none else if ib (x7 + x8) 10080 then bd (si dy (gr S x0 39) (x7 + x8).toNatClampNeg (0 : Int32)) fun dy18 => (F_X10_lay_10 S N k) x0 x1 x2 x3 x4 x5 x6 x7 (x8 + (1 : Int32)) dy18 else none) := rfl
noncomputable def F_X10_lay (S : ST) (N : Nat) (a0 : Nat) (a1 : Int32) (a2 : Int32) (a3 : Int32) (a4 : Int32) (a5 : Int32) (a6 : Int32) (dy : DY) : Option DY := (F_X10_lay_10 S N N) a0 a1 a2 a3 a4 a5 a6 ((720 : Int32) * a1) (0 : Int32) dy
theorem F_X10_lay_s (S : ST) (N : Nat) (a0 : Nat) (a1 : Int32) (a2 : Int32) (a3 : Int32) (a4 : Int32) (a5 : Int32) (a6 : Int32) (dy : DY) : F_X10_lay S N a0 a1 a2 a3 a4 a5 a6 dy = ((F_X10_lay_10 S N N) a0 a1 a2 a3 a4 a5 a6 ((720 : Int32) * a1) (0 : Int32) dy) := rfl
noncomputable def F_X10_dance (S : ST) (N : Nat) (a0 : Nat) (a1 : Int32) (a2 : Int32) (a3 : Int32) (dy : DY) : Option (Int32 × DY) := (F_X10_at S N a1 a2 dy).bind fun u1 => (F_X10_at S N a1 a3 u1.2).bind fun u3 => if ib a2 12 then (if (gi u3.2 (gr S a0 44) a2.toNatClampNeg) = 0 then some ((0 : Int32), u3.2) else if ib a3 12 then (if (gi u3.2 (gr S a0 44) a3.toNatClampNeg) = 0 then some ((0 : Int32), u3.2) else if ib a2 12 then (if (gi u3.2 (gr S a0 43) a2.toNatClampNeg) = 0 then some ((0 : Int32), u3.2) else if ib a3 12 then (if (gi u3.2 (gr S a0 43) a3.toNatClampNeg) = 0 then some ((0 : Int32), u3.2) else if ib (u1.1 + (8 : Int32)) 10080 then if ib (u3.1 + (8 : Int32)) 10080 then (if (gi u3.2 (gr S a0 39) (u1.1 + (8 : Int32)).toNatClampNeg) = (gi u3.2 (gr S a0 39) (u3.1 + (8 : Int32)).toNatClampNeg) then some ((0 : Int32), u3.2) else if ib u1.1 10080 then if ib u3.1 10080 then (F_X10_in S N ((gi u3.2 (gr S a0 39) u1.1.toNatClampNeg) - (gi u3.2 (gr S a0 39) u3.1.toNatClampNeg)) (-2 : Int32) (2 : Int32) u3.2).bind fun u13 => (if u13.1 = 0 then some ((0 : Int32), u13.2) else if ib (u1.1 + (4 : Int32)) 10080 then if ib (u3.1 + (4 : Int32)) 10080 then (if (gi u13.2 (gr S a0 39) (u1.1 + (4 : Int32)).toNatClampNeg) = (gi u13.2 (gr S a0 39) (u3.1 + (4 : Int32)).toNatClampNeg) then if ib a2 12 then if ib a3 12 then (if (gi u13.2 (gr S a0 49) a2.toNatClampNeg) = (gi u13.2 (gr S a0 49) a3.toNatClampNeg) then some ((1 : Int32), u13.2) else some ((0 : Int32), u13.2)) else none else none else some ((0 : Int32), u13.2)) else none else none) else none else none) else none else none) else none) else none) else none) else none
theorem F_X10_dance_s (S : ST) (N : Nat) (a0 : Nat) (a1 : Int32) (a2 : Int32) (a3 : Int32) (dy : DY) : F_X10_dance S N a0 a1 a2 a3 dy = ((F_X10_at S N a1 a2 dy).bind fun u1 => (F_X10_at S N a1 a3 u1.2).bind fun u3 => if ib a2 12 then (if (gi u3.2 (gr S a0 44) a2.toNatClampNeg) = 0 then some ((0 : Int32), u3.2) else if ib a3 12 then (if (gi u3.2 (gr S a0 44) a3.toNatClampNeg) = 0 then some ((0 : Int32), u3.2) else if ib a2 12 then (if (gi u3.2 (gr S a0 43) a2.toNatClampNeg) = 0 then some ((0 : Int32), u3.2) else if ib a3 12 then (if (gi u3.2 (gr S a0 43) a3.toNatClampNeg) = 0 then some ((0 : Int32), u3.2) else if ib (u1.1 + (8 : Int32)) 10080 then if ib (u3.1 + (8 : Int32)) 10080 then (if (gi u3.2 (gr S a0 39) (u1.1 + (8 : Int32)).toNatClampNeg) = (gi u3.2 (gr S a0 39) (u3.1 + (8 : Int32)).toNatClampNeg) then some ((0 : Int32), u3.2) else if ib u1.1 10080 then if ib u3.1 10080 then (F_X10_in S N ((gi u3.2 (gr S a0 39) u1.1.toNatClampNeg) - (gi u3.2 (gr S a0 39) u3.1.toNatClampNeg)) (-2 : Int32) (2 : Int32) u3.2).bind fun u13 => (if u13.1 = 0 then some ((0 : Int32), u13.2) else if ib (u1.1 + (4 : Int32)) 10080 then if ib (u3.1 + (4 : Int32)) 10080 then (if (gi u13.2 (gr S a0 39) (u1.1 + (4 : Int32)).toNatClampNeg) = (gi u13.2 (gr S a0 39) (u3.1 + (4 : Int32)).toNatClampNeg) then if ib a2 12 then if ib a3 12 then (if (gi u13.2 (gr S a0 49) a2.toNatClampNeg) = (gi u13.2 (gr S a0 49) a3.toNatClampNeg) then some ((1 : Int32), u13.2) else some ((0 : Int32), u13.2)) else none else none else some ((0 : Int32), u13.2)) else none else none) else none else none) else none else none) else none) else none) else none) else none) := rfl
noncomputable def F_X10_ends_137 (S : ST) (N : Nat) (y0 : Nat) (y1 : Int32) (y2 : Int32) (dy : DY) : Option DY := if ib y1 10080 then bd (si dy y0 y1.toNatClampNeg y2) fun dy1 => some dy1 else none
theorem F_X10_ends_137_s (S : ST) (N : Nat) (y0 : Nat) (y1 : Int32) (y2 : Int32) (dy : DY) : F_X10_ends_137 S N y0 y1 y2 dy = (if ib y1 10080 then bd (si dy y0 y1.toNatClampNeg y2) fun dy1 => some dy1 else none) := rfl
noncomputable def F_X10_ends_2 (S : ST) (N : Nat) : Nat → Nat → Int32 → Int32 → Int32 → DY → Option DY := fun k => Nat.rec (motive := fun _ => Nat → Int32 → Int32 → Int32 → DY → Option DY) (fun _ _ _ _ _ => none) (fun _ ih x0 x1 x2 x3 dy => (if x3 ≤ 0 then if ib x2 12 then if ib x1 10080 then bd (si dy (gr S x0 39) x1.toNatClampNeg (gi dy (gr S x0 48) x2.toNatClampNeg)) fun dy3 => if ib x2 12 then if ib (x1 + (4 : Int32)) 10080 then bd (si dy3 (gr S x0 39) (x1 + (4 : Int32)).toNatClampNeg (gi dy3 (gr S x0 49) x2.toNatClampNeg)) fun dy6 => if ib x2 12 then (if (gi dy6 (gr S x0 44) x2.toNatClampNeg) = (1 : Int32) then (F_X10_ends_137 S N) (gr S x0 39) (x1 + (18 : Int32)) (0 : Int32) dy6 else if ib (x1 + (18 : Int32)) 10080 then (if (99 : Int32) ≤ (gi dy6 (gr S x0 39) (x1 + (18 : Int32)).toNatClampNeg) then if ib (x1 + (18 : Int32)) 10080 then (F_X10_ends_137 S N) (gr S x0 39) (x1 + (18 : Int32)) (gi dy6 (gr S x0 39) (x1 + (18 : Int32)).toNatClampNeg) dy6 else none else if ib (x1 + (18 : Int32)) 10080 then (F_X10_ends_137 S N) (gr S x0 39) (x1 + (18 : Int32)) ((gi dy6 (gr S x0 39) (x1 + (18 : Int32)).toNatClampNeg) + (1 : Int32)) dy6 else none) else none) else none else none else none else none else none else if ib ((x1 + x3) - (1 : Int32)) 10080 then if ib (x1 + x3) 10080 then bd (si dy (gr S x0 39) (x1 + x3).toNatClampNeg (gi dy (gr S x0 39) ((x1 + x3) - (1 : Int32)).toNatClampNeg)) fun dy14 => if ib (((x1 + (4 : Int32)) + x3) - (1 : Int32)) 10080 then if ib ((x1 + (4 : Int32)) + x3) 10080 then bd (si dy14 (gr S x0 39) ((x1 + (4 : Int32)) + x3).toNatClampNeg (gi dy14 (gr S x0 39) (((x1 + (4 : Int32)) + x3) - (1 : Int32)).toNatClampNeg)) fun dy17 => ih x0 x1 x2 (x3 + (-1 : Int32)) dy17 else none else none else none else none)) k
theorem F_X10_ends_2_s (S : ST) (N : Nat) (k : Nat) (x0 : Nat) (x1 : Int32) (x2 : Int32) (x3 : Int32) (dy : DY) : F_X10_ends_2 S N (k + 1) x0 x1 x2 x3 dy = (if x3 ≤ 0 then if ib x2 12 then if ib x1 10080 then bd (si dy (gr S x0 39) x1.toNatClampNeg (gi dy (gr S x0 48) x2.toNatClampNeg)) fun dy3 => if ib x2 12 then if ib (x1 + (4 : Int32)) 10080 then bd (si dy3 (gr S x0 39) (x1 + (4 : Int32)).toNatClampNeg (gi dy3 (gr S x0 49) x2.toNatClampNeg)) fun dy6 => if ib x2 12 then (if (gi dy6 (gr S x0 44) x2.toNatClampNeg) = (1 : Int32) then (F_X10_ends_137 S N) (gr S x0 39) (x1 + (18 : Int32)) (0 : Int32) dy6 else if ib (x1 + (18 : Int32)) 10080 then (if (99 : Int32) ≤ (gi dy6 (gr S x0 39) (x1 + (18 : Int32)).toNatClampNeg) then if ib (x1 + (18 : Int32)) 10080 then (F_X10_ends_137 S N) (gr S x0 39) (x1 + (18 : Int32)) (gi dy6 (gr S x0 39) (x1 + (18 : Int32)).toNatClampNeg) dy6 else none else if ib (x1 + (18 : Int32)) 10080 then (F_X10_ends_137 S N) (gr S x0 39) (x1 + (18 : Int32)) ((gi dy6 (gr S x0 39) (x1 + (18 : Int32)).toNatClampNeg) + (1 : Int32)) dy6 else none) else none) else none else none else none else none else none else if ib ((x1 + x3) - (1 : Int32)) 10080 then if ib (x1 + x3) 10080 then bd (si dy (gr S x0 39) (x1 + x3).toNatClampNeg (gi dy (gr S x0 39) ((x1 + x3) - (1 : Int32)).toNatClampNeg)) fun dy14 => if ib (((x1 + (4 : Int32)) + x3) - (1 : Int32)) 10080 then if ib ((x1 + (4 : Int32)) + x3) 10080 then bd (si dy14 (gr S x0 39) ((x1 + (4 : Int32)) + x3).toNatClampNeg (gi dy14 (gr S x0 39) (((x1 + (4 : Int32)) + x3) - (1 : Int32)).toNatClampNeg)) fun dy17 => (F_X10_ends_2 S N k) x0 x1 x2 (x3 + (-1 : Int32)) dy17 else none else none else none else none) := rfl
noncomputable def F_X10_ends (S : ST) (N : Nat) (a0 : Nat) (a1 : Int32) (a2 : Int32) (dy : DY) : Option DY := (F_X10_ends_2 S N N) a0 a1 a2 (3 : Int32) dy
theorem F_X10_ends_s (S : ST) (N : Nat) (a0 : Nat) (a1 : Int32) (a2 : Int32) (dy : DY) : F_X10_ends S N a0 a1 a2 dy = ((F_X10_ends_2 S N N) a0 a1 a2 (3 : Int32) dy) := rfl
theorem dX10_in_0 : decode cX10_in 0 = .ok (.iload_n 0, 1) := by decide +kernel
theorem dX10_in_1 : decode cX10_in 1 = .ok (.iload_n 1, 1) := by decide +kernel
theorem dX10_in_2 : decode cX10_in 2 = .ok (.if_icmp .lt 12, 3) := by decide +kernel
theorem dX10_in_5 : decode cX10_in 5 = .ok (.iload_n 0, 1) := by decide +kernel
theorem dX10_in_6 : decode cX10_in 6 = .ok (.iload_n 2, 1) := by decide +kernel
theorem dX10_in_7 : decode cX10_in 7 = .ok (.if_icmp .gt 7, 3) := by decide +kernel
theorem dX10_in_10 : decode cX10_in 10 = .ok (.iconst 1, 1) := by decide +kernel
theorem dX10_in_11 : decode cX10_in 11 = .ok (.goto 4, 3) := by decide +kernel
theorem dX10_in_14 : decode cX10_in 14 = .ok (.iconst 0, 1) := by decide +kernel
theorem dX10_in_15 : decode cX10_in 15 = .ok (.ireturn, 1) := by decide +kernel
theorem dX10_isPassage_0 : decode cX10_isPassage 0 = .ok (.iload_n 1, 1) := by decide +kernel
theorem dX10_isPassage_1 : decode cX10_isPassage 1 = .ok (.iconst 0, 1) := by decide +kernel
theorem dX10_isPassage_2 : decode cX10_isPassage 2 = .ok (.aload_n 0, 1) := by decide +kernel
theorem dX10_isPassage_3 : decode cX10_isPassage 3 = .ok (.getfield 23, 3) := by decide +kernel
theorem dX10_isPassage_6 : decode cX10_isPassage 6 = .ok (.iconst 0, 1) := by decide +kernel
theorem dX10_isPassage_7 : decode cX10_isPassage 7 = .ok (.iaload, 1) := by decide +kernel
theorem dX10_isPassage_8 : decode cX10_isPassage 8 = .ok (.iconst 1, 1) := by decide +kernel
theorem dX10_isPassage_9 : decode cX10_isPassage 9 = .ok (.isub, 1) := by decide +kernel
theorem dX10_isPassage_10 : decode cX10_isPassage 10 = .ok (.invokestatic 129, 3) := by decide +kernel
theorem dX10_isPassage_13 : decode cX10_isPassage 13 = .ok (.ireturn, 1) := by decide +kernel
theorem dX10_about_0 : decode cX10_about 0 = .ok (.aload_n 0, 1) := by decide +kernel
theorem dX10_about_1 : decode cX10_about 1 = .ok (.iconst 0, 1) := by decide +kernel
theorem dX10_about_2 : decode cX10_about 2 = .ok (.putfield 121, 3) := by decide +kernel
theorem dX10_about_5 : decode cX10_about 5 = .ok (.aload_n 0, 1) := by decide +kernel
theorem dX10_about_6 : decode cX10_about 6 = .ok (.iload_n 1, 1) := by decide +kernel
theorem dX10_about_7 : decode cX10_about 7 = .ok (.invokevirtual 270, 3) := by decide +kernel
theorem dX10_about_10 : decode cX10_about 10 = .ok (.ifCond .ne 5, 3) := by decide +kernel
theorem dX10_about_13 : decode cX10_about 13 = .ok (.iconst (-1), 1) := by decide +kernel
theorem dX10_about_14 : decode cX10_about 14 = .ok (.ireturn, 1) := by decide +kernel
theorem dX10_about_15 : decode cX10_about 15 = .ok (.iload_n 2, 1) := by decide +kernel
theorem dX10_about_16 : decode cX10_about 16 = .ok (.ifCond .ne 12, 3) := by decide +kernel
theorem dX10_about_19 : decode cX10_about 19 = .ok (.aload_n 0, 1) := by decide +kernel
theorem dX10_about_20 : decode cX10_about 20 = .ok (.getfield 26, 3) := by decide +kernel
theorem dX10_about_23 : decode cX10_about 23 = .ok (.iload_n 1, 1) := by decide +kernel
theorem dX10_about_24 : decode cX10_about 24 = .ok (.iaload, 1) := by decide +kernel
theorem dX10_about_25 : decode cX10_about 25 = .ok (.goto 46, 3) := by decide +kernel
theorem dX10_about_28 : decode cX10_about 28 = .ok (.iload_n 2, 1) := by decide +kernel
theorem dX10_about_29 : decode cX10_about 29 = .ok (.iconst 1, 1) := by decide +kernel
theorem dX10_about_30 : decode cX10_about 30 = .ok (.if_icmp .ne 12, 3) := by decide +kernel
theorem dX10_about_33 : decode cX10_about 33 = .ok (.aload_n 0, 1) := by decide +kernel
theorem dX10_about_34 : decode cX10_about 34 = .ok (.getfield 29, 3) := by decide +kernel
theorem dX10_about_37 : decode cX10_about 37 = .ok (.iload_n 1, 1) := by decide +kernel
theorem dX10_about_38 : decode cX10_about 38 = .ok (.iaload, 1) := by decide +kernel
theorem dX10_about_39 : decode cX10_about 39 = .ok (.goto 32, 3) := by decide +kernel
theorem dX10_about_42 : decode cX10_about 42 = .ok (.iload_n 2, 1) := by decide +kernel
theorem dX10_about_43 : decode cX10_about 43 = .ok (.iconst 2, 1) := by decide +kernel
theorem dX10_about_44 : decode cX10_about 44 = .ok (.if_icmp .ne 12, 3) := by decide +kernel
theorem dX10_about_47 : decode cX10_about 47 = .ok (.aload_n 0, 1) := by decide +kernel
theorem dX10_about_48 : decode cX10_about 48 = .ok (.getfield 32, 3) := by decide +kernel
theorem dX10_about_51 : decode cX10_about 51 = .ok (.iload_n 1, 1) := by decide +kernel
theorem dX10_about_52 : decode cX10_about 52 = .ok (.iaload, 1) := by decide +kernel
theorem dX10_about_53 : decode cX10_about 53 = .ok (.goto 18, 3) := by decide +kernel
theorem dX10_about_56 : decode cX10_about 56 = .ok (.iload_n 2, 1) := by decide +kernel
theorem dX10_about_57 : decode cX10_about 57 = .ok (.iconst 3, 1) := by decide +kernel
theorem dX10_about_58 : decode cX10_about 58 = .ok (.if_icmp .ne 12, 3) := by decide +kernel
theorem dX10_about_61 : decode cX10_about 61 = .ok (.aload_n 0, 1) := by decide +kernel
theorem dX10_about_62 : decode cX10_about 62 = .ok (.getfield 35, 3) := by decide +kernel
theorem dX10_about_65 : decode cX10_about 65 = .ok (.iload_n 1, 1) := by decide +kernel
theorem dX10_about_66 : decode cX10_about 66 = .ok (.iaload, 1) := by decide +kernel
theorem dX10_about_67 : decode cX10_about 67 = .ok (.goto 4, 3) := by decide +kernel
theorem dX10_about_70 : decode cX10_about 70 = .ok (.iconst (-1), 1) := by decide +kernel
theorem dX10_about_71 : decode cX10_about 71 = .ok (.ireturn, 1) := by decide +kernel
theorem dX10_at_0 : decode cX10_at 0 = .ok (.sipush 720, 3) := by decide +kernel
theorem dX10_at_3 : decode cX10_at 3 = .ok (.iload_n 0, 1) := by decide +kernel
theorem dX10_at_4 : decode cX10_at 4 = .ok (.imul, 1) := by decide +kernel
theorem dX10_at_5 : decode cX10_at 5 = .ok (.bipush 16, 2) := by decide +kernel
theorem dX10_at_7 : decode cX10_at 7 = .ok (.iadd, 1) := by decide +kernel
theorem dX10_at_8 : decode cX10_at 8 = .ok (.bipush 20, 2) := by decide +kernel
theorem dX10_at_10 : decode cX10_at 10 = .ok (.iload_n 1, 1) := by decide +kernel
theorem dX10_at_11 : decode cX10_at 11 = .ok (.imul, 1) := by decide +kernel
theorem dX10_at_12 : decode cX10_at 12 = .ok (.iadd, 1) := by decide +kernel
theorem dX10_at_13 : decode cX10_at 13 = .ok (.ireturn, 1) := by decide +kernel
theorem dX10_isInside_0 : decode cX10_isInside 0 = .ok (.iload_n 2, 1) := by decide +kernel
theorem dX10_isInside_1 : decode cX10_isInside 1 = .ok (.iconst 0, 1) := by decide +kernel
theorem dX10_isInside_2 : decode cX10_isInside 2 = .ok (.aload_n 0, 1) := by decide +kernel
theorem dX10_isInside_3 : decode cX10_isInside 3 = .ok (.getfield 71, 3) := by decide +kernel
theorem dX10_isInside_6 : decode cX10_isInside 6 = .ok (.sipush 720, 3) := by decide +kernel
theorem dX10_isInside_9 : decode cX10_isInside 9 = .ok (.iload_n 1, 1) := by decide +kernel
theorem dX10_isInside_10 : decode cX10_isInside 10 = .ok (.imul, 1) := by decide +kernel
theorem dX10_isInside_11 : decode cX10_isInside 11 = .ok (.iconst 0, 1) := by decide +kernel
theorem dX10_isInside_12 : decode cX10_isInside 12 = .ok (.iadd, 1) := by decide +kernel
theorem dX10_isInside_13 : decode cX10_isInside 13 = .ok (.iaload, 1) := by decide +kernel
theorem dX10_isInside_14 : decode cX10_isInside 14 = .ok (.iconst 1, 1) := by decide +kernel
theorem dX10_isInside_15 : decode cX10_isInside 15 = .ok (.isub, 1) := by decide +kernel
theorem dX10_isInside_16 : decode cX10_isInside 16 = .ok (.invokestatic 129, 3) := by decide +kernel
theorem dX10_isInside_19 : decode cX10_isInside 19 = .ok (.ifCond .eq 29, 3) := by decide +kernel
theorem dX10_isInside_22 : decode cX10_isInside 22 = .ok (.iload_n 3, 1) := by decide +kernel
theorem dX10_isInside_23 : decode cX10_isInside 23 = .ok (.iconst 0, 1) := by decide +kernel
theorem dX10_isInside_24 : decode cX10_isInside 24 = .ok (.aload_n 0, 1) := by decide +kernel
theorem dX10_isInside_25 : decode cX10_isInside 25 = .ok (.getfield 71, 3) := by decide +kernel
theorem dX10_isInside_28 : decode cX10_isInside 28 = .ok (.sipush 720, 3) := by decide +kernel
theorem dX10_isInside_31 : decode cX10_isInside 31 = .ok (.iload_n 1, 1) := by decide +kernel
theorem dX10_isInside_32 : decode cX10_isInside 32 = .ok (.imul, 1) := by decide +kernel
theorem dX10_isInside_33 : decode cX10_isInside 33 = .ok (.iconst 1, 1) := by decide +kernel
theorem dX10_isInside_34 : decode cX10_isInside 34 = .ok (.iadd, 1) := by decide +kernel
theorem dX10_isInside_35 : decode cX10_isInside 35 = .ok (.iaload, 1) := by decide +kernel
theorem dX10_isInside_36 : decode cX10_isInside 36 = .ok (.iconst 1, 1) := by decide +kernel
theorem dX10_isInside_37 : decode cX10_isInside 37 = .ok (.isub, 1) := by decide +kernel
theorem dX10_isInside_38 : decode cX10_isInside 38 = .ok (.invokestatic 129, 3) := by decide +kernel
theorem dX10_isInside_41 : decode cX10_isInside 41 = .ok (.ifCond .eq 7, 3) := by decide +kernel
theorem dX10_isInside_44 : decode cX10_isInside 44 = .ok (.iconst 1, 1) := by decide +kernel
theorem dX10_isInside_45 : decode cX10_isInside 45 = .ok (.goto 4, 3) := by decide +kernel
theorem dX10_isInside_48 : decode cX10_isInside 48 = .ok (.iconst 0, 1) := by decide +kernel
theorem dX10_isInside_49 : decode cX10_isInside 49 = .ok (.ireturn, 1) := by decide +kernel
theorem dX10_isWall_0 : decode cX10_isWall 0 = .ok (.aload_n 0, 1) := by decide +kernel
theorem dX10_isWall_1 : decode cX10_isWall 1 = .ok (.getfield 71, 3) := by decide +kernel
theorem dX10_isWall_4 : decode cX10_isWall 4 = .ok (.sipush 720, 3) := by decide +kernel
theorem dX10_isWall_7 : decode cX10_isWall 7 = .ok (.iload_n 1, 1) := by decide +kernel
theorem dX10_isWall_8 : decode cX10_isWall 8 = .ok (.imul, 1) := by decide +kernel
theorem dX10_isWall_9 : decode cX10_isWall 9 = .ok (.sipush 256, 3) := by decide +kernel
theorem dX10_isWall_12 : decode cX10_isWall 12 = .ok (.iadd, 1) := by decide +kernel
theorem dX10_isWall_13 : decode cX10_isWall 13 = .ok (.bipush 6, 2) := by decide +kernel
theorem dX10_isWall_15 : decode cX10_isWall 15 = .ok (.iload_n 2, 1) := by decide +kernel
theorem dX10_isWall_16 : decode cX10_isWall 16 = .ok (.imul, 1) := by decide +kernel
theorem dX10_isWall_17 : decode cX10_isWall 17 = .ok (.iadd, 1) := by decide +kernel
theorem dX10_isWall_18 : decode cX10_isWall 18 = .ok (.iload_n 3, 1) := by decide +kernel
theorem dX10_isWall_19 : decode cX10_isWall 19 = .ok (.iadd, 1) := by decide +kernel
theorem dX10_isWall_20 : decode cX10_isWall 20 = .ok (.iaload, 1) := by decide +kernel
theorem dX10_isWall_21 : decode cX10_isWall 21 = .ok (.iconst 1, 1) := by decide +kernel
theorem dX10_isWall_22 : decode cX10_isWall 22 = .ok (.if_icmp .ne 7, 3) := by decide +kernel
theorem dX10_isWall_25 : decode cX10_isWall 25 = .ok (.iconst 1, 1) := by decide +kernel
theorem dX10_isWall_26 : decode cX10_isWall 26 = .ok (.goto 4, 3) := by decide +kernel
theorem dX10_isWall_29 : decode cX10_isWall 29 = .ok (.iconst 0, 1) := by decide +kernel
theorem dX10_isWall_30 : decode cX10_isWall 30 = .ok (.ireturn, 1) := by decide +kernel
theorem dX10_seenOn_0 : decode cX10_seenOn 0 = .ok (.iconst 0, 1) := by decide +kernel
theorem dX10_seenOn_1 : decode cX10_seenOn 1 = .ok (.istore 5, 2) := by decide +kernel
theorem dX10_seenOn_3 : decode cX10_seenOn 3 = .ok (.iload 5, 2) := by decide +kernel
theorem dX10_seenOn_5 : decode cX10_seenOn 5 = .ok (.aload_n 0, 1) := by decide +kernel
theorem dX10_seenOn_6 : decode cX10_seenOn 6 = .ok (.getfield 71, 3) := by decide +kernel
theorem dX10_seenOn_9 : decode cX10_seenOn 9 = .ok (.sipush 720, 3) := by decide +kernel
theorem dX10_seenOn_12 : decode cX10_seenOn 12 = .ok (.iload_n 1, 1) := by decide +kernel
theorem dX10_seenOn_13 : decode cX10_seenOn 13 = .ok (.imul, 1) := by decide +kernel
theorem dX10_seenOn_14 : decode cX10_seenOn 14 = .ok (.iconst 2, 1) := by decide +kernel
theorem dX10_seenOn_15 : decode cX10_seenOn 15 = .ok (.iadd, 1) := by decide +kernel
theorem dX10_seenOn_16 : decode cX10_seenOn 16 = .ok (.iaload, 1) := by decide +kernel
theorem dX10_seenOn_17 : decode cX10_seenOn 17 = .ok (.if_icmp .ge 52, 3) := by decide +kernel
theorem dX10_seenOn_20 : decode cX10_seenOn 20 = .ok (.iload 5, 2) := by decide +kernel
theorem dX10_seenOn_22 : decode cX10_seenOn 22 = .ok (.iload_n 2, 1) := by decide +kernel
theorem dX10_seenOn_23 : decode cX10_seenOn 23 = .ok (.if_icmp .eq 40, 3) := by decide +kernel
theorem dX10_seenOn_26 : decode cX10_seenOn 26 = .ok (.aload_n 0, 1) := by decide +kernel
theorem dX10_seenOn_27 : decode cX10_seenOn 27 = .ok (.getfield 74, 3) := by decide +kernel
theorem dX10_seenOn_30 : decode cX10_seenOn 30 = .ok (.iload 5, 2) := by decide +kernel
theorem dX10_seenOn_32 : decode cX10_seenOn 32 = .ok (.iaload, 1) := by decide +kernel
theorem dX10_seenOn_33 : decode cX10_seenOn 33 = .ok (.iload_n 3, 1) := by decide +kernel
theorem dX10_seenOn_34 : decode cX10_seenOn 34 = .ok (.if_icmp .ne 29, 3) := by decide +kernel
theorem dX10_seenOn_37 : decode cX10_seenOn 37 = .ok (.aload_n 0, 1) := by decide +kernel
theorem dX10_seenOn_38 : decode cX10_seenOn 38 = .ok (.getfield 77, 3) := by decide +kernel
theorem dX10_seenOn_41 : decode cX10_seenOn 41 = .ok (.iload 5, 2) := by decide +kernel
theorem dX10_seenOn_43 : decode cX10_seenOn 43 = .ok (.iaload, 1) := by decide +kernel
theorem dX10_seenOn_44 : decode cX10_seenOn 44 = .ok (.iload 4, 2) := by decide +kernel
theorem dX10_seenOn_46 : decode cX10_seenOn 46 = .ok (.if_icmp .ne 17, 3) := by decide +kernel
theorem dX10_seenOn_49 : decode cX10_seenOn 49 = .ok (.aload_n 0, 1) := by decide +kernel
theorem dX10_seenOn_50 : decode cX10_seenOn 50 = .ok (.getfield 74, 3) := by decide +kernel
theorem dX10_seenOn_53 : decode cX10_seenOn 53 = .ok (.iload 5, 2) := by decide +kernel
theorem dX10_seenOn_55 : decode cX10_seenOn 55 = .ok (.iaload, 1) := by decide +kernel
theorem dX10_seenOn_56 : decode cX10_seenOn 56 = .ok (.iconst (-1), 1) := by decide +kernel
theorem dX10_seenOn_57 : decode cX10_seenOn 57 = .ok (.if_icmp .eq 6, 3) := by decide +kernel
theorem dX10_seenOn_60 : decode cX10_seenOn 60 = .ok (.iload 5, 2) := by decide +kernel
theorem dX10_seenOn_62 : decode cX10_seenOn 62 = .ok (.ireturn, 1) := by decide +kernel
theorem dX10_seenOn_63 : decode cX10_seenOn 63 = .ok (.iinc 5 1, 3) := by decide +kernel
theorem dX10_seenOn_66 : decode cX10_seenOn 66 = .ok (.goto (-63), 3) := by decide +kernel
theorem dX10_seenOn_69 : decode cX10_seenOn 69 = .ok (.iconst (-1), 1) := by decide +kernel
theorem dX10_seenOn_70 : decode cX10_seenOn 70 = .ok (.ireturn, 1) := by decide +kernel
theorem dX10_freeOn_0 : decode cX10_freeOn 0 = .ok (.aload_n 0, 1) := by decide +kernel
theorem dX10_freeOn_1 : decode cX10_freeOn 1 = .ok (.getfield 71, 3) := by decide +kernel
theorem dX10_freeOn_4 : decode cX10_freeOn 4 = .ok (.iload_n 1, 1) := by decide +kernel
theorem dX10_freeOn_5 : decode cX10_freeOn 5 = .ok (.iload_n 2, 1) := by decide +kernel
theorem dX10_freeOn_6 : decode cX10_freeOn 6 = .ok (.invokestatic 332, 3) := by decide +kernel
theorem dX10_freeOn_9 : decode cX10_freeOn 9 = .ok (.iaload, 1) := by decide +kernel
theorem dX10_freeOn_10 : decode cX10_freeOn 10 = .ok (.istore 6, 2) := by decide +kernel
theorem dX10_freeOn_12 : decode cX10_freeOn 12 = .ok (.aload_n 0, 1) := by decide +kernel
theorem dX10_freeOn_13 : decode cX10_freeOn 13 = .ok (.getfield 71, 3) := by decide +kernel
theorem dX10_freeOn_16 : decode cX10_freeOn 16 = .ok (.iload_n 1, 1) := by decide +kernel
theorem dX10_freeOn_17 : decode cX10_freeOn 17 = .ok (.iload_n 2, 1) := by decide +kernel
theorem dX10_freeOn_18 : decode cX10_freeOn 18 = .ok (.invokestatic 332, 3) := by decide +kernel
theorem dX10_freeOn_21 : decode cX10_freeOn 21 = .ok (.iconst 4, 1) := by decide +kernel
theorem dX10_freeOn_22 : decode cX10_freeOn 22 = .ok (.iadd, 1) := by decide +kernel
theorem dX10_freeOn_23 : decode cX10_freeOn 23 = .ok (.iaload, 1) := by decide +kernel
theorem dX10_freeOn_24 : decode cX10_freeOn 24 = .ok (.istore 7, 2) := by decide +kernel
theorem dX10_freeOn_26 : decode cX10_freeOn 26 = .ok (.aload_n 0, 1) := by decide +kernel
theorem dX10_freeOn_27 : decode cX10_freeOn 27 = .ok (.iconst (-1), 1) := by decide +kernel
theorem dX10_freeOn_28 : decode cX10_freeOn 28 = .ok (.putfield 336, 3) := by decide +kernel
theorem dX10_freeOn_31 : decode cX10_freeOn 31 = .ok (.iconst 0, 1) := by decide +kernel
theorem dX10_freeOn_32 : decode cX10_freeOn 32 = .ok (.istore 8, 2) := by decide +kernel
theorem dX10_freeOn_34 : decode cX10_freeOn 34 = .ok (.iload 8, 2) := by decide +kernel
theorem dX10_freeOn_36 : decode cX10_freeOn 36 = .ok (.bipush 16, 2) := by decide +kernel
theorem dX10_freeOn_38 : decode cX10_freeOn 38 = .ok (.if_icmp .ge 112, 3) := by decide +kernel
theorem dX10_freeOn_41 : decode cX10_freeOn 41 = .ok (.iload 6, 2) := by decide +kernel
theorem dX10_freeOn_43 : decode cX10_freeOn 43 = .ok (.iload_n 3, 1) := by decide +kernel
theorem dX10_freeOn_44 : decode cX10_freeOn 44 = .ok (.iadd, 1) := by decide +kernel
theorem dX10_freeOn_45 : decode cX10_freeOn 45 = .ok (.istore 6, 2) := by decide +kernel
theorem dX10_freeOn_47 : decode cX10_freeOn 47 = .ok (.iload 7, 2) := by decide +kernel
theorem dX10_freeOn_49 : decode cX10_freeOn 49 = .ok (.iload 4, 2) := by decide +kernel
theorem dX10_freeOn_51 : decode cX10_freeOn 51 = .ok (.iadd, 1) := by decide +kernel
theorem dX10_freeOn_52 : decode cX10_freeOn 52 = .ok (.istore 7, 2) := by decide +kernel
theorem dX10_freeOn_54 : decode cX10_freeOn 54 = .ok (.aload_n 0, 1) := by decide +kernel
theorem dX10_freeOn_55 : decode cX10_freeOn 55 = .ok (.iload_n 1, 1) := by decide +kernel
theorem dX10_freeOn_56 : decode cX10_freeOn 56 = .ok (.iload 6, 2) := by decide +kernel
theorem dX10_freeOn_58 : decode cX10_freeOn 58 = .ok (.iload 7, 2) := by decide +kernel
theorem dX10_freeOn_60 : decode cX10_freeOn 60 = .ok (.invokevirtual 339, 3) := by decide +kernel
theorem dX10_freeOn_63 : decode cX10_freeOn 63 = .ok (.ifCond .ne 17, 3) := by decide +kernel
theorem dX10_freeOn_66 : decode cX10_freeOn 66 = .ok (.iload 5, 2) := by decide +kernel
theorem dX10_freeOn_68 : decode cX10_freeOn 68 = .ok (.iconst (-1), 1) := by decide +kernel
theorem dX10_freeOn_69 : decode cX10_freeOn 69 = .ok (.if_icmp .ne 8, 3) := by decide +kernel
theorem dX10_freeOn_72 : decode cX10_freeOn 72 = .ok (.iload 8, 2) := by decide +kernel
theorem dX10_freeOn_74 : decode cX10_freeOn 74 = .ok (.goto 5, 3) := by decide +kernel
theorem dX10_freeOn_77 : decode cX10_freeOn 77 = .ok (.iload 5, 2) := by decide +kernel
theorem dX10_freeOn_79 : decode cX10_freeOn 79 = .ok (.ireturn, 1) := by decide +kernel
theorem dX10_freeOn_80 : decode cX10_freeOn 80 = .ok (.aload_n 0, 1) := by decide +kernel
theorem dX10_freeOn_81 : decode cX10_freeOn 81 = .ok (.iload_n 1, 1) := by decide +kernel
theorem dX10_freeOn_82 : decode cX10_freeOn 82 = .ok (.iload 6, 2) := by decide +kernel
theorem dX10_freeOn_84 : decode cX10_freeOn 84 = .ok (.iload 7, 2) := by decide +kernel
theorem dX10_freeOn_86 : decode cX10_freeOn 86 = .ok (.invokevirtual 342, 3) := by decide +kernel
theorem dX10_freeOn_89 : decode cX10_freeOn 89 = .ok (.ifCond .eq 18, 3) := by decide +kernel
theorem dX10_freeOn_92 : decode cX10_freeOn 92 = .ok (.iload 8, 2) := by decide +kernel
theorem dX10_freeOn_94 : decode cX10_freeOn 94 = .ok (.bipush 9, 2) := by decide +kernel
theorem dX10_freeOn_96 : decode cX10_freeOn 96 = .ok (.if_icmp .ge 8, 3) := by decide +kernel
theorem dX10_freeOn_99 : decode cX10_freeOn 99 = .ok (.iload 8, 2) := by decide +kernel
theorem dX10_freeOn_101 : decode cX10_freeOn 101 = .ok (.goto 5, 3) := by decide +kernel
theorem dX10_freeOn_104 : decode cX10_freeOn 104 = .ok (.bipush 9, 2) := by decide +kernel
theorem dX10_freeOn_106 : decode cX10_freeOn 106 = .ok (.ireturn, 1) := by decide +kernel
theorem dX10_freeOn_107 : decode cX10_freeOn 107 = .ok (.aload_n 0, 1) := by decide +kernel
theorem dX10_freeOn_108 : decode cX10_freeOn 108 = .ok (.aload_n 0, 1) := by decide +kernel
theorem dX10_freeOn_109 : decode cX10_freeOn 109 = .ok (.iload_n 1, 1) := by decide +kernel
theorem dX10_freeOn_110 : decode cX10_freeOn 110 = .ok (.iload_n 2, 1) := by decide +kernel
theorem dX10_freeOn_111 : decode cX10_freeOn 111 = .ok (.iload 6, 2) := by decide +kernel
theorem dX10_freeOn_113 : decode cX10_freeOn 113 = .ok (.iload 7, 2) := by decide +kernel
theorem dX10_freeOn_115 : decode cX10_freeOn 115 = .ok (.invokevirtual 345, 3) := by decide +kernel
theorem dX10_freeOn_118 : decode cX10_freeOn 118 = .ok (.putfield 336, 3) := by decide +kernel
theorem dX10_freeOn_121 : decode cX10_freeOn 121 = .ok (.aload_n 0, 1) := by decide +kernel
theorem dX10_freeOn_122 : decode cX10_freeOn 122 = .ok (.getfield 336, 3) := by decide +kernel
theorem dX10_freeOn_125 : decode cX10_freeOn 125 = .ok (.iconst (-1), 1) := by decide +kernel
theorem dX10_freeOn_126 : decode cX10_freeOn 126 = .ok (.if_icmp .eq 18, 3) := by decide +kernel
theorem dX10_freeOn_129 : decode cX10_freeOn 129 = .ok (.iload 8, 2) := by decide +kernel
theorem dX10_freeOn_131 : decode cX10_freeOn 131 = .ok (.bipush 9, 2) := by decide +kernel
theorem dX10_freeOn_133 : decode cX10_freeOn 133 = .ok (.if_icmp .ge 8, 3) := by decide +kernel
theorem dX10_freeOn_136 : decode cX10_freeOn 136 = .ok (.iload 8, 2) := by decide +kernel
theorem dX10_freeOn_138 : decode cX10_freeOn 138 = .ok (.goto 5, 3) := by decide +kernel
theorem dX10_freeOn_141 : decode cX10_freeOn 141 = .ok (.bipush 9, 2) := by decide +kernel
theorem dX10_freeOn_143 : decode cX10_freeOn 143 = .ok (.ireturn, 1) := by decide +kernel
theorem dX10_freeOn_144 : decode cX10_freeOn 144 = .ok (.iinc 8 1, 3) := by decide +kernel
theorem dX10_freeOn_147 : decode cX10_freeOn 147 = .ok (.goto (-113), 3) := by decide +kernel
theorem dX10_freeOn_150 : decode cX10_freeOn 150 = .ok (.bipush 9, 2) := by decide +kernel
theorem dX10_freeOn_152 : decode cX10_freeOn 152 = .ok (.ireturn, 1) := by decide +kernel
theorem dX10_way_0 : decode cX10_way 0 = .ok (.aload_n 0, 1) := by decide +kernel
theorem dX10_way_1 : decode cX10_way 1 = .ok (.getfield 71, 3) := by decide +kernel
theorem dX10_way_4 : decode cX10_way 4 = .ok (.iload_n 1, 1) := by decide +kernel
theorem dX10_way_5 : decode cX10_way 5 = .ok (.iload_n 2, 1) := by decide +kernel
theorem dX10_way_6 : decode cX10_way 6 = .ok (.invokestatic 332, 3) := by decide +kernel
theorem dX10_way_9 : decode cX10_way 9 = .ok (.bipush 8, 2) := by decide +kernel
theorem dX10_way_11 : decode cX10_way 11 = .ok (.iadd, 1) := by decide +kernel
theorem dX10_way_12 : decode cX10_way 12 = .ok (.iaload, 1) := by decide +kernel
theorem dX10_way_13 : decode cX10_way 13 = .ok (.iconst 1, 1) := by decide +kernel
theorem dX10_way_14 : decode cX10_way 14 = .ok (.if_icmp .ne 7, 3) := by decide +kernel
theorem dX10_way_17 : decode cX10_way 17 = .ok (.iconst 1, 1) := by decide +kernel
theorem dX10_way_18 : decode cX10_way 18 = .ok (.goto 4, 3) := by decide +kernel
theorem dX10_way_21 : decode cX10_way 21 = .ok (.iconst (-1), 1) := by decide +kernel
theorem dX10_way_22 : decode cX10_way 22 = .ok (.ireturn, 1) := by decide +kernel
theorem dX10_isFacing_0 : decode cX10_isFacing 0 = .ok (.aload_n 0, 1) := by decide +kernel
theorem dX10_isFacing_1 : decode cX10_isFacing 1 = .ok (.iload_n 1, 1) := by decide +kernel
theorem dX10_isFacing_2 : decode cX10_isFacing 2 = .ok (.iload_n 2, 1) := by decide +kernel
theorem dX10_isFacing_3 : decode cX10_isFacing 3 = .ok (.aload_n 0, 1) := by decide +kernel
theorem dX10_isFacing_4 : decode cX10_isFacing 4 = .ok (.iload_n 1, 1) := by decide +kernel
theorem dX10_isFacing_5 : decode cX10_isFacing 5 = .ok (.iload_n 2, 1) := by decide +kernel
theorem dX10_isFacing_6 : decode cX10_isFacing 6 = .ok (.invokevirtual 349, 3) := by decide +kernel
theorem dX10_isFacing_9 : decode cX10_isFacing 9 = .ok (.iconst 0, 1) := by decide +kernel
theorem dX10_isFacing_10 : decode cX10_isFacing 10 = .ok (.bipush 9, 2) := by decide +kernel
theorem dX10_isFacing_12 : decode cX10_isFacing 12 = .ok (.invokevirtual 352, 3) := by decide +kernel
theorem dX10_isFacing_15 : decode cX10_isFacing 15 = .ok (.pop, 1) := by decide +kernel
theorem dX10_isFacing_16 : decode cX10_isFacing 16 = .ok (.aload_n 0, 1) := by decide +kernel
theorem dX10_isFacing_17 : decode cX10_isFacing 17 = .ok (.getfield 336, 3) := by decide +kernel
theorem dX10_isFacing_20 : decode cX10_isFacing 20 = .ok (.iconst (-1), 1) := by decide +kernel
theorem dX10_isFacing_21 : decode cX10_isFacing 21 = .ok (.if_icmp .eq 25, 3) := by decide +kernel
theorem dX10_isFacing_24 : decode cX10_isFacing 24 = .ok (.aload_n 0, 1) := by decide +kernel
theorem dX10_isFacing_25 : decode cX10_isFacing 25 = .ok (.iload_n 1, 1) := by decide +kernel
theorem dX10_isFacing_26 : decode cX10_isFacing 26 = .ok (.aload_n 0, 1) := by decide +kernel
theorem dX10_isFacing_27 : decode cX10_isFacing 27 = .ok (.getfield 336, 3) := by decide +kernel
theorem dX10_isFacing_30 : decode cX10_isFacing 30 = .ok (.invokevirtual 349, 3) := by decide +kernel
theorem dX10_isFacing_33 : decode cX10_isFacing 33 = .ok (.aload_n 0, 1) := by decide +kernel
theorem dX10_isFacing_34 : decode cX10_isFacing 34 = .ok (.iload_n 1, 1) := by decide +kernel
theorem dX10_isFacing_35 : decode cX10_isFacing 35 = .ok (.iload_n 2, 1) := by decide +kernel
theorem dX10_isFacing_36 : decode cX10_isFacing 36 = .ok (.invokevirtual 349, 3) := by decide +kernel
theorem dX10_isFacing_39 : decode cX10_isFacing 39 = .ok (.if_icmp .eq 7, 3) := by decide +kernel
theorem dX10_isFacing_42 : decode cX10_isFacing 42 = .ok (.iconst 1, 1) := by decide +kernel
theorem dX10_isFacing_43 : decode cX10_isFacing 43 = .ok (.goto 4, 3) := by decide +kernel
theorem dX10_isFacing_46 : decode cX10_isFacing 46 = .ok (.iconst 0, 1) := by decide +kernel
theorem dX10_isFacing_47 : decode cX10_isFacing 47 = .ok (.ireturn, 1) := by decide +kernel
theorem dX10_distance_0 : decode cX10_distance 0 = .ok (.aload_n 0, 1) := by decide +kernel
theorem dX10_distance_1 : decode cX10_distance 1 = .ok (.getfield 74, 3) := by decide +kernel
theorem dX10_distance_4 : decode cX10_distance 4 = .ok (.iload_n 1, 1) := by decide +kernel
theorem dX10_distance_5 : decode cX10_distance 5 = .ok (.iaload, 1) := by decide +kernel
theorem dX10_distance_6 : decode cX10_distance 6 = .ok (.aload_n 0, 1) := by decide +kernel
theorem dX10_distance_7 : decode cX10_distance 7 = .ok (.getfield 74, 3) := by decide +kernel
theorem dX10_distance_10 : decode cX10_distance 10 = .ok (.iload_n 2, 1) := by decide +kernel
theorem dX10_distance_11 : decode cX10_distance 11 = .ok (.iaload, 1) := by decide +kernel
theorem dX10_distance_12 : decode cX10_distance 12 = .ok (.isub, 1) := by decide +kernel
theorem dX10_distance_13 : decode cX10_distance 13 = .ok (.istore_n 3, 1) := by decide +kernel
theorem dX10_distance_14 : decode cX10_distance 14 = .ok (.aload_n 0, 1) := by decide +kernel
theorem dX10_distance_15 : decode cX10_distance 15 = .ok (.getfield 77, 3) := by decide +kernel
theorem dX10_distance_18 : decode cX10_distance 18 = .ok (.iload_n 1, 1) := by decide +kernel
theorem dX10_distance_19 : decode cX10_distance 19 = .ok (.iaload, 1) := by decide +kernel
theorem dX10_distance_20 : decode cX10_distance 20 = .ok (.aload_n 0, 1) := by decide +kernel
theorem dX10_distance_21 : decode cX10_distance 21 = .ok (.getfield 77, 3) := by decide +kernel
theorem dX10_distance_24 : decode cX10_distance 24 = .ok (.iload_n 2, 1) := by decide +kernel
theorem dX10_distance_25 : decode cX10_distance 25 = .ok (.iaload, 1) := by decide +kernel
theorem dX10_distance_26 : decode cX10_distance 26 = .ok (.isub, 1) := by decide +kernel
theorem dX10_distance_27 : decode cX10_distance 27 = .ok (.istore 4, 2) := by decide +kernel
theorem dX10_distance_29 : decode cX10_distance 29 = .ok (.iload_n 3, 1) := by decide +kernel
theorem dX10_distance_30 : decode cX10_distance 30 = .ok (.ifCond .ge 8, 3) := by decide +kernel
theorem dX10_distance_33 : decode cX10_distance 33 = .ok (.iload_n 3, 1) := by decide +kernel
theorem dX10_distance_34 : decode cX10_distance 34 = .ok (.ineg, 1) := by decide +kernel
theorem dX10_distance_35 : decode cX10_distance 35 = .ok (.goto 4, 3) := by decide +kernel
theorem dX10_distance_38 : decode cX10_distance 38 = .ok (.iload_n 3, 1) := by decide +kernel
theorem dX10_distance_39 : decode cX10_distance 39 = .ok (.iload 4, 2) := by decide +kernel
theorem dX10_distance_41 : decode cX10_distance 41 = .ok (.ifCond .ge 9, 3) := by decide +kernel
theorem dX10_distance_44 : decode cX10_distance 44 = .ok (.iload 4, 2) := by decide +kernel
theorem dX10_distance_46 : decode cX10_distance 46 = .ok (.ineg, 1) := by decide +kernel
theorem dX10_distance_47 : decode cX10_distance 47 = .ok (.goto 5, 3) := by decide +kernel
theorem dX10_distance_50 : decode cX10_distance 50 = .ok (.iload 4, 2) := by decide +kernel
theorem dX10_distance_52 : decode cX10_distance 52 = .ok (.iadd, 1) := by decide +kernel
theorem dX10_distance_53 : decode cX10_distance 53 = .ok (.ireturn, 1) := by decide +kernel
theorem dX10_isParted_0 : decode cX10_isParted 0 = .ok (.aload_n 0, 1) := by decide +kernel
theorem dX10_isParted_1 : decode cX10_isParted 1 = .ok (.getfield 71, 3) := by decide +kernel
theorem dX10_isParted_4 : decode cX10_isParted 4 = .ok (.iload_n 1, 1) := by decide +kernel
theorem dX10_isParted_5 : decode cX10_isParted 5 = .ok (.iload_n 2, 1) := by decide +kernel
theorem dX10_isParted_6 : decode cX10_isParted 6 = .ok (.invokestatic 332, 3) := by decide +kernel
theorem dX10_isParted_9 : decode cX10_isParted 9 = .ok (.bipush 13, 2) := by decide +kernel
theorem dX10_isParted_11 : decode cX10_isParted 11 = .ok (.iadd, 1) := by decide +kernel
theorem dX10_isParted_12 : decode cX10_isParted 12 = .ok (.iaload, 1) := by decide +kernel
theorem dX10_isParted_13 : decode cX10_isParted 13 = .ok (.istore_n 3, 1) := by decide +kernel
theorem dX10_isParted_14 : decode cX10_isParted 14 = .ok (.iload_n 3, 1) := by decide +kernel
theorem dX10_isParted_15 : decode cX10_isParted 15 = .ok (.iconst (-1), 1) := by decide +kernel
theorem dX10_isParted_16 : decode cX10_isParted 16 = .ok (.if_icmp .eq 27, 3) := by decide +kernel
theorem dX10_isParted_19 : decode cX10_isParted 19 = .ok (.aload_n 0, 1) := by decide +kernel
theorem dX10_isParted_20 : decode cX10_isParted 20 = .ok (.getfield 74, 3) := by decide +kernel
theorem dX10_isParted_23 : decode cX10_isParted 23 = .ok (.iload_n 3, 1) := by decide +kernel
theorem dX10_isParted_24 : decode cX10_isParted 24 = .ok (.iaload, 1) := by decide +kernel
theorem dX10_isParted_25 : decode cX10_isParted 25 = .ok (.iconst (-1), 1) := by decide +kernel
theorem dX10_isParted_26 : decode cX10_isParted 26 = .ok (.if_icmp .eq 17, 3) := by decide +kernel
theorem dX10_isParted_29 : decode cX10_isParted 29 = .ok (.aload_n 0, 1) := by decide +kernel
theorem dX10_isParted_30 : decode cX10_isParted 30 = .ok (.iload_n 2, 1) := by decide +kernel
theorem dX10_isParted_31 : decode cX10_isParted 31 = .ok (.iload_n 3, 1) := by decide +kernel
theorem dX10_isParted_32 : decode cX10_isParted 32 = .ok (.invokevirtual 356, 3) := by decide +kernel
theorem dX10_isParted_35 : decode cX10_isParted 35 = .ok (.iconst 2, 1) := by decide +kernel
theorem dX10_isParted_36 : decode cX10_isParted 36 = .ok (.if_icmp .le 7, 3) := by decide +kernel
theorem dX10_isParted_39 : decode cX10_isParted 39 = .ok (.iconst 1, 1) := by decide +kernel
theorem dX10_isParted_40 : decode cX10_isParted 40 = .ok (.goto 4, 3) := by decide +kernel
theorem dX10_isParted_43 : decode cX10_isParted 43 = .ok (.iconst 0, 1) := by decide +kernel
theorem dX10_isParted_44 : decode cX10_isParted 44 = .ok (.ireturn, 1) := by decide +kernel
theorem dX10_nearBy_0 : decode cX10_nearBy 0 = .ok (.bipush 99, 2) := by decide +kernel
theorem dX10_nearBy_2 : decode cX10_nearBy 2 = .ok (.istore 4, 2) := by decide +kernel
theorem dX10_nearBy_4 : decode cX10_nearBy 4 = .ok (.iconst 0, 1) := by decide +kernel
theorem dX10_nearBy_5 : decode cX10_nearBy 5 = .ok (.istore 5, 2) := by decide +kernel
theorem dX10_nearBy_7 : decode cX10_nearBy 7 = .ok (.iconst 0, 1) := by decide +kernel
theorem dX10_nearBy_8 : decode cX10_nearBy 8 = .ok (.istore 6, 2) := by decide +kernel
theorem dX10_nearBy_10 : decode cX10_nearBy 10 = .ok (.iload 6, 2) := by decide +kernel
theorem dX10_nearBy_12 : decode cX10_nearBy 12 = .ok (.aload_n 0, 1) := by decide +kernel
theorem dX10_nearBy_13 : decode cX10_nearBy 13 = .ok (.getfield 71, 3) := by decide +kernel
theorem dX10_nearBy_16 : decode cX10_nearBy 16 = .ok (.sipush 720, 3) := by decide +kernel
theorem dX10_nearBy_19 : decode cX10_nearBy 19 = .ok (.iload_n 1, 1) := by decide +kernel
theorem dX10_nearBy_20 : decode cX10_nearBy 20 = .ok (.imul, 1) := by decide +kernel
theorem dX10_nearBy_21 : decode cX10_nearBy 21 = .ok (.iconst 2, 1) := by decide +kernel
theorem dX10_nearBy_22 : decode cX10_nearBy 22 = .ok (.iadd, 1) := by decide +kernel
theorem dX10_nearBy_23 : decode cX10_nearBy 23 = .ok (.iaload, 1) := by decide +kernel
theorem dX10_nearBy_24 : decode cX10_nearBy 24 = .ok (.if_icmp .ge 67, 3) := by decide +kernel
theorem dX10_nearBy_27 : decode cX10_nearBy 27 = .ok (.iload 6, 2) := by decide +kernel
theorem dX10_nearBy_29 : decode cX10_nearBy 29 = .ok (.iload_n 2, 1) := by decide +kernel
theorem dX10_nearBy_30 : decode cX10_nearBy 30 = .ok (.if_icmp .eq 55, 3) := by decide +kernel
theorem dX10_nearBy_33 : decode cX10_nearBy 33 = .ok (.aload_n 0, 1) := by decide +kernel
theorem dX10_nearBy_34 : decode cX10_nearBy 34 = .ok (.getfield 74, 3) := by decide +kernel
theorem dX10_nearBy_37 : decode cX10_nearBy 37 = .ok (.iload 6, 2) := by decide +kernel
theorem dX10_nearBy_39 : decode cX10_nearBy 39 = .ok (.iaload, 1) := by decide +kernel
theorem dX10_nearBy_40 : decode cX10_nearBy 40 = .ok (.iconst (-1), 1) := by decide +kernel
theorem dX10_nearBy_41 : decode cX10_nearBy 41 = .ok (.if_icmp .eq 44, 3) := by decide +kernel
theorem dX10_nearBy_44 : decode cX10_nearBy 44 = .ok (.aload_n 0, 1) := by decide +kernel
theorem dX10_nearBy_45 : decode cX10_nearBy 45 = .ok (.iload_n 2, 1) := by decide +kernel
theorem dX10_nearBy_46 : decode cX10_nearBy 46 = .ok (.iload 6, 2) := by decide +kernel
theorem dX10_nearBy_48 : decode cX10_nearBy 48 = .ok (.invokevirtual 356, 3) := by decide +kernel
theorem dX10_nearBy_51 : decode cX10_nearBy 51 = .ok (.istore 7, 2) := by decide +kernel
theorem dX10_nearBy_53 : decode cX10_nearBy 53 = .ok (.iload 7, 2) := by decide +kernel
theorem dX10_nearBy_55 : decode cX10_nearBy 55 = .ok (.iload 4, 2) := by decide +kernel
theorem dX10_nearBy_57 : decode cX10_nearBy 57 = .ok (.if_icmp .ge 8, 3) := by decide +kernel
theorem dX10_nearBy_60 : decode cX10_nearBy 60 = .ok (.iload 7, 2) := by decide +kernel
theorem dX10_nearBy_62 : decode cX10_nearBy 62 = .ok (.goto 5, 3) := by decide +kernel
theorem dX10_nearBy_65 : decode cX10_nearBy 65 = .ok (.iload 4, 2) := by decide +kernel
theorem dX10_nearBy_67 : decode cX10_nearBy 67 = .ok (.istore 4, 2) := by decide +kernel
theorem dX10_nearBy_69 : decode cX10_nearBy 69 = .ok (.iload 5, 2) := by decide +kernel
theorem dX10_nearBy_71 : decode cX10_nearBy 71 = .ok (.iload 7, 2) := by decide +kernel
theorem dX10_nearBy_73 : decode cX10_nearBy 73 = .ok (.iconst 2, 1) := by decide +kernel
theorem dX10_nearBy_74 : decode cX10_nearBy 74 = .ok (.if_icmp .gt 7, 3) := by decide +kernel
theorem dX10_nearBy_77 : decode cX10_nearBy 77 = .ok (.iconst 1, 1) := by decide +kernel
theorem dX10_nearBy_78 : decode cX10_nearBy 78 = .ok (.goto 4, 3) := by decide +kernel
theorem dX10_nearBy_81 : decode cX10_nearBy 81 = .ok (.iconst 0, 1) := by decide +kernel
theorem dX10_nearBy_82 : decode cX10_nearBy 82 = .ok (.iadd, 1) := by decide +kernel
theorem dX10_nearBy_83 : decode cX10_nearBy 83 = .ok (.istore 5, 2) := by decide +kernel
theorem dX10_nearBy_85 : decode cX10_nearBy 85 = .ok (.iinc 6 1, 3) := by decide +kernel
theorem dX10_nearBy_88 : decode cX10_nearBy 88 = .ok (.goto (-78), 3) := by decide +kernel
theorem dX10_nearBy_91 : decode cX10_nearBy 91 = .ok (.iload_n 3, 1) := by decide +kernel
theorem dX10_nearBy_92 : decode cX10_nearBy 92 = .ok (.ifCond .eq 8, 3) := by decide +kernel
theorem dX10_nearBy_95 : decode cX10_nearBy 95 = .ok (.iload 5, 2) := by decide +kernel
theorem dX10_nearBy_97 : decode cX10_nearBy 97 = .ok (.goto 5, 3) := by decide +kernel
theorem dX10_nearBy_100 : decode cX10_nearBy 100 = .ok (.iload 4, 2) := by decide +kernel
theorem dX10_nearBy_102 : decode cX10_nearBy 102 = .ok (.ireturn, 1) := by decide +kernel
theorem dX10_soonBy_0 : decode cX10_soonBy 0 = .ok (.aload_n 0, 1) := by decide +kernel
theorem dX10_soonBy_1 : decode cX10_soonBy 1 = .ok (.iload_n 1, 1) := by decide +kernel
theorem dX10_soonBy_2 : decode cX10_soonBy 2 = .ok (.iload_n 2, 1) := by decide +kernel
theorem dX10_soonBy_3 : decode cX10_soonBy 3 = .ok (.aload_n 0, 1) := by decide +kernel
theorem dX10_soonBy_4 : decode cX10_soonBy 4 = .ok (.iload_n 1, 1) := by decide +kernel
theorem dX10_soonBy_5 : decode cX10_soonBy 5 = .ok (.iload_n 2, 1) := by decide +kernel
theorem dX10_soonBy_6 : decode cX10_soonBy 6 = .ok (.invokevirtual 349, 3) := by decide +kernel
theorem dX10_soonBy_9 : decode cX10_soonBy 9 = .ok (.iconst 0, 1) := by decide +kernel
theorem dX10_soonBy_10 : decode cX10_soonBy 10 = .ok (.bipush 9, 2) := by decide +kernel
theorem dX10_soonBy_12 : decode cX10_soonBy 12 = .ok (.invokevirtual 352, 3) := by decide +kernel
theorem dX10_soonBy_15 : decode cX10_soonBy 15 = .ok (.istore_n 3, 1) := by decide +kernel
theorem dX10_soonBy_16 : decode cX10_soonBy 16 = .ok (.aload_n 0, 1) := by decide +kernel
theorem dX10_soonBy_17 : decode cX10_soonBy 17 = .ok (.getfield 336, 3) := by decide +kernel
theorem dX10_soonBy_20 : decode cX10_soonBy 20 = .ok (.iconst (-1), 1) := by decide +kernel
theorem dX10_soonBy_21 : decode cX10_soonBy 21 = .ok (.if_icmp .ne 6, 3) := by decide +kernel
theorem dX10_soonBy_24 : decode cX10_soonBy 24 = .ok (.bipush 99, 2) := by decide +kernel
theorem dX10_soonBy_26 : decode cX10_soonBy 26 = .ok (.ireturn, 1) := by decide +kernel
theorem dX10_soonBy_27 : decode cX10_soonBy 27 = .ok (.aload_n 0, 1) := by decide +kernel
theorem dX10_soonBy_28 : decode cX10_soonBy 28 = .ok (.getfield 71, 3) := by decide +kernel
theorem dX10_soonBy_31 : decode cX10_soonBy 31 = .ok (.iload_n 1, 1) := by decide +kernel
theorem dX10_soonBy_32 : decode cX10_soonBy 32 = .ok (.iload_n 2, 1) := by decide +kernel
theorem dX10_soonBy_33 : decode cX10_soonBy 33 = .ok (.invokestatic 332, 3) := by decide +kernel
theorem dX10_soonBy_36 : decode cX10_soonBy 36 = .ok (.bipush 9, 2) := by decide +kernel
theorem dX10_soonBy_38 : decode cX10_soonBy 38 = .ok (.iadd, 1) := by decide +kernel
theorem dX10_soonBy_39 : decode cX10_soonBy 39 = .ok (.iaload, 1) := by decide +kernel
theorem dX10_soonBy_40 : decode cX10_soonBy 40 = .ok (.istore 4, 2) := by decide +kernel
theorem dX10_soonBy_42 : decode cX10_soonBy 42 = .ok (.aload_n 0, 1) := by decide +kernel
theorem dX10_soonBy_43 : decode cX10_soonBy 43 = .ok (.getfield 71, 3) := by decide +kernel
theorem dX10_soonBy_46 : decode cX10_soonBy 46 = .ok (.iload_n 1, 1) := by decide +kernel
theorem dX10_soonBy_47 : decode cX10_soonBy 47 = .ok (.aload_n 0, 1) := by decide +kernel
theorem dX10_soonBy_48 : decode cX10_soonBy 48 = .ok (.getfield 336, 3) := by decide +kernel
theorem dX10_soonBy_51 : decode cX10_soonBy 51 = .ok (.invokestatic 332, 3) := by decide +kernel
theorem dX10_soonBy_54 : decode cX10_soonBy 54 = .ok (.bipush 9, 2) := by decide +kernel
theorem dX10_soonBy_56 : decode cX10_soonBy 56 = .ok (.iadd, 1) := by decide +kernel
theorem dX10_soonBy_57 : decode cX10_soonBy 57 = .ok (.iaload, 1) := by decide +kernel
theorem dX10_soonBy_58 : decode cX10_soonBy 58 = .ok (.istore 5, 2) := by decide +kernel
theorem dX10_soonBy_60 : decode cX10_soonBy 60 = .ok (.aload_n 0, 1) := by decide +kernel
theorem dX10_soonBy_61 : decode cX10_soonBy 61 = .ok (.iload_n 1, 1) := by decide +kernel
theorem dX10_soonBy_62 : decode cX10_soonBy 62 = .ok (.iload_n 2, 1) := by decide +kernel
theorem dX10_soonBy_63 : decode cX10_soonBy 63 = .ok (.invokevirtual 349, 3) := by decide +kernel
theorem dX10_soonBy_66 : decode cX10_soonBy 66 = .ok (.aload_n 0, 1) := by decide +kernel
theorem dX10_soonBy_67 : decode cX10_soonBy 67 = .ok (.iload_n 1, 1) := by decide +kernel
theorem dX10_soonBy_68 : decode cX10_soonBy 68 = .ok (.aload_n 0, 1) := by decide +kernel
theorem dX10_soonBy_69 : decode cX10_soonBy 69 = .ok (.getfield 336, 3) := by decide +kernel
theorem dX10_soonBy_72 : decode cX10_soonBy 72 = .ok (.invokevirtual 349, 3) := by decide +kernel
theorem dX10_soonBy_75 : decode cX10_soonBy 75 = .ok (.if_icmp .eq 11, 3) := by decide +kernel
theorem dX10_soonBy_78 : decode cX10_soonBy 78 = .ok (.iload 4, 2) := by decide +kernel
theorem dX10_soonBy_80 : decode cX10_soonBy 80 = .ok (.iload 5, 2) := by decide +kernel
theorem dX10_soonBy_82 : decode cX10_soonBy 82 = .ok (.iadd, 1) := by decide +kernel
theorem dX10_soonBy_83 : decode cX10_soonBy 83 = .ok (.goto 8, 3) := by decide +kernel
theorem dX10_soonBy_86 : decode cX10_soonBy 86 = .ok (.iload 5, 2) := by decide +kernel
theorem dX10_soonBy_88 : decode cX10_soonBy 88 = .ok (.iload 4, 2) := by decide +kernel
theorem dX10_soonBy_90 : decode cX10_soonBy 90 = .ok (.isub, 1) := by decide +kernel
theorem dX10_soonBy_91 : decode cX10_soonBy 91 = .ok (.istore 6, 2) := by decide +kernel
theorem dX10_soonBy_93 : decode cX10_soonBy 93 = .ok (.iload 6, 2) := by decide +kernel
theorem dX10_soonBy_95 : decode cX10_soonBy 95 = .ok (.ifCond .le 16, 3) := by decide +kernel
theorem dX10_soonBy_98 : decode cX10_soonBy 98 = .ok (.iload_n 3, 1) := by decide +kernel
theorem dX10_soonBy_99 : decode cX10_soonBy 99 = .ok (.iload 4, 2) := by decide +kernel
theorem dX10_soonBy_101 : decode cX10_soonBy 101 = .ok (.imul, 1) := by decide +kernel
theorem dX10_soonBy_102 : decode cX10_soonBy 102 = .ok (.iload 5, 2) := by decide +kernel
theorem dX10_soonBy_104 : decode cX10_soonBy 104 = .ok (.imul, 1) := by decide +kernel
theorem dX10_soonBy_105 : decode cX10_soonBy 105 = .ok (.iload 6, 2) := by decide +kernel
theorem dX10_soonBy_107 : decode cX10_soonBy 107 = .ok (.idiv, 1) := by decide +kernel
theorem dX10_soonBy_108 : decode cX10_soonBy 108 = .ok (.goto 5, 3) := by decide +kernel
theorem dX10_soonBy_111 : decode cX10_soonBy 111 = .ok (.bipush 99, 2) := by decide +kernel
theorem dX10_soonBy_113 : decode cX10_soonBy 113 = .ok (.istore 7, 2) := by decide +kernel
theorem dX10_soonBy_115 : decode cX10_soonBy 115 = .ok (.iload 7, 2) := by decide +kernel
theorem dX10_soonBy_117 : decode cX10_soonBy 117 = .ok (.bipush 99, 2) := by decide +kernel
theorem dX10_soonBy_119 : decode cX10_soonBy 119 = .ok (.if_icmp .ge 8, 3) := by decide +kernel
theorem dX10_soonBy_122 : decode cX10_soonBy 122 = .ok (.iload 7, 2) := by decide +kernel
theorem dX10_soonBy_124 : decode cX10_soonBy 124 = .ok (.goto 5, 3) := by decide +kernel
theorem dX10_soonBy_127 : decode cX10_soonBy 127 = .ok (.bipush 99, 2) := by decide +kernel
theorem dX10_soonBy_129 : decode cX10_soonBy 129 = .ok (.ireturn, 1) := by decide +kernel
theorem dX10_found_0 : decode cX10_found 0 = .ok (.iload_n 1, 1) := by decide +kernel
theorem dX10_found_1 : decode cX10_found 1 = .ok (.iload_n 2, 1) := by decide +kernel
theorem dX10_found_2 : decode cX10_found 2 = .ok (.invokestatic 332, 3) := by decide +kernel
theorem dX10_found_5 : decode cX10_found 5 = .ok (.istore 4, 2) := by decide +kernel
theorem dX10_found_7 : decode cX10_found 7 = .ok (.iload_n 3, 1) := by decide +kernel
theorem dX10_found_8 : decode cX10_found 8 = .ok (.tableswitch 187 0 9 #[56, 72, 79, 87, 102, 118, 129, 140, 148, 172], 56) := by decide +kernel
theorem dX10_found_64 : decode cX10_found 64 = .ok (.aload_n 0, 1) := by decide +kernel
theorem dX10_found_65 : decode cX10_found 65 = .ok (.iload_n 1, 1) := by decide +kernel
theorem dX10_found_66 : decode cX10_found 66 = .ok (.iload_n 2, 1) := by decide +kernel
theorem dX10_found_67 : decode cX10_found 67 = .ok (.aload_n 0, 1) := by decide +kernel
theorem dX10_found_68 : decode cX10_found 68 = .ok (.iload_n 1, 1) := by decide +kernel
theorem dX10_found_69 : decode cX10_found 69 = .ok (.iload_n 2, 1) := by decide +kernel
theorem dX10_found_70 : decode cX10_found 70 = .ok (.invokevirtual 349, 3) := by decide +kernel
theorem dX10_found_73 : decode cX10_found 73 = .ok (.iconst 0, 1) := by decide +kernel
theorem dX10_found_74 : decode cX10_found 74 = .ok (.bipush 9, 2) := by decide +kernel
theorem dX10_found_76 : decode cX10_found 76 = .ok (.invokevirtual 352, 3) := by decide +kernel
theorem dX10_found_79 : decode cX10_found 79 = .ok (.ireturn, 1) := by decide +kernel
theorem dX10_found_80 : decode cX10_found 80 = .ok (.aload_n 0, 1) := by decide +kernel
theorem dX10_found_81 : decode cX10_found 81 = .ok (.iload_n 1, 1) := by decide +kernel
theorem dX10_found_82 : decode cX10_found 82 = .ok (.iload_n 2, 1) := by decide +kernel
theorem dX10_found_83 : decode cX10_found 83 = .ok (.invokevirtual 359, 3) := by decide +kernel
theorem dX10_found_86 : decode cX10_found 86 = .ok (.ireturn, 1) := by decide +kernel
theorem dX10_found_87 : decode cX10_found 87 = .ok (.aload_n 0, 1) := by decide +kernel
theorem dX10_found_88 : decode cX10_found 88 = .ok (.iload_n 1, 1) := by decide +kernel
theorem dX10_found_89 : decode cX10_found 89 = .ok (.iload_n 2, 1) := by decide +kernel
theorem dX10_found_90 : decode cX10_found 90 = .ok (.iconst 0, 1) := by decide +kernel
theorem dX10_found_91 : decode cX10_found 91 = .ok (.invokevirtual 362, 3) := by decide +kernel
theorem dX10_found_94 : decode cX10_found 94 = .ok (.ireturn, 1) := by decide +kernel
theorem dX10_found_95 : decode cX10_found 95 = .ok (.aload_n 0, 1) := by decide +kernel
theorem dX10_found_96 : decode cX10_found 96 = .ok (.iload_n 1, 1) := by decide +kernel
theorem dX10_found_97 : decode cX10_found 97 = .ok (.iload_n 2, 1) := by decide +kernel
theorem dX10_found_98 : decode cX10_found 98 = .ok (.iconst 0, 1) := by decide +kernel
theorem dX10_found_99 : decode cX10_found 99 = .ok (.aload_n 0, 1) := by decide +kernel
theorem dX10_found_100 : decode cX10_found 100 = .ok (.iload_n 1, 1) := by decide +kernel
theorem dX10_found_101 : decode cX10_found 101 = .ok (.iload_n 2, 1) := by decide +kernel
theorem dX10_found_102 : decode cX10_found 102 = .ok (.invokevirtual 349, 3) := by decide +kernel
theorem dX10_found_105 : decode cX10_found 105 = .ok (.iconst (-1), 1) := by decide +kernel
theorem dX10_found_106 : decode cX10_found 106 = .ok (.invokevirtual 352, 3) := by decide +kernel
theorem dX10_found_109 : decode cX10_found 109 = .ok (.ireturn, 1) := by decide +kernel
theorem dX10_found_110 : decode cX10_found 110 = .ok (.aload_n 0, 1) := by decide +kernel
theorem dX10_found_111 : decode cX10_found 111 = .ok (.iload_n 1, 1) := by decide +kernel
theorem dX10_found_112 : decode cX10_found 112 = .ok (.iload_n 2, 1) := by decide +kernel
theorem dX10_found_113 : decode cX10_found 113 = .ok (.iconst 0, 1) := by decide +kernel
theorem dX10_found_114 : decode cX10_found 114 = .ok (.aload_n 0, 1) := by decide +kernel
theorem dX10_found_115 : decode cX10_found 115 = .ok (.iload_n 1, 1) := by decide +kernel
theorem dX10_found_116 : decode cX10_found 116 = .ok (.iload_n 2, 1) := by decide +kernel
theorem dX10_found_117 : decode cX10_found 117 = .ok (.invokevirtual 349, 3) := by decide +kernel
theorem dX10_found_120 : decode cX10_found 120 = .ok (.ineg, 1) := by decide +kernel
theorem dX10_found_121 : decode cX10_found 121 = .ok (.iconst (-1), 1) := by decide +kernel
theorem dX10_found_122 : decode cX10_found 122 = .ok (.invokevirtual 352, 3) := by decide +kernel
theorem dX10_found_125 : decode cX10_found 125 = .ok (.ireturn, 1) := by decide +kernel
theorem dX10_found_126 : decode cX10_found 126 = .ok (.aload_n 0, 1) := by decide +kernel
theorem dX10_found_127 : decode cX10_found 127 = .ok (.getfield 71, 3) := by decide +kernel
theorem dX10_found_130 : decode cX10_found 130 = .ok (.iload 4, 2) := by decide +kernel
theorem dX10_found_132 : decode cX10_found 132 = .ok (.bipush 18, 2) := by decide +kernel
theorem dX10_found_134 : decode cX10_found 134 = .ok (.iadd, 1) := by decide +kernel
theorem dX10_found_135 : decode cX10_found 135 = .ok (.iaload, 1) := by decide +kernel
theorem dX10_found_136 : decode cX10_found 136 = .ok (.ireturn, 1) := by decide +kernel
theorem dX10_found_137 : decode cX10_found 137 = .ok (.aload_n 0, 1) := by decide +kernel
theorem dX10_found_138 : decode cX10_found 138 = .ok (.getfield 71, 3) := by decide +kernel
theorem dX10_found_141 : decode cX10_found 141 = .ok (.iload 4, 2) := by decide +kernel
theorem dX10_found_143 : decode cX10_found 143 = .ok (.bipush 11, 2) := by decide +kernel
theorem dX10_found_145 : decode cX10_found 145 = .ok (.iadd, 1) := by decide +kernel
theorem dX10_found_146 : decode cX10_found 146 = .ok (.iaload, 1) := by decide +kernel
theorem dX10_found_147 : decode cX10_found 147 = .ok (.ireturn, 1) := by decide +kernel
theorem dX10_found_148 : decode cX10_found 148 = .ok (.aload_n 0, 1) := by decide +kernel
theorem dX10_found_149 : decode cX10_found 149 = .ok (.iload_n 1, 1) := by decide +kernel
theorem dX10_found_150 : decode cX10_found 150 = .ok (.iload_n 2, 1) := by decide +kernel
theorem dX10_found_151 : decode cX10_found 151 = .ok (.iconst 1, 1) := by decide +kernel
theorem dX10_found_152 : decode cX10_found 152 = .ok (.invokevirtual 362, 3) := by decide +kernel
theorem dX10_found_155 : decode cX10_found 155 = .ok (.ireturn, 1) := by decide +kernel
theorem dX10_found_156 : decode cX10_found 156 = .ok (.aload_n 0, 1) := by decide +kernel
theorem dX10_found_157 : decode cX10_found 157 = .ok (.iload_n 1, 1) := by decide +kernel
theorem dX10_found_158 : decode cX10_found 158 = .ok (.iload_n 2, 1) := by decide +kernel
theorem dX10_found_159 : decode cX10_found 159 = .ok (.aload_n 0, 1) := by decide +kernel
theorem dX10_found_160 : decode cX10_found 160 = .ok (.iload_n 1, 1) := by decide +kernel
theorem dX10_found_161 : decode cX10_found 161 = .ok (.iload_n 2, 1) := by decide +kernel
theorem dX10_found_162 : decode cX10_found 162 = .ok (.invokevirtual 349, 3) := by decide +kernel
theorem dX10_found_165 : decode cX10_found 165 = .ok (.iconst 0, 1) := by decide +kernel
theorem dX10_found_166 : decode cX10_found 166 = .ok (.bipush 9, 2) := by decide +kernel
theorem dX10_found_168 : decode cX10_found 168 = .ok (.invokevirtual 352, 3) := by decide +kernel
theorem dX10_found_171 : decode cX10_found 171 = .ok (.ifCond .ne 7, 3) := by decide +kernel
theorem dX10_found_174 : decode cX10_found 174 = .ok (.iconst 1, 1) := by decide +kernel
theorem dX10_found_175 : decode cX10_found 175 = .ok (.goto 4, 3) := by decide +kernel
theorem dX10_found_178 : decode cX10_found 178 = .ok (.iconst 0, 1) := by decide +kernel
theorem dX10_found_179 : decode cX10_found 179 = .ok (.ireturn, 1) := by decide +kernel
theorem dX10_found_180 : decode cX10_found 180 = .ok (.aload_n 0, 1) := by decide +kernel
theorem dX10_found_181 : decode cX10_found 181 = .ok (.iload_n 1, 1) := by decide +kernel
theorem dX10_found_182 : decode cX10_found 182 = .ok (.iload_n 2, 1) := by decide +kernel
theorem dX10_found_183 : decode cX10_found 183 = .ok (.invokevirtual 366, 3) := by decide +kernel
theorem dX10_found_186 : decode cX10_found 186 = .ok (.ifCond .eq 7, 3) := by decide +kernel
theorem dX10_found_189 : decode cX10_found 189 = .ok (.iconst 1, 1) := by decide +kernel
theorem dX10_found_190 : decode cX10_found 190 = .ok (.goto 4, 3) := by decide +kernel
theorem dX10_found_193 : decode cX10_found 193 = .ok (.iconst 0, 1) := by decide +kernel
theorem dX10_found_194 : decode cX10_found 194 = .ok (.ireturn, 1) := by decide +kernel
theorem dX10_found_195 : decode cX10_found 195 = .ok (.aload_n 0, 1) := by decide +kernel
theorem dX10_found_196 : decode cX10_found 196 = .ok (.iload_n 1, 1) := by decide +kernel
theorem dX10_found_197 : decode cX10_found 197 = .ok (.iload_n 2, 1) := by decide +kernel
theorem dX10_found_198 : decode cX10_found 198 = .ok (.invokevirtual 369, 3) := by decide +kernel
theorem dX10_found_201 : decode cX10_found 201 = .ok (.ifCond .eq 7, 3) := by decide +kernel
theorem dX10_found_204 : decode cX10_found 204 = .ok (.iconst 1, 1) := by decide +kernel
theorem dX10_found_205 : decode cX10_found 205 = .ok (.goto 4, 3) := by decide +kernel
theorem dX10_found_208 : decode cX10_found 208 = .ok (.iconst 0, 1) := by decide +kernel
theorem dX10_found_209 : decode cX10_found 209 = .ok (.ireturn, 1) := by decide +kernel
theorem dX10_holds_0 : decode cX10_holds 0 = .ok (.aload_n 0, 1) := by decide +kernel
theorem dX10_holds_1 : decode cX10_holds 1 = .ok (.iload_n 1, 1) := by decide +kernel
theorem dX10_holds_2 : decode cX10_holds 2 = .ok (.iload_n 2, 1) := by decide +kernel
theorem dX10_holds_3 : decode cX10_holds 3 = .ok (.aload_n 0, 1) := by decide +kernel
theorem dX10_holds_4 : decode cX10_holds 4 = .ok (.getfield 71, 3) := by decide +kernel
theorem dX10_holds_7 : decode cX10_holds 7 = .ok (.iload_n 3, 1) := by decide +kernel
theorem dX10_holds_8 : decode cX10_holds 8 = .ok (.iaload, 1) := by decide +kernel
theorem dX10_holds_9 : decode cX10_holds 9 = .ok (.invokevirtual 372, 3) := by decide +kernel
theorem dX10_holds_12 : decode cX10_holds 12 = .ok (.istore 4, 2) := by decide +kernel
theorem dX10_holds_14 : decode cX10_holds 14 = .ok (.aload_n 0, 1) := by decide +kernel
theorem dX10_holds_15 : decode cX10_holds 15 = .ok (.getfield 71, 3) := by decide +kernel
theorem dX10_holds_18 : decode cX10_holds 18 = .ok (.iload_n 3, 1) := by decide +kernel
theorem dX10_holds_19 : decode cX10_holds 19 = .ok (.iconst 1, 1) := by decide +kernel
theorem dX10_holds_20 : decode cX10_holds 20 = .ok (.iadd, 1) := by decide +kernel
theorem dX10_holds_21 : decode cX10_holds 21 = .ok (.iaload, 1) := by decide +kernel
theorem dX10_holds_22 : decode cX10_holds 22 = .ok (.istore 5, 2) := by decide +kernel
theorem dX10_holds_24 : decode cX10_holds 24 = .ok (.aload_n 0, 1) := by decide +kernel
theorem dX10_holds_25 : decode cX10_holds 25 = .ok (.getfield 71, 3) := by decide +kernel
theorem dX10_holds_28 : decode cX10_holds 28 = .ok (.iload_n 3, 1) := by decide +kernel
theorem dX10_holds_29 : decode cX10_holds 29 = .ok (.iconst 2, 1) := by decide +kernel
theorem dX10_holds_30 : decode cX10_holds 30 = .ok (.iadd, 1) := by decide +kernel
theorem dX10_holds_31 : decode cX10_holds 31 = .ok (.iaload, 1) := by decide +kernel
theorem dX10_holds_32 : decode cX10_holds 32 = .ok (.istore 6, 2) := by decide +kernel
theorem dX10_holds_34 : decode cX10_holds 34 = .ok (.iload 5, 2) := by decide +kernel
theorem dX10_holds_36 : decode cX10_holds 36 = .ok (.bipush 60, 2) := by decide +kernel
theorem dX10_holds_38 : decode cX10_holds 38 = .ok (.if_icmp .ne 18, 3) := by decide +kernel
theorem dX10_holds_41 : decode cX10_holds 41 = .ok (.iload 4, 2) := by decide +kernel
theorem dX10_holds_43 : decode cX10_holds 43 = .ok (.iload 6, 2) := by decide +kernel
theorem dX10_holds_45 : decode cX10_holds 45 = .ok (.if_icmp .ge 7, 3) := by decide +kernel
theorem dX10_holds_48 : decode cX10_holds 48 = .ok (.iconst 1, 1) := by decide +kernel
theorem dX10_holds_49 : decode cX10_holds 49 = .ok (.goto 62, 3) := by decide +kernel
theorem dX10_holds_52 : decode cX10_holds 52 = .ok (.iconst 0, 1) := by decide +kernel
theorem dX10_holds_53 : decode cX10_holds 53 = .ok (.goto 58, 3) := by decide +kernel
theorem dX10_holds_56 : decode cX10_holds 56 = .ok (.iload 5, 2) := by decide +kernel
theorem dX10_holds_58 : decode cX10_holds 58 = .ok (.bipush 62, 2) := by decide +kernel
theorem dX10_holds_60 : decode cX10_holds 60 = .ok (.if_icmp .ne 18, 3) := by decide +kernel
theorem dX10_holds_63 : decode cX10_holds 63 = .ok (.iload 4, 2) := by decide +kernel
theorem dX10_holds_65 : decode cX10_holds 65 = .ok (.iload 6, 2) := by decide +kernel
theorem dX10_holds_67 : decode cX10_holds 67 = .ok (.if_icmp .le 7, 3) := by decide +kernel
theorem dX10_holds_70 : decode cX10_holds 70 = .ok (.iconst 1, 1) := by decide +kernel
theorem dX10_holds_71 : decode cX10_holds 71 = .ok (.goto 40, 3) := by decide +kernel
theorem dX10_holds_74 : decode cX10_holds 74 = .ok (.iconst 0, 1) := by decide +kernel
theorem dX10_holds_75 : decode cX10_holds 75 = .ok (.goto 36, 3) := by decide +kernel
theorem dX10_holds_78 : decode cX10_holds 78 = .ok (.iload 5, 2) := by decide +kernel
theorem dX10_holds_80 : decode cX10_holds 80 = .ok (.bipush 61, 2) := by decide +kernel
theorem dX10_holds_82 : decode cX10_holds 82 = .ok (.if_icmp .ne 18, 3) := by decide +kernel
theorem dX10_holds_85 : decode cX10_holds 85 = .ok (.iload 4, 2) := by decide +kernel
theorem dX10_holds_87 : decode cX10_holds 87 = .ok (.iload 6, 2) := by decide +kernel
theorem dX10_holds_89 : decode cX10_holds 89 = .ok (.if_icmp .ne 7, 3) := by decide +kernel
theorem dX10_holds_92 : decode cX10_holds 92 = .ok (.iconst 1, 1) := by decide +kernel
theorem dX10_holds_93 : decode cX10_holds 93 = .ok (.goto 18, 3) := by decide +kernel
theorem dX10_holds_96 : decode cX10_holds 96 = .ok (.iconst 0, 1) := by decide +kernel
theorem dX10_holds_97 : decode cX10_holds 97 = .ok (.goto 14, 3) := by decide +kernel
theorem dX10_holds_100 : decode cX10_holds 100 = .ok (.iload 4, 2) := by decide +kernel
theorem dX10_holds_102 : decode cX10_holds 102 = .ok (.iconst 1, 1) := by decide +kernel
theorem dX10_holds_103 : decode cX10_holds 103 = .ok (.if_icmp .ne 7, 3) := by decide +kernel
theorem dX10_holds_106 : decode cX10_holds 106 = .ok (.iconst 1, 1) := by decide +kernel
theorem dX10_holds_107 : decode cX10_holds 107 = .ok (.goto 4, 3) := by decide +kernel
theorem dX10_holds_110 : decode cX10_holds 110 = .ok (.iconst 0, 1) := by decide +kernel
theorem dX10_holds_111 : decode cX10_holds 111 = .ok (.istore 7, 2) := by decide +kernel
theorem dX10_holds_113 : decode cX10_holds 113 = .ok (.iload 7, 2) := by decide +kernel
theorem dX10_holds_115 : decode cX10_holds 115 = .ok (.aload_n 0, 1) := by decide +kernel
theorem dX10_holds_116 : decode cX10_holds 116 = .ok (.getfield 71, 3) := by decide +kernel
theorem dX10_holds_119 : decode cX10_holds 119 = .ok (.iload_n 3, 1) := by decide +kernel
theorem dX10_holds_120 : decode cX10_holds 120 = .ok (.iconst 3, 1) := by decide +kernel
theorem dX10_holds_121 : decode cX10_holds 121 = .ok (.iadd, 1) := by decide +kernel
theorem dX10_holds_122 : decode cX10_holds 122 = .ok (.iaload, 1) := by decide +kernel
theorem dX10_holds_123 : decode cX10_holds 123 = .ok (.ifCond .ne 7, 3) := by decide +kernel
theorem dX10_holds_126 : decode cX10_holds 126 = .ok (.iconst 1, 1) := by decide +kernel
theorem dX10_holds_127 : decode cX10_holds 127 = .ok (.goto 4, 3) := by decide +kernel
theorem dX10_holds_130 : decode cX10_holds 130 = .ok (.iconst 0, 1) := by decide +kernel
theorem dX10_holds_131 : decode cX10_holds 131 = .ok (.if_icmp .ne 7, 3) := by decide +kernel
theorem dX10_holds_134 : decode cX10_holds 134 = .ok (.iconst 1, 1) := by decide +kernel
theorem dX10_holds_135 : decode cX10_holds 135 = .ok (.goto 4, 3) := by decide +kernel
theorem dX10_holds_138 : decode cX10_holds 138 = .ok (.iconst 0, 1) := by decide +kernel
theorem dX10_holds_139 : decode cX10_holds 139 = .ok (.ireturn, 1) := by decide +kernel
theorem dX10_look_0 : decode cX10_look 0 = .ok (.aload_n 0, 1) := by decide +kernel
theorem dX10_look_1 : decode cX10_look 1 = .ok (.getfield 71, 3) := by decide +kernel
theorem dX10_look_4 : decode cX10_look 4 = .ok (.iload_n 1, 1) := by decide +kernel
theorem dX10_look_5 : decode cX10_look 5 = .ok (.iload_n 2, 1) := by decide +kernel
theorem dX10_look_6 : decode cX10_look 6 = .ok (.invokestatic 332, 3) := by decide +kernel
theorem dX10_look_9 : decode cX10_look 9 = .ok (.bipush 10, 2) := by decide +kernel
theorem dX10_look_11 : decode cX10_look 11 = .ok (.iadd, 1) := by decide +kernel
theorem dX10_look_12 : decode cX10_look 12 = .ok (.iaload, 1) := by decide +kernel
theorem dX10_look_13 : decode cX10_look 13 = .ok (.istore_n 3, 1) := by decide +kernel
theorem dX10_look_14 : decode cX10_look 14 = .ok (.iconst 0, 1) := by decide +kernel
theorem dX10_look_15 : decode cX10_look 15 = .ok (.istore 4, 2) := by decide +kernel
theorem dX10_look_17 : decode cX10_look 17 = .ok (.iload 4, 2) := by decide +kernel
theorem dX10_look_19 : decode cX10_look 19 = .ok (.aload_n 0, 1) := by decide +kernel
theorem dX10_look_20 : decode cX10_look 20 = .ok (.getfield 71, 3) := by decide +kernel
theorem dX10_look_23 : decode cX10_look 23 = .ok (.sipush 720, 3) := by decide +kernel
theorem dX10_look_26 : decode cX10_look 26 = .ok (.iload_n 1, 1) := by decide +kernel
theorem dX10_look_27 : decode cX10_look 27 = .ok (.imul, 1) := by decide +kernel
theorem dX10_look_28 : decode cX10_look 28 = .ok (.iconst 2, 1) := by decide +kernel
theorem dX10_look_29 : decode cX10_look 29 = .ok (.iadd, 1) := by decide +kernel
theorem dX10_look_30 : decode cX10_look 30 = .ok (.iaload, 1) := by decide +kernel
theorem dX10_look_31 : decode cX10_look 31 = .ok (.if_icmp .ge 66, 3) := by decide +kernel
theorem dX10_look_34 : decode cX10_look 34 = .ok (.iload 4, 2) := by decide +kernel
theorem dX10_look_36 : decode cX10_look 36 = .ok (.iload_n 2, 1) := by decide +kernel
theorem dX10_look_37 : decode cX10_look 37 = .ok (.if_icmp .ne 7, 3) := by decide +kernel
theorem dX10_look_40 : decode cX10_look 40 = .ok (.iconst 0, 1) := by decide +kernel
theorem dX10_look_41 : decode cX10_look 41 = .ok (.goto 4, 3) := by decide +kernel
theorem dX10_look_44 : decode cX10_look 44 = .ok (.iload_n 3, 1) := by decide +kernel
theorem dX10_look_45 : decode cX10_look 45 = .ok (.istore 5, 2) := by decide +kernel
theorem dX10_look_47 : decode cX10_look 47 = .ok (.aload_n 0, 1) := by decide +kernel
theorem dX10_look_48 : decode cX10_look 48 = .ok (.getfield 74, 3) := by decide +kernel
theorem dX10_look_51 : decode cX10_look 51 = .ok (.iload 4, 2) := by decide +kernel
theorem dX10_look_53 : decode cX10_look 53 = .ok (.aload_n 0, 1) := by decide +kernel
theorem dX10_look_54 : decode cX10_look 54 = .ok (.getfield 71, 3) := by decide +kernel
theorem dX10_look_57 : decode cX10_look 57 = .ok (.iload_n 1, 1) := by decide +kernel
theorem dX10_look_58 : decode cX10_look 58 = .ok (.iload 4, 2) := by decide +kernel
theorem dX10_look_60 : decode cX10_look 60 = .ok (.invokestatic 332, 3) := by decide +kernel
theorem dX10_look_63 : decode cX10_look 63 = .ok (.iload 5, 2) := by decide +kernel
theorem dX10_look_65 : decode cX10_look 65 = .ok (.iadd, 1) := by decide +kernel
theorem dX10_look_66 : decode cX10_look 66 = .ok (.iaload, 1) := by decide +kernel
theorem dX10_look_67 : decode cX10_look 67 = .ok (.iastore, 1) := by decide +kernel
theorem dX10_look_68 : decode cX10_look 68 = .ok (.aload_n 0, 1) := by decide +kernel
theorem dX10_look_69 : decode cX10_look 69 = .ok (.getfield 77, 3) := by decide +kernel
theorem dX10_look_72 : decode cX10_look 72 = .ok (.iload 4, 2) := by decide +kernel
theorem dX10_look_74 : decode cX10_look 74 = .ok (.aload_n 0, 1) := by decide +kernel
theorem dX10_look_75 : decode cX10_look 75 = .ok (.getfield 71, 3) := by decide +kernel
theorem dX10_look_78 : decode cX10_look 78 = .ok (.iload_n 1, 1) := by decide +kernel
theorem dX10_look_79 : decode cX10_look 79 = .ok (.iload 4, 2) := by decide +kernel
theorem dX10_look_81 : decode cX10_look 81 = .ok (.invokestatic 332, 3) := by decide +kernel
theorem dX10_look_84 : decode cX10_look 84 = .ok (.iconst 4, 1) := by decide +kernel
theorem dX10_look_85 : decode cX10_look 85 = .ok (.iadd, 1) := by decide +kernel
theorem dX10_look_86 : decode cX10_look 86 = .ok (.iload 5, 2) := by decide +kernel
theorem dX10_look_88 : decode cX10_look 88 = .ok (.iadd, 1) := by decide +kernel
theorem dX10_look_89 : decode cX10_look 89 = .ok (.iaload, 1) := by decide +kernel
theorem dX10_look_90 : decode cX10_look 90 = .ok (.iastore, 1) := by decide +kernel
theorem dX10_look_91 : decode cX10_look 91 = .ok (.iinc 4 1, 3) := by decide +kernel
theorem dX10_look_94 : decode cX10_look 94 = .ok (.goto (-77), 3) := by decide +kernel
theorem dX10_look_97 : decode cX10_look 97 = .ok (.return_, 1) := by decide +kernel
theorem dX10_actBy_0 : decode cX10_actBy 0 = .ok (.sipush 720, 3) := by decide +kernel
theorem dX10_actBy_3 : decode cX10_actBy 3 = .ok (.iload_n 1, 1) := by decide +kernel
theorem dX10_actBy_4 : decode cX10_actBy 4 = .ok (.imul, 1) := by decide +kernel
theorem dX10_actBy_5 : decode cX10_actBy 5 = .ok (.istore_n 3, 1) := by decide +kernel
theorem dX10_actBy_6 : decode cX10_actBy 6 = .ok (.aload_n 0, 1) := by decide +kernel
theorem dX10_actBy_7 : decode cX10_actBy 7 = .ok (.getfield 71, 3) := by decide +kernel
theorem dX10_actBy_10 : decode cX10_actBy 10 = .ok (.iload_n 3, 1) := by decide +kernel
theorem dX10_actBy_11 : decode cX10_actBy 11 = .ok (.iconst 3, 1) := by decide +kernel
theorem dX10_actBy_12 : decode cX10_actBy 12 = .ok (.iadd, 1) := by decide +kernel
theorem dX10_actBy_13 : decode cX10_actBy 13 = .ok (.iaload, 1) := by decide +kernel
theorem dX10_actBy_14 : decode cX10_actBy 14 = .ok (.aload_n 0, 1) := by decide +kernel
theorem dX10_actBy_15 : decode cX10_actBy 15 = .ok (.getfield 71, 3) := by decide +kernel
theorem dX10_actBy_18 : decode cX10_actBy 18 = .ok (.iload_n 1, 1) := by decide +kernel
theorem dX10_actBy_19 : decode cX10_actBy 19 = .ok (.iload_n 2, 1) := by decide +kernel
theorem dX10_actBy_20 : decode cX10_actBy 20 = .ok (.invokestatic 332, 3) := by decide +kernel
theorem dX10_actBy_23 : decode cX10_actBy 23 = .ok (.bipush 9, 2) := by decide +kernel
theorem dX10_actBy_25 : decode cX10_actBy 25 = .ok (.iadd, 1) := by decide +kernel
theorem dX10_actBy_26 : decode cX10_actBy 26 = .ok (.iaload, 1) := by decide +kernel
theorem dX10_actBy_27 : decode cX10_actBy 27 = .ok (.irem, 1) := by decide +kernel
theorem dX10_actBy_28 : decode cX10_actBy 28 = .ok (.ifCond .eq 5, 3) := by decide +kernel
theorem dX10_actBy_31 : decode cX10_actBy 31 = .ok (.iconst 5, 1) := by decide +kernel
theorem dX10_actBy_32 : decode cX10_actBy 32 = .ok (.ireturn, 1) := by decide +kernel
theorem dX10_actBy_33 : decode cX10_actBy 33 = .ok (.aload_n 0, 1) := by decide +kernel
theorem dX10_actBy_34 : decode cX10_actBy 34 = .ok (.iload_n 1, 1) := by decide +kernel
theorem dX10_actBy_35 : decode cX10_actBy 35 = .ok (.iload_n 2, 1) := by decide +kernel
theorem dX10_actBy_36 : decode cX10_actBy 36 = .ok (.invokevirtual 376, 3) := by decide +kernel
theorem dX10_actBy_39 : decode cX10_actBy 39 = .ok (.iconst 0, 1) := by decide +kernel
theorem dX10_actBy_40 : decode cX10_actBy 40 = .ok (.istore 4, 2) := by decide +kernel
theorem dX10_actBy_42 : decode cX10_actBy 42 = .ok (.iload 4, 2) := by decide +kernel
theorem dX10_actBy_44 : decode cX10_actBy 44 = .ok (.aload_n 0, 1) := by decide +kernel
theorem dX10_actBy_45 : decode cX10_actBy 45 = .ok (.getfield 71, 3) := by decide +kernel
theorem dX10_actBy_48 : decode cX10_actBy 48 = .ok (.iload_n 3, 1) := by decide +kernel
theorem dX10_actBy_49 : decode cX10_actBy 49 = .ok (.bipush 9, 2) := by decide +kernel
theorem dX10_actBy_51 : decode cX10_actBy 51 = .ok (.iadd, 1) := by decide +kernel
theorem dX10_actBy_52 : decode cX10_actBy 52 = .ok (.iaload, 1) := by decide +kernel
theorem dX10_actBy_53 : decode cX10_actBy 53 = .ok (.if_icmp .ge 83, 3) := by decide +kernel
theorem dX10_actBy_56 : decode cX10_actBy 56 = .ok (.iload_n 3, 1) := by decide +kernel
theorem dX10_actBy_57 : decode cX10_actBy 57 = .ok (.sipush 352, 3) := by decide +kernel
theorem dX10_actBy_60 : decode cX10_actBy 60 = .ok (.iadd, 1) := by decide +kernel
theorem dX10_actBy_61 : decode cX10_actBy 61 = .ok (.bipush 18, 2) := by decide +kernel
theorem dX10_actBy_63 : decode cX10_actBy 63 = .ok (.iload 4, 2) := by decide +kernel
theorem dX10_actBy_65 : decode cX10_actBy 65 = .ok (.imul, 1) := by decide +kernel
theorem dX10_actBy_66 : decode cX10_actBy 66 = .ok (.iadd, 1) := by decide +kernel
theorem dX10_actBy_67 : decode cX10_actBy 67 = .ok (.istore 5, 2) := by decide +kernel
theorem dX10_actBy_69 : decode cX10_actBy 69 = .ok (.iconst 1, 1) := by decide +kernel
theorem dX10_actBy_70 : decode cX10_actBy 70 = .ok (.istore 6, 2) := by decide +kernel
theorem dX10_actBy_72 : decode cX10_actBy 72 = .ok (.iconst 0, 1) := by decide +kernel
theorem dX10_actBy_73 : decode cX10_actBy 73 = .ok (.istore 7, 2) := by decide +kernel
theorem dX10_actBy_75 : decode cX10_actBy 75 = .ok (.iload 7, 2) := by decide +kernel
theorem dX10_actBy_77 : decode cX10_actBy 77 = .ok (.aload_n 0, 1) := by decide +kernel
theorem dX10_actBy_78 : decode cX10_actBy 78 = .ok (.getfield 71, 3) := by decide +kernel
theorem dX10_actBy_81 : decode cX10_actBy 81 = .ok (.iload 5, 2) := by decide +kernel
theorem dX10_actBy_83 : decode cX10_actBy 83 = .ok (.iconst 1, 1) := by decide +kernel
theorem dX10_actBy_84 : decode cX10_actBy 84 = .ok (.iadd, 1) := by decide +kernel
theorem dX10_actBy_85 : decode cX10_actBy 85 = .ok (.iaload, 1) := by decide +kernel
theorem dX10_actBy_86 : decode cX10_actBy 86 = .ok (.if_icmp .ge 31, 3) := by decide +kernel
theorem dX10_actBy_89 : decode cX10_actBy 89 = .ok (.iload 6, 2) := by decide +kernel
theorem dX10_actBy_91 : decode cX10_actBy 91 = .ok (.ifCond .eq 26, 3) := by decide +kernel
theorem dX10_actBy_94 : decode cX10_actBy 94 = .ok (.aload_n 0, 1) := by decide +kernel
theorem dX10_actBy_95 : decode cX10_actBy 95 = .ok (.iload_n 1, 1) := by decide +kernel
theorem dX10_actBy_96 : decode cX10_actBy 96 = .ok (.iload_n 2, 1) := by decide +kernel
theorem dX10_actBy_97 : decode cX10_actBy 97 = .ok (.iload 5, 2) := by decide +kernel
theorem dX10_actBy_99 : decode cX10_actBy 99 = .ok (.iconst 2, 1) := by decide +kernel
theorem dX10_actBy_100 : decode cX10_actBy 100 = .ok (.iadd, 1) := by decide +kernel
theorem dX10_actBy_101 : decode cX10_actBy 101 = .ok (.iconst 4, 1) := by decide +kernel
theorem dX10_actBy_102 : decode cX10_actBy 102 = .ok (.iload 7, 2) := by decide +kernel
theorem dX10_actBy_104 : decode cX10_actBy 104 = .ok (.imul, 1) := by decide +kernel
theorem dX10_actBy_105 : decode cX10_actBy 105 = .ok (.iadd, 1) := by decide +kernel
theorem dX10_actBy_106 : decode cX10_actBy 106 = .ok (.invokevirtual 379, 3) := by decide +kernel
theorem dX10_actBy_109 : decode cX10_actBy 109 = .ok (.istore 6, 2) := by decide +kernel
theorem dX10_actBy_111 : decode cX10_actBy 111 = .ok (.iinc 7 1, 3) := by decide +kernel
theorem dX10_actBy_114 : decode cX10_actBy 114 = .ok (.goto (-39), 3) := by decide +kernel
theorem dX10_actBy_117 : decode cX10_actBy 117 = .ok (.iload 6, 2) := by decide +kernel
theorem dX10_actBy_119 : decode cX10_actBy 119 = .ok (.ifCond .eq 11, 3) := by decide +kernel
theorem dX10_actBy_122 : decode cX10_actBy 122 = .ok (.aload_n 0, 1) := by decide +kernel
theorem dX10_actBy_123 : decode cX10_actBy 123 = .ok (.getfield 71, 3) := by decide +kernel
theorem dX10_actBy_126 : decode cX10_actBy 126 = .ok (.iload 5, 2) := by decide +kernel
theorem dX10_actBy_128 : decode cX10_actBy 128 = .ok (.iaload, 1) := by decide +kernel
theorem dX10_actBy_129 : decode cX10_actBy 129 = .ok (.ireturn, 1) := by decide +kernel
theorem dX10_actBy_130 : decode cX10_actBy 130 = .ok (.iinc 4 1, 3) := by decide +kernel
theorem dX10_actBy_133 : decode cX10_actBy 133 = .ok (.goto (-91), 3) := by decide +kernel
theorem dX10_actBy_136 : decode cX10_actBy 136 = .ok (.iconst 5, 1) := by decide +kernel
theorem dX10_actBy_137 : decode cX10_actBy 137 = .ok (.ireturn, 1) := by decide +kernel
theorem dX10_isWord_0 : decode cX10_isWord 0 = .ok (.aload_n 0, 1) := by decide +kernel
theorem dX10_isWord_1 : decode cX10_isWord 1 = .ok (.getfield 154, 3) := by decide +kernel
theorem dX10_isWord_4 : decode cX10_isWord 4 = .ok (.iconst 2, 1) := by decide +kernel
theorem dX10_isWord_5 : decode cX10_isWord 5 = .ok (.if_icmp .ne 16, 3) := by decide +kernel
theorem dX10_isWord_8 : decode cX10_isWord 8 = .ok (.aload_n 0, 1) := by decide +kernel
theorem dX10_isWord_9 : decode cX10_isWord 9 = .ok (.getfield 150, 3) := by decide +kernel
theorem dX10_isWord_12 : decode cX10_isWord 12 = .ok (.lload_n 1, 1) := by decide +kernel
theorem dX10_isWord_13 : decode cX10_isWord 13 = .ok (.lcmp, 1) := by decide +kernel
theorem dX10_isWord_14 : decode cX10_isWord 14 = .ok (.ifCond .ne 7, 3) := by decide +kernel
theorem dX10_isWord_17 : decode cX10_isWord 17 = .ok (.iconst 1, 1) := by decide +kernel
theorem dX10_isWord_18 : decode cX10_isWord 18 = .ok (.goto 4, 3) := by decide +kernel
theorem dX10_isWord_21 : decode cX10_isWord 21 = .ok (.iconst 0, 1) := by decide +kernel
theorem dX10_isWord_22 : decode cX10_isWord 22 = .ok (.ireturn, 1) := by decide +kernel
theorem dX10_actOf_0 : decode cX10_actOf 0 = .ok (.aload_n 0, 1) := by decide +kernel
theorem dX10_actOf_1 : decode cX10_actOf 1 = .ok (.ldc2_w 310, 3) := by decide +kernel
theorem dX10_actOf_4 : decode cX10_actOf 4 = .ok (.invokevirtual 221, 3) := by decide +kernel
theorem dX10_actOf_7 : decode cX10_actOf 7 = .ok (.ifCond .eq 7, 3) := by decide +kernel
theorem dX10_actOf_10 : decode cX10_actOf 10 = .ok (.iconst 0, 1) := by decide +kernel
theorem dX10_actOf_11 : decode cX10_actOf 11 = .ok (.goto 74, 3) := by decide +kernel
theorem dX10_actOf_14 : decode cX10_actOf 14 = .ok (.aload_n 0, 1) := by decide +kernel
theorem dX10_actOf_15 : decode cX10_actOf 15 = .ok (.ldc2_w 227, 3) := by decide +kernel
theorem dX10_actOf_18 : decode cX10_actOf 18 = .ok (.invokevirtual 221, 3) := by decide +kernel
theorem dX10_actOf_21 : decode cX10_actOf 21 = .ok (.ifCond .eq 7, 3) := by decide +kernel
theorem dX10_actOf_24 : decode cX10_actOf 24 = .ok (.iconst 1, 1) := by decide +kernel
theorem dX10_actOf_25 : decode cX10_actOf 25 = .ok (.goto 60, 3) := by decide +kernel
theorem dX10_actOf_28 : decode cX10_actOf 28 = .ok (.aload_n 0, 1) := by decide +kernel
theorem dX10_actOf_29 : decode cX10_actOf 29 = .ok (.ldc2_w 229, 3) := by decide +kernel
theorem dX10_actOf_32 : decode cX10_actOf 32 = .ok (.invokevirtual 221, 3) := by decide +kernel
theorem dX10_actOf_35 : decode cX10_actOf 35 = .ok (.ifCond .eq 7, 3) := by decide +kernel
theorem dX10_actOf_38 : decode cX10_actOf 38 = .ok (.iconst 2, 1) := by decide +kernel
theorem dX10_actOf_39 : decode cX10_actOf 39 = .ok (.goto 46, 3) := by decide +kernel
theorem dX10_actOf_42 : decode cX10_actOf 42 = .ok (.aload_n 0, 1) := by decide +kernel
theorem dX10_actOf_43 : decode cX10_actOf 43 = .ok (.ldc2_w 243, 3) := by decide +kernel
theorem dX10_actOf_46 : decode cX10_actOf 46 = .ok (.invokevirtual 221, 3) := by decide +kernel
theorem dX10_actOf_49 : decode cX10_actOf 49 = .ok (.ifCond .eq 7, 3) := by decide +kernel
theorem dX10_actOf_52 : decode cX10_actOf 52 = .ok (.iconst 3, 1) := by decide +kernel
theorem dX10_actOf_53 : decode cX10_actOf 53 = .ok (.goto 32, 3) := by decide +kernel
theorem dX10_actOf_56 : decode cX10_actOf 56 = .ok (.aload_n 0, 1) := by decide +kernel
theorem dX10_actOf_57 : decode cX10_actOf 57 = .ok (.ldc2_w 312, 3) := by decide +kernel
theorem dX10_actOf_60 : decode cX10_actOf 60 = .ok (.invokevirtual 221, 3) := by decide +kernel
theorem dX10_actOf_63 : decode cX10_actOf 63 = .ok (.ifCond .eq 7, 3) := by decide +kernel
theorem dX10_actOf_66 : decode cX10_actOf 66 = .ok (.iconst 4, 1) := by decide +kernel
theorem dX10_actOf_67 : decode cX10_actOf 67 = .ok (.goto 18, 3) := by decide +kernel
theorem dX10_actOf_70 : decode cX10_actOf 70 = .ok (.aload_n 0, 1) := by decide +kernel
theorem dX10_actOf_71 : decode cX10_actOf 71 = .ok (.ldc2_w 314, 3) := by decide +kernel
theorem dX10_actOf_74 : decode cX10_actOf 74 = .ok (.invokevirtual 221, 3) := by decide +kernel
theorem dX10_actOf_77 : decode cX10_actOf 77 = .ok (.ifCond .eq 7, 3) := by decide +kernel
theorem dX10_actOf_80 : decode cX10_actOf 80 = .ok (.iconst 5, 1) := by decide +kernel
theorem dX10_actOf_81 : decode cX10_actOf 81 = .ok (.goto 4, 3) := by decide +kernel
theorem dX10_actOf_84 : decode cX10_actOf 84 = .ok (.iconst (-1), 1) := by decide +kernel
theorem dX10_actOf_85 : decode cX10_actOf 85 = .ok (.ireturn, 1) := by decide +kernel
theorem dX10_move_0 : decode cX10_move 0 = .ok (.iconst 0, 1) := by decide +kernel
theorem dX10_move_1 : decode cX10_move 1 = .ok (.istore 4, 2) := by decide +kernel
theorem dX10_move_3 : decode cX10_move 3 = .ok (.iload 4, 2) := by decide +kernel
theorem dX10_move_5 : decode cX10_move 5 = .ok (.iload_n 1, 1) := by decide +kernel
theorem dX10_move_6 : decode cX10_move 6 = .ok (.if_icmp .ge 25, 3) := by decide +kernel
theorem dX10_move_9 : decode cX10_move 9 = .ok (.aload_n 0, 1) := by decide +kernel
theorem dX10_move_10 : decode cX10_move 10 = .ok (.iload_n 1, 1) := by decide +kernel
theorem dX10_move_11 : decode cX10_move 11 = .ok (.iload_n 3, 1) := by decide +kernel
theorem dX10_move_12 : decode cX10_move 12 = .ok (.imul, 1) := by decide +kernel
theorem dX10_move_13 : decode cX10_move 13 = .ok (.iload 4, 2) := by decide +kernel
theorem dX10_move_15 : decode cX10_move 15 = .ok (.iadd, 1) := by decide +kernel
theorem dX10_move_16 : decode cX10_move 16 = .ok (.aload_n 0, 1) := by decide +kernel
theorem dX10_move_17 : decode cX10_move 17 = .ok (.iload_n 1, 1) := by decide +kernel
theorem dX10_move_18 : decode cX10_move 18 = .ok (.iload_n 2, 1) := by decide +kernel
theorem dX10_move_19 : decode cX10_move 19 = .ok (.imul, 1) := by decide +kernel
theorem dX10_move_20 : decode cX10_move 20 = .ok (.iload 4, 2) := by decide +kernel
theorem dX10_move_22 : decode cX10_move 22 = .ok (.iadd, 1) := by decide +kernel
theorem dX10_move_23 : decode cX10_move 23 = .ok (.iaload, 1) := by decide +kernel
theorem dX10_move_24 : decode cX10_move 24 = .ok (.iastore, 1) := by decide +kernel
theorem dX10_move_25 : decode cX10_move 25 = .ok (.iinc 4 1, 3) := by decide +kernel
theorem dX10_move_28 : decode cX10_move 28 = .ok (.goto (-25), 3) := by decide +kernel
theorem dX10_move_31 : decode cX10_move 31 = .ok (.return_, 1) := by decide +kernel
theorem dX10_copy_0 : decode cX10_copy 0 = .ok (.iconst 0, 1) := by decide +kernel
theorem dX10_copy_1 : decode cX10_copy 1 = .ok (.istore_n 3, 1) := by decide +kernel
theorem dX10_copy_2 : decode cX10_copy 2 = .ok (.iload_n 3, 1) := by decide +kernel
theorem dX10_copy_3 : decode cX10_copy 3 = .ok (.sipush 500, 3) := by decide +kernel
theorem dX10_copy_6 : decode cX10_copy 6 = .ok (.if_icmp .ge 33, 3) := by decide +kernel
theorem dX10_copy_9 : decode cX10_copy 9 = .ok (.aload_n 0, 1) := by decide +kernel
theorem dX10_copy_10 : decode cX10_copy 10 = .ok (.getfield 7, 3) := by decide +kernel
theorem dX10_copy_13 : decode cX10_copy 13 = .ok (.sipush 500, 3) := by decide +kernel
theorem dX10_copy_16 : decode cX10_copy 16 = .ok (.iload_n 2, 1) := by decide +kernel
theorem dX10_copy_17 : decode cX10_copy 17 = .ok (.imul, 1) := by decide +kernel
theorem dX10_copy_18 : decode cX10_copy 18 = .ok (.iload_n 3, 1) := by decide +kernel
theorem dX10_copy_19 : decode cX10_copy 19 = .ok (.iadd, 1) := by decide +kernel
theorem dX10_copy_20 : decode cX10_copy 20 = .ok (.aload_n 0, 1) := by decide +kernel
theorem dX10_copy_21 : decode cX10_copy 21 = .ok (.getfield 7, 3) := by decide +kernel
theorem dX10_copy_24 : decode cX10_copy 24 = .ok (.sipush 500, 3) := by decide +kernel
theorem dX10_copy_27 : decode cX10_copy 27 = .ok (.iload_n 1, 1) := by decide +kernel
theorem dX10_copy_28 : decode cX10_copy 28 = .ok (.imul, 1) := by decide +kernel
theorem dX10_copy_29 : decode cX10_copy 29 = .ok (.iload_n 3, 1) := by decide +kernel
theorem dX10_copy_30 : decode cX10_copy 30 = .ok (.iadd, 1) := by decide +kernel
theorem dX10_copy_31 : decode cX10_copy 31 = .ok (.baload, 1) := by decide +kernel
theorem dX10_copy_32 : decode cX10_copy 32 = .ok (.bastore, 1) := by decide +kernel
theorem dX10_copy_33 : decode cX10_copy 33 = .ok (.iinc 3 1, 3) := by decide +kernel
theorem dX10_copy_36 : decode cX10_copy 36 = .ok (.goto (-34), 3) := by decide +kernel
theorem dX10_copy_39 : decode cX10_copy 39 = .ok (.aload_n 0, 1) := by decide +kernel
theorem dX10_copy_40 : decode cX10_copy 40 = .ok (.getfield 13, 3) := by decide +kernel
theorem dX10_copy_43 : decode cX10_copy 43 = .ok (.iconst 1, 1) := by decide +kernel
theorem dX10_copy_44 : decode cX10_copy 44 = .ok (.iload_n 1, 1) := by decide +kernel
theorem dX10_copy_45 : decode cX10_copy 45 = .ok (.iload_n 2, 1) := by decide +kernel
theorem dX10_copy_46 : decode cX10_copy 46 = .ok (.invokestatic 125, 3) := by decide +kernel
theorem dX10_copy_49 : decode cX10_copy 49 = .ok (.aload_n 0, 1) := by decide +kernel
theorem dX10_copy_50 : decode cX10_copy 50 = .ok (.getfield 17, 3) := by decide +kernel
theorem dX10_copy_53 : decode cX10_copy 53 = .ok (.iconst 1, 1) := by decide +kernel
theorem dX10_copy_54 : decode cX10_copy 54 = .ok (.iload_n 1, 1) := by decide +kernel
theorem dX10_copy_55 : decode cX10_copy 55 = .ok (.iload_n 2, 1) := by decide +kernel
theorem dX10_copy_56 : decode cX10_copy 56 = .ok (.invokestatic 125, 3) := by decide +kernel
theorem dX10_copy_59 : decode cX10_copy 59 = .ok (.aload_n 0, 1) := by decide +kernel
theorem dX10_copy_60 : decode cX10_copy 60 = .ok (.getfield 20, 3) := by decide +kernel
theorem dX10_copy_63 : decode cX10_copy 63 = .ok (.iconst 1, 1) := by decide +kernel
theorem dX10_copy_64 : decode cX10_copy 64 = .ok (.iload_n 1, 1) := by decide +kernel
theorem dX10_copy_65 : decode cX10_copy 65 = .ok (.iload_n 2, 1) := by decide +kernel
theorem dX10_copy_66 : decode cX10_copy 66 = .ok (.invokestatic 125, 3) := by decide +kernel
theorem dX10_copy_69 : decode cX10_copy 69 = .ok (.aload_n 0, 1) := by decide +kernel
theorem dX10_copy_70 : decode cX10_copy 70 = .ok (.getfield 23, 3) := by decide +kernel
theorem dX10_copy_73 : decode cX10_copy 73 = .ok (.iconst 1, 1) := by decide +kernel
theorem dX10_copy_74 : decode cX10_copy 74 = .ok (.iload_n 1, 1) := by decide +kernel
theorem dX10_copy_75 : decode cX10_copy 75 = .ok (.iload_n 2, 1) := by decide +kernel
theorem dX10_copy_76 : decode cX10_copy 76 = .ok (.invokestatic 125, 3) := by decide +kernel
theorem dX10_copy_79 : decode cX10_copy 79 = .ok (.aload_n 0, 1) := by decide +kernel
theorem dX10_copy_80 : decode cX10_copy 80 = .ok (.getfield 26, 3) := by decide +kernel
theorem dX10_copy_83 : decode cX10_copy 83 = .ok (.iconst 3, 1) := by decide +kernel
theorem dX10_copy_84 : decode cX10_copy 84 = .ok (.iload_n 1, 1) := by decide +kernel
theorem dX10_copy_85 : decode cX10_copy 85 = .ok (.iload_n 2, 1) := by decide +kernel
theorem dX10_copy_86 : decode cX10_copy 86 = .ok (.invokestatic 125, 3) := by decide +kernel
theorem dX10_copy_89 : decode cX10_copy 89 = .ok (.aload_n 0, 1) := by decide +kernel
theorem dX10_copy_90 : decode cX10_copy 90 = .ok (.getfield 29, 3) := by decide +kernel
theorem dX10_copy_93 : decode cX10_copy 93 = .ok (.iconst 3, 1) := by decide +kernel
theorem dX10_copy_94 : decode cX10_copy 94 = .ok (.iload_n 1, 1) := by decide +kernel
theorem dX10_copy_95 : decode cX10_copy 95 = .ok (.iload_n 2, 1) := by decide +kernel
theorem dX10_copy_96 : decode cX10_copy 96 = .ok (.invokestatic 125, 3) := by decide +kernel
theorem dX10_copy_99 : decode cX10_copy 99 = .ok (.aload_n 0, 1) := by decide +kernel
theorem dX10_copy_100 : decode cX10_copy 100 = .ok (.getfield 32, 3) := by decide +kernel
theorem dX10_copy_103 : decode cX10_copy 103 = .ok (.iconst 3, 1) := by decide +kernel
theorem dX10_copy_104 : decode cX10_copy 104 = .ok (.iload_n 1, 1) := by decide +kernel
theorem dX10_copy_105 : decode cX10_copy 105 = .ok (.iload_n 2, 1) := by decide +kernel
theorem dX10_copy_106 : decode cX10_copy 106 = .ok (.invokestatic 125, 3) := by decide +kernel
theorem dX10_copy_109 : decode cX10_copy 109 = .ok (.aload_n 0, 1) := by decide +kernel
theorem dX10_copy_110 : decode cX10_copy 110 = .ok (.getfield 35, 3) := by decide +kernel
theorem dX10_copy_113 : decode cX10_copy 113 = .ok (.iconst 3, 1) := by decide +kernel
theorem dX10_copy_114 : decode cX10_copy 114 = .ok (.iload_n 1, 1) := by decide +kernel
theorem dX10_copy_115 : decode cX10_copy 115 = .ok (.iload_n 2, 1) := by decide +kernel
theorem dX10_copy_116 : decode cX10_copy 116 = .ok (.invokestatic 125, 3) := by decide +kernel
theorem dX10_copy_119 : decode cX10_copy 119 = .ok (.aload_n 0, 1) := by decide +kernel
theorem dX10_copy_120 : decode cX10_copy 120 = .ok (.getfield 38, 3) := by decide +kernel
theorem dX10_copy_123 : decode cX10_copy 123 = .ok (.sipush 288, 3) := by decide +kernel
theorem dX10_copy_126 : decode cX10_copy 126 = .ok (.iload_n 1, 1) := by decide +kernel
theorem dX10_copy_127 : decode cX10_copy 127 = .ok (.iload_n 2, 1) := by decide +kernel
theorem dX10_copy_128 : decode cX10_copy 128 = .ok (.invokestatic 125, 3) := by decide +kernel
theorem dX10_copy_131 : decode cX10_copy 131 = .ok (.aload_n 0, 1) := by decide +kernel
theorem dX10_copy_132 : decode cX10_copy 132 = .ok (.getfield 41, 3) := by decide +kernel
theorem dX10_copy_135 : decode cX10_copy 135 = .ok (.sipush 288, 3) := by decide +kernel
theorem dX10_copy_138 : decode cX10_copy 138 = .ok (.iload_n 1, 1) := by decide +kernel
theorem dX10_copy_139 : decode cX10_copy 139 = .ok (.iload_n 2, 1) := by decide +kernel
theorem dX10_copy_140 : decode cX10_copy 140 = .ok (.invokestatic 125, 3) := by decide +kernel
theorem dX10_copy_143 : decode cX10_copy 143 = .ok (.aload_n 0, 1) := by decide +kernel
theorem dX10_copy_144 : decode cX10_copy 144 = .ok (.getfield 44, 3) := by decide +kernel
theorem dX10_copy_147 : decode cX10_copy 147 = .ok (.iconst 1, 1) := by decide +kernel
theorem dX10_copy_148 : decode cX10_copy 148 = .ok (.iload_n 1, 1) := by decide +kernel
theorem dX10_copy_149 : decode cX10_copy 149 = .ok (.iload_n 2, 1) := by decide +kernel
theorem dX10_copy_150 : decode cX10_copy 150 = .ok (.invokestatic 125, 3) := by decide +kernel
theorem dX10_copy_153 : decode cX10_copy 153 = .ok (.aload_n 0, 1) := by decide +kernel
theorem dX10_copy_154 : decode cX10_copy 154 = .ok (.getfield 47, 3) := by decide +kernel
theorem dX10_copy_157 : decode cX10_copy 157 = .ok (.iconst 3, 1) := by decide +kernel
theorem dX10_copy_158 : decode cX10_copy 158 = .ok (.iload_n 1, 1) := by decide +kernel
theorem dX10_copy_159 : decode cX10_copy 159 = .ok (.iload_n 2, 1) := by decide +kernel
theorem dX10_copy_160 : decode cX10_copy 160 = .ok (.invokestatic 125, 3) := by decide +kernel
theorem dX10_copy_163 : decode cX10_copy 163 = .ok (.aload_n 0, 1) := by decide +kernel
theorem dX10_copy_164 : decode cX10_copy 164 = .ok (.getfield 50, 3) := by decide +kernel
theorem dX10_copy_167 : decode cX10_copy 167 = .ok (.sipush 864, 3) := by decide +kernel
theorem dX10_copy_170 : decode cX10_copy 170 = .ok (.iload_n 1, 1) := by decide +kernel
theorem dX10_copy_171 : decode cX10_copy 171 = .ok (.iload_n 2, 1) := by decide +kernel
theorem dX10_copy_172 : decode cX10_copy 172 = .ok (.invokestatic 125, 3) := by decide +kernel
theorem dX10_copy_175 : decode cX10_copy 175 = .ok (.aload_n 0, 1) := by decide +kernel
theorem dX10_copy_176 : decode cX10_copy 176 = .ok (.getfield 53, 3) := by decide +kernel
theorem dX10_copy_179 : decode cX10_copy 179 = .ok (.bipush 8, 2) := by decide +kernel
theorem dX10_copy_181 : decode cX10_copy 181 = .ok (.iload_n 1, 1) := by decide +kernel
theorem dX10_copy_182 : decode cX10_copy 182 = .ok (.iload_n 2, 1) := by decide +kernel
theorem dX10_copy_183 : decode cX10_copy 183 = .ok (.invokestatic 125, 3) := by decide +kernel
theorem dX10_copy_186 : decode cX10_copy 186 = .ok (.aload_n 0, 1) := by decide +kernel
theorem dX10_copy_187 : decode cX10_copy 187 = .ok (.getfield 56, 3) := by decide +kernel
theorem dX10_copy_190 : decode cX10_copy 190 = .ok (.bipush 48, 2) := by decide +kernel
theorem dX10_copy_192 : decode cX10_copy 192 = .ok (.iload_n 1, 1) := by decide +kernel
theorem dX10_copy_193 : decode cX10_copy 193 = .ok (.iload_n 2, 1) := by decide +kernel
theorem dX10_copy_194 : decode cX10_copy 194 = .ok (.invokestatic 125, 3) := by decide +kernel
theorem dX10_copy_197 : decode cX10_copy 197 = .ok (.aload_n 0, 1) := by decide +kernel
theorem dX10_copy_198 : decode cX10_copy 198 = .ok (.getfield 59, 3) := by decide +kernel
theorem dX10_copy_201 : decode cX10_copy 201 = .ok (.bipush 48, 2) := by decide +kernel
theorem dX10_copy_203 : decode cX10_copy 203 = .ok (.iload_n 1, 1) := by decide +kernel
theorem dX10_copy_204 : decode cX10_copy 204 = .ok (.iload_n 2, 1) := by decide +kernel
theorem dX10_copy_205 : decode cX10_copy 205 = .ok (.invokestatic 125, 3) := by decide +kernel
theorem dX10_copy_208 : decode cX10_copy 208 = .ok (.aload_n 0, 1) := by decide +kernel
theorem dX10_copy_209 : decode cX10_copy 209 = .ok (.getfield 71, 3) := by decide +kernel
theorem dX10_copy_212 : decode cX10_copy 212 = .ok (.sipush 720, 3) := by decide +kernel
theorem dX10_copy_215 : decode cX10_copy 215 = .ok (.iload_n 1, 1) := by decide +kernel
theorem dX10_copy_216 : decode cX10_copy 216 = .ok (.iload_n 2, 1) := by decide +kernel
theorem dX10_copy_217 : decode cX10_copy 217 = .ok (.invokestatic 125, 3) := by decide +kernel
theorem dX10_copy_220 : decode cX10_copy 220 = .ok (.return_, 1) := by decide +kernel
theorem dX10_again_0 : decode cX10_again 0 = .ok (.aload_n 0, 1) := by decide +kernel
theorem dX10_again_1 : decode cX10_again 1 = .ok (.iconst 0, 1) := by decide +kernel
theorem dX10_again_2 : decode cX10_again 2 = .ok (.putfield 121, 3) := by decide +kernel
theorem dX10_again_5 : decode cX10_again 5 = .ok (.iload_n 1, 1) := by decide +kernel
theorem dX10_again_6 : decode cX10_again 6 = .ok (.iconst 0, 1) := by decide +kernel
theorem dX10_again_7 : decode cX10_again 7 = .ok (.iconst 2, 1) := by decide +kernel
theorem dX10_again_8 : decode cX10_again 8 = .ok (.invokestatic 129, 3) := by decide +kernel
theorem dX10_again_11 : decode cX10_again 11 = .ok (.ifCond .eq 12, 3) := by decide +kernel
theorem dX10_again_14 : decode cX10_again 14 = .ok (.aload_n 0, 1) := by decide +kernel
theorem dX10_again_15 : decode cX10_again 15 = .ok (.getfield 117, 3) := by decide +kernel
theorem dX10_again_18 : decode cX10_again 18 = .ok (.iload_n 1, 1) := by decide +kernel
theorem dX10_again_19 : decode cX10_again 19 = .ok (.baload, 1) := by decide +kernel
theorem dX10_again_20 : decode cX10_again 20 = .ok (.ifCond .ne 5, 3) := by decide +kernel
theorem dX10_again_23 : decode cX10_again 23 = .ok (.iconst 0, 1) := by decide +kernel
theorem dX10_again_24 : decode cX10_again 24 = .ok (.ireturn, 1) := by decide +kernel
theorem dX10_again_25 : decode cX10_again 25 = .ok (.aload_n 0, 1) := by decide +kernel
theorem dX10_again_26 : decode cX10_again 26 = .ok (.iload_n 1, 1) := by decide +kernel
theorem dX10_again_27 : decode cX10_again 27 = .ok (.iconst 1, 1) := by decide +kernel
theorem dX10_again_28 : decode cX10_again 28 = .ok (.iadd, 1) := by decide +kernel
theorem dX10_again_29 : decode cX10_again 29 = .ok (.iconst 0, 1) := by decide +kernel
theorem dX10_again_30 : decode cX10_again 30 = .ok (.invokevirtual 495, 3) := by decide +kernel
theorem dX10_again_33 : decode cX10_again 33 = .ok (.iconst 1, 1) := by decide +kernel
theorem dX10_again_34 : decode cX10_again 34 = .ok (.ireturn, 1) := by decide +kernel
theorem dX10_isThere_0 : decode cX10_isThere 0 = .ok (.aload_n 0, 1) := by decide +kernel
theorem dX10_isThere_1 : decode cX10_isThere 1 = .ok (.getfield 71, 3) := by decide +kernel
theorem dX10_isThere_4 : decode cX10_isThere 4 = .ok (.iload_n 1, 1) := by decide +kernel
theorem dX10_isThere_5 : decode cX10_isThere 5 = .ok (.iload_n 2, 1) := by decide +kernel
theorem dX10_isThere_6 : decode cX10_isThere 6 = .ok (.invokestatic 332, 3) := by decide +kernel
theorem dX10_isThere_9 : decode cX10_isThere 9 = .ok (.iaload, 1) := by decide +kernel
theorem dX10_isThere_10 : decode cX10_isThere 10 = .ok (.iconst (-1), 1) := by decide +kernel
theorem dX10_isThere_11 : decode cX10_isThere 11 = .ok (.if_icmp .eq 7, 3) := by decide +kernel
theorem dX10_isThere_14 : decode cX10_isThere 14 = .ok (.iconst 1, 1) := by decide +kernel
theorem dX10_isThere_15 : decode cX10_isThere 15 = .ok (.goto 4, 3) := by decide +kernel
theorem dX10_isThere_18 : decode cX10_isThere 18 = .ok (.iconst 0, 1) := by decide +kernel
theorem dX10_isThere_19 : decode cX10_isThere 19 = .ok (.ireturn, 1) := by decide +kernel
theorem dX10_lotIsRight_0 : decode cX10_lotIsRight 0 = .ok (.aload_n 0, 1) := by decide +kernel
theorem dX10_lotIsRight_1 : decode cX10_lotIsRight 1 = .ok (.dup, 1) := by decide +kernel
theorem dX10_lotIsRight_2 : decode cX10_lotIsRight 2 = .ok (.getfield 382, 3) := by decide +kernel
theorem dX10_lotIsRight_5 : decode cX10_lotIsRight 5 = .ok (.iconst 1, 1) := by decide +kernel
theorem dX10_lotIsRight_6 : decode cX10_lotIsRight 6 = .ok (.iadd, 1) := by decide +kernel
theorem dX10_lotIsRight_7 : decode cX10_lotIsRight 7 = .ok (.putfield 382, 3) := by decide +kernel
theorem dX10_lotIsRight_10 : decode cX10_lotIsRight 10 = .ok (.aload_n 0, 1) := by decide +kernel
theorem dX10_lotIsRight_11 : decode cX10_lotIsRight 11 = .ok (.getfield 71, 3) := by decide +kernel
theorem dX10_lotIsRight_14 : decode cX10_lotIsRight 14 = .ok (.sipush 720, 3) := by decide +kernel
theorem dX10_lotIsRight_17 : decode cX10_lotIsRight 17 = .ok (.iload_n 1, 1) := by decide +kernel
theorem dX10_lotIsRight_18 : decode cX10_lotIsRight 18 = .ok (.imul, 1) := by decide +kernel
theorem dX10_lotIsRight_19 : decode cX10_lotIsRight 19 = .ok (.iconst 5, 1) := by decide +kernel
theorem dX10_lotIsRight_20 : decode cX10_lotIsRight 20 = .ok (.iadd, 1) := by decide +kernel
theorem dX10_lotIsRight_21 : decode cX10_lotIsRight 21 = .ok (.dup2, 1) := by decide +kernel
theorem dX10_lotIsRight_22 : decode cX10_lotIsRight 22 = .ok (.iaload, 1) := by decide +kernel
theorem dX10_lotIsRight_23 : decode cX10_lotIsRight 23 = .ok (.iconst 1, 1) := by decide +kernel
theorem dX10_lotIsRight_24 : decode cX10_lotIsRight 24 = .ok (.iadd, 1) := by decide +kernel
theorem dX10_lotIsRight_25 : decode cX10_lotIsRight 25 = .ok (.iastore, 1) := by decide +kernel
theorem dX10_lotIsRight_26 : decode cX10_lotIsRight 26 = .ok (.aload_n 0, 1) := by decide +kernel
theorem dX10_lotIsRight_27 : decode cX10_lotIsRight 27 = .ok (.getfield 385, 3) := by decide +kernel
theorem dX10_lotIsRight_30 : decode cX10_lotIsRight 30 = .ok (.ifCond .eq 25, 3) := by decide +kernel
theorem dX10_lotIsRight_33 : decode cX10_lotIsRight 33 = .ok (.aload_n 0, 1) := by decide +kernel
theorem dX10_lotIsRight_34 : decode cX10_lotIsRight 34 = .ok (.getfield 388, 3) := by decide +kernel
theorem dX10_lotIsRight_37 : decode cX10_lotIsRight 37 = .ok (.aload_n 0, 1) := by decide +kernel
theorem dX10_lotIsRight_38 : decode cX10_lotIsRight 38 = .ok (.getfield 382, 3) := by decide +kernel
theorem dX10_lotIsRight_41 : decode cX10_lotIsRight 41 = .ok (.iconst 1, 1) := by decide +kernel
theorem dX10_lotIsRight_42 : decode cX10_lotIsRight 42 = .ok (.isub, 1) := by decide +kernel
theorem dX10_lotIsRight_43 : decode cX10_lotIsRight 43 = .ok (.ishr, 1) := by decide +kernel
theorem dX10_lotIsRight_44 : decode cX10_lotIsRight 44 = .ok (.iconst 1, 1) := by decide +kernel
theorem dX10_lotIsRight_45 : decode cX10_lotIsRight 45 = .ok (.iand, 1) := by decide +kernel
theorem dX10_lotIsRight_46 : decode cX10_lotIsRight 46 = .ok (.ifCond .ne 7, 3) := by decide +kernel
theorem dX10_lotIsRight_49 : decode cX10_lotIsRight 49 = .ok (.iconst 1, 1) := by decide +kernel
theorem dX10_lotIsRight_50 : decode cX10_lotIsRight 50 = .ok (.goto 4, 3) := by decide +kernel
theorem dX10_lotIsRight_53 : decode cX10_lotIsRight 53 = .ok (.iconst 0, 1) := by decide +kernel
theorem dX10_lotIsRight_54 : decode cX10_lotIsRight 54 = .ok (.ireturn, 1) := by decide +kernel
theorem dX10_lotIsRight_55 : decode cX10_lotIsRight 55 = .ok (.aload_n 0, 1) := by decide +kernel
theorem dX10_lotIsRight_56 : decode cX10_lotIsRight 56 = .ok (.getfield 71, 3) := by decide +kernel
theorem dX10_lotIsRight_59 : decode cX10_lotIsRight 59 = .ok (.sipush 720, 3) := by decide +kernel
theorem dX10_lotIsRight_62 : decode cX10_lotIsRight 62 = .ok (.iload_n 1, 1) := by decide +kernel
theorem dX10_lotIsRight_63 : decode cX10_lotIsRight 63 = .ok (.imul, 1) := by decide +kernel
theorem dX10_lotIsRight_64 : decode cX10_lotIsRight 64 = .ok (.iconst 4, 1) := by decide +kernel
theorem dX10_lotIsRight_65 : decode cX10_lotIsRight 65 = .ok (.iadd, 1) := by decide +kernel
theorem dX10_lotIsRight_66 : decode cX10_lotIsRight 66 = .ok (.iaload, 1) := by decide +kernel
theorem dX10_lotIsRight_67 : decode cX10_lotIsRight 67 = .ok (.ldc_w 391, 3) := by decide +kernel
theorem dX10_lotIsRight_70 : decode cX10_lotIsRight 70 = .ok (.imul, 1) := by decide +kernel
theorem dX10_lotIsRight_71 : decode cX10_lotIsRight 71 = .ok (.sipush 12345, 3) := by decide +kernel
theorem dX10_lotIsRight_74 : decode cX10_lotIsRight 74 = .ok (.iadd, 1) := by decide +kernel
theorem dX10_lotIsRight_75 : decode cX10_lotIsRight 75 = .ok (.istore_n 2, 1) := by decide +kernel
theorem dX10_lotIsRight_76 : decode cX10_lotIsRight 76 = .ok (.aload_n 0, 1) := by decide +kernel
theorem dX10_lotIsRight_77 : decode cX10_lotIsRight 77 = .ok (.getfield 71, 3) := by decide +kernel
theorem dX10_lotIsRight_80 : decode cX10_lotIsRight 80 = .ok (.sipush 720, 3) := by decide +kernel
theorem dX10_lotIsRight_83 : decode cX10_lotIsRight 83 = .ok (.iload_n 1, 1) := by decide +kernel
theorem dX10_lotIsRight_84 : decode cX10_lotIsRight 84 = .ok (.imul, 1) := by decide +kernel
theorem dX10_lotIsRight_85 : decode cX10_lotIsRight 85 = .ok (.iconst 4, 1) := by decide +kernel
theorem dX10_lotIsRight_86 : decode cX10_lotIsRight 86 = .ok (.iadd, 1) := by decide +kernel
theorem dX10_lotIsRight_87 : decode cX10_lotIsRight 87 = .ok (.iload_n 2, 1) := by decide +kernel
theorem dX10_lotIsRight_88 : decode cX10_lotIsRight 88 = .ok (.iastore, 1) := by decide +kernel
theorem dX10_lotIsRight_89 : decode cX10_lotIsRight 89 = .ok (.iload_n 2, 1) := by decide +kernel
theorem dX10_lotIsRight_90 : decode cX10_lotIsRight 90 = .ok (.bipush 16, 2) := by decide +kernel
theorem dX10_lotIsRight_92 : decode cX10_lotIsRight 92 = .ok (.ishr, 1) := by decide +kernel
theorem dX10_lotIsRight_93 : decode cX10_lotIsRight 93 = .ok (.iconst 1, 1) := by decide +kernel
theorem dX10_lotIsRight_94 : decode cX10_lotIsRight 94 = .ok (.iand, 1) := by decide +kernel
theorem dX10_lotIsRight_95 : decode cX10_lotIsRight 95 = .ok (.ifCond .ne 7, 3) := by decide +kernel
theorem dX10_lotIsRight_98 : decode cX10_lotIsRight 98 = .ok (.iconst 1, 1) := by decide +kernel
theorem dX10_lotIsRight_99 : decode cX10_lotIsRight 99 = .ok (.goto 4, 3) := by decide +kernel
theorem dX10_lotIsRight_102 : decode cX10_lotIsRight 102 = .ok (.iconst 0, 1) := by decide +kernel
theorem dX10_lotIsRight_103 : decode cX10_lotIsRight 103 = .ok (.ireturn, 1) := by decide +kernel
theorem dX10_aimBy_0 : decode cX10_aimBy 0 = .ok (.aload_n 0, 1) := by decide +kernel
theorem dX10_aimBy_1 : decode cX10_aimBy 1 = .ok (.iload_n 1, 1) := by decide +kernel
theorem dX10_aimBy_2 : decode cX10_aimBy 2 = .ok (.iload_n 2, 1) := by decide +kernel
theorem dX10_aimBy_3 : decode cX10_aimBy 3 = .ok (.invokevirtual 392, 3) := by decide +kernel
theorem dX10_aimBy_6 : decode cX10_aimBy 6 = .ok (.ifCond .ne 5, 3) := by decide +kernel
theorem dX10_aimBy_9 : decode cX10_aimBy 9 = .ok (.iconst 5, 1) := by decide +kernel
theorem dX10_aimBy_10 : decode cX10_aimBy 10 = .ok (.ireturn, 1) := by decide +kernel
theorem dX10_aimBy_11 : decode cX10_aimBy 11 = .ok (.aload_n 0, 1) := by decide +kernel
theorem dX10_aimBy_12 : decode cX10_aimBy 12 = .ok (.iload_n 1, 1) := by decide +kernel
theorem dX10_aimBy_13 : decode cX10_aimBy 13 = .ok (.iload_n 2, 1) := by decide +kernel
theorem dX10_aimBy_14 : decode cX10_aimBy 14 = .ok (.invokevirtual 395, 3) := by decide +kernel
theorem dX10_aimBy_17 : decode cX10_aimBy 17 = .ok (.istore_n 3, 1) := by decide +kernel
theorem dX10_aimBy_18 : decode cX10_aimBy 18 = .ok (.aload_n 0, 1) := by decide +kernel
theorem dX10_aimBy_19 : decode cX10_aimBy 19 = .ok (.getfield 71, 3) := by decide +kernel
theorem dX10_aimBy_22 : decode cX10_aimBy 22 = .ok (.iload_n 1, 1) := by decide +kernel
theorem dX10_aimBy_23 : decode cX10_aimBy 23 = .ok (.iload_n 2, 1) := by decide +kernel
theorem dX10_aimBy_24 : decode cX10_aimBy 24 = .ok (.invokestatic 332, 3) := by decide +kernel
theorem dX10_aimBy_27 : decode cX10_aimBy 27 = .ok (.bipush 12, 2) := by decide +kernel
theorem dX10_aimBy_29 : decode cX10_aimBy 29 = .ok (.iadd, 1) := by decide +kernel
theorem dX10_aimBy_30 : decode cX10_aimBy 30 = .ok (.iaload, 1) := by decide +kernel
theorem dX10_aimBy_31 : decode cX10_aimBy 31 = .ok (.istore 4, 2) := by decide +kernel
theorem dX10_aimBy_33 : decode cX10_aimBy 33 = .ok (.iload_n 3, 1) := by decide +kernel
theorem dX10_aimBy_34 : decode cX10_aimBy 34 = .ok (.iconst 3, 1) := by decide +kernel
theorem dX10_aimBy_35 : decode cX10_aimBy 35 = .ok (.if_icmp .ne 20, 3) := by decide +kernel
theorem dX10_aimBy_38 : decode cX10_aimBy 38 = .ok (.iload 4, 2) := by decide +kernel
theorem dX10_aimBy_40 : decode cX10_aimBy 40 = .ok (.ifCond .le 15, 3) := by decide +kernel
theorem dX10_aimBy_43 : decode cX10_aimBy 43 = .ok (.iload 4, 2) := by decide +kernel
theorem dX10_aimBy_45 : decode cX10_aimBy 45 = .ok (.iconst 1, 1) := by decide +kernel
theorem dX10_aimBy_46 : decode cX10_aimBy 46 = .ok (.if_icmp .ne 7, 3) := by decide +kernel
theorem dX10_aimBy_49 : decode cX10_aimBy 49 = .ok (.iconst 1, 1) := by decide +kernel
theorem dX10_aimBy_50 : decode cX10_aimBy 50 = .ok (.goto 4, 3) := by decide +kernel
theorem dX10_aimBy_53 : decode cX10_aimBy 53 = .ok (.iconst 2, 1) := by decide +kernel
theorem dX10_aimBy_54 : decode cX10_aimBy 54 = .ok (.ireturn, 1) := by decide +kernel
theorem dX10_aimBy_55 : decode cX10_aimBy 55 = .ok (.iload_n 3, 1) := by decide +kernel
theorem dX10_aimBy_56 : decode cX10_aimBy 56 = .ok (.iconst 3, 1) := by decide +kernel
theorem dX10_aimBy_57 : decode cX10_aimBy 57 = .ok (.if_icmp .eq 8, 3) := by decide +kernel
theorem dX10_aimBy_60 : decode cX10_aimBy 60 = .ok (.iload_n 3, 1) := by decide +kernel
theorem dX10_aimBy_61 : decode cX10_aimBy 61 = .ok (.iconst 4, 1) := by decide +kernel
theorem dX10_aimBy_62 : decode cX10_aimBy 62 = .ok (.if_icmp .ne 19, 3) := by decide +kernel
theorem dX10_aimBy_65 : decode cX10_aimBy 65 = .ok (.aload_n 0, 1) := by decide +kernel
theorem dX10_aimBy_66 : decode cX10_aimBy 66 = .ok (.iload_n 1, 1) := by decide +kernel
theorem dX10_aimBy_67 : decode cX10_aimBy 67 = .ok (.invokevirtual 398, 3) := by decide +kernel
theorem dX10_aimBy_70 : decode cX10_aimBy 70 = .ok (.ifCond .eq 7, 3) := by decide +kernel
theorem dX10_aimBy_73 : decode cX10_aimBy 73 = .ok (.iconst 1, 1) := by decide +kernel
theorem dX10_aimBy_74 : decode cX10_aimBy 74 = .ok (.goto 8, 3) := by decide +kernel
theorem dX10_aimBy_77 : decode cX10_aimBy 77 = .ok (.iconst 2, 1) := by decide +kernel
theorem dX10_aimBy_78 : decode cX10_aimBy 78 = .ok (.goto 4, 3) := by decide +kernel
theorem dX10_aimBy_81 : decode cX10_aimBy 81 = .ok (.iload_n 3, 1) := by decide +kernel
theorem dX10_aimBy_82 : decode cX10_aimBy 82 = .ok (.ireturn, 1) := by decide +kernel
theorem dX10_areBeside_0 : decode cX10_areBeside 0 = .ok (.iconst 4, 1) := by decide +kernel
theorem dX10_areBeside_1 : decode cX10_areBeside 1 = .ok (.iload_n 1, 1) := by decide +kernel
theorem dX10_areBeside_2 : decode cX10_areBeside 2 = .ok (.invokestatic 332, 3) := by decide +kernel
theorem dX10_areBeside_5 : decode cX10_areBeside 5 = .ok (.istore_n 3, 1) := by decide +kernel
theorem dX10_areBeside_6 : decode cX10_areBeside 6 = .ok (.iconst 4, 1) := by decide +kernel
theorem dX10_areBeside_7 : decode cX10_areBeside 7 = .ok (.iload_n 2, 1) := by decide +kernel
theorem dX10_areBeside_8 : decode cX10_areBeside 8 = .ok (.invokestatic 332, 3) := by decide +kernel
theorem dX10_areBeside_11 : decode cX10_areBeside 11 = .ok (.istore 4, 2) := by decide +kernel
theorem dX10_areBeside_13 : decode cX10_areBeside 13 = .ok (.aload_n 0, 1) := by decide +kernel
theorem dX10_areBeside_14 : decode cX10_areBeside 14 = .ok (.getfield 71, 3) := by decide +kernel
theorem dX10_areBeside_17 : decode cX10_areBeside 17 = .ok (.iload_n 3, 1) := by decide +kernel
theorem dX10_areBeside_18 : decode cX10_areBeside 18 = .ok (.iaload, 1) := by decide +kernel
theorem dX10_areBeside_19 : decode cX10_areBeside 19 = .ok (.aload_n 0, 1) := by decide +kernel
theorem dX10_areBeside_20 : decode cX10_areBeside 20 = .ok (.getfield 71, 3) := by decide +kernel
theorem dX10_areBeside_23 : decode cX10_areBeside 23 = .ok (.iload 4, 2) := by decide +kernel
theorem dX10_areBeside_25 : decode cX10_areBeside 25 = .ok (.iaload, 1) := by decide +kernel
theorem dX10_areBeside_26 : decode cX10_areBeside 26 = .ok (.isub, 1) := by decide +kernel
theorem dX10_areBeside_27 : decode cX10_areBeside 27 = .ok (.istore 5, 2) := by decide +kernel
theorem dX10_areBeside_29 : decode cX10_areBeside 29 = .ok (.aload_n 0, 1) := by decide +kernel
theorem dX10_areBeside_30 : decode cX10_areBeside 30 = .ok (.getfield 71, 3) := by decide +kernel
theorem dX10_areBeside_33 : decode cX10_areBeside 33 = .ok (.iload_n 3, 1) := by decide +kernel
theorem dX10_areBeside_34 : decode cX10_areBeside 34 = .ok (.iconst 4, 1) := by decide +kernel
theorem dX10_areBeside_35 : decode cX10_areBeside 35 = .ok (.iadd, 1) := by decide +kernel
theorem dX10_areBeside_36 : decode cX10_areBeside 36 = .ok (.iaload, 1) := by decide +kernel
theorem dX10_areBeside_37 : decode cX10_areBeside 37 = .ok (.aload_n 0, 1) := by decide +kernel
theorem dX10_areBeside_38 : decode cX10_areBeside 38 = .ok (.getfield 71, 3) := by decide +kernel
theorem dX10_areBeside_41 : decode cX10_areBeside 41 = .ok (.iload 4, 2) := by decide +kernel
theorem dX10_areBeside_43 : decode cX10_areBeside 43 = .ok (.iconst 4, 1) := by decide +kernel
theorem dX10_areBeside_44 : decode cX10_areBeside 44 = .ok (.iadd, 1) := by decide +kernel
theorem dX10_areBeside_45 : decode cX10_areBeside 45 = .ok (.iaload, 1) := by decide +kernel
theorem dX10_areBeside_46 : decode cX10_areBeside 46 = .ok (.isub, 1) := by decide +kernel
theorem dX10_areBeside_47 : decode cX10_areBeside 47 = .ok (.istore 6, 2) := by decide +kernel
theorem dX10_areBeside_49 : decode cX10_areBeside 49 = .ok (.aload_n 0, 1) := by decide +kernel
theorem dX10_areBeside_50 : decode cX10_areBeside 50 = .ok (.getfield 71, 3) := by decide +kernel
theorem dX10_areBeside_53 : decode cX10_areBeside 53 = .ok (.iload_n 3, 1) := by decide +kernel
theorem dX10_areBeside_54 : decode cX10_areBeside 54 = .ok (.iaload, 1) := by decide +kernel
theorem dX10_areBeside_55 : decode cX10_areBeside 55 = .ok (.iconst (-1), 1) := by decide +kernel
theorem dX10_areBeside_56 : decode cX10_areBeside 56 = .ok (.if_icmp .eq 33, 3) := by decide +kernel
theorem dX10_areBeside_59 : decode cX10_areBeside 59 = .ok (.aload_n 0, 1) := by decide +kernel
theorem dX10_areBeside_60 : decode cX10_areBeside 60 = .ok (.getfield 71, 3) := by decide +kernel
theorem dX10_areBeside_63 : decode cX10_areBeside 63 = .ok (.iload 4, 2) := by decide +kernel
theorem dX10_areBeside_65 : decode cX10_areBeside 65 = .ok (.iaload, 1) := by decide +kernel
theorem dX10_areBeside_66 : decode cX10_areBeside 66 = .ok (.iconst (-1), 1) := by decide +kernel
theorem dX10_areBeside_67 : decode cX10_areBeside 67 = .ok (.if_icmp .eq 22, 3) := by decide +kernel
theorem dX10_areBeside_70 : decode cX10_areBeside 70 = .ok (.iload 5, 2) := by decide +kernel
theorem dX10_areBeside_72 : decode cX10_areBeside 72 = .ok (.iload 5, 2) := by decide +kernel
theorem dX10_areBeside_74 : decode cX10_areBeside 74 = .ok (.imul, 1) := by decide +kernel
theorem dX10_areBeside_75 : decode cX10_areBeside 75 = .ok (.iload 6, 2) := by decide +kernel
theorem dX10_areBeside_77 : decode cX10_areBeside 77 = .ok (.iload 6, 2) := by decide +kernel
theorem dX10_areBeside_79 : decode cX10_areBeside 79 = .ok (.imul, 1) := by decide +kernel
theorem dX10_areBeside_80 : decode cX10_areBeside 80 = .ok (.iadd, 1) := by decide +kernel
theorem dX10_areBeside_81 : decode cX10_areBeside 81 = .ok (.iconst 1, 1) := by decide +kernel
theorem dX10_areBeside_82 : decode cX10_areBeside 82 = .ok (.if_icmp .ne 7, 3) := by decide +kernel
theorem dX10_areBeside_85 : decode cX10_areBeside 85 = .ok (.iconst 1, 1) := by decide +kernel
theorem dX10_areBeside_86 : decode cX10_areBeside 86 = .ok (.goto 4, 3) := by decide +kernel
theorem dX10_areBeside_89 : decode cX10_areBeside 89 = .ok (.iconst 0, 1) := by decide +kernel
theorem dX10_areBeside_90 : decode cX10_areBeside 90 = .ok (.ireturn, 1) := by decide +kernel
theorem dX10_lay_0 : decode cX10_lay 0 = .ok (.sipush 720, 3) := by decide +kernel
theorem dX10_lay_3 : decode cX10_lay 3 = .ok (.iload_n 1, 1) := by decide +kernel
theorem dX10_lay_4 : decode cX10_lay 4 = .ok (.imul, 1) := by decide +kernel
theorem dX10_lay_5 : decode cX10_lay 5 = .ok (.istore 7, 2) := by decide +kernel
theorem dX10_lay_7 : decode cX10_lay 7 = .ok (.iconst 0, 1) := by decide +kernel
theorem dX10_lay_8 : decode cX10_lay 8 = .ok (.istore 8, 2) := by decide +kernel
theorem dX10_lay_10 : decode cX10_lay 10 = .ok (.iload 8, 2) := by decide +kernel
theorem dX10_lay_12 : decode cX10_lay 12 = .ok (.sipush 720, 3) := by decide +kernel
theorem dX10_lay_15 : decode cX10_lay 15 = .ok (.if_icmp .ge 20, 3) := by decide +kernel
theorem dX10_lay_18 : decode cX10_lay 18 = .ok (.aload_n 0, 1) := by decide +kernel
theorem dX10_lay_19 : decode cX10_lay 19 = .ok (.getfield 71, 3) := by decide +kernel
theorem dX10_lay_22 : decode cX10_lay 22 = .ok (.iload 7, 2) := by decide +kernel
theorem dX10_lay_24 : decode cX10_lay 24 = .ok (.iload 8, 2) := by decide +kernel
theorem dX10_lay_26 : decode cX10_lay 26 = .ok (.iadd, 1) := by decide +kernel
theorem dX10_lay_27 : decode cX10_lay 27 = .ok (.iconst 0, 1) := by decide +kernel
theorem dX10_lay_28 : decode cX10_lay 28 = .ok (.iastore, 1) := by decide +kernel
theorem dX10_lay_29 : decode cX10_lay 29 = .ok (.iinc 8 1, 3) := by decide +kernel
theorem dX10_lay_32 : decode cX10_lay 32 = .ok (.goto (-22), 3) := by decide +kernel
theorem dX10_lay_35 : decode cX10_lay 35 = .ok (.aload_n 0, 1) := by decide +kernel
theorem dX10_lay_36 : decode cX10_lay 36 = .ok (.getfield 71, 3) := by decide +kernel
theorem dX10_lay_39 : decode cX10_lay 39 = .ok (.iload 7, 2) := by decide +kernel
theorem dX10_lay_41 : decode cX10_lay 41 = .ok (.iconst 0, 1) := by decide +kernel
theorem dX10_lay_42 : decode cX10_lay 42 = .ok (.iadd, 1) := by decide +kernel
theorem dX10_lay_43 : decode cX10_lay 43 = .ok (.aload_n 0, 1) := by decide +kernel
theorem dX10_lay_44 : decode cX10_lay 44 = .ok (.getfield 26, 3) := by decide +kernel
theorem dX10_lay_47 : decode cX10_lay 47 = .ok (.iload_n 2, 1) := by decide +kernel
theorem dX10_lay_48 : decode cX10_lay 48 = .ok (.iaload, 1) := by decide +kernel
theorem dX10_lay_49 : decode cX10_lay 49 = .ok (.iastore, 1) := by decide +kernel
theorem dX10_lay_50 : decode cX10_lay 50 = .ok (.aload_n 0, 1) := by decide +kernel
theorem dX10_lay_51 : decode cX10_lay 51 = .ok (.getfield 71, 3) := by decide +kernel
theorem dX10_lay_54 : decode cX10_lay 54 = .ok (.iload 7, 2) := by decide +kernel
theorem dX10_lay_56 : decode cX10_lay 56 = .ok (.iconst 1, 1) := by decide +kernel
theorem dX10_lay_57 : decode cX10_lay 57 = .ok (.iadd, 1) := by decide +kernel
theorem dX10_lay_58 : decode cX10_lay 58 = .ok (.aload_n 0, 1) := by decide +kernel
theorem dX10_lay_59 : decode cX10_lay 59 = .ok (.getfield 29, 3) := by decide +kernel
theorem dX10_lay_62 : decode cX10_lay 62 = .ok (.iload_n 2, 1) := by decide +kernel
theorem dX10_lay_63 : decode cX10_lay 63 = .ok (.iaload, 1) := by decide +kernel
theorem dX10_lay_64 : decode cX10_lay 64 = .ok (.iastore, 1) := by decide +kernel
theorem dX10_lay_65 : decode cX10_lay 65 = .ok (.aload_n 0, 1) := by decide +kernel
theorem dX10_lay_66 : decode cX10_lay 66 = .ok (.getfield 71, 3) := by decide +kernel
theorem dX10_lay_69 : decode cX10_lay 69 = .ok (.iload 7, 2) := by decide +kernel
theorem dX10_lay_71 : decode cX10_lay 71 = .ok (.iconst 2, 1) := by decide +kernel
theorem dX10_lay_72 : decode cX10_lay 72 = .ok (.iadd, 1) := by decide +kernel
theorem dX10_lay_73 : decode cX10_lay 73 = .ok (.aload_n 0, 1) := by decide +kernel
theorem dX10_lay_74 : decode cX10_lay 74 = .ok (.getfield 32, 3) := by decide +kernel
theorem dX10_lay_77 : decode cX10_lay 77 = .ok (.iload_n 2, 1) := by decide +kernel
theorem dX10_lay_78 : decode cX10_lay 78 = .ok (.iaload, 1) := by decide +kernel
theorem dX10_lay_79 : decode cX10_lay 79 = .ok (.iastore, 1) := by decide +kernel
theorem dX10_lay_80 : decode cX10_lay 80 = .ok (.aload_n 0, 1) := by decide +kernel
theorem dX10_lay_81 : decode cX10_lay 81 = .ok (.getfield 71, 3) := by decide +kernel
theorem dX10_lay_84 : decode cX10_lay 84 = .ok (.iload 7, 2) := by decide +kernel
theorem dX10_lay_86 : decode cX10_lay 86 = .ok (.iconst 4, 1) := by decide +kernel
theorem dX10_lay_87 : decode cX10_lay 87 = .ok (.iadd, 1) := by decide +kernel
theorem dX10_lay_88 : decode cX10_lay 88 = .ok (.iload 4, 2) := by decide +kernel
theorem dX10_lay_90 : decode cX10_lay 90 = .ok (.iastore, 1) := by decide +kernel
theorem dX10_lay_91 : decode cX10_lay 91 = .ok (.aload_n 0, 1) := by decide +kernel
theorem dX10_lay_92 : decode cX10_lay 92 = .ok (.getfield 71, 3) := by decide +kernel
theorem dX10_lay_95 : decode cX10_lay 95 = .ok (.iload 7, 2) := by decide +kernel
theorem dX10_lay_97 : decode cX10_lay 97 = .ok (.bipush 9, 2) := by decide +kernel
theorem dX10_lay_99 : decode cX10_lay 99 = .ok (.iadd, 1) := by decide +kernel
theorem dX10_lay_100 : decode cX10_lay 100 = .ok (.aload_n 0, 1) := by decide +kernel
theorem dX10_lay_101 : decode cX10_lay 101 = .ok (.getfield 47, 3) := by decide +kernel
theorem dX10_lay_104 : decode cX10_lay 104 = .ok (.iload_n 3, 1) := by decide +kernel
theorem dX10_lay_105 : decode cX10_lay 105 = .ok (.iaload, 1) := by decide +kernel
theorem dX10_lay_106 : decode cX10_lay 106 = .ok (.iastore, 1) := by decide +kernel
theorem dX10_lay_107 : decode cX10_lay 107 = .ok (.aload_n 0, 1) := by decide +kernel
theorem dX10_lay_108 : decode cX10_lay 108 = .ok (.getfield 71, 3) := by decide +kernel
theorem dX10_lay_111 : decode cX10_lay 111 = .ok (.iload 7, 2) := by decide +kernel
theorem dX10_lay_113 : decode cX10_lay 113 = .ok (.bipush 10, 2) := by decide +kernel
theorem dX10_lay_115 : decode cX10_lay 115 = .ok (.iadd, 1) := by decide +kernel
theorem dX10_lay_116 : decode cX10_lay 116 = .ok (.iconst 1, 1) := by decide +kernel
theorem dX10_lay_117 : decode cX10_lay 117 = .ok (.iastore, 1) := by decide +kernel
theorem dX10_lay_118 : decode cX10_lay 118 = .ok (.iconst 0, 1) := by decide +kernel
theorem dX10_lay_119 : decode cX10_lay 119 = .ok (.istore 8, 2) := by decide +kernel
theorem dX10_lay_121 : decode cX10_lay 121 = .ok (.iload 8, 2) := by decide +kernel
theorem dX10_lay_123 : decode cX10_lay 123 = .ok (.aload_n 0, 1) := by decide +kernel
theorem dX10_lay_124 : decode cX10_lay 124 = .ok (.getfield 32, 3) := by decide +kernel
theorem dX10_lay_127 : decode cX10_lay 127 = .ok (.iload_n 2, 1) := by decide +kernel
theorem dX10_lay_128 : decode cX10_lay 128 = .ok (.iaload, 1) := by decide +kernel
theorem dX10_lay_129 : decode cX10_lay 129 = .ok (.if_icmp .ge 173, 3) := by decide +kernel
theorem dX10_lay_132 : decode cX10_lay 132 = .ok (.iload_n 1, 1) := by decide +kernel
theorem dX10_lay_133 : decode cX10_lay 133 = .ok (.iload 8, 2) := by decide +kernel
theorem dX10_lay_135 : decode cX10_lay 135 = .ok (.invokestatic 332, 3) := by decide +kernel
theorem dX10_lay_138 : decode cX10_lay 138 = .ok (.istore 9, 2) := by decide +kernel
theorem dX10_lay_140 : decode cX10_lay 140 = .ok (.bipush 8, 2) := by decide +kernel
theorem dX10_lay_142 : decode cX10_lay 142 = .ok (.bipush 12, 2) := by decide +kernel
theorem dX10_lay_144 : decode cX10_lay 144 = .ok (.iload_n 2, 1) := by decide +kernel
theorem dX10_lay_145 : decode cX10_lay 145 = .ok (.imul, 1) := by decide +kernel
theorem dX10_lay_146 : decode cX10_lay 146 = .ok (.iload 8, 2) := by decide +kernel
theorem dX10_lay_148 : decode cX10_lay 148 = .ok (.iadd, 1) := by decide +kernel
theorem dX10_lay_149 : decode cX10_lay 149 = .ok (.imul, 1) := by decide +kernel
theorem dX10_lay_150 : decode cX10_lay 150 = .ok (.istore 10, 2) := by decide +kernel
theorem dX10_lay_152 : decode cX10_lay 152 = .ok (.iload 8, 2) := by decide +kernel
theorem dX10_lay_154 : decode cX10_lay 154 = .ok (.iload 5, 2) := by decide +kernel
theorem dX10_lay_156 : decode cX10_lay 156 = .ok (.if_icmp .ge 10, 3) := by decide +kernel
theorem dX10_lay_159 : decode cX10_lay 159 = .ok (.iload 8, 2) := by decide +kernel
theorem dX10_lay_161 : decode cX10_lay 161 = .ok (.iload 6, 2) := by decide +kernel
theorem dX10_lay_163 : decode cX10_lay 163 = .ok (.if_icmp .ne 7, 3) := by decide +kernel
theorem dX10_lay_166 : decode cX10_lay 166 = .ok (.iconst 1, 1) := by decide +kernel
theorem dX10_lay_167 : decode cX10_lay 167 = .ok (.goto 4, 3) := by decide +kernel
theorem dX10_lay_170 : decode cX10_lay 170 = .ok (.iconst 0, 1) := by decide +kernel
theorem dX10_lay_171 : decode cX10_lay 171 = .ok (.istore 11, 2) := by decide +kernel
theorem dX10_lay_173 : decode cX10_lay 173 = .ok (.iconst 0, 1) := by decide +kernel
theorem dX10_lay_174 : decode cX10_lay 174 = .ok (.istore 12, 2) := by decide +kernel
theorem dX10_lay_176 : decode cX10_lay 176 = .ok (.iload 12, 2) := by decide +kernel
theorem dX10_lay_178 : decode cX10_lay 178 = .ok (.iconst 4, 1) := by decide +kernel
theorem dX10_lay_179 : decode cX10_lay 179 = .ok (.if_icmp .ge 65, 3) := by decide +kernel
theorem dX10_lay_182 : decode cX10_lay 182 = .ok (.aload_n 0, 1) := by decide +kernel
theorem dX10_lay_183 : decode cX10_lay 183 = .ok (.getfield 71, 3) := by decide +kernel
theorem dX10_lay_186 : decode cX10_lay 186 = .ok (.iload 9, 2) := by decide +kernel
theorem dX10_lay_188 : decode cX10_lay 188 = .ok (.iload 12, 2) := by decide +kernel
theorem dX10_lay_190 : decode cX10_lay 190 = .ok (.iadd, 1) := by decide +kernel
theorem dX10_lay_191 : decode cX10_lay 191 = .ok (.iload 11, 2) := by decide +kernel
theorem dX10_lay_193 : decode cX10_lay 193 = .ok (.ifCond .eq 7, 3) := by decide +kernel
theorem dX10_lay_196 : decode cX10_lay 196 = .ok (.iconst (-1), 1) := by decide +kernel
theorem dX10_lay_197 : decode cX10_lay 197 = .ok (.goto 10, 3) := by decide +kernel
theorem dX10_lay_200 : decode cX10_lay 200 = .ok (.aload_n 0, 1) := by decide +kernel
theorem dX10_lay_201 : decode cX10_lay 201 = .ok (.getfield 41, 3) := by decide +kernel
theorem dX10_lay_204 : decode cX10_lay 204 = .ok (.iload 10, 2) := by decide +kernel
theorem dX10_lay_206 : decode cX10_lay 206 = .ok (.iaload, 1) := by decide +kernel
theorem dX10_lay_207 : decode cX10_lay 207 = .ok (.iastore, 1) := by decide +kernel
theorem dX10_lay_208 : decode cX10_lay 208 = .ok (.aload_n 0, 1) := by decide +kernel
theorem dX10_lay_209 : decode cX10_lay 209 = .ok (.getfield 71, 3) := by decide +kernel
theorem dX10_lay_212 : decode cX10_lay 212 = .ok (.iload 9, 2) := by decide +kernel
theorem dX10_lay_214 : decode cX10_lay 214 = .ok (.iconst 4, 1) := by decide +kernel
theorem dX10_lay_215 : decode cX10_lay 215 = .ok (.iadd, 1) := by decide +kernel
theorem dX10_lay_216 : decode cX10_lay 216 = .ok (.iload 12, 2) := by decide +kernel
theorem dX10_lay_218 : decode cX10_lay 218 = .ok (.iadd, 1) := by decide +kernel
theorem dX10_lay_219 : decode cX10_lay 219 = .ok (.iload 11, 2) := by decide +kernel
theorem dX10_lay_221 : decode cX10_lay 221 = .ok (.ifCond .eq 7, 3) := by decide +kernel
theorem dX10_lay_224 : decode cX10_lay 224 = .ok (.iconst (-1), 1) := by decide +kernel
theorem dX10_lay_225 : decode cX10_lay 225 = .ok (.goto 12, 3) := by decide +kernel
theorem dX10_lay_228 : decode cX10_lay 228 = .ok (.aload_n 0, 1) := by decide +kernel
theorem dX10_lay_229 : decode cX10_lay 229 = .ok (.getfield 41, 3) := by decide +kernel
theorem dX10_lay_232 : decode cX10_lay 232 = .ok (.iload 10, 2) := by decide +kernel
theorem dX10_lay_234 : decode cX10_lay 234 = .ok (.iconst 1, 1) := by decide +kernel
theorem dX10_lay_235 : decode cX10_lay 235 = .ok (.iadd, 1) := by decide +kernel
theorem dX10_lay_236 : decode cX10_lay 236 = .ok (.iaload, 1) := by decide +kernel
theorem dX10_lay_237 : decode cX10_lay 237 = .ok (.iastore, 1) := by decide +kernel
theorem dX10_lay_238 : decode cX10_lay 238 = .ok (.iinc 12 1, 3) := by decide +kernel
theorem dX10_lay_241 : decode cX10_lay 241 = .ok (.goto (-65), 3) := by decide +kernel
theorem dX10_lay_244 : decode cX10_lay 244 = .ok (.iconst 2, 1) := by decide +kernel
theorem dX10_lay_245 : decode cX10_lay 245 = .ok (.istore 12, 2) := by decide +kernel
theorem dX10_lay_247 : decode cX10_lay 247 = .ok (.iload 12, 2) := by decide +kernel
theorem dX10_lay_249 : decode cX10_lay 249 = .ok (.bipush 8, 2) := by decide +kernel
theorem dX10_lay_251 : decode cX10_lay 251 = .ok (.if_icmp .ge 34, 3) := by decide +kernel
theorem dX10_lay_254 : decode cX10_lay 254 = .ok (.aload_n 0, 1) := by decide +kernel
theorem dX10_lay_255 : decode cX10_lay 255 = .ok (.getfield 71, 3) := by decide +kernel
theorem dX10_lay_258 : decode cX10_lay 258 = .ok (.iload 9, 2) := by decide +kernel
theorem dX10_lay_260 : decode cX10_lay 260 = .ok (.bipush 8, 2) := by decide +kernel
theorem dX10_lay_262 : decode cX10_lay 262 = .ok (.iadd, 1) := by decide +kernel
theorem dX10_lay_263 : decode cX10_lay 263 = .ok (.iload 12, 2) := by decide +kernel
theorem dX10_lay_265 : decode cX10_lay 265 = .ok (.iadd, 1) := by decide +kernel
theorem dX10_lay_266 : decode cX10_lay 266 = .ok (.iconst 2, 1) := by decide +kernel
theorem dX10_lay_267 : decode cX10_lay 267 = .ok (.isub, 1) := by decide +kernel
theorem dX10_lay_268 : decode cX10_lay 268 = .ok (.aload_n 0, 1) := by decide +kernel
theorem dX10_lay_269 : decode cX10_lay 269 = .ok (.getfield 41, 3) := by decide +kernel
theorem dX10_lay_272 : decode cX10_lay 272 = .ok (.iload 10, 2) := by decide +kernel
theorem dX10_lay_274 : decode cX10_lay 274 = .ok (.iload 12, 2) := by decide +kernel
theorem dX10_lay_276 : decode cX10_lay 276 = .ok (.iadd, 1) := by decide +kernel
theorem dX10_lay_277 : decode cX10_lay 277 = .ok (.iaload, 1) := by decide +kernel
theorem dX10_lay_278 : decode cX10_lay 278 = .ok (.iastore, 1) := by decide +kernel
theorem dX10_lay_279 : decode cX10_lay 279 = .ok (.iinc 12 1, 3) := by decide +kernel
theorem dX10_lay_282 : decode cX10_lay 282 = .ok (.goto (-35), 3) := by decide +kernel
theorem dX10_lay_285 : decode cX10_lay 285 = .ok (.aload_n 0, 1) := by decide +kernel
theorem dX10_lay_286 : decode cX10_lay 286 = .ok (.getfield 71, 3) := by decide +kernel
theorem dX10_lay_289 : decode cX10_lay 289 = .ok (.iload 9, 2) := by decide +kernel
theorem dX10_lay_291 : decode cX10_lay 291 = .ok (.bipush 14, 2) := by decide +kernel
theorem dX10_lay_293 : decode cX10_lay 293 = .ok (.iadd, 1) := by decide +kernel
theorem dX10_lay_294 : decode cX10_lay 294 = .ok (.iconst (-1), 1) := by decide +kernel
theorem dX10_lay_295 : decode cX10_lay 295 = .ok (.iastore, 1) := by decide +kernel
theorem dX10_lay_296 : decode cX10_lay 296 = .ok (.iinc 8 1, 3) := by decide +kernel
theorem dX10_lay_299 : decode cX10_lay 299 = .ok (.goto (-178), 3) := by decide +kernel
theorem dX10_lay_302 : decode cX10_lay 302 = .ok (.iconst 0, 1) := by decide +kernel
theorem dX10_lay_303 : decode cX10_lay 303 = .ok (.istore 8, 2) := by decide +kernel
theorem dX10_lay_305 : decode cX10_lay 305 = .ok (.iload 8, 2) := by decide +kernel
theorem dX10_lay_307 : decode cX10_lay 307 = .ok (.bipush 96, 2) := by decide +kernel
theorem dX10_lay_309 : decode cX10_lay 309 = .ok (.if_icmp .ge 35, 3) := by decide +kernel
theorem dX10_lay_312 : decode cX10_lay 312 = .ok (.aload_n 0, 1) := by decide +kernel
theorem dX10_lay_313 : decode cX10_lay 313 = .ok (.getfield 71, 3) := by decide +kernel
theorem dX10_lay_316 : decode cX10_lay 316 = .ok (.iload 7, 2) := by decide +kernel
theorem dX10_lay_318 : decode cX10_lay 318 = .ok (.sipush 256, 3) := by decide +kernel
theorem dX10_lay_321 : decode cX10_lay 321 = .ok (.iadd, 1) := by decide +kernel
theorem dX10_lay_322 : decode cX10_lay 322 = .ok (.iload 8, 2) := by decide +kernel
theorem dX10_lay_324 : decode cX10_lay 324 = .ok (.iadd, 1) := by decide +kernel
theorem dX10_lay_325 : decode cX10_lay 325 = .ok (.aload_n 0, 1) := by decide +kernel
theorem dX10_lay_326 : decode cX10_lay 326 = .ok (.getfield 38, 3) := by decide +kernel
theorem dX10_lay_329 : decode cX10_lay 329 = .ok (.bipush 96, 2) := by decide +kernel
theorem dX10_lay_331 : decode cX10_lay 331 = .ok (.iload_n 2, 1) := by decide +kernel
theorem dX10_lay_332 : decode cX10_lay 332 = .ok (.imul, 1) := by decide +kernel
theorem dX10_lay_333 : decode cX10_lay 333 = .ok (.iload 8, 2) := by decide +kernel
theorem dX10_lay_335 : decode cX10_lay 335 = .ok (.iadd, 1) := by decide +kernel
theorem dX10_lay_336 : decode cX10_lay 336 = .ok (.iaload, 1) := by decide +kernel
theorem dX10_lay_337 : decode cX10_lay 337 = .ok (.iastore, 1) := by decide +kernel
theorem dX10_lay_338 : decode cX10_lay 338 = .ok (.iinc 8 1, 3) := by decide +kernel
theorem dX10_lay_341 : decode cX10_lay 341 = .ok (.goto (-36), 3) := by decide +kernel
theorem dX10_lay_344 : decode cX10_lay 344 = .ok (.iconst 0, 1) := by decide +kernel
theorem dX10_lay_345 : decode cX10_lay 345 = .ok (.istore 8, 2) := by decide +kernel
theorem dX10_lay_347 : decode cX10_lay 347 = .ok (.iload 8, 2) := by decide +kernel
theorem dX10_lay_349 : decode cX10_lay 349 = .ok (.sipush 288, 3) := by decide +kernel
theorem dX10_lay_352 : decode cX10_lay 352 = .ok (.if_icmp .ge 36, 3) := by decide +kernel
theorem dX10_lay_355 : decode cX10_lay 355 = .ok (.aload_n 0, 1) := by decide +kernel
theorem dX10_lay_356 : decode cX10_lay 356 = .ok (.getfield 71, 3) := by decide +kernel
theorem dX10_lay_359 : decode cX10_lay 359 = .ok (.iload 7, 2) := by decide +kernel
theorem dX10_lay_361 : decode cX10_lay 361 = .ok (.sipush 352, 3) := by decide +kernel
theorem dX10_lay_364 : decode cX10_lay 364 = .ok (.iadd, 1) := by decide +kernel
theorem dX10_lay_365 : decode cX10_lay 365 = .ok (.iload 8, 2) := by decide +kernel
theorem dX10_lay_367 : decode cX10_lay 367 = .ok (.iadd, 1) := by decide +kernel
theorem dX10_lay_368 : decode cX10_lay 368 = .ok (.aload_n 0, 1) := by decide +kernel
theorem dX10_lay_369 : decode cX10_lay 369 = .ok (.getfield 50, 3) := by decide +kernel
theorem dX10_lay_372 : decode cX10_lay 372 = .ok (.sipush 288, 3) := by decide +kernel
theorem dX10_lay_375 : decode cX10_lay 375 = .ok (.iload_n 3, 1) := by decide +kernel
theorem dX10_lay_376 : decode cX10_lay 376 = .ok (.imul, 1) := by decide +kernel
theorem dX10_lay_377 : decode cX10_lay 377 = .ok (.iload 8, 2) := by decide +kernel
theorem dX10_lay_379 : decode cX10_lay 379 = .ok (.iadd, 1) := by decide +kernel
theorem dX10_lay_380 : decode cX10_lay 380 = .ok (.iaload, 1) := by decide +kernel
theorem dX10_lay_381 : decode cX10_lay 381 = .ok (.iastore, 1) := by decide +kernel
theorem dX10_lay_382 : decode cX10_lay 382 = .ok (.iinc 8 1, 3) := by decide +kernel
theorem dX10_lay_385 : decode cX10_lay 385 = .ok (.goto (-38), 3) := by decide +kernel
theorem dX10_lay_388 : decode cX10_lay 388 = .ok (.return_, 1) := by decide +kernel
theorem dX10_dance_0 : decode cX10_dance 0 = .ok (.iload_n 1, 1) := by decide +kernel
theorem dX10_dance_1 : decode cX10_dance 1 = .ok (.iload_n 2, 1) := by decide +kernel
theorem dX10_dance_2 : decode cX10_dance 2 = .ok (.invokestatic 332, 3) := by decide +kernel
theorem dX10_dance_5 : decode cX10_dance 5 = .ok (.istore 4, 2) := by decide +kernel
theorem dX10_dance_7 : decode cX10_dance 7 = .ok (.iload_n 1, 1) := by decide +kernel
theorem dX10_dance_8 : decode cX10_dance 8 = .ok (.iload_n 3, 1) := by decide +kernel
theorem dX10_dance_9 : decode cX10_dance 9 = .ok (.invokestatic 332, 3) := by decide +kernel
theorem dX10_dance_12 : decode cX10_dance 12 = .ok (.istore 5, 2) := by decide +kernel
theorem dX10_dance_14 : decode cX10_dance 14 = .ok (.aload_n 0, 1) := by decide +kernel
theorem dX10_dance_15 : decode cX10_dance 15 = .ok (.getfield 83, 3) := by decide +kernel
theorem dX10_dance_18 : decode cX10_dance 18 = .ok (.iload_n 2, 1) := by decide +kernel
theorem dX10_dance_19 : decode cX10_dance 19 = .ok (.iaload, 1) := by decide +kernel
theorem dX10_dance_20 : decode cX10_dance 20 = .ok (.ifCond .eq 53, 3) := by decide +kernel
theorem dX10_dance_23 : decode cX10_dance 23 = .ok (.aload_n 0, 1) := by decide +kernel
theorem dX10_dance_24 : decode cX10_dance 24 = .ok (.getfield 83, 3) := by decide +kernel
theorem dX10_dance_27 : decode cX10_dance 27 = .ok (.iload_n 3, 1) := by decide +kernel
theorem dX10_dance_28 : decode cX10_dance 28 = .ok (.iaload, 1) := by decide +kernel
theorem dX10_dance_29 : decode cX10_dance 29 = .ok (.ifCond .eq 44, 3) := by decide +kernel
theorem dX10_dance_32 : decode cX10_dance 32 = .ok (.aload_n 0, 1) := by decide +kernel
theorem dX10_dance_33 : decode cX10_dance 33 = .ok (.getfield 80, 3) := by decide +kernel
theorem dX10_dance_36 : decode cX10_dance 36 = .ok (.iload_n 2, 1) := by decide +kernel
theorem dX10_dance_37 : decode cX10_dance 37 = .ok (.iaload, 1) := by decide +kernel
theorem dX10_dance_38 : decode cX10_dance 38 = .ok (.ifCond .eq 35, 3) := by decide +kernel
theorem dX10_dance_41 : decode cX10_dance 41 = .ok (.aload_n 0, 1) := by decide +kernel
theorem dX10_dance_42 : decode cX10_dance 42 = .ok (.getfield 80, 3) := by decide +kernel
theorem dX10_dance_45 : decode cX10_dance 45 = .ok (.iload_n 3, 1) := by decide +kernel
theorem dX10_dance_46 : decode cX10_dance 46 = .ok (.iaload, 1) := by decide +kernel
theorem dX10_dance_47 : decode cX10_dance 47 = .ok (.ifCond .eq 26, 3) := by decide +kernel
theorem dX10_dance_50 : decode cX10_dance 50 = .ok (.aload_n 0, 1) := by decide +kernel
theorem dX10_dance_51 : decode cX10_dance 51 = .ok (.getfield 71, 3) := by decide +kernel
theorem dX10_dance_54 : decode cX10_dance 54 = .ok (.iload 4, 2) := by decide +kernel
theorem dX10_dance_56 : decode cX10_dance 56 = .ok (.bipush 8, 2) := by decide +kernel
theorem dX10_dance_58 : decode cX10_dance 58 = .ok (.iadd, 1) := by decide +kernel
theorem dX10_dance_59 : decode cX10_dance 59 = .ok (.iaload, 1) := by decide +kernel
theorem dX10_dance_60 : decode cX10_dance 60 = .ok (.aload_n 0, 1) := by decide +kernel
theorem dX10_dance_61 : decode cX10_dance 61 = .ok (.getfield 71, 3) := by decide +kernel
theorem dX10_dance_64 : decode cX10_dance 64 = .ok (.iload 5, 2) := by decide +kernel
theorem dX10_dance_66 : decode cX10_dance 66 = .ok (.bipush 8, 2) := by decide +kernel
theorem dX10_dance_68 : decode cX10_dance 68 = .ok (.iadd, 1) := by decide +kernel
theorem dX10_dance_69 : decode cX10_dance 69 = .ok (.iaload, 1) := by decide +kernel
theorem dX10_dance_70 : decode cX10_dance 70 = .ok (.if_icmp .ne 5, 3) := by decide +kernel
theorem dX10_dance_73 : decode cX10_dance 73 = .ok (.iconst 0, 1) := by decide +kernel
theorem dX10_dance_74 : decode cX10_dance 74 = .ok (.ireturn, 1) := by decide +kernel
theorem dX10_dance_75 : decode cX10_dance 75 = .ok (.aload_n 0, 1) := by decide +kernel
theorem dX10_dance_76 : decode cX10_dance 76 = .ok (.getfield 71, 3) := by decide +kernel
theorem dX10_dance_79 : decode cX10_dance 79 = .ok (.iload 4, 2) := by decide +kernel
theorem dX10_dance_81 : decode cX10_dance 81 = .ok (.iaload, 1) := by decide +kernel
theorem dX10_dance_82 : decode cX10_dance 82 = .ok (.aload_n 0, 1) := by decide +kernel
theorem dX10_dance_83 : decode cX10_dance 83 = .ok (.getfield 71, 3) := by decide +kernel
theorem dX10_dance_86 : decode cX10_dance 86 = .ok (.iload 5, 2) := by decide +kernel
theorem dX10_dance_88 : decode cX10_dance 88 = .ok (.iaload, 1) := by decide +kernel
theorem dX10_dance_89 : decode cX10_dance 89 = .ok (.isub, 1) := by decide +kernel
theorem dX10_dance_90 : decode cX10_dance 90 = .ok (.istore 6, 2) := by decide +kernel
theorem dX10_dance_92 : decode cX10_dance 92 = .ok (.iload 6, 2) := by decide +kernel
theorem dX10_dance_94 : decode cX10_dance 94 = .ok (.bipush (-2), 2) := by decide +kernel
theorem dX10_dance_96 : decode cX10_dance 96 = .ok (.iconst 2, 1) := by decide +kernel
theorem dX10_dance_97 : decode cX10_dance 97 = .ok (.invokestatic 129, 3) := by decide +kernel
theorem dX10_dance_100 : decode cX10_dance 100 = .ok (.ifCond .eq 43, 3) := by decide +kernel
theorem dX10_dance_103 : decode cX10_dance 103 = .ok (.aload_n 0, 1) := by decide +kernel
theorem dX10_dance_104 : decode cX10_dance 104 = .ok (.getfield 71, 3) := by decide +kernel
theorem dX10_dance_107 : decode cX10_dance 107 = .ok (.iload 4, 2) := by decide +kernel
theorem dX10_dance_109 : decode cX10_dance 109 = .ok (.iconst 4, 1) := by decide +kernel
theorem dX10_dance_110 : decode cX10_dance 110 = .ok (.iadd, 1) := by decide +kernel
theorem dX10_dance_111 : decode cX10_dance 111 = .ok (.iaload, 1) := by decide +kernel
theorem dX10_dance_112 : decode cX10_dance 112 = .ok (.aload_n 0, 1) := by decide +kernel
theorem dX10_dance_113 : decode cX10_dance 113 = .ok (.getfield 71, 3) := by decide +kernel
theorem dX10_dance_116 : decode cX10_dance 116 = .ok (.iload 5, 2) := by decide +kernel
theorem dX10_dance_118 : decode cX10_dance 118 = .ok (.iconst 4, 1) := by decide +kernel
theorem dX10_dance_119 : decode cX10_dance 119 = .ok (.iadd, 1) := by decide +kernel
theorem dX10_dance_120 : decode cX10_dance 120 = .ok (.iaload, 1) := by decide +kernel
theorem dX10_dance_121 : decode cX10_dance 121 = .ok (.if_icmp .ne 22, 3) := by decide +kernel
theorem dX10_dance_124 : decode cX10_dance 124 = .ok (.aload_n 0, 1) := by decide +kernel
theorem dX10_dance_125 : decode cX10_dance 125 = .ok (.getfield 89, 3) := by decide +kernel
theorem dX10_dance_128 : decode cX10_dance 128 = .ok (.iload_n 2, 1) := by decide +kernel
theorem dX10_dance_129 : decode cX10_dance 129 = .ok (.iaload, 1) := by decide +kernel
theorem dX10_dance_130 : decode cX10_dance 130 = .ok (.aload_n 0, 1) := by decide +kernel
theorem dX10_dance_131 : decode cX10_dance 131 = .ok (.getfield 89, 3) := by decide +kernel
theorem dX10_dance_134 : decode cX10_dance 134 = .ok (.iload_n 3, 1) := by decide +kernel
theorem dX10_dance_135 : decode cX10_dance 135 = .ok (.iaload, 1) := by decide +kernel
theorem dX10_dance_136 : decode cX10_dance 136 = .ok (.if_icmp .ne 7, 3) := by decide +kernel
theorem dX10_dance_139 : decode cX10_dance 139 = .ok (.iconst 1, 1) := by decide +kernel
theorem dX10_dance_140 : decode cX10_dance 140 = .ok (.goto 4, 3) := by decide +kernel
theorem dX10_dance_143 : decode cX10_dance 143 = .ok (.iconst 0, 1) := by decide +kernel
theorem dX10_dance_144 : decode cX10_dance 144 = .ok (.ireturn, 1) := by decide +kernel
theorem dX10_ends_0 : decode cX10_ends 0 = .ok (.iconst 3, 1) := by decide +kernel
theorem dX10_ends_1 : decode cX10_ends 1 = .ok (.istore_n 3, 1) := by decide +kernel
theorem dX10_ends_2 : decode cX10_ends 2 = .ok (.iload_n 3, 1) := by decide +kernel
theorem dX10_ends_3 : decode cX10_ends 3 = .ok (.ifCond .le 49, 3) := by decide +kernel
theorem dX10_ends_6 : decode cX10_ends 6 = .ok (.aload_n 0, 1) := by decide +kernel
theorem dX10_ends_7 : decode cX10_ends 7 = .ok (.getfield 71, 3) := by decide +kernel
theorem dX10_ends_10 : decode cX10_ends 10 = .ok (.iload_n 1, 1) := by decide +kernel
theorem dX10_ends_11 : decode cX10_ends 11 = .ok (.iload_n 3, 1) := by decide +kernel
theorem dX10_ends_12 : decode cX10_ends 12 = .ok (.iadd, 1) := by decide +kernel
theorem dX10_ends_13 : decode cX10_ends 13 = .ok (.aload_n 0, 1) := by decide +kernel
theorem dX10_ends_14 : decode cX10_ends 14 = .ok (.getfield 71, 3) := by decide +kernel
theorem dX10_ends_17 : decode cX10_ends 17 = .ok (.iload_n 1, 1) := by decide +kernel
theorem dX10_ends_18 : decode cX10_ends 18 = .ok (.iload_n 3, 1) := by decide +kernel
theorem dX10_ends_19 : decode cX10_ends 19 = .ok (.iadd, 1) := by decide +kernel
theorem dX10_ends_20 : decode cX10_ends 20 = .ok (.iconst 1, 1) := by decide +kernel
theorem dX10_ends_21 : decode cX10_ends 21 = .ok (.isub, 1) := by decide +kernel
theorem dX10_ends_22 : decode cX10_ends 22 = .ok (.iaload, 1) := by decide +kernel
theorem dX10_ends_23 : decode cX10_ends 23 = .ok (.iastore, 1) := by decide +kernel
theorem dX10_ends_24 : decode cX10_ends 24 = .ok (.aload_n 0, 1) := by decide +kernel
theorem dX10_ends_25 : decode cX10_ends 25 = .ok (.getfield 71, 3) := by decide +kernel
theorem dX10_ends_28 : decode cX10_ends 28 = .ok (.iload_n 1, 1) := by decide +kernel
theorem dX10_ends_29 : decode cX10_ends 29 = .ok (.iconst 4, 1) := by decide +kernel
theorem dX10_ends_30 : decode cX10_ends 30 = .ok (.iadd, 1) := by decide +kernel
theorem dX10_ends_31 : decode cX10_ends 31 = .ok (.iload_n 3, 1) := by decide +kernel
theorem dX10_ends_32 : decode cX10_ends 32 = .ok (.iadd, 1) := by decide +kernel
theorem dX10_ends_33 : decode cX10_ends 33 = .ok (.aload_n 0, 1) := by decide +kernel
theorem dX10_ends_34 : decode cX10_ends 34 = .ok (.getfield 71, 3) := by decide +kernel
theorem dX10_ends_37 : decode cX10_ends 37 = .ok (.iload_n 1, 1) := by decide +kernel
theorem dX10_ends_38 : decode cX10_ends 38 = .ok (.iconst 4, 1) := by decide +kernel
theorem dX10_ends_39 : decode cX10_ends 39 = .ok (.iadd, 1) := by decide +kernel
theorem dX10_ends_40 : decode cX10_ends 40 = .ok (.iload_n 3, 1) := by decide +kernel
theorem dX10_ends_41 : decode cX10_ends 41 = .ok (.iadd, 1) := by decide +kernel
theorem dX10_ends_42 : decode cX10_ends 42 = .ok (.iconst 1, 1) := by decide +kernel
theorem dX10_ends_43 : decode cX10_ends 43 = .ok (.isub, 1) := by decide +kernel
theorem dX10_ends_44 : decode cX10_ends 44 = .ok (.iaload, 1) := by decide +kernel
theorem dX10_ends_45 : decode cX10_ends 45 = .ok (.iastore, 1) := by decide +kernel
theorem dX10_ends_46 : decode cX10_ends 46 = .ok (.iinc 3 (-1), 3) := by decide +kernel
theorem dX10_ends_49 : decode cX10_ends 49 = .ok (.goto (-47), 3) := by decide +kernel
theorem dX10_ends_52 : decode cX10_ends 52 = .ok (.aload_n 0, 1) := by decide +kernel
theorem dX10_ends_53 : decode cX10_ends 53 = .ok (.getfield 71, 3) := by decide +kernel
theorem dX10_ends_56 : decode cX10_ends 56 = .ok (.iload_n 1, 1) := by decide +kernel
theorem dX10_ends_57 : decode cX10_ends 57 = .ok (.aload_n 0, 1) := by decide +kernel
theorem dX10_ends_58 : decode cX10_ends 58 = .ok (.getfield 86, 3) := by decide +kernel
theorem dX10_ends_61 : decode cX10_ends 61 = .ok (.iload_n 2, 1) := by decide +kernel
theorem dX10_ends_62 : decode cX10_ends 62 = .ok (.iaload, 1) := by decide +kernel
theorem dX10_ends_63 : decode cX10_ends 63 = .ok (.iastore, 1) := by decide +kernel
theorem dX10_ends_64 : decode cX10_ends 64 = .ok (.aload_n 0, 1) := by decide +kernel
theorem dX10_ends_65 : decode cX10_ends 65 = .ok (.getfield 71, 3) := by decide +kernel
theorem dX10_ends_68 : decode cX10_ends 68 = .ok (.iload_n 1, 1) := by decide +kernel
theorem dX10_ends_69 : decode cX10_ends 69 = .ok (.iconst 4, 1) := by decide +kernel
theorem dX10_ends_70 : decode cX10_ends 70 = .ok (.iadd, 1) := by decide +kernel
theorem dX10_ends_71 : decode cX10_ends 71 = .ok (.aload_n 0, 1) := by decide +kernel
theorem dX10_ends_72 : decode cX10_ends 72 = .ok (.getfield 89, 3) := by decide +kernel
theorem dX10_ends_75 : decode cX10_ends 75 = .ok (.iload_n 2, 1) := by decide +kernel
theorem dX10_ends_76 : decode cX10_ends 76 = .ok (.iaload, 1) := by decide +kernel
theorem dX10_ends_77 : decode cX10_ends 77 = .ok (.iastore, 1) := by decide +kernel
theorem dX10_ends_78 : decode cX10_ends 78 = .ok (.aload_n 0, 1) := by decide +kernel
theorem dX10_ends_79 : decode cX10_ends 79 = .ok (.getfield 71, 3) := by decide +kernel
theorem dX10_ends_82 : decode cX10_ends 82 = .ok (.iload_n 1, 1) := by decide +kernel
theorem dX10_ends_83 : decode cX10_ends 83 = .ok (.bipush 18, 2) := by decide +kernel
theorem dX10_ends_85 : decode cX10_ends 85 = .ok (.iadd, 1) := by decide +kernel
theorem dX10_ends_86 : decode cX10_ends 86 = .ok (.aload_n 0, 1) := by decide +kernel
theorem dX10_ends_87 : decode cX10_ends 87 = .ok (.getfield 83, 3) := by decide +kernel
theorem dX10_ends_90 : decode cX10_ends 90 = .ok (.iload_n 2, 1) := by decide +kernel
theorem dX10_ends_91 : decode cX10_ends 91 = .ok (.iaload, 1) := by decide +kernel
theorem dX10_ends_92 : decode cX10_ends 92 = .ok (.iconst 1, 1) := by decide +kernel
theorem dX10_ends_93 : decode cX10_ends 93 = .ok (.if_icmp .ne 7, 3) := by decide +kernel
theorem dX10_ends_96 : decode cX10_ends 96 = .ok (.iconst 0, 1) := by decide +kernel
theorem dX10_ends_97 : decode cX10_ends 97 = .ok (.goto 40, 3) := by decide +kernel
theorem dX10_ends_100 : decode cX10_ends 100 = .ok (.aload_n 0, 1) := by decide +kernel
theorem dX10_ends_101 : decode cX10_ends 101 = .ok (.getfield 71, 3) := by decide +kernel
theorem dX10_ends_104 : decode cX10_ends 104 = .ok (.iload_n 1, 1) := by decide +kernel
theorem dX10_ends_105 : decode cX10_ends 105 = .ok (.bipush 18, 2) := by decide +kernel
theorem dX10_ends_107 : decode cX10_ends 107 = .ok (.iadd, 1) := by decide +kernel
theorem dX10_ends_108 : decode cX10_ends 108 = .ok (.iaload, 1) := by decide +kernel
theorem dX10_ends_109 : decode cX10_ends 109 = .ok (.bipush 99, 2) := by decide +kernel
theorem dX10_ends_111 : decode cX10_ends 111 = .ok (.if_icmp .ge 17, 3) := by decide +kernel
theorem dX10_ends_114 : decode cX10_ends 114 = .ok (.aload_n 0, 1) := by decide +kernel
theorem dX10_ends_115 : decode cX10_ends 115 = .ok (.getfield 71, 3) := by decide +kernel
theorem dX10_ends_118 : decode cX10_ends 118 = .ok (.iload_n 1, 1) := by decide +kernel
theorem dX10_ends_119 : decode cX10_ends 119 = .ok (.bipush 18, 2) := by decide +kernel
theorem dX10_ends_121 : decode cX10_ends 121 = .ok (.iadd, 1) := by decide +kernel
theorem dX10_ends_122 : decode cX10_ends 122 = .ok (.iaload, 1) := by decide +kernel
theorem dX10_ends_123 : decode cX10_ends 123 = .ok (.iconst 1, 1) := by decide +kernel
theorem dX10_ends_124 : decode cX10_ends 124 = .ok (.iadd, 1) := by decide +kernel
theorem dX10_ends_125 : decode cX10_ends 125 = .ok (.goto 12, 3) := by decide +kernel
theorem dX10_ends_128 : decode cX10_ends 128 = .ok (.aload_n 0, 1) := by decide +kernel
theorem dX10_ends_129 : decode cX10_ends 129 = .ok (.getfield 71, 3) := by decide +kernel
theorem dX10_ends_132 : decode cX10_ends 132 = .ok (.iload_n 1, 1) := by decide +kernel
theorem dX10_ends_133 : decode cX10_ends 133 = .ok (.bipush 18, 2) := by decide +kernel
theorem dX10_ends_135 : decode cX10_ends 135 = .ok (.iadd, 1) := by decide +kernel
theorem dX10_ends_136 : decode cX10_ends 136 = .ok (.iaload, 1) := by decide +kernel
theorem dX10_ends_137 : decode cX10_ends 137 = .ok (.iastore, 1) := by decide +kernel
theorem dX10_ends_138 : decode cX10_ends 138 = .ok (.return_, 1) := by decide +kernel
section P_X10_in
variable {p : Program} {l : Launch} {e : Env} {s : State} {m : MethodId} {args : Array Value} {below : List Frame} {meth : Method} {c : Code} {G : GG} {A : Nat → Prop} {ad : Nat → Nat} {S : ST} {N : Nat} {r : Int32} {dy' : DY}
end P_X10_in
set_option maxHeartbeats 4000000 in
set_option maxRecDepth 100000 in
theorem M_X10_in (l : Launch) (G : GG) (ad : Nat → Nat) {S : ST} (N : Nat) (hG : Good S) (a0 : Int32) (a1 : Int32) (a2 : Int32) (dy : DY) {r : Int32} {dy' : DY} (E : F_X10_in S N a0 a1 a2 dy = some (r, dy')) : MC l yX10_in cX10_in 3 (Option.some Jvm.ClassFile.FieldType.boolean) (1) G ad [.int a0, .int a1, .int a2] S dy (fun A => QI G ad A S r dy') := by
  rw [F_X10_in_s] at E
  refine mc_of RX10 (by decide) rfl (Nat.le_of_ble_eq_true rfl) (fun p e s m args below meth c A C HR HL => ?_)
  refine ww_sub (lv' := [(0, .int a0), (1, .int a1), (2, .int a2)]) [0, 1, 2] rfl ?_
  refine ww_iload_n C dX10_in_0 rfl 0 rfl ?_
  refine ww_iload_n C dX10_in_1 rfl 1 rfl ?_
  refine ww_icmp_lt (tgt := 14) C dX10_in_2 (by decide) E (fun _ E => ?_) (fun _ E => ?_)
  · refine ww_iconst (v := 0) C dX10_in_14 (by decide) ?_
    exact ww_zret C HR HL dX10_in_15 (Or.inl rfl) E
  · refine ww_iload_n C dX10_in_5 rfl 0 rfl ?_
    refine ww_iload_n C dX10_in_6 rfl 2 rfl ?_
    refine ww_icmp_gt (tgt := 14) C dX10_in_7 (by decide) E (fun _ E => ?_) (fun _ E => ?_)
    · refine ww_iconst (v := 0) C dX10_in_14 (by decide) ?_
      exact ww_zret C HR HL dX10_in_15 (Or.inl rfl) E
    · refine ww_iconst (v := 1) C dX10_in_10 (by decide) ?_
      refine ww_goto (tgt := 15) C dX10_in_11 (by decide) ?_
      exact ww_zret C HR HL dX10_in_15 (Or.inr rfl) E
section P_X10_isPassage
variable {p : Program} {l : Launch} {e : Env} {s : State} {m : MethodId} {args : Array Value} {below : List Frame} {meth : Method} {c : Code} {G : GG} {A : Nat → Prop} {ad : Nat → Nat} {S : ST} {N : Nat} {r : Int32} {dy' : DY}
end P_X10_isPassage
set_option maxHeartbeats 4000000 in
set_option maxRecDepth 100000 in
theorem M_X10_isPassage (l : Launch) (G : GG) (ad : Nat → Nat) {S : ST} (N : Nat) (hG : Good S) (a0 : Nat) (a1 : Int32) (dy : DY) (T0 : gs S a0 = (0, 10)) {r : Int32} {dy' : DY} (E : F_X10_isPassage S N a0 a1 dy = some (r, dy')) : MC l yX10_isPassage cX10_isPassage 2 (Option.some Jvm.ClassFile.FieldType.boolean) (2) G ad [.ref (ad a0), .int a1] S dy (fun A => QI G ad A S r dy') := by
  rw [F_X10_isPassage_s] at E
  refine mc_of RX10 (by decide) rfl (Nat.le_of_ble_eq_true rfl) (fun p e s m args below meth c A C HR HL => ?_)
  refine ww_sub (lv' := [(0, .ref (ad a0)), (1, .int a1)]) [0, 1] rfl ?_
  refine ww_iload_n C dX10_isPassage_0 rfl 1 rfl ?_
  refine ww_iconst (v := 0) C dX10_isPassage_1 (by decide) ?_
  refine ww_aload_n C dX10_isPassage_2 rfl 0 rfl ?_
  have T_1 : gs S (gr S a0 5) = (1, 4) := hG.1 _ 10 T0 5 (by decide)
  refine ww_getr (ci := 10) (k0 := 5) C dX10_isPassage_3 rfl rfl inm10 (by decide) T0 q1283 rfl T_1 (by decide) ?_
  refine ww_iconst (v := 0) C dX10_isPassage_6 (by decide) ?_
  refine ww_iald C dX10_isPassage_7 T_1 E (fun _ E => ?_)
  refine ww_iconst (v := 1) C dX10_isPassage_8 (by decide) ?_
  refine ww_isub C dX10_isPassage_9 ?_
  obtain ⟨u2, e_3, E⟩ := bind_of E
  refine ww_callI C (runs_S (n := 3) (st := []) C [.int a1, .int (0 : Int32), .int ((gi dy (gr S a0 5) (0 : Int32).toNatClampNeg) - (1 : Int32))] (M_X10_in l G ad N hG a1 (0 : Int32) ((gi dy (gr S a0 5) (0 : Int32).toNatClampNeg) - (1 : Int32)) dy e_3) ⟨q1476, q118, by decide⟩ q1474 q1475 rfl (Nat.le_of_ble_eq_true rfl) ⟨Nat.le_of_ble_eq_true rfl, Nat.le_of_ble_eq_true rfl⟩ ⟨Nat.zero_le _, Nat.zero_le _⟩ dX10_isPassage_10 rfl) ?_
  obtain ⟨z_, E⟩ := gd_of E
  exact ww_zret C HR HL dX10_isPassage_13 z_ E
section P_X10_about
variable {p : Program} {l : Launch} {e : Env} {s : State} {m : MethodId} {args : Array Value} {below : List Frame} {meth : Method} {c : Code} {G : GG} {A : Nat → Prop} {ad : Nat → Nat} {S : ST} {N : Nat} {r : Int32} {dy' : DY}
end P_X10_about
set_option maxHeartbeats 4000000 in
set_option maxRecDepth 100000 in
theorem M_X10_about (l : Launch) (G : GG) (ad : Nat → Nat) {S : ST} (N : Nat) (hG : Good S) (a0 : Nat) (a1 : Int32) (a2 : Int32) (dy : DY) (T0 : gs S a0 = (0, 10)) {r : Int32} {dy' : DY} (E : F_X10_about S N a0 a1 a2 dy = some (r, dy')) : MC l yX10_about cX10_about 3 (Option.some Jvm.ClassFile.FieldType.int) (3) G ad [.ref (ad a0), .int a1, .int a2] S dy (fun A => QI G ad A S r dy') := by
  rw [F_X10_about_s] at E
  refine mc_of RX10 (by decide) rfl (Nat.le_of_ble_eq_true rfl) (fun p e s m args below meth c A C HR HL => ?_)
  refine ww_sub (lv' := [(0, .ref (ad a0)), (1, .int a1), (2, .int a2)]) [0, 1, 2] rfl ?_
  refine ww_aload_n C dX10_about_0 rfl 0 rfl ?_
  refine ww_iconst (v := 0) C dX10_about_1 (by decide) ?_
  refine ww_puti (ci := 10) (k0 := 0) C dX10_about_2 rfl rfl inm10 tyX10_ok nmX10 (by decide) T0 q1278 rfl rfl rfl ?_
  refine ww_bd E (fun dy1 E => ?_)
  refine ww_aload_n C dX10_about_5 rfl 0 rfl ?_
  refine ww_iload_n C dX10_about_6 rfl 1 rfl ?_
  obtain ⟨u2, e_3, E⟩ := bind_of E
  refine ww_callI C (runs_V (n := 1) (st := []) C [.int a1] (M_X10_isPassage l G ad N hG a0 a1 dy1 T0 e_3) ⟨q1488, q118, by decide⟩ q1485 q1487 q41 (ci := 10) rfl T0 rfl (Nat.le_of_ble_eq_true rfl) ⟨Nat.le_of_ble_eq_true rfl, Nat.le_of_ble_eq_true rfl⟩ ⟨Nat.zero_le _, Nat.zero_le _⟩ dX10_about_7 rfl) ?_
  refine ww_if_ne (tgt := 15) C dX10_about_10 (by decide) E (fun _ E => ?_) (fun _ E => ?_)
  · refine ww_iload_n C dX10_about_15 rfl 2 rfl ?_
    refine ww_if_ne (tgt := 28) C dX10_about_16 (by decide) E (fun _ E => ?_) (fun _ E => ?_)
    · refine ww_iload_n C dX10_about_28 rfl 2 rfl ?_
      refine ww_iconst (v := 1) C dX10_about_29 (by decide) ?_
      refine ww_icmp_ne (tgt := 42) C dX10_about_30 (by decide) E (fun _ E => ?_) (fun _ E => ?_)
      · refine ww_iload_n C dX10_about_42 rfl 2 rfl ?_
        refine ww_iconst (v := 2) C dX10_about_43 (by decide) ?_
        refine ww_icmp_ne (tgt := 56) C dX10_about_44 (by decide) E (fun _ E => ?_) (fun _ E => ?_)
        · refine ww_iload_n C dX10_about_56 rfl 2 rfl ?_
          refine ww_iconst (v := 3) C dX10_about_57 (by decide) ?_
          refine ww_icmp_ne (tgt := 70) C dX10_about_58 (by decide) E (fun _ E => ?_) (fun _ E => ?_)
          · refine ww_iconst (v := (-1)) C dX10_about_70 (by decide) ?_
            exact ww_iret C HR HL dX10_about_71 E
          · refine ww_aload_n C dX10_about_61 rfl 0 rfl ?_
            have T_4 : gs S (gr S a0 9) = (1, 12) := hG.1 _ 10 T0 9 (by decide)
            refine ww_getr (ci := 10) (k0 := 9) C dX10_about_62 rfl rfl inm10 (by decide) T0 q1287 rfl T_4 (by decide) ?_
            refine ww_iload_n C dX10_about_65 rfl 1 rfl ?_
            refine ww_iald C dX10_about_66 T_4 E (fun _ E => ?_)
            refine ww_goto (tgt := 71) C dX10_about_67 (by decide) ?_
            exact ww_iret C HR HL dX10_about_71 E
        · refine ww_aload_n C dX10_about_47 rfl 0 rfl ?_
          have T_5 : gs S (gr S a0 8) = (1, 12) := hG.1 _ 10 T0 8 (by decide)
          refine ww_getr (ci := 10) (k0 := 8) C dX10_about_48 rfl rfl inm10 (by decide) T0 q1286 rfl T_5 (by decide) ?_
          refine ww_iload_n C dX10_about_51 rfl 1 rfl ?_
          refine ww_iald C dX10_about_52 T_5 E (fun _ E => ?_)
          refine ww_goto (tgt := 71) C dX10_about_53 (by decide) ?_
          exact ww_iret C HR HL dX10_about_71 E
      · refine ww_aload_n C dX10_about_33 rfl 0 rfl ?_
        have T_6 : gs S (gr S a0 7) = (1, 12) := hG.1 _ 10 T0 7 (by decide)
        refine ww_getr (ci := 10) (k0 := 7) C dX10_about_34 rfl rfl inm10 (by decide) T0 q1285 rfl T_6 (by decide) ?_
        refine ww_iload_n C dX10_about_37 rfl 1 rfl ?_
        refine ww_iald C dX10_about_38 T_6 E (fun _ E => ?_)
        refine ww_goto (tgt := 71) C dX10_about_39 (by decide) ?_
        exact ww_iret C HR HL dX10_about_71 E
    · refine ww_aload_n C dX10_about_19 rfl 0 rfl ?_
      have T_7 : gs S (gr S a0 6) = (1, 12) := hG.1 _ 10 T0 6 (by decide)
      refine ww_getr (ci := 10) (k0 := 6) C dX10_about_20 rfl rfl inm10 (by decide) T0 q1284 rfl T_7 (by decide) ?_
      refine ww_iload_n C dX10_about_23 rfl 1 rfl ?_
      refine ww_iald C dX10_about_24 T_7 E (fun _ E => ?_)
      refine ww_goto (tgt := 71) C dX10_about_25 (by decide) ?_
      exact ww_iret C HR HL dX10_about_71 E
  · refine ww_iconst (v := (-1)) C dX10_about_13 (by decide) ?_
    exact ww_iret C HR HL dX10_about_14 E
section P_X10_at
variable {p : Program} {l : Launch} {e : Env} {s : State} {m : MethodId} {args : Array Value} {below : List Frame} {meth : Method} {c : Code} {G : GG} {A : Nat → Prop} {ad : Nat → Nat} {S : ST} {N : Nat} {r : Int32} {dy' : DY}
end P_X10_at
set_option maxHeartbeats 4000000 in
set_option maxRecDepth 100000 in
theorem M_X10_at (l : Launch) (G : GG) (ad : Nat → Nat) {S : ST} (N : Nat) (hG : Good S) (a0 : Int32) (a1 : Int32) (dy : DY) {r : Int32} {dy' : DY} (E : F_X10_at S N a0 a1 dy = some (r, dy')) : MC l yX10_at cX10_at 2 (Option.some Jvm.ClassFile.FieldType.int) (1) G ad [.int a0, .int a1] S dy (fun A => QI G ad A S r dy') := by
  rw [F_X10_at_s] at E
  refine mc_of RX10 (by decide) rfl (Nat.le_of_ble_eq_true rfl) (fun p e s m args below meth c A C HR HL => ?_)
  refine ww_sub (lv' := [(0, .int a0), (1, .int a1)]) [0, 1] rfl ?_
  refine ww_sipush (v := 720) C dX10_at_0 (by decide) ?_
  refine ww_iload_n C dX10_at_3 rfl 0 rfl ?_
  refine ww_imul C dX10_at_4 ?_
  refine ww_bipush (v := 16) C dX10_at_5 (by decide) ?_
  refine ww_iadd C dX10_at_7 ?_
  refine ww_bipush (v := 20) C dX10_at_8 (by decide) ?_
  refine ww_iload_n C dX10_at_10 rfl 1 rfl ?_
  refine ww_imul C dX10_at_11 ?_
  refine ww_iadd C dX10_at_12 ?_
  exact ww_iret C HR HL dX10_at_13 E
section P_X10_isInside
variable {p : Program} {l : Launch} {e : Env} {s : State} {m : MethodId} {args : Array Value} {below : List Frame} {meth : Method} {c : Code} {G : GG} {A : Nat → Prop} {ad : Nat → Nat} {S : ST} {N : Nat} {r : Int32} {dy' : DY}
end P_X10_isInside
set_option maxHeartbeats 4000000 in
set_option maxRecDepth 100000 in
theorem M_X10_isInside (l : Launch) (G : GG) (ad : Nat → Nat) {S : ST} (N : Nat) (hG : Good S) (a0 : Nat) (a1 : Int32) (a2 : Int32) (a3 : Int32) (dy : DY) (T0 : gs S a0 = (0, 10)) {r : Int32} {dy' : DY} (E : F_X10_isInside S N a0 a1 a2 a3 dy = some (r, dy')) : MC l yX10_isInside cX10_isInside 4 (Option.some Jvm.ClassFile.FieldType.boolean) (2) G ad [.ref (ad a0), .int a1, .int a2, .int a3] S dy (fun A => QI G ad A S r dy') := by
  rw [F_X10_isInside_s] at E
  refine mc_of RX10 (by decide) rfl (Nat.le_of_ble_eq_true rfl) (fun p e s m args below meth c A C HR HL => ?_)
  refine ww_sub (lv' := [(0, .ref (ad a0)), (1, .int a1), (2, .int a2), (3, .int a3)]) [0, 1, 2, 3] rfl ?_
  refine ww_iload_n C dX10_isInside_0 rfl 2 rfl ?_
  refine ww_iconst (v := 0) C dX10_isInside_1 (by decide) ?_
  refine ww_aload_n C dX10_isInside_2 rfl 0 rfl ?_
  have T_1 : gs S (gr S a0 39) = (1, 10080) := hG.1 _ 10 T0 39 (by decide)
  refine ww_getr (ci := 10) (k0 := 39) C dX10_isInside_3 rfl rfl inm10 (by decide) T0 q1317 rfl T_1 (by decide) ?_
  refine ww_sipush (v := 720) C dX10_isInside_6 (by decide) ?_
  refine ww_iload_n C dX10_isInside_9 rfl 1 rfl ?_
  refine ww_imul C dX10_isInside_10 ?_
  refine ww_iconst (v := 0) C dX10_isInside_11 (by decide) ?_
  refine ww_iadd C dX10_isInside_12 ?_
  refine ww_iald C dX10_isInside_13 T_1 E (fun _ E => ?_)
  refine ww_iconst (v := 1) C dX10_isInside_14 (by decide) ?_
  refine ww_isub C dX10_isInside_15 ?_
  obtain ⟨u2, e_3, E⟩ := bind_of E
  refine ww_callI C (runs_S (n := 3) (st := []) C [.int a2, .int (0 : Int32), .int ((gi dy (gr S a0 39) (((720 : Int32) * a1) + (0 : Int32)).toNatClampNeg) - (1 : Int32))] (M_X10_in l G ad N hG a2 (0 : Int32) ((gi dy (gr S a0 39) (((720 : Int32) * a1) + (0 : Int32)).toNatClampNeg) - (1 : Int32)) dy e_3) ⟨q1476, q118, by decide⟩ q1474 q1475 rfl (Nat.le_of_ble_eq_true rfl) ⟨Nat.le_of_ble_eq_true rfl, Nat.le_of_ble_eq_true rfl⟩ ⟨Nat.zero_le _, Nat.zero_le _⟩ dX10_isInside_16 rfl) ?_
  refine ww_if_eq (tgt := 48) C dX10_isInside_19 (by decide) E (fun _ E => ?_) (fun _ E => ?_)
  · refine ww_iconst (v := 0) C dX10_isInside_48 (by decide) ?_
    exact ww_zret C HR HL dX10_isInside_49 (Or.inl rfl) E
  · refine ww_iload_n C dX10_isInside_22 rfl 3 rfl ?_
    refine ww_iconst (v := 0) C dX10_isInside_23 (by decide) ?_
    refine ww_aload_n C dX10_isInside_24 rfl 0 rfl ?_
    have T_4 : gs S (gr S a0 39) = (1, 10080) := hG.1 _ 10 T0 39 (by decide)
    refine ww_getr (ci := 10) (k0 := 39) C dX10_isInside_25 rfl rfl inm10 (by decide) T0 q1317 rfl T_4 (by decide) ?_
    refine ww_sipush (v := 720) C dX10_isInside_28 (by decide) ?_
    refine ww_iload_n C dX10_isInside_31 rfl 1 rfl ?_
    refine ww_imul C dX10_isInside_32 ?_
    refine ww_iconst (v := 1) C dX10_isInside_33 (by decide) ?_
    refine ww_iadd C dX10_isInside_34 ?_
    refine ww_iald C dX10_isInside_35 T_4 E (fun _ E => ?_)
    refine ww_iconst (v := 1) C dX10_isInside_36 (by decide) ?_
    refine ww_isub C dX10_isInside_37 ?_
    obtain ⟨u5, e_6, E⟩ := bind_of E
    refine ww_callI C (runs_S (n := 3) (st := []) C [.int a3, .int (0 : Int32), .int ((gi u2.2 (gr S a0 39) (((720 : Int32) * a1) + (1 : Int32)).toNatClampNeg) - (1 : Int32))] (M_X10_in l G ad N hG a3 (0 : Int32) ((gi u2.2 (gr S a0 39) (((720 : Int32) * a1) + (1 : Int32)).toNatClampNeg) - (1 : Int32)) u2.2 e_6) ⟨q1476, q118, by decide⟩ q1474 q1475 rfl (Nat.le_of_ble_eq_true rfl) ⟨Nat.le_of_ble_eq_true rfl, Nat.le_of_ble_eq_true rfl⟩ ⟨Nat.zero_le _, Nat.zero_le _⟩ dX10_isInside_38 rfl) ?_
    refine ww_if_eq (tgt := 48) C dX10_isInside_41 (by decide) E (fun _ E => ?_) (fun _ E => ?_)
    · refine ww_iconst (v := 0) C dX10_isInside_48 (by decide) ?_
      exact ww_zret C HR HL dX10_isInside_49 (Or.inl rfl) E
    · refine ww_iconst (v := 1) C dX10_isInside_44 (by decide) ?_
      refine ww_goto (tgt := 49) C dX10_isInside_45 (by decide) ?_
      exact ww_zret C HR HL dX10_isInside_49 (Or.inr rfl) E
section P_X10_isWall
variable {p : Program} {l : Launch} {e : Env} {s : State} {m : MethodId} {args : Array Value} {below : List Frame} {meth : Method} {c : Code} {G : GG} {A : Nat → Prop} {ad : Nat → Nat} {S : ST} {N : Nat} {r : Int32} {dy' : DY}
end P_X10_isWall
set_option maxHeartbeats 4000000 in
set_option maxRecDepth 100000 in
theorem M_X10_isWall (l : Launch) (G : GG) (ad : Nat → Nat) {S : ST} (N : Nat) (hG : Good S) (a0 : Nat) (a1 : Int32) (a2 : Int32) (a3 : Int32) (dy : DY) (T0 : gs S a0 = (0, 10)) {r : Int32} {dy' : DY} (E : F_X10_isWall S N a0 a1 a2 a3 dy = some (r, dy')) : MC l yX10_isWall cX10_isWall 4 (Option.some Jvm.ClassFile.FieldType.boolean) (1) G ad [.ref (ad a0), .int a1, .int a2, .int a3] S dy (fun A => QI G ad A S r dy') := by
  rw [F_X10_isWall_s] at E
  refine mc_of RX10 (by decide) rfl (Nat.le_of_ble_eq_true rfl) (fun p e s m args below meth c A C HR HL => ?_)
  refine ww_sub (lv' := [(0, .ref (ad a0)), (1, .int a1), (2, .int a2), (3, .int a3)]) [0, 1, 2, 3] rfl ?_
  refine ww_aload_n C dX10_isWall_0 rfl 0 rfl ?_
  have T_1 : gs S (gr S a0 39) = (1, 10080) := hG.1 _ 10 T0 39 (by decide)
  refine ww_getr (ci := 10) (k0 := 39) C dX10_isWall_1 rfl rfl inm10 (by decide) T0 q1317 rfl T_1 (by decide) ?_
  refine ww_sipush (v := 720) C dX10_isWall_4 (by decide) ?_
  refine ww_iload_n C dX10_isWall_7 rfl 1 rfl ?_
  refine ww_imul C dX10_isWall_8 ?_
  refine ww_sipush (v := 256) C dX10_isWall_9 (by decide) ?_
  refine ww_iadd C dX10_isWall_12 ?_
  refine ww_bipush (v := 6) C dX10_isWall_13 (by decide) ?_
  refine ww_iload_n C dX10_isWall_15 rfl 2 rfl ?_
  refine ww_imul C dX10_isWall_16 ?_
  refine ww_iadd C dX10_isWall_17 ?_
  refine ww_iload_n C dX10_isWall_18 rfl 3 rfl ?_
  refine ww_iadd C dX10_isWall_19 ?_
  refine ww_iald C dX10_isWall_20 T_1 E (fun _ E => ?_)
  refine ww_iconst (v := 1) C dX10_isWall_21 (by decide) ?_
  refine ww_icmp_ne (tgt := 29) C dX10_isWall_22 (by decide) E (fun _ E => ?_) (fun _ E => ?_)
  · refine ww_iconst (v := 0) C dX10_isWall_29 (by decide) ?_
    exact ww_zret C HR HL dX10_isWall_30 (Or.inl rfl) E
  · refine ww_iconst (v := 1) C dX10_isWall_25 (by decide) ?_
    refine ww_goto (tgt := 30) C dX10_isWall_26 (by decide) ?_
    exact ww_zret C HR HL dX10_isWall_30 (Or.inr rfl) E
section P_X10_seenOn
variable {p : Program} {l : Launch} {e : Env} {s : State} {m : MethodId} {args : Array Value} {below : List Frame} {meth : Method} {c : Code} {G : GG} {A : Nat → Prop} {ad : Nat → Nat} {S : ST} {N : Nat} {r : Int32} {dy' : DY}
set_option maxHeartbeats 4000000 in
set_option maxRecDepth 100000 in
theorem B_X10_seenOn_3 (C : CX p s m args c cX10_seenOn 6 RX10 G A) (HR : meth.sig.returnType = (Option.some Jvm.ClassFile.FieldType.int)) (HL : meth.locks = false) (hG : Good S) : ∀ k : Nat, ∀ (x0 : Nat) (x1 : Int32) (x2 : Int32) (x3 : Int32) (x4 : Int32) (x5 : Int32) (dy : DY), gs S x0 = (0, 10) → (F_X10_seenOn_3 S N k) x0 x1 x2 x3 x4 x5 dy = some (r, dy') → WJ p l e (rmD (1)) s m args below meth c 6 G A 0 0 (MQ below (QI G ad A S r dy') args s 0 0 A) ad 3 [(0, .ref (ad x0)), (1, .int x1), (2, .int x2), (3, .int x3), (4, .int x4), (5, .int x5)] [] S dy := by
  intro k
  induction k with
  | zero => exact fun _ _ _ _ _ _ _ _ E => nomatch (show none = some (r, dy') from E)
  | succ k ih =>
    intro x0 x1 x2 x3 x4 x5 dy Tx0 E
    rw [F_X10_seenOn_3_s] at E
    refine ww_iload C dX10_seenOn_3 5 rfl ?_
    refine ww_aload_n C dX10_seenOn_5 rfl 0 rfl ?_
    have T_1 : gs S (gr S x0 39) = (1, 10080) := hG.1 _ 10 Tx0 39 (by decide)
    refine ww_getr (ci := 10) (k0 := 39) C dX10_seenOn_6 rfl rfl inm10 (by decide) Tx0 q1317 rfl T_1 (by decide) ?_
    refine ww_sipush (v := 720) C dX10_seenOn_9 (by decide) ?_
    refine ww_iload_n C dX10_seenOn_12 rfl 1 rfl ?_
    refine ww_imul C dX10_seenOn_13 ?_
    refine ww_iconst (v := 2) C dX10_seenOn_14 (by decide) ?_
    refine ww_iadd C dX10_seenOn_15 ?_
    refine ww_iald C dX10_seenOn_16 T_1 E (fun _ E => ?_)
    refine ww_icmp_ge (tgt := 69) C dX10_seenOn_17 (by decide) E (fun _ E => ?_) (fun _ E => ?_)
    · refine ww_iconst (v := (-1)) C dX10_seenOn_69 (by decide) ?_
      exact ww_iret C HR HL dX10_seenOn_70 E
    · refine ww_iload C dX10_seenOn_20 5 rfl ?_
      refine ww_iload_n C dX10_seenOn_22 rfl 2 rfl ?_
      refine ww_icmp_eq (tgt := 63) C dX10_seenOn_23 (by decide) E (fun _ E => ?_) (fun _ E => ?_)
      · refine ww_iinc (v := (x5 + (1 : Int32))) (lv' := [(5, .int (x5 + (1 : Int32))), (0, .ref (ad x0)), (1, .int x1), (2, .int x2), (3, .int x3), (4, .int x4)]) C dX10_seenOn_63 5 rfl rfl (by decide) rfl ?_
        refine ww_goto (tgt := 3) C dX10_seenOn_66 (by decide) ?_
        refine ww_sub (lv' := [(0, .ref (ad x0)), (1, .int x1), (2, .int x2), (3, .int x3), (4, .int x4), (5, .int (x5 + (1 : Int32)))]) [1, 2, 3, 4, 5, 0] rfl ?_
        exact ih x0 x1 x2 x3 x4 (x5 + (1 : Int32)) dy Tx0 E
      · refine ww_aload_n C dX10_seenOn_26 rfl 0 rfl ?_
        have T_2 : gs S (gr S x0 40) = (1, 12) := hG.1 _ 10 Tx0 40 (by decide)
        refine ww_getr (ci := 10) (k0 := 40) C dX10_seenOn_27 rfl rfl inm10 (by decide) Tx0 q1318 rfl T_2 (by decide) ?_
        refine ww_iload C dX10_seenOn_30 5 rfl ?_
        refine ww_iald C dX10_seenOn_32 T_2 E (fun _ E => ?_)
        refine ww_iload_n C dX10_seenOn_33 rfl 3 rfl ?_
        refine ww_icmp_ne (tgt := 63) C dX10_seenOn_34 (by decide) E (fun _ E => ?_) (fun _ E => ?_)
        · refine ww_iinc (v := (x5 + (1 : Int32))) (lv' := [(5, .int (x5 + (1 : Int32))), (0, .ref (ad x0)), (1, .int x1), (2, .int x2), (3, .int x3), (4, .int x4)]) C dX10_seenOn_63 5 rfl rfl (by decide) rfl ?_
          refine ww_goto (tgt := 3) C dX10_seenOn_66 (by decide) ?_
          refine ww_sub (lv' := [(0, .ref (ad x0)), (1, .int x1), (2, .int x2), (3, .int x3), (4, .int x4), (5, .int (x5 + (1 : Int32)))]) [1, 2, 3, 4, 5, 0] rfl ?_
          exact ih x0 x1 x2 x3 x4 (x5 + (1 : Int32)) dy Tx0 E
        · refine ww_aload_n C dX10_seenOn_37 rfl 0 rfl ?_
          have T_3 : gs S (gr S x0 41) = (1, 12) := hG.1 _ 10 Tx0 41 (by decide)
          refine ww_getr (ci := 10) (k0 := 41) C dX10_seenOn_38 rfl rfl inm10 (by decide) Tx0 q1319 rfl T_3 (by decide) ?_
          refine ww_iload C dX10_seenOn_41 5 rfl ?_
          refine ww_iald C dX10_seenOn_43 T_3 E (fun _ E => ?_)
          refine ww_iload C dX10_seenOn_44 4 rfl ?_
          refine ww_icmp_ne (tgt := 63) C dX10_seenOn_46 (by decide) E (fun _ E => ?_) (fun _ E => ?_)
          · refine ww_iinc (v := (x5 + (1 : Int32))) (lv' := [(5, .int (x5 + (1 : Int32))), (0, .ref (ad x0)), (1, .int x1), (2, .int x2), (3, .int x3), (4, .int x4)]) C dX10_seenOn_63 5 rfl rfl (by decide) rfl ?_
            refine ww_goto (tgt := 3) C dX10_seenOn_66 (by decide) ?_
            refine ww_sub (lv' := [(0, .ref (ad x0)), (1, .int x1), (2, .int x2), (3, .int x3), (4, .int x4), (5, .int (x5 + (1 : Int32)))]) [1, 2, 3, 4, 5, 0] rfl ?_
            exact ih x0 x1 x2 x3 x4 (x5 + (1 : Int32)) dy Tx0 E
          · refine ww_aload_n C dX10_seenOn_49 rfl 0 rfl ?_
            have T_4 : gs S (gr S x0 40) = (1, 12) := hG.1 _ 10 Tx0 40 (by decide)
            refine ww_getr (ci := 10) (k0 := 40) C dX10_seenOn_50 rfl rfl inm10 (by decide) Tx0 q1318 rfl T_4 (by decide) ?_
            refine ww_iload C dX10_seenOn_53 5 rfl ?_
            refine ww_iald C dX10_seenOn_55 T_4 E (fun _ E => ?_)
            refine ww_iconst (v := (-1)) C dX10_seenOn_56 (by decide) ?_
            refine ww_icmp_eq (tgt := 63) C dX10_seenOn_57 (by decide) E (fun _ E => ?_) (fun _ E => ?_)
            · refine ww_iinc (v := (x5 + (1 : Int32))) (lv' := [(5, .int (x5 + (1 : Int32))), (0, .ref (ad x0)), (1, .int x1), (2, .int x2), (3, .int x3), (4, .int x4)]) C dX10_seenOn_63 5 rfl rfl (by decide) rfl ?_
              refine ww_goto (tgt := 3) C dX10_seenOn_66 (by decide) ?_
              refine ww_sub (lv' := [(0, .ref (ad x0)), (1, .int x1), (2, .int x2), (3, .int x3), (4, .int x4), (5, .int (x5 + (1 : Int32)))]) [1, 2, 3, 4, 5, 0] rfl ?_
              exact ih x0 x1 x2 x3 x4 (x5 + (1 : Int32)) dy Tx0 E
            · refine ww_iload C dX10_seenOn_60 5 rfl ?_
              exact ww_iret C HR HL dX10_seenOn_62 E
end P_X10_seenOn
set_option maxHeartbeats 4000000 in
set_option maxRecDepth 100000 in
theorem M_X10_seenOn (l : Launch) (G : GG) (ad : Nat → Nat) {S : ST} (N : Nat) (hG : Good S) (a0 : Nat) (a1 : Int32) (a2 : Int32) (a3 : Int32) (a4 : Int32) (dy : DY) (T0 : gs S a0 = (0, 10)) {r : Int32} {dy' : DY} (E : F_X10_seenOn S N a0 a1 a2 a3 a4 dy = some (r, dy')) : MC l yX10_seenOn cX10_seenOn 6 (Option.some Jvm.ClassFile.FieldType.int) (1) G ad [.ref (ad a0), .int a1, .int a2, .int a3, .int a4] S dy (fun A => QI G ad A S r dy') := by
  rw [F_X10_seenOn_s] at E
  refine mc_of RX10 (by decide) rfl (Nat.le_of_ble_eq_true rfl) (fun p e s m args below meth c A C HR HL => ?_)
  refine ww_sub (lv' := [(0, .ref (ad a0)), (1, .int a1), (2, .int a2), (3, .int a3), (4, .int a4)]) [0, 1, 2, 3, 4] rfl ?_
  refine ww_iconst (v := 0) C dX10_seenOn_0 (by decide) ?_
  refine ww_istore (lv' := [(5, .int (0 : Int32)), (0, .ref (ad a0)), (1, .int a1), (2, .int a2), (3, .int a3), (4, .int a4)]) C dX10_seenOn_1 (by decide) rfl ?_
  refine ww_sub (lv' := [(0, .ref (ad a0)), (1, .int a1), (2, .int a2), (3, .int a3), (4, .int a4), (5, .int (0 : Int32))]) [1, 2, 3, 4, 5, 0] rfl ?_
  exact (B_X10_seenOn_3 C HR HL hG N) a0 a1 a2 a3 a4 (0 : Int32) dy T0 E
section P_X10_freeOn
variable {p : Program} {l : Launch} {e : Env} {s : State} {m : MethodId} {args : Array Value} {below : List Frame} {meth : Method} {c : Code} {G : GG} {A : Nat → Prop} {ad : Nat → Nat} {S : ST} {N : Nat} {r : Int32} {dy' : DY}
set_option maxHeartbeats 4000000 in
set_option maxRecDepth 100000 in
theorem B_X10_freeOn_34 (C : CX p s m args c cX10_freeOn 9 RX10 G A) (HR : meth.sig.returnType = (Option.some Jvm.ClassFile.FieldType.int)) (HL : meth.locks = false) (hG : Good S) : ∀ k : Nat, ∀ (x0 : Nat) (x1 : Int32) (x2 : Int32) (x3 : Int32) (x4 : Int32) (x5 : Int32) (x6 : Int32) (x7 : Int32) (x8 : Int32) (dy : DY), gs S x0 = (0, 10) → (F_X10_freeOn_34 S N k) x0 x1 x2 x3 x4 x5 x6 x7 x8 dy = some (r, dy') → WJ p l e (rmD (3)) s m args below meth c 9 G A 0 0 (MQ below (QI G ad A S r dy') args s 0 0 A) ad 34 [(0, .ref (ad x0)), (1, .int x1), (2, .int x2), (3, .int x3), (4, .int x4), (5, .int x5), (6, .int x6), (7, .int x7), (8, .int x8)] [] S dy := by
  intro k
  induction k with
  | zero => exact fun _ _ _ _ _ _ _ _ _ _ _ E => nomatch (show none = some (r, dy') from E)
  | succ k ih =>
    intro x0 x1 x2 x3 x4 x5 x6 x7 x8 dy Tx0 E
    rw [F_X10_freeOn_34_s] at E
    refine ww_iload C dX10_freeOn_34 8 rfl ?_
    refine ww_bipush (v := 16) C dX10_freeOn_36 (by decide) ?_
    refine ww_icmp_ge (tgt := 150) C dX10_freeOn_38 (by decide) E (fun _ E => ?_) (fun _ E => ?_)
    · refine ww_bipush (v := 9) C dX10_freeOn_150 (by decide) ?_
      exact ww_iret C HR HL dX10_freeOn_152 E
    · refine ww_iload C dX10_freeOn_41 6 rfl ?_
      refine ww_iload_n C dX10_freeOn_43 rfl 3 rfl ?_
      refine ww_iadd C dX10_freeOn_44 ?_
      refine ww_istore (lv' := [(6, .int (x6 + x3)), (0, .ref (ad x0)), (1, .int x1), (2, .int x2), (3, .int x3), (4, .int x4), (5, .int x5), (7, .int x7), (8, .int x8)]) C dX10_freeOn_45 (by decide) rfl ?_
      refine ww_iload C dX10_freeOn_47 7 rfl ?_
      refine ww_iload C dX10_freeOn_49 5 rfl ?_
      refine ww_iadd C dX10_freeOn_51 ?_
      refine ww_istore (lv' := [(7, .int (x7 + x4)), (6, .int (x6 + x3)), (0, .ref (ad x0)), (1, .int x1), (2, .int x2), (3, .int x3), (4, .int x4), (5, .int x5), (8, .int x8)]) C dX10_freeOn_52 (by decide) rfl ?_
      refine ww_aload_n C dX10_freeOn_54 rfl 2 rfl ?_
      refine ww_iload_n C dX10_freeOn_55 rfl 3 rfl ?_
      refine ww_iload C dX10_freeOn_56 1 rfl ?_
      refine ww_iload C dX10_freeOn_58 0 rfl ?_
      obtain ⟨u1, e_2, E⟩ := bind_of E
      refine ww_callI C (runs_V (n := 3) (st := []) C [.int x1, .int (x6 + x3), .int (x7 + x4)] (M_X10_isInside l G ad N hG x0 x1 (x6 + x3) (x7 + x4) dy Tx0 e_2) ⟨q1688, q118, by decide⟩ q1685 q1687 q76 (ci := 10) rfl Tx0 rfl (Nat.le_of_ble_eq_true rfl) ⟨Nat.le_of_ble_eq_true rfl, Nat.le_of_ble_eq_true rfl⟩ ⟨Nat.zero_le _, Nat.zero_le _⟩ dX10_freeOn_60 rfl) ?_
      refine ww_if_ne (tgt := 80) C dX10_freeOn_63 (by decide) E (fun _ E => ?_) (fun _ E => ?_)
      · refine ww_aload_n C dX10_freeOn_80 rfl 2 rfl ?_
        refine ww_iload_n C dX10_freeOn_81 rfl 3 rfl ?_
        refine ww_iload C dX10_freeOn_82 1 rfl ?_
        refine ww_iload C dX10_freeOn_84 0 rfl ?_
        obtain ⟨u3, e_4, E⟩ := bind_of E
        refine ww_callI C (runs_V (n := 3) (st := []) C [.int x1, .int (x6 + x3), .int (x7 + x4)] (M_X10_isWall l G ad N hG x0 x1 (x6 + x3) (x7 + x4) u1.2 Tx0 e_4) ⟨q1692, q118, by decide⟩ q1689 q1691 q77 (ci := 10) rfl Tx0 rfl (Nat.le_of_ble_eq_true rfl) ⟨Nat.le_of_ble_eq_true rfl, Nat.le_of_ble_eq_true rfl⟩ ⟨Nat.zero_le _, Nat.zero_le _⟩ dX10_freeOn_86 rfl) ?_
        refine ww_if_eq (tgt := 107) C dX10_freeOn_89 (by decide) E (fun _ E => ?_) (fun _ E => ?_)
        · refine ww_aload_n C dX10_freeOn_107 rfl 2 rfl ?_
          refine ww_aload_n C dX10_freeOn_108 rfl 2 rfl ?_
          refine ww_iload_n C dX10_freeOn_109 rfl 3 rfl ?_
          refine ww_iload_n C dX10_freeOn_110 rfl 4 rfl ?_
          refine ww_iload C dX10_freeOn_111 1 rfl ?_
          refine ww_iload C dX10_freeOn_113 0 rfl ?_
          obtain ⟨u5, e_6, E⟩ := bind_of E
          refine ww_callI C (runs_V (n := 4) (st := [.ref (ad x0)]) C [.int x1, .int x2, .int (x6 + x3), .int (x7 + x4)] (M_X10_seenOn l G ad N hG x0 x1 x2 (x6 + x3) (x7 + x4) u3.2 Tx0 e_6) ⟨q1696, q118, by decide⟩ q1693 q1695 q78 (ci := 10) rfl Tx0 rfl (Nat.le_of_ble_eq_true rfl) ⟨Nat.le_of_ble_eq_true rfl, Nat.le_of_ble_eq_true rfl⟩ ⟨Nat.zero_le _, Nat.zero_le _⟩ dX10_freeOn_115 rfl) ?_
          refine ww_puti (ci := 10) (k0 := 42) C dX10_freeOn_118 rfl rfl inm10 tyX10_ok nmX10 (by decide) Tx0 q1320 rfl rfl rfl ?_
          refine ww_bd E (fun dy7 E => ?_)
          refine ww_aload_n C dX10_freeOn_121 rfl 2 rfl ?_
          refine ww_geti (ci := 10) (k0 := 42) C dX10_freeOn_122 rfl rfl inm10 (by decide) Tx0 q1320 rfl ?_
          refine ww_iconst (v := (-1)) C dX10_freeOn_125 (by decide) ?_
          refine ww_icmp_eq (tgt := 144) C dX10_freeOn_126 (by decide) E (fun _ E => ?_) (fun _ E => ?_)
          · refine ww_iinc (v := (x8 + (1 : Int32))) (lv' := [(8, .int (x8 + (1 : Int32))), (7, .int (x7 + x4)), (6, .int (x6 + x3)), (0, .ref (ad x0)), (1, .int x1), (2, .int x2), (3, .int x3), (4, .int x4), (5, .int x5)]) C dX10_freeOn_144 8 rfl rfl (by decide) rfl ?_
            refine ww_goto (tgt := 34) C dX10_freeOn_147 (by decide) ?_
            refine ww_sub (lv' := [(0, .ref (ad x0)), (1, .int x1), (2, .int x2), (3, .int x3), (4, .int x4), (5, .int x5), (6, .int (x6 + x3)), (7, .int (x7 + x4)), (8, .int (x8 + (1 : Int32)))]) [3, 4, 5, 6, 7, 8, 2, 1, 0] rfl ?_
            exact ih x0 x1 x2 x3 x4 x5 (x6 + x3) (x7 + x4) (x8 + (1 : Int32)) dy7 Tx0 E
          · refine ww_iload C dX10_freeOn_129 8 rfl ?_
            refine ww_bipush (v := 9) C dX10_freeOn_131 (by decide) ?_
            refine ww_icmp_ge (tgt := 141) C dX10_freeOn_133 (by decide) E (fun _ E => ?_) (fun _ E => ?_)
            · refine ww_bipush (v := 9) C dX10_freeOn_141 (by decide) ?_
              exact ww_iret C HR HL dX10_freeOn_143 E
            · refine ww_iload C dX10_freeOn_136 8 rfl ?_
              refine ww_goto (tgt := 143) C dX10_freeOn_138 (by decide) ?_
              exact ww_iret C HR HL dX10_freeOn_143 E
        · refine ww_iload C dX10_freeOn_92 8 rfl ?_
          refine ww_bipush (v := 9) C dX10_freeOn_94 (by decide) ?_
          refine ww_icmp_ge (tgt := 104) C dX10_freeOn_96 (by decide) E (fun _ E => ?_) (fun _ E => ?_)
          · refine ww_bipush (v := 9) C dX10_freeOn_104 (by decide) ?_
            exact ww_iret C HR HL dX10_freeOn_106 E
          · refine ww_iload C dX10_freeOn_99 8 rfl ?_
            refine ww_goto (tgt := 106) C dX10_freeOn_101 (by decide) ?_
            exact ww_iret C HR HL dX10_freeOn_106 E
      · refine ww_iload C dX10_freeOn_66 7 rfl ?_
        refine ww_iconst (v := (-1)) C dX10_freeOn_68 (by decide) ?_
        refine ww_icmp_ne (tgt := 77) C dX10_freeOn_69 (by decide) E (fun _ E => ?_) (fun _ E => ?_)
        · refine ww_iload C dX10_freeOn_77 7 rfl ?_
          exact ww_iret C HR HL dX10_freeOn_79 E
        · refine ww_iload C dX10_freeOn_72 8 rfl ?_
          refine ww_goto (tgt := 79) C dX10_freeOn_74 (by decide) ?_
          exact ww_iret C HR HL dX10_freeOn_79 E
end P_X10_freeOn
set_option maxHeartbeats 4000000 in
set_option maxRecDepth 100000 in
theorem M_X10_freeOn (l : Launch) (G : GG) (ad : Nat → Nat) {S : ST} (N : Nat) (hG : Good S) (a0 : Nat) (a1 : Int32) (a2 : Int32) (a3 : Int32) (a4 : Int32) (a5 : Int32) (dy : DY) (T0 : gs S a0 = (0, 10)) {r : Int32} {dy' : DY} (E : F_X10_freeOn S N a0 a1 a2 a3 a4 a5 dy = some (r, dy')) : MC l yX10_freeOn cX10_freeOn 9 (Option.some Jvm.ClassFile.FieldType.int) (3) G ad [.ref (ad a0), .int a1, .int a2, .int a3, .int a4, .int a5] S dy (fun A => QI G ad A S r dy') := by
  rw [F_X10_freeOn_s] at E
  refine mc_of RX10 (by decide) rfl (Nat.le_of_ble_eq_true rfl) (fun p e s m args below meth c A C HR HL => ?_)
  refine ww_sub (lv' := [(0, .ref (ad a0)), (1, .int a1), (2, .int a2), (3, .int a3), (4, .int a4), (5, .int a5)]) [0, 1, 2, 3, 4, 5] rfl ?_
  refine ww_aload_n C dX10_freeOn_0 rfl 0 rfl ?_
  have T_1 : gs S (gr S a0 39) = (1, 10080) := hG.1 _ 10 T0 39 (by decide)
  refine ww_getr (ci := 10) (k0 := 39) C dX10_freeOn_1 rfl rfl inm10 (by decide) T0 q1317 rfl T_1 (by decide) ?_
  refine ww_iload_n C dX10_freeOn_4 rfl 1 rfl ?_
  refine ww_iload_n C dX10_freeOn_5 rfl 2 rfl ?_
  obtain ⟨u2, e_3, E⟩ := bind_of E
  refine ww_callI C (runs_S (n := 2) (st := [.ref (ad (gr S a0 39))]) C [.int a1, .int a2] (M_X10_at l G ad N hG a1 a2 dy e_3) ⟨q1644, q118, by decide⟩ q1642 q1643 rfl (Nat.le_of_ble_eq_true rfl) ⟨Nat.le_of_ble_eq_true rfl, Nat.le_of_ble_eq_true rfl⟩ ⟨Nat.zero_le _, Nat.zero_le _⟩ dX10_freeOn_6 rfl) ?_
  refine ww_iald C dX10_freeOn_9 T_1 E (fun _ E => ?_)
  refine ww_istore (lv' := [(6, .int (gi u2.2 (gr S a0 39) u2.1.toNatClampNeg)), (0, .ref (ad a0)), (1, .int a1), (2, .int a2), (3, .int a3), (4, .int a4), (5, .int a5)]) C dX10_freeOn_10 (by decide) rfl ?_
  refine ww_aload_n C dX10_freeOn_12 rfl 1 rfl ?_
  have T_4 : gs S (gr S a0 39) = (1, 10080) := hG.1 _ 10 T0 39 (by decide)
  refine ww_getr (ci := 10) (k0 := 39) C dX10_freeOn_13 rfl rfl inm10 (by decide) T0 q1317 rfl T_4 (by decide) ?_
  refine ww_iload_n C dX10_freeOn_16 rfl 2 rfl ?_
  refine ww_iload_n C dX10_freeOn_17 rfl 3 rfl ?_
  obtain ⟨u5, e_6, E⟩ := bind_of E
  refine ww_callI C (runs_S (n := 2) (st := [.ref (ad (gr S a0 39))]) C [.int a1, .int a2] (M_X10_at l G ad N hG a1 a2 u2.2 e_6) ⟨q1644, q118, by decide⟩ q1642 q1643 rfl (Nat.le_of_ble_eq_true rfl) ⟨Nat.le_of_ble_eq_true rfl, Nat.le_of_ble_eq_true rfl⟩ ⟨Nat.zero_le _, Nat.zero_le _⟩ dX10_freeOn_18 rfl) ?_
  refine ww_iconst (v := 4) C dX10_freeOn_21 (by decide) ?_
  refine ww_iadd C dX10_freeOn_22 ?_
  refine ww_iald C dX10_freeOn_23 T_4 E (fun _ E => ?_)
  refine ww_istore (lv' := [(7, .int (gi u5.2 (gr S a0 39) (u5.1 + (4 : Int32)).toNatClampNeg)), (6, .int (gi u2.2 (gr S a0 39) u2.1.toNatClampNeg)), (0, .ref (ad a0)), (1, .int a1), (2, .int a2), (3, .int a3), (4, .int a4), (5, .int a5)]) C dX10_freeOn_24 (by decide) rfl ?_
  refine ww_aload_n C dX10_freeOn_26 rfl 2 rfl ?_
  refine ww_iconst (v := (-1)) C dX10_freeOn_27 (by decide) ?_
  refine ww_puti (ci := 10) (k0 := 42) C dX10_freeOn_28 rfl rfl inm10 tyX10_ok nmX10 (by decide) T0 q1320 rfl rfl rfl ?_
  refine ww_bd E (fun dy7 E => ?_)
  refine ww_iconst (v := 0) C dX10_freeOn_31 (by decide) ?_
  refine ww_istore (lv' := [(8, .int (0 : Int32)), (7, .int (gi u5.2 (gr S a0 39) (u5.1 + (4 : Int32)).toNatClampNeg)), (6, .int (gi u2.2 (gr S a0 39) u2.1.toNatClampNeg)), (0, .ref (ad a0)), (1, .int a1), (2, .int a2), (3, .int a3), (4, .int a4), (5, .int a5)]) C dX10_freeOn_32 (by decide) rfl ?_
  refine ww_sub (lv' := [(0, .ref (ad a0)), (1, .int a1), (2, .int a2), (3, .int a3), (4, .int a4), (5, .int a5), (6, .int (gi u2.2 (gr S a0 39) u2.1.toNatClampNeg)), (7, .int (gi u5.2 (gr S a0 39) (u5.1 + (4 : Int32)).toNatClampNeg)), (8, .int (0 : Int32))]) [3, 4, 5, 6, 7, 8, 2, 1, 0] rfl ?_
  exact (B_X10_freeOn_34 C HR HL hG N) a0 a1 a2 a3 a4 a5 (gi u2.2 (gr S a0 39) u2.1.toNatClampNeg) (gi u5.2 (gr S a0 39) (u5.1 + (4 : Int32)).toNatClampNeg) (0 : Int32) dy7 T0 E
section P_X10_way
variable {p : Program} {l : Launch} {e : Env} {s : State} {m : MethodId} {args : Array Value} {below : List Frame} {meth : Method} {c : Code} {G : GG} {A : Nat → Prop} {ad : Nat → Nat} {S : ST} {N : Nat} {r : Int32} {dy' : DY}
end P_X10_way
set_option maxHeartbeats 4000000 in
set_option maxRecDepth 100000 in
theorem M_X10_way (l : Launch) (G : GG) (ad : Nat → Nat) {S : ST} (N : Nat) (hG : Good S) (a0 : Nat) (a1 : Int32) (a2 : Int32) (dy : DY) (T0 : gs S a0 = (0, 10)) {r : Int32} {dy' : DY} (E : F_X10_way S N a0 a1 a2 dy = some (r, dy')) : MC l yX10_way cX10_way 3 (Option.some Jvm.ClassFile.FieldType.int) (2) G ad [.ref (ad a0), .int a1, .int a2] S dy (fun A => QI G ad A S r dy') := by
  rw [F_X10_way_s] at E
  refine mc_of RX10 (by decide) rfl (Nat.le_of_ble_eq_true rfl) (fun p e s m args below meth c A C HR HL => ?_)
  refine ww_sub (lv' := [(0, .ref (ad a0)), (1, .int a1), (2, .int a2)]) [0, 1, 2] rfl ?_
  refine ww_aload_n C dX10_way_0 rfl 0 rfl ?_
  have T_1 : gs S (gr S a0 39) = (1, 10080) := hG.1 _ 10 T0 39 (by decide)
  refine ww_getr (ci := 10) (k0 := 39) C dX10_way_1 rfl rfl inm10 (by decide) T0 q1317 rfl T_1 (by decide) ?_
  refine ww_iload_n C dX10_way_4 rfl 1 rfl ?_
  refine ww_iload_n C dX10_way_5 rfl 2 rfl ?_
  obtain ⟨u2, e_3, E⟩ := bind_of E
  refine ww_callI C (runs_S (n := 2) (st := [.ref (ad (gr S a0 39))]) C [.int a1, .int a2] (M_X10_at l G ad N hG a1 a2 dy e_3) ⟨q1644, q118, by decide⟩ q1642 q1643 rfl (Nat.le_of_ble_eq_true rfl) ⟨Nat.le_of_ble_eq_true rfl, Nat.le_of_ble_eq_true rfl⟩ ⟨Nat.zero_le _, Nat.zero_le _⟩ dX10_way_6 rfl) ?_
  refine ww_bipush (v := 8) C dX10_way_9 (by decide) ?_
  refine ww_iadd C dX10_way_11 ?_
  refine ww_iald C dX10_way_12 T_1 E (fun _ E => ?_)
  refine ww_iconst (v := 1) C dX10_way_13 (by decide) ?_
  refine ww_icmp_ne (tgt := 21) C dX10_way_14 (by decide) E (fun _ E => ?_) (fun _ E => ?_)
  · refine ww_iconst (v := (-1)) C dX10_way_21 (by decide) ?_
    exact ww_iret C HR HL dX10_way_22 E
  · refine ww_iconst (v := 1) C dX10_way_17 (by decide) ?_
    refine ww_goto (tgt := 22) C dX10_way_18 (by decide) ?_
    exact ww_iret C HR HL dX10_way_22 E
section P_X10_isFacing
variable {p : Program} {l : Launch} {e : Env} {s : State} {m : MethodId} {args : Array Value} {below : List Frame} {meth : Method} {c : Code} {G : GG} {A : Nat → Prop} {ad : Nat → Nat} {S : ST} {N : Nat} {r : Int32} {dy' : DY}
end P_X10_isFacing
set_option maxHeartbeats 4000000 in
set_option maxRecDepth 100000 in
theorem M_X10_isFacing (l : Launch) (G : GG) (ad : Nat → Nat) {S : ST} (N : Nat) (hG : Good S) (a0 : Nat) (a1 : Int32) (a2 : Int32) (dy : DY) (T0 : gs S a0 = (0, 10)) {r : Int32} {dy' : DY} (E : F_X10_isFacing S N a0 a1 a2 dy = some (r, dy')) : MC l yX10_isFacing cX10_isFacing 3 (Option.some Jvm.ClassFile.FieldType.boolean) (4) G ad [.ref (ad a0), .int a1, .int a2] S dy (fun A => QI G ad A S r dy') := by
  rw [F_X10_isFacing_s] at E
  refine mc_of RX10 (by decide) rfl (Nat.le_of_ble_eq_true rfl) (fun p e s m args below meth c A C HR HL => ?_)
  refine ww_sub (lv' := [(0, .ref (ad a0)), (1, .int a1), (2, .int a2)]) [0, 1, 2] rfl ?_
  refine ww_aload_n C dX10_isFacing_0 rfl 0 rfl ?_
  refine ww_iload_n C dX10_isFacing_1 rfl 1 rfl ?_
  refine ww_iload_n C dX10_isFacing_2 rfl 2 rfl ?_
  refine ww_aload_n C dX10_isFacing_3 rfl 0 rfl ?_
  refine ww_iload_n C dX10_isFacing_4 rfl 1 rfl ?_
  refine ww_iload_n C dX10_isFacing_5 rfl 2 rfl ?_
  obtain ⟨u1, e_2, E⟩ := bind_of E
  refine ww_callI C (runs_V (n := 2) (st := [.int a2, .int a1, .ref (ad a0)]) C [.int a1, .int a2] (M_X10_way l G ad N hG a0 a1 a2 dy T0 e_2) ⟨q1680, q118, by decide⟩ q1677 q1679 q74 (ci := 10) rfl T0 rfl (Nat.le_of_ble_eq_true rfl) ⟨Nat.le_of_ble_eq_true rfl, Nat.le_of_ble_eq_true rfl⟩ ⟨Nat.zero_le _, Nat.zero_le _⟩ dX10_isFacing_6 rfl) ?_
  refine ww_iconst (v := 0) C dX10_isFacing_9 (by decide) ?_
  refine ww_bipush (v := 9) C dX10_isFacing_10 (by decide) ?_
  obtain ⟨u3, e_4, E⟩ := bind_of E
  refine ww_callI C (runs_V (n := 5) (st := []) C [.int a1, .int a2, .int u1.1, .int (0 : Int32), .int (9 : Int32)] (M_X10_freeOn l G ad N hG a0 a1 a2 u1.1 (0 : Int32) (9 : Int32) u1.2 T0 e_4) ⟨q1684, q118, by decide⟩ q1681 q1683 q75 (ci := 10) rfl T0 rfl (Nat.le_of_ble_eq_true rfl) ⟨Nat.le_of_ble_eq_true rfl, Nat.le_of_ble_eq_true rfl⟩ ⟨Nat.zero_le _, Nat.zero_le _⟩ dX10_isFacing_12 rfl) ?_
  refine ww_pop C dX10_isFacing_15 rfl ?_
  refine ww_aload_n C dX10_isFacing_16 rfl 0 rfl ?_
  refine ww_geti (ci := 10) (k0 := 42) C dX10_isFacing_17 rfl rfl inm10 (by decide) T0 q1320 rfl ?_
  refine ww_iconst (v := (-1)) C dX10_isFacing_20 (by decide) ?_
  refine ww_icmp_eq (tgt := 46) C dX10_isFacing_21 (by decide) E (fun _ E => ?_) (fun _ E => ?_)
  · refine ww_iconst (v := 0) C dX10_isFacing_46 (by decide) ?_
    exact ww_zret C HR HL dX10_isFacing_47 (Or.inl rfl) E
  · refine ww_aload_n C dX10_isFacing_24 rfl 0 rfl ?_
    refine ww_iload_n C dX10_isFacing_25 rfl 1 rfl ?_
    refine ww_aload_n C dX10_isFacing_26 rfl 0 rfl ?_
    refine ww_geti (ci := 10) (k0 := 42) C dX10_isFacing_27 rfl rfl inm10 (by decide) T0 q1320 rfl ?_
    obtain ⟨u5, e_6, E⟩ := bind_of E
    refine ww_callI C (runs_V (n := 2) (st := []) C [.int a1, .int (gi u3.2 a0 42)] (M_X10_way l G ad N hG a0 a1 (gi u3.2 a0 42) u3.2 T0 e_6) ⟨q1680, q118, by decide⟩ q1677 q1679 q74 (ci := 10) rfl T0 rfl (Nat.le_of_ble_eq_true rfl) ⟨Nat.le_of_ble_eq_true rfl, Nat.le_of_ble_eq_true rfl⟩ ⟨Nat.zero_le _, Nat.zero_le _⟩ dX10_isFacing_30 rfl) ?_
    refine ww_aload_n C dX10_isFacing_33 rfl 0 rfl ?_
    refine ww_iload_n C dX10_isFacing_34 rfl 1 rfl ?_
    refine ww_iload_n C dX10_isFacing_35 rfl 2 rfl ?_
    obtain ⟨u7, e_8, E⟩ := bind_of E
    refine ww_callI C (runs_V (n := 2) (st := [.int u5.1]) C [.int a1, .int a2] (M_X10_way l G ad N hG a0 a1 a2 u5.2 T0 e_8) ⟨q1680, q118, by decide⟩ q1677 q1679 q74 (ci := 10) rfl T0 rfl (Nat.le_of_ble_eq_true rfl) ⟨Nat.le_of_ble_eq_true rfl, Nat.le_of_ble_eq_true rfl⟩ ⟨Nat.zero_le _, Nat.zero_le _⟩ dX10_isFacing_36 rfl) ?_
    refine ww_icmp_eq (tgt := 46) C dX10_isFacing_39 (by decide) E (fun _ E => ?_) (fun _ E => ?_)
    · refine ww_iconst (v := 0) C dX10_isFacing_46 (by decide) ?_
      exact ww_zret C HR HL dX10_isFacing_47 (Or.inl rfl) E
    · refine ww_iconst (v := 1) C dX10_isFacing_42 (by decide) ?_
      refine ww_goto (tgt := 47) C dX10_isFacing_43 (by decide) ?_
      exact ww_zret C HR HL dX10_isFacing_47 (Or.inr rfl) E
section P_X10_distance
variable {p : Program} {l : Launch} {e : Env} {s : State} {m : MethodId} {args : Array Value} {below : List Frame} {meth : Method} {c : Code} {G : GG} {A : Nat → Prop} {ad : Nat → Nat} {S : ST} {N : Nat} {r : Int32} {dy' : DY}
set_option maxHeartbeats 4000000 in
set_option maxRecDepth 100000 in
theorem B_X10_distance_39 (C : CX p s m args c cX10_distance 5 RX10 G A) (HR : meth.sig.returnType = (Option.some Jvm.ClassFile.FieldType.int)) (HL : meth.locks = false) (hG : Good S) : ∀ (x4 : Int32) (y0 : Int32) (dy : DY), F_X10_distance_39 S N x4 y0 dy = some (r, dy') → WJ p l e (rmD (1)) s m args below meth c 5 G A 0 0 (MQ below (QI G ad A S r dy') args s 0 0 A) ad 39 [(4, .int x4)] [.int y0] S dy := by
  intro x4 y0 dy E
  rw [F_X10_distance_39_s] at E
  refine ww_iload C dX10_distance_39 0 rfl ?_
  refine ww_if_ge (tgt := 50) C dX10_distance_41 (by decide) E (fun _ E => ?_) (fun _ E => ?_)
  · refine ww_iload C dX10_distance_50 0 rfl ?_
    refine ww_iadd C dX10_distance_52 ?_
    exact ww_iret C HR HL dX10_distance_53 E
  · refine ww_iload C dX10_distance_44 0 rfl ?_
    refine ww_ineg C dX10_distance_46 ?_
    refine ww_goto (tgt := 52) C dX10_distance_47 (by decide) ?_
    refine ww_iadd C dX10_distance_52 ?_
    exact ww_iret C HR HL dX10_distance_53 E
end P_X10_distance
set_option maxHeartbeats 4000000 in
set_option maxRecDepth 100000 in
theorem M_X10_distance (l : Launch) (G : GG) (ad : Nat → Nat) {S : ST} (N : Nat) (hG : Good S) (a0 : Nat) (a1 : Int32) (a2 : Int32) (dy : DY) (T0 : gs S a0 = (0, 10)) {r : Int32} {dy' : DY} (E : F_X10_distance S N a0 a1 a2 dy = some (r, dy')) : MC l yX10_distance cX10_distance 5 (Option.some Jvm.ClassFile.FieldType.int) (1) G ad [.ref (ad a0), .int a1, .int a2] S dy (fun A => QI G ad A S r dy') := by
  rw [F_X10_distance_s] at E
  refine mc_of RX10 (by decide) rfl (Nat.le_of_ble_eq_true rfl) (fun p e s m args below meth c A C HR HL => ?_)
  refine ww_sub (lv' := [(0, .ref (ad a0)), (1, .int a1), (2, .int a2)]) [0, 1, 2] rfl ?_
  refine ww_aload_n C dX10_distance_0 rfl 0 rfl ?_
  have T_1 : gs S (gr S a0 40) = (1, 12) := hG.1 _ 10 T0 40 (by decide)
  refine ww_getr (ci := 10) (k0 := 40) C dX10_distance_1 rfl rfl inm10 (by decide) T0 q1318 rfl T_1 (by decide) ?_
  refine ww_iload_n C dX10_distance_4 rfl 1 rfl ?_
  refine ww_iald C dX10_distance_5 T_1 E (fun _ E => ?_)
  refine ww_aload_n C dX10_distance_6 rfl 0 rfl ?_
  have T_2 : gs S (gr S a0 40) = (1, 12) := hG.1 _ 10 T0 40 (by decide)
  refine ww_getr (ci := 10) (k0 := 40) C dX10_distance_7 rfl rfl inm10 (by decide) T0 q1318 rfl T_2 (by decide) ?_
  refine ww_iload_n C dX10_distance_10 rfl 2 rfl ?_
  refine ww_iald C dX10_distance_11 T_2 E (fun _ E => ?_)
  refine ww_isub C dX10_distance_12 ?_
  refine ww_istore_n (lv' := [(3, .int ((gi dy (gr S a0 40) a1.toNatClampNeg) - (gi dy (gr S a0 40) a2.toNatClampNeg))), (0, .ref (ad a0)), (1, .int a1), (2, .int a2)]) C dX10_distance_13 rfl (by decide) rfl ?_
  refine ww_aload_n C dX10_distance_14 rfl 1 rfl ?_
  have T_3 : gs S (gr S a0 41) = (1, 12) := hG.1 _ 10 T0 41 (by decide)
  refine ww_getr (ci := 10) (k0 := 41) C dX10_distance_15 rfl rfl inm10 (by decide) T0 q1319 rfl T_3 (by decide) ?_
  refine ww_iload_n C dX10_distance_18 rfl 2 rfl ?_
  refine ww_iald C dX10_distance_19 T_3 E (fun _ E => ?_)
  refine ww_aload_n C dX10_distance_20 rfl 1 rfl ?_
  have T_4 : gs S (gr S a0 41) = (1, 12) := hG.1 _ 10 T0 41 (by decide)
  refine ww_getr (ci := 10) (k0 := 41) C dX10_distance_21 rfl rfl inm10 (by decide) T0 q1319 rfl T_4 (by decide) ?_
  refine ww_iload_n C dX10_distance_24 rfl 3 rfl ?_
  refine ww_iald C dX10_distance_25 T_4 E (fun _ E => ?_)
  refine ww_isub C dX10_distance_26 ?_
  refine ww_istore (lv' := [(4, .int ((gi dy (gr S a0 41) a1.toNatClampNeg) - (gi dy (gr S a0 41) a2.toNatClampNeg))), (3, .int ((gi dy (gr S a0 40) a1.toNatClampNeg) - (gi dy (gr S a0 40) a2.toNatClampNeg))), (0, .ref (ad a0)), (1, .int a1), (2, .int a2)]) C dX10_distance_27 (by decide) rfl ?_
  refine ww_iload_n C dX10_distance_29 rfl 1 rfl ?_
  refine ww_if_ge (tgt := 38) C dX10_distance_30 (by decide) E (fun _ E => ?_) (fun _ E => ?_)
  · refine ww_iload_n C dX10_distance_38 rfl 1 rfl ?_
    refine ww_sub (lv' := [(4, .int ((gi dy (gr S a0 41) a1.toNatClampNeg) - (gi dy (gr S a0 41) a2.toNatClampNeg)))]) [0] rfl ?_
    exact (B_X10_distance_39 C HR HL hG) ((gi dy (gr S a0 41) a1.toNatClampNeg) - (gi dy (gr S a0 41) a2.toNatClampNeg)) ((gi dy (gr S a0 40) a1.toNatClampNeg) - (gi dy (gr S a0 40) a2.toNatClampNeg)) dy E
  · refine ww_iload_n C dX10_distance_33 rfl 1 rfl ?_
    refine ww_ineg C dX10_distance_34 ?_
    refine ww_goto (tgt := 39) C dX10_distance_35 (by decide) ?_
    refine ww_sub (lv' := [(4, .int ((gi dy (gr S a0 41) a1.toNatClampNeg) - (gi dy (gr S a0 41) a2.toNatClampNeg)))]) [0] rfl ?_
    exact (B_X10_distance_39 C HR HL hG) ((gi dy (gr S a0 41) a1.toNatClampNeg) - (gi dy (gr S a0 41) a2.toNatClampNeg)) (-((gi dy (gr S a0 40) a1.toNatClampNeg) - (gi dy (gr S a0 40) a2.toNatClampNeg))) dy E
section P_X10_isParted
variable {p : Program} {l : Launch} {e : Env} {s : State} {m : MethodId} {args : Array Value} {below : List Frame} {meth : Method} {c : Code} {G : GG} {A : Nat → Prop} {ad : Nat → Nat} {S : ST} {N : Nat} {r : Int32} {dy' : DY}
end P_X10_isParted
set_option maxHeartbeats 4000000 in
set_option maxRecDepth 100000 in
theorem M_X10_isParted (l : Launch) (G : GG) (ad : Nat → Nat) {S : ST} (N : Nat) (hG : Good S) (a0 : Nat) (a1 : Int32) (a2 : Int32) (dy : DY) (T0 : gs S a0 = (0, 10)) {r : Int32} {dy' : DY} (E : F_X10_isParted S N a0 a1 a2 dy = some (r, dy')) : MC l yX10_isParted cX10_isParted 4 (Option.some Jvm.ClassFile.FieldType.boolean) (2) G ad [.ref (ad a0), .int a1, .int a2] S dy (fun A => QI G ad A S r dy') := by
  rw [F_X10_isParted_s] at E
  refine mc_of RX10 (by decide) rfl (Nat.le_of_ble_eq_true rfl) (fun p e s m args below meth c A C HR HL => ?_)
  refine ww_sub (lv' := [(0, .ref (ad a0)), (1, .int a1), (2, .int a2)]) [0, 1, 2] rfl ?_
  refine ww_aload_n C dX10_isParted_0 rfl 0 rfl ?_
  have T_1 : gs S (gr S a0 39) = (1, 10080) := hG.1 _ 10 T0 39 (by decide)
  refine ww_getr (ci := 10) (k0 := 39) C dX10_isParted_1 rfl rfl inm10 (by decide) T0 q1317 rfl T_1 (by decide) ?_
  refine ww_iload_n C dX10_isParted_4 rfl 1 rfl ?_
  refine ww_iload_n C dX10_isParted_5 rfl 2 rfl ?_
  obtain ⟨u2, e_3, E⟩ := bind_of E
  refine ww_callI C (runs_S (n := 2) (st := [.ref (ad (gr S a0 39))]) C [.int a1, .int a2] (M_X10_at l G ad N hG a1 a2 dy e_3) ⟨q1644, q118, by decide⟩ q1642 q1643 rfl (Nat.le_of_ble_eq_true rfl) ⟨Nat.le_of_ble_eq_true rfl, Nat.le_of_ble_eq_true rfl⟩ ⟨Nat.zero_le _, Nat.zero_le _⟩ dX10_isParted_6 rfl) ?_
  refine ww_bipush (v := 13) C dX10_isParted_9 (by decide) ?_
  refine ww_iadd C dX10_isParted_11 ?_
  refine ww_iald C dX10_isParted_12 T_1 E (fun _ E => ?_)
  refine ww_istore_n (lv' := [(3, .int (gi u2.2 (gr S a0 39) (u2.1 + (13 : Int32)).toNatClampNeg)), (0, .ref (ad a0)), (1, .int a1), (2, .int a2)]) C dX10_isParted_13 rfl (by decide) rfl ?_
  refine ww_iload_n C dX10_isParted_14 rfl 0 rfl ?_
  refine ww_iconst (v := (-1)) C dX10_isParted_15 (by decide) ?_
  refine ww_icmp_eq (tgt := 43) C dX10_isParted_16 (by decide) E (fun _ E => ?_) (fun _ E => ?_)
  · refine ww_iconst (v := 0) C dX10_isParted_43 (by decide) ?_
    exact ww_zret C HR HL dX10_isParted_44 (Or.inl rfl) E
  · refine ww_aload_n C dX10_isParted_19 rfl 1 rfl ?_
    have T_4 : gs S (gr S a0 40) = (1, 12) := hG.1 _ 10 T0 40 (by decide)
    refine ww_getr (ci := 10) (k0 := 40) C dX10_isParted_20 rfl rfl inm10 (by decide) T0 q1318 rfl T_4 (by decide) ?_
    refine ww_iload_n C dX10_isParted_23 rfl 0 rfl ?_
    refine ww_iald C dX10_isParted_24 T_4 E (fun _ E => ?_)
    refine ww_iconst (v := (-1)) C dX10_isParted_25 (by decide) ?_
    refine ww_icmp_eq (tgt := 43) C dX10_isParted_26 (by decide) E (fun _ E => ?_) (fun _ E => ?_)
    · refine ww_iconst (v := 0) C dX10_isParted_43 (by decide) ?_
      exact ww_zret C HR HL dX10_isParted_44 (Or.inl rfl) E
    · refine ww_aload_n C dX10_isParted_29 rfl 1 rfl ?_
      refine ww_iload_n C dX10_isParted_30 rfl 3 rfl ?_
      refine ww_iload_n C dX10_isParted_31 rfl 0 rfl ?_
      obtain ⟨u5, e_6, E⟩ := bind_of E
      refine ww_callI C (runs_V (n := 2) (st := []) C [.int a2, .int (gi u2.2 (gr S a0 39) (u2.1 + (13 : Int32)).toNatClampNeg)] (M_X10_distance l G ad N hG a0 a2 (gi u2.2 (gr S a0 39) (u2.1 + (13 : Int32)).toNatClampNeg) u2.2 T0 e_6) ⟨q1708, q118, by decide⟩ q1705 q1707 q81 (ci := 10) rfl T0 rfl (Nat.le_of_ble_eq_true rfl) ⟨Nat.le_of_ble_eq_true rfl, Nat.le_of_ble_eq_true rfl⟩ ⟨Nat.zero_le _, Nat.zero_le _⟩ dX10_isParted_32 rfl) ?_
      refine ww_iconst (v := 2) C dX10_isParted_35 (by decide) ?_
      refine ww_icmp_le (tgt := 43) C dX10_isParted_36 (by decide) E (fun _ E => ?_) (fun _ E => ?_)
      · refine ww_iconst (v := 0) C dX10_isParted_43 (by decide) ?_
        exact ww_zret C HR HL dX10_isParted_44 (Or.inl rfl) E
      · refine ww_iconst (v := 1) C dX10_isParted_39 (by decide) ?_
        refine ww_goto (tgt := 44) C dX10_isParted_40 (by decide) ?_
        exact ww_zret C HR HL dX10_isParted_44 (Or.inr rfl) E
section P_X10_nearBy
variable {p : Program} {l : Launch} {e : Env} {s : State} {m : MethodId} {args : Array Value} {below : List Frame} {meth : Method} {c : Code} {G : GG} {A : Nat → Prop} {ad : Nat → Nat} {S : ST} {N : Nat} {r : Int32} {dy' : DY}
set_option maxHeartbeats 4000000 in
set_option maxRecDepth 100000 in
theorem B_X10_nearBy_67 (C : CX p s m args c cX10_nearBy 8 RX10 G A) (HR : meth.sig.returnType = (Option.some Jvm.ClassFile.FieldType.int)) (HL : meth.locks = false) (hG : Good S) {K10 : Nat → Int32 → Int32 → Int32 → Int32 → Int32 → Int32 → DY → Option (Int32 × DY)} (hK10 : ∀ (x0 : Nat) (x1 : Int32) (x2 : Int32) (x3 : Int32) (x4 : Int32) (x5 : Int32) (x6 : Int32) (dy : DY), gs S x0 = (0, 10) → K10 x0 x1 x2 x3 x4 x5 x6 dy = some (r, dy') → WJ p l e (rmD (2)) s m args below meth c 8 G A 0 0 (MQ below (QI G ad A S r dy') args s 0 0 A) ad 10 [(0, .ref (ad x0)), (1, .int x1), (2, .int x2), (3, .int x3), (4, .int x4), (5, .int x5), (6, .int x6)] [] S dy) : ∀ (x0 : Nat) (x1 : Int32) (x2 : Int32) (x3 : Int32) (x5 : Int32) (x6 : Int32) (x7 : Int32) (y0 : Int32) (dy : DY), gs S x0 = (0, 10) → F_X10_nearBy_67 S N K10 x0 x1 x2 x3 x5 x6 x7 y0 dy = some (r, dy') → WJ p l e (rmD (2)) s m args below meth c 8 G A 0 0 (MQ below (QI G ad A S r dy') args s 0 0 A) ad 67 [(0, .ref (ad x0)), (1, .int x1), (2, .int x2), (3, .int x3), (5, .int x5), (6, .int x6), (7, .int x7)] [.int y0] S dy := by
  intro x0 x1 x2 x3 x5 x6 x7 y0 dy Tx0 E
  rw [F_X10_nearBy_67_s] at E
  refine ww_istore (lv' := [(4, .int y0), (0, .ref (ad x0)), (1, .int x1), (2, .int x2), (3, .int x3), (5, .int x5), (6, .int x6), (7, .int x7)]) C dX10_nearBy_67 (by decide) rfl ?_
  refine ww_iload C dX10_nearBy_69 5 rfl ?_
  refine ww_iload C dX10_nearBy_71 7 rfl ?_
  refine ww_iconst (v := 2) C dX10_nearBy_73 (by decide) ?_
  refine ww_icmp_gt (tgt := 81) C dX10_nearBy_74 (by decide) E (fun _ E => ?_) (fun _ E => ?_)
  · refine ww_iconst (v := 0) C dX10_nearBy_81 (by decide) ?_
    refine ww_iadd C dX10_nearBy_82 ?_
    refine ww_istore (lv' := [(5, .int (x5 + (0 : Int32))), (4, .int y0), (0, .ref (ad x0)), (1, .int x1), (2, .int x2), (3, .int x3), (6, .int x6), (7, .int x7)]) C dX10_nearBy_83 (by decide) rfl ?_
    refine ww_iinc (v := (x6 + (1 : Int32))) (lv' := [(6, .int (x6 + (1 : Int32))), (5, .int (x5 + (0 : Int32))), (4, .int y0), (0, .ref (ad x0)), (1, .int x1), (2, .int x2), (3, .int x3), (7, .int x7)]) C dX10_nearBy_85 6 rfl rfl (by decide) rfl ?_
    refine ww_goto (tgt := 10) C dX10_nearBy_88 (by decide) ?_
    refine ww_sub (lv' := [(0, .ref (ad x0)), (1, .int x1), (2, .int x2), (3, .int x3), (4, .int y0), (5, .int (x5 + (0 : Int32))), (6, .int (x6 + (1 : Int32)))]) [3, 4, 5, 6, 2, 1, 0] rfl ?_
    exact hK10 x0 x1 x2 x3 y0 (x5 + (0 : Int32)) (x6 + (1 : Int32)) dy Tx0 E
  · refine ww_iconst (v := 1) C dX10_nearBy_77 (by decide) ?_
    refine ww_goto (tgt := 82) C dX10_nearBy_78 (by decide) ?_
    refine ww_iadd C dX10_nearBy_82 ?_
    refine ww_istore (lv' := [(5, .int (x5 + (1 : Int32))), (4, .int y0), (0, .ref (ad x0)), (1, .int x1), (2, .int x2), (3, .int x3), (6, .int x6), (7, .int x7)]) C dX10_nearBy_83 (by decide) rfl ?_
    refine ww_iinc (v := (x6 + (1 : Int32))) (lv' := [(6, .int (x6 + (1 : Int32))), (5, .int (x5 + (1 : Int32))), (4, .int y0), (0, .ref (ad x0)), (1, .int x1), (2, .int x2), (3, .int x3), (7, .int x7)]) C dX10_nearBy_85 6 rfl rfl (by decide) rfl ?_
    refine ww_goto (tgt := 10) C dX10_nearBy_88 (by decide) ?_
    refine ww_sub (lv' := [(0, .ref (ad x0)), (1, .int x1), (2, .int x2), (3, .int x3), (4, .int y0), (5, .int (x5 + (1 : Int32))), (6, .int (x6 + (1 : Int32)))]) [3, 4, 5, 6, 2, 1, 0] rfl ?_
    exact hK10 x0 x1 x2 x3 y0 (x5 + (1 : Int32)) (x6 + (1 : Int32)) dy Tx0 E
set_option maxHeartbeats 4000000 in
set_option maxRecDepth 100000 in
theorem B_X10_nearBy_10 (C : CX p s m args c cX10_nearBy 8 RX10 G A) (HR : meth.sig.returnType = (Option.some Jvm.ClassFile.FieldType.int)) (HL : meth.locks = false) (hG : Good S) : ∀ k : Nat, ∀ (x0 : Nat) (x1 : Int32) (x2 : Int32) (x3 : Int32) (x4 : Int32) (x5 : Int32) (x6 : Int32) (dy : DY), gs S x0 = (0, 10) → (F_X10_nearBy_10 S N k) x0 x1 x2 x3 x4 x5 x6 dy = some (r, dy') → WJ p l e (rmD (2)) s m args below meth c 8 G A 0 0 (MQ below (QI G ad A S r dy') args s 0 0 A) ad 10 [(0, .ref (ad x0)), (1, .int x1), (2, .int x2), (3, .int x3), (4, .int x4), (5, .int x5), (6, .int x6)] [] S dy := by
  intro k
  induction k with
  | zero => exact fun _ _ _ _ _ _ _ _ _ E => nomatch (show none = some (r, dy') from E)
  | succ k ih =>
    intro x0 x1 x2 x3 x4 x5 x6 dy Tx0 E
    rw [F_X10_nearBy_10_s] at E
    refine ww_iload C dX10_nearBy_10 6 rfl ?_
    refine ww_aload_n C dX10_nearBy_12 rfl 0 rfl ?_
    have T_1 : gs S (gr S x0 39) = (1, 10080) := hG.1 _ 10 Tx0 39 (by decide)
    refine ww_getr (ci := 10) (k0 := 39) C dX10_nearBy_13 rfl rfl inm10 (by decide) Tx0 q1317 rfl T_1 (by decide) ?_
    refine ww_sipush (v := 720) C dX10_nearBy_16 (by decide) ?_
    refine ww_iload_n C dX10_nearBy_19 rfl 1 rfl ?_
    refine ww_imul C dX10_nearBy_20 ?_
    refine ww_iconst (v := 2) C dX10_nearBy_21 (by decide) ?_
    refine ww_iadd C dX10_nearBy_22 ?_
    refine ww_iald C dX10_nearBy_23 T_1 E (fun _ E => ?_)
    refine ww_icmp_ge (tgt := 91) C dX10_nearBy_24 (by decide) E (fun _ E => ?_) (fun _ E => ?_)
    · refine ww_iload_n C dX10_nearBy_91 rfl 3 rfl ?_
      refine ww_if_eq (tgt := 100) C dX10_nearBy_92 (by decide) E (fun _ E => ?_) (fun _ E => ?_)
      · refine ww_iload C dX10_nearBy_100 4 rfl ?_
        exact ww_iret C HR HL dX10_nearBy_102 E
      · refine ww_iload C dX10_nearBy_95 5 rfl ?_
        refine ww_goto (tgt := 102) C dX10_nearBy_97 (by decide) ?_
        exact ww_iret C HR HL dX10_nearBy_102 E
    · refine ww_iload C dX10_nearBy_27 6 rfl ?_
      refine ww_iload_n C dX10_nearBy_29 rfl 2 rfl ?_
      refine ww_icmp_eq (tgt := 85) C dX10_nearBy_30 (by decide) E (fun _ E => ?_) (fun _ E => ?_)
      · refine ww_iinc (v := (x6 + (1 : Int32))) (lv' := [(6, .int (x6 + (1 : Int32))), (0, .ref (ad x0)), (1, .int x1), (2, .int x2), (3, .int x3), (4, .int x4), (5, .int x5)]) C dX10_nearBy_85 6 rfl rfl (by decide) rfl ?_
        refine ww_goto (tgt := 10) C dX10_nearBy_88 (by decide) ?_
        refine ww_sub (lv' := [(0, .ref (ad x0)), (1, .int x1), (2, .int x2), (3, .int x3), (4, .int x4), (5, .int x5), (6, .int (x6 + (1 : Int32)))]) [1, 2, 3, 4, 5, 6, 0] rfl ?_
        exact ih x0 x1 x2 x3 x4 x5 (x6 + (1 : Int32)) dy Tx0 E
      · refine ww_aload_n C dX10_nearBy_33 rfl 0 rfl ?_
        have T_2 : gs S (gr S x0 40) = (1, 12) := hG.1 _ 10 Tx0 40 (by decide)
        refine ww_getr (ci := 10) (k0 := 40) C dX10_nearBy_34 rfl rfl inm10 (by decide) Tx0 q1318 rfl T_2 (by decide) ?_
        refine ww_iload C dX10_nearBy_37 6 rfl ?_
        refine ww_iald C dX10_nearBy_39 T_2 E (fun _ E => ?_)
        refine ww_iconst (v := (-1)) C dX10_nearBy_40 (by decide) ?_
        refine ww_icmp_eq (tgt := 85) C dX10_nearBy_41 (by decide) E (fun _ E => ?_) (fun _ E => ?_)
        · refine ww_iinc (v := (x6 + (1 : Int32))) (lv' := [(6, .int (x6 + (1 : Int32))), (0, .ref (ad x0)), (1, .int x1), (2, .int x2), (3, .int x3), (4, .int x4), (5, .int x5)]) C dX10_nearBy_85 6 rfl rfl (by decide) rfl ?_
          refine ww_goto (tgt := 10) C dX10_nearBy_88 (by decide) ?_
          refine ww_sub (lv' := [(0, .ref (ad x0)), (1, .int x1), (2, .int x2), (3, .int x3), (4, .int x4), (5, .int x5), (6, .int (x6 + (1 : Int32)))]) [1, 2, 3, 4, 5, 6, 0] rfl ?_
          exact ih x0 x1 x2 x3 x4 x5 (x6 + (1 : Int32)) dy Tx0 E
        · refine ww_aload_n C dX10_nearBy_44 rfl 0 rfl ?_
          refine ww_iload_n C dX10_nearBy_45 rfl 2 rfl ?_
          refine ww_iload C dX10_nearBy_46 6 rfl ?_
          obtain ⟨u3, e_4, E⟩ := bind_of E
          refine ww_callI C (runs_V (n := 2) (st := []) C [.int x2, .int x6] (M_X10_distance l G ad N hG x0 x2 x6 dy Tx0 e_4) ⟨q1708, q118, by decide⟩ q1705 q1707 q81 (ci := 10) rfl Tx0 rfl (Nat.le_of_ble_eq_true rfl) ⟨Nat.le_of_ble_eq_true rfl, Nat.le_of_ble_eq_true rfl⟩ ⟨Nat.zero_le _, Nat.zero_le _⟩ dX10_nearBy_48 rfl) ?_
          refine ww_istore (lv' := [(7, .int u3.1), (0, .ref (ad x0)), (1, .int x1), (2, .int x2), (3, .int x3), (4, .int x4), (5, .int x5), (6, .int x6)]) C dX10_nearBy_51 (by decide) rfl ?_
          refine ww_iload C dX10_nearBy_53 0 rfl ?_
          refine ww_iload C dX10_nearBy_55 5 rfl ?_
          refine ww_icmp_ge (tgt := 65) C dX10_nearBy_57 (by decide) E (fun _ E => ?_) (fun _ E => ?_)
          · refine ww_iload C dX10_nearBy_65 5 rfl ?_
            refine ww_sub (lv' := [(0, .ref (ad x0)), (1, .int x1), (2, .int x2), (3, .int x3), (5, .int x5), (6, .int x6), (7, .int u3.1)]) [1, 2, 3, 4, 6, 7, 0] rfl ?_
            exact (B_X10_nearBy_67 C HR HL hG ih) x0 x1 x2 x3 x5 x6 u3.1 x4 u3.2 Tx0 E
          · refine ww_iload C dX10_nearBy_60 0 rfl ?_
            refine ww_goto (tgt := 67) C dX10_nearBy_62 (by decide) ?_
            refine ww_sub (lv' := [(0, .ref (ad x0)), (1, .int x1), (2, .int x2), (3, .int x3), (5, .int x5), (6, .int x6), (7, .int u3.1)]) [1, 2, 3, 4, 6, 7, 0] rfl ?_
            exact (B_X10_nearBy_67 C HR HL hG ih) x0 x1 x2 x3 x5 x6 u3.1 u3.1 u3.2 Tx0 E
end P_X10_nearBy
set_option maxHeartbeats 4000000 in
set_option maxRecDepth 100000 in
theorem M_X10_nearBy (l : Launch) (G : GG) (ad : Nat → Nat) {S : ST} (N : Nat) (hG : Good S) (a0 : Nat) (a1 : Int32) (a2 : Int32) (a3 : Int32) (dy : DY) (T0 : gs S a0 = (0, 10)) {r : Int32} {dy' : DY} (E : F_X10_nearBy S N a0 a1 a2 a3 dy = some (r, dy')) : MC l yX10_nearBy cX10_nearBy 8 (Option.some Jvm.ClassFile.FieldType.int) (2) G ad [.ref (ad a0), .int a1, .int a2, .int a3] S dy (fun A => QI G ad A S r dy') := by
  rw [F_X10_nearBy_s] at E
  refine mc_of RX10 (by decide) rfl (Nat.le_of_ble_eq_true rfl) (fun p e s m args below meth c A C HR HL => ?_)
  refine ww_sub (lv' := [(0, .ref (ad a0)), (1, .int a1), (2, .int a2), (3, .int a3)]) [0, 1, 2, 3] rfl ?_
  refine ww_bipush (v := 99) C dX10_nearBy_0 (by decide) ?_
  refine ww_istore (lv' := [(4, .int (99 : Int32)), (0, .ref (ad a0)), (1, .int a1), (2, .int a2), (3, .int a3)]) C dX10_nearBy_2 (by decide) rfl ?_
  refine ww_iconst (v := 0) C dX10_nearBy_4 (by decide) ?_
  refine ww_istore (lv' := [(5, .int (0 : Int32)), (4, .int (99 : Int32)), (0, .ref (ad a0)), (1, .int a1), (2, .int a2), (3, .int a3)]) C dX10_nearBy_5 (by decide) rfl ?_
  refine ww_iconst (v := 0) C dX10_nearBy_7 (by decide) ?_
  refine ww_istore (lv' := [(6, .int (0 : Int32)), (5, .int (0 : Int32)), (4, .int (99 : Int32)), (0, .ref (ad a0)), (1, .int a1), (2, .int a2), (3, .int a3)]) C dX10_nearBy_8 (by decide) rfl ?_
  refine ww_sub (lv' := [(0, .ref (ad a0)), (1, .int a1), (2, .int a2), (3, .int a3), (4, .int (99 : Int32)), (5, .int (0 : Int32)), (6, .int (0 : Int32))]) [3, 4, 5, 6, 2, 1, 0] rfl ?_
  exact (B_X10_nearBy_10 C HR HL hG N) a0 a1 a2 a3 (99 : Int32) (0 : Int32) (0 : Int32) dy T0 E
section P_X10_soonBy
variable {p : Program} {l : Launch} {e : Env} {s : State} {m : MethodId} {args : Array Value} {below : List Frame} {meth : Method} {c : Code} {G : GG} {A : Nat → Prop} {ad : Nat → Nat} {S : ST} {N : Nat} {r : Int32} {dy' : DY}
set_option maxHeartbeats 4000000 in
set_option maxRecDepth 100000 in
theorem B_X10_soonBy_113 (C : CX p s m args c cX10_soonBy 8 RX10 G A) (HR : meth.sig.returnType = (Option.some Jvm.ClassFile.FieldType.int)) (HL : meth.locks = false) (hG : Good S) : ∀ (y0 : Int32) (dy : DY), F_X10_soonBy_113 S N y0 dy = some (r, dy') → WJ p l e (rmD (4)) s m args below meth c 8 G A 0 0 (MQ below (QI G ad A S r dy') args s 0 0 A) ad 113 [] [.int y0] S dy := by
  intro y0 dy E
  rw [F_X10_soonBy_113_s] at E
  refine ww_istore (lv' := [(7, .int y0)]) C dX10_soonBy_113 (by decide) rfl ?_
  refine ww_iload C dX10_soonBy_115 0 rfl ?_
  refine ww_bipush (v := 99) C dX10_soonBy_117 (by decide) ?_
  refine ww_icmp_ge (tgt := 127) C dX10_soonBy_119 (by decide) E (fun _ E => ?_) (fun _ E => ?_)
  · refine ww_bipush (v := 99) C dX10_soonBy_127 (by decide) ?_
    exact ww_iret C HR HL dX10_soonBy_129 E
  · refine ww_iload C dX10_soonBy_122 0 rfl ?_
    refine ww_goto (tgt := 129) C dX10_soonBy_124 (by decide) ?_
    exact ww_iret C HR HL dX10_soonBy_129 E
set_option maxHeartbeats 4000000 in
set_option maxRecDepth 100000 in
theorem B_X10_soonBy_91 (C : CX p s m args c cX10_soonBy 8 RX10 G A) (HR : meth.sig.returnType = (Option.some Jvm.ClassFile.FieldType.int)) (HL : meth.locks = false) (hG : Good S) : ∀ (x3 : Int32) (x4 : Int32) (x5 : Int32) (y0 : Int32) (dy : DY), F_X10_soonBy_91 S N x3 x4 x5 y0 dy = some (r, dy') → WJ p l e (rmD (4)) s m args below meth c 8 G A 0 0 (MQ below (QI G ad A S r dy') args s 0 0 A) ad 91 [(3, .int x3), (4, .int x4), (5, .int x5)] [.int y0] S dy := by
  intro x3 x4 x5 y0 dy E
  rw [F_X10_soonBy_91_s] at E
  refine ww_istore (lv' := [(6, .int y0), (3, .int x3), (4, .int x4), (5, .int x5)]) C dX10_soonBy_91 (by decide) rfl ?_
  refine ww_iload C dX10_soonBy_93 0 rfl ?_
  refine ww_if_le (tgt := 111) C dX10_soonBy_95 (by decide) E (fun _ E => ?_) (fun _ E => ?_)
  · refine ww_bipush (v := 99) C dX10_soonBy_111 (by decide) ?_
    refine ww_sub (lv' := []) [] rfl ?_
    exact (B_X10_soonBy_113 C HR HL hG) (99 : Int32) dy E
  · refine ww_iload_n C dX10_soonBy_98 rfl 1 rfl ?_
    refine ww_iload C dX10_soonBy_99 2 rfl ?_
    refine ww_imul C dX10_soonBy_101 ?_
    refine ww_iload C dX10_soonBy_102 3 rfl ?_
    refine ww_imul C dX10_soonBy_104 ?_
    refine ww_iload C dX10_soonBy_105 0 rfl ?_
    refine ww_idiv C dX10_soonBy_107 E (fun _ E => ?_)
    refine ww_goto (tgt := 113) C dX10_soonBy_108 (by decide) ?_
    refine ww_sub (lv' := []) [] rfl ?_
    exact (B_X10_soonBy_113 C HR HL hG) (((x3 * x4) * x5) / y0) dy E
end P_X10_soonBy
set_option maxHeartbeats 4000000 in
set_option maxRecDepth 100000 in
theorem M_X10_soonBy (l : Launch) (G : GG) (ad : Nat → Nat) {S : ST} (N : Nat) (hG : Good S) (a0 : Nat) (a1 : Int32) (a2 : Int32) (dy : DY) (T0 : gs S a0 = (0, 10)) {r : Int32} {dy' : DY} (E : F_X10_soonBy S N a0 a1 a2 dy = some (r, dy')) : MC l yX10_soonBy cX10_soonBy 8 (Option.some Jvm.ClassFile.FieldType.int) (4) G ad [.ref (ad a0), .int a1, .int a2] S dy (fun A => QI G ad A S r dy') := by
  rw [F_X10_soonBy_s] at E
  refine mc_of RX10 (by decide) rfl (Nat.le_of_ble_eq_true rfl) (fun p e s m args below meth c A C HR HL => ?_)
  refine ww_sub (lv' := [(0, .ref (ad a0)), (1, .int a1), (2, .int a2)]) [0, 1, 2] rfl ?_
  refine ww_aload_n C dX10_soonBy_0 rfl 0 rfl ?_
  refine ww_iload_n C dX10_soonBy_1 rfl 1 rfl ?_
  refine ww_iload_n C dX10_soonBy_2 rfl 2 rfl ?_
  refine ww_aload_n C dX10_soonBy_3 rfl 0 rfl ?_
  refine ww_iload_n C dX10_soonBy_4 rfl 1 rfl ?_
  refine ww_iload_n C dX10_soonBy_5 rfl 2 rfl ?_
  obtain ⟨u1, e_2, E⟩ := bind_of E
  refine ww_callI C (runs_V (n := 2) (st := [.int a2, .int a1, .ref (ad a0)]) C [.int a1, .int a2] (M_X10_way l G ad N hG a0 a1 a2 dy T0 e_2) ⟨q1680, q118, by decide⟩ q1677 q1679 q74 (ci := 10) rfl T0 rfl (Nat.le_of_ble_eq_true rfl) ⟨Nat.le_of_ble_eq_true rfl, Nat.le_of_ble_eq_true rfl⟩ ⟨Nat.zero_le _, Nat.zero_le _⟩ dX10_soonBy_6 rfl) ?_
  refine ww_iconst (v := 0) C dX10_soonBy_9 (by decide) ?_
  refine ww_bipush (v := 9) C dX10_soonBy_10 (by decide) ?_
  obtain ⟨u3, e_4, E⟩ := bind_of E
  refine ww_callI C (runs_V (n := 5) (st := []) C [.int a1, .int a2, .int u1.1, .int (0 : Int32), .int (9 : Int32)] (M_X10_freeOn l G ad N hG a0 a1 a2 u1.1 (0 : Int32) (9 : Int32) u1.2 T0 e_4) ⟨q1684, q118, by decide⟩ q1681 q1683 q75 (ci := 10) rfl T0 rfl (Nat.le_of_ble_eq_true rfl) ⟨Nat.le_of_ble_eq_true rfl, Nat.le_of_ble_eq_true rfl⟩ ⟨Nat.zero_le _, Nat.zero_le _⟩ dX10_soonBy_12 rfl) ?_
  refine ww_istore_n (lv' := [(3, .int u3.1), (0, .ref (ad a0)), (1, .int a1), (2, .int a2)]) C dX10_soonBy_15 rfl (by decide) rfl ?_
  refine ww_aload_n C dX10_soonBy_16 rfl 1 rfl ?_
  refine ww_geti (ci := 10) (k0 := 42) C dX10_soonBy_17 rfl rfl inm10 (by decide) T0 q1320 rfl ?_
  refine ww_iconst (v := (-1)) C dX10_soonBy_20 (by decide) ?_
  refine ww_icmp_ne (tgt := 27) C dX10_soonBy_21 (by decide) E (fun _ E => ?_) (fun _ E => ?_)
  · refine ww_aload_n C dX10_soonBy_27 rfl 1 rfl ?_
    have T_5 : gs S (gr S a0 39) = (1, 10080) := hG.1 _ 10 T0 39 (by decide)
    refine ww_getr (ci := 10) (k0 := 39) C dX10_soonBy_28 rfl rfl inm10 (by decide) T0 q1317 rfl T_5 (by decide) ?_
    refine ww_iload_n C dX10_soonBy_31 rfl 2 rfl ?_
    refine ww_iload_n C dX10_soonBy_32 rfl 3 rfl ?_
    obtain ⟨u6, e_7, E⟩ := bind_of E
    refine ww_callI C (runs_S (n := 2) (st := [.ref (ad (gr S a0 39))]) C [.int a1, .int a2] (M_X10_at l G ad N hG a1 a2 u3.2 e_7) ⟨q1644, q118, by decide⟩ q1642 q1643 rfl (Nat.le_of_ble_eq_true rfl) ⟨Nat.le_of_ble_eq_true rfl, Nat.le_of_ble_eq_true rfl⟩ ⟨Nat.zero_le _, Nat.zero_le _⟩ dX10_soonBy_33 rfl) ?_
    refine ww_bipush (v := 9) C dX10_soonBy_36 (by decide) ?_
    refine ww_iadd C dX10_soonBy_38 ?_
    refine ww_iald C dX10_soonBy_39 T_5 E (fun _ E => ?_)
    refine ww_istore (lv' := [(4, .int (gi u6.2 (gr S a0 39) (u6.1 + (9 : Int32)).toNatClampNeg)), (3, .int u3.1), (0, .ref (ad a0)), (1, .int a1), (2, .int a2)]) C dX10_soonBy_40 (by decide) rfl ?_
    refine ww_aload_n C dX10_soonBy_42 rfl 2 rfl ?_
    have T_8 : gs S (gr S a0 39) = (1, 10080) := hG.1 _ 10 T0 39 (by decide)
    refine ww_getr (ci := 10) (k0 := 39) C dX10_soonBy_43 rfl rfl inm10 (by decide) T0 q1317 rfl T_8 (by decide) ?_
    refine ww_iload_n C dX10_soonBy_46 rfl 3 rfl ?_
    refine ww_aload_n C dX10_soonBy_47 rfl 2 rfl ?_
    refine ww_geti (ci := 10) (k0 := 42) C dX10_soonBy_48 rfl rfl inm10 (by decide) T0 q1320 rfl ?_
    obtain ⟨u9, e_10, E⟩ := bind_of E
    refine ww_callI C (runs_S (n := 2) (st := [.ref (ad (gr S a0 39))]) C [.int a1, .int (gi u6.2 a0 42)] (M_X10_at l G ad N hG a1 (gi u6.2 a0 42) u6.2 e_10) ⟨q1644, q118, by decide⟩ q1642 q1643 rfl (Nat.le_of_ble_eq_true rfl) ⟨Nat.le_of_ble_eq_true rfl, Nat.le_of_ble_eq_true rfl⟩ ⟨Nat.zero_le _, Nat.zero_le _⟩ dX10_soonBy_51 rfl) ?_
    refine ww_bipush (v := 9) C dX10_soonBy_54 (by decide) ?_
    refine ww_iadd C dX10_soonBy_56 ?_
    refine ww_iald C dX10_soonBy_57 T_8 E (fun _ E => ?_)
    refine ww_istore (lv' := [(5, .int (gi u9.2 (gr S a0 39) (u9.1 + (9 : Int32)).toNatClampNeg)), (4, .int (gi u6.2 (gr S a0 39) (u6.1 + (9 : Int32)).toNatClampNeg)), (3, .int u3.1), (0, .ref (ad a0)), (1, .int a1), (2, .int a2)]) C dX10_soonBy_58 (by decide) rfl ?_
    refine ww_aload_n C dX10_soonBy_60 rfl 3 rfl ?_
    refine ww_iload_n C dX10_soonBy_61 rfl 4 rfl ?_
    refine ww_iload_n C dX10_soonBy_62 rfl 5 rfl ?_
    obtain ⟨u11, e_12, E⟩ := bind_of E
    refine ww_callI C (runs_V (n := 2) (st := []) C [.int a1, .int a2] (M_X10_way l G ad N hG a0 a1 a2 u9.2 T0 e_12) ⟨q1680, q118, by decide⟩ q1677 q1679 q74 (ci := 10) rfl T0 rfl (Nat.le_of_ble_eq_true rfl) ⟨Nat.le_of_ble_eq_true rfl, Nat.le_of_ble_eq_true rfl⟩ ⟨Nat.zero_le _, Nat.zero_le _⟩ dX10_soonBy_63 rfl) ?_
    refine ww_aload_n C dX10_soonBy_66 rfl 3 rfl ?_
    refine ww_iload_n C dX10_soonBy_67 rfl 4 rfl ?_
    refine ww_aload_n C dX10_soonBy_68 rfl 3 rfl ?_
    refine ww_geti (ci := 10) (k0 := 42) C dX10_soonBy_69 rfl rfl inm10 (by decide) T0 q1320 rfl ?_
    obtain ⟨u13, e_14, E⟩ := bind_of E
    refine ww_callI C (runs_V (n := 2) (st := [.int u11.1]) C [.int a1, .int (gi u11.2 a0 42)] (M_X10_way l G ad N hG a0 a1 (gi u11.2 a0 42) u11.2 T0 e_14) ⟨q1680, q118, by decide⟩ q1677 q1679 q74 (ci := 10) rfl T0 rfl (Nat.le_of_ble_eq_true rfl) ⟨Nat.le_of_ble_eq_true rfl, Nat.le_of_ble_eq_true rfl⟩ ⟨Nat.zero_le _, Nat.zero_le _⟩ dX10_soonBy_72 rfl) ?_
    refine ww_icmp_eq (tgt := 86) C dX10_soonBy_75 (by decide) E (fun _ E => ?_) (fun _ E => ?_)
    · refine ww_iload C dX10_soonBy_86 0 rfl ?_
      refine ww_iload C dX10_soonBy_88 1 rfl ?_
      refine ww_isub C dX10_soonBy_90 ?_
      refine ww_sub (lv' := [(3, .int u3.1), (4, .int (gi u6.2 (gr S a0 39) (u6.1 + (9 : Int32)).toNatClampNeg)), (5, .int (gi u9.2 (gr S a0 39) (u9.1 + (9 : Int32)).toNatClampNeg))]) [2, 1, 0] rfl ?_
      exact (B_X10_soonBy_91 C HR HL hG) u3.1 (gi u6.2 (gr S a0 39) (u6.1 + (9 : Int32)).toNatClampNeg) (gi u9.2 (gr S a0 39) (u9.1 + (9 : Int32)).toNatClampNeg) ((gi u9.2 (gr S a0 39) (u9.1 + (9 : Int32)).toNatClampNeg) - (gi u6.2 (gr S a0 39) (u6.1 + (9 : Int32)).toNatClampNeg)) u13.2 E
    · refine ww_iload C dX10_soonBy_78 1 rfl ?_
      refine ww_iload C dX10_soonBy_80 0 rfl ?_
      refine ww_iadd C dX10_soonBy_82 ?_
      refine ww_goto (tgt := 91) C dX10_soonBy_83 (by decide) ?_
      refine ww_sub (lv' := [(3, .int u3.1), (4, .int (gi u6.2 (gr S a0 39) (u6.1 + (9 : Int32)).toNatClampNeg)), (5, .int (gi u9.2 (gr S a0 39) (u9.1 + (9 : Int32)).toNatClampNeg))]) [2, 1, 0] rfl ?_
      exact (B_X10_soonBy_91 C HR HL hG) u3.1 (gi u6.2 (gr S a0 39) (u6.1 + (9 : Int32)).toNatClampNeg) (gi u9.2 (gr S a0 39) (u9.1 + (9 : Int32)).toNatClampNeg) ((gi u6.2 (gr S a0 39) (u6.1 + (9 : Int32)).toNatClampNeg) + (gi u9.2 (gr S a0 39) (u9.1 + (9 : Int32)).toNatClampNeg)) u13.2 E
  · refine ww_bipush (v := 99) C dX10_soonBy_24 (by decide) ?_
    exact ww_iret C HR HL dX10_soonBy_26 E
section P_X10_found
variable {p : Program} {l : Launch} {e : Env} {s : State} {m : MethodId} {args : Array Value} {below : List Frame} {meth : Method} {c : Code} {G : GG} {A : Nat → Prop} {ad : Nat → Nat} {S : ST} {N : Nat} {r : Int32} {dy' : DY}
end P_X10_found
set_option maxHeartbeats 4000000 in
set_option maxRecDepth 100000 in
theorem M_X10_found (l : Launch) (G : GG) (ad : Nat → Nat) {S : ST} (N : Nat) (hG : Good S) (a0 : Nat) (a1 : Int32) (a2 : Int32) (a3 : Int32) (dy : DY) (T0 : gs S a0 = (0, 10)) {r : Int32} {dy' : DY} (E : F_X10_found S N a0 a1 a2 a3 dy = some (r, dy')) : MC l yX10_found cX10_found 5 (Option.some Jvm.ClassFile.FieldType.int) (5) G ad [.ref (ad a0), .int a1, .int a2, .int a3] S dy (fun A => QI G ad A S r dy') := by
  rw [F_X10_found_s] at E
  refine mc_of RX10 (by decide) rfl (Nat.le_of_ble_eq_true rfl) (fun p e s m args below meth c A C HR HL => ?_)
  refine ww_sub (lv' := [(0, .ref (ad a0)), (1, .int a1), (2, .int a2), (3, .int a3)]) [0, 1, 2, 3] rfl ?_
  refine ww_iload_n C dX10_found_0 rfl 1 rfl ?_
  refine ww_iload_n C dX10_found_1 rfl 2 rfl ?_
  obtain ⟨u1, e_2, E⟩ := bind_of E
  refine ww_callI C (runs_S (n := 2) (st := []) C [.int a1, .int a2] (M_X10_at l G ad N hG a1 a2 dy e_2) ⟨q1644, q118, by decide⟩ q1642 q1643 rfl (Nat.le_of_ble_eq_true rfl) ⟨Nat.le_of_ble_eq_true rfl, Nat.le_of_ble_eq_true rfl⟩ ⟨Nat.zero_le _, Nat.zero_le _⟩ dX10_found_2 rfl) ?_
  refine ww_istore (lv' := [(4, .int u1.1), (0, .ref (ad a0)), (1, .int a1), (2, .int a2), (3, .int a3)]) C dX10_found_5 (by decide) rfl ?_
  refine ww_iload_n C dX10_found_7 rfl 4 rfl ?_
  by_cases s_3 : a3 = (0 : Int32)
  · rw [if_pos s_3] at E
    refine ww_tabIn (tgt := 64) C dX10_found_8 s_3 (by decide) (by decide) rfl (by decide) ?_
    refine ww_aload_n C dX10_found_64 rfl 1 rfl ?_
    refine ww_iload_n C dX10_found_65 rfl 2 rfl ?_
    refine ww_iload_n C dX10_found_66 rfl 3 rfl ?_
    refine ww_aload_n C dX10_found_67 rfl 1 rfl ?_
    refine ww_iload_n C dX10_found_68 rfl 2 rfl ?_
    refine ww_iload_n C dX10_found_69 rfl 3 rfl ?_
    obtain ⟨u4, e_5, E⟩ := bind_of E
    refine ww_callI C (runs_V (n := 2) (st := [.int a2, .int a1, .ref (ad a0)]) C [.int a1, .int a2] (M_X10_way l G ad N hG a0 a1 a2 u1.2 T0 e_5) ⟨q1680, q118, by decide⟩ q1677 q1679 q74 (ci := 10) rfl T0 rfl (Nat.le_of_ble_eq_true rfl) ⟨Nat.le_of_ble_eq_true rfl, Nat.le_of_ble_eq_true rfl⟩ ⟨Nat.zero_le _, Nat.zero_le _⟩ dX10_found_70 rfl) ?_
    refine ww_iconst (v := 0) C dX10_found_73 (by decide) ?_
    refine ww_bipush (v := 9) C dX10_found_74 (by decide) ?_
    obtain ⟨u6, e_7, E⟩ := bind_of E
    refine ww_callI C (runs_V (n := 5) (st := []) C [.int a1, .int a2, .int u4.1, .int (0 : Int32), .int (9 : Int32)] (M_X10_freeOn l G ad N hG a0 a1 a2 u4.1 (0 : Int32) (9 : Int32) u4.2 T0 e_7) ⟨q1684, q118, by decide⟩ q1681 q1683 q75 (ci := 10) rfl T0 rfl (Nat.le_of_ble_eq_true rfl) ⟨Nat.le_of_ble_eq_true rfl, Nat.le_of_ble_eq_true rfl⟩ ⟨Nat.zero_le _, Nat.zero_le _⟩ dX10_found_76 rfl) ?_
    exact ww_iret C HR HL dX10_found_79 E
  rw [if_neg s_3] at E
  by_cases s_8 : a3 = (1 : Int32)
  · rw [if_pos s_8] at E
    refine ww_tabIn (tgt := 80) C dX10_found_8 s_8 (by decide) (by decide) rfl (by decide) ?_
    refine ww_aload_n C dX10_found_80 rfl 1 rfl ?_
    refine ww_iload_n C dX10_found_81 rfl 2 rfl ?_
    refine ww_iload_n C dX10_found_82 rfl 3 rfl ?_
    obtain ⟨u9, e_10, E⟩ := bind_of E
    refine ww_callI C (runs_V (n := 2) (st := []) C [.int a1, .int a2] (M_X10_soonBy l G ad N hG a0 a1 a2 u1.2 T0 e_10) ⟨q1700, q118, by decide⟩ q1697 q1699 q79 (ci := 10) rfl T0 rfl (Nat.le_of_ble_eq_true rfl) ⟨Nat.le_of_ble_eq_true rfl, Nat.le_of_ble_eq_true rfl⟩ ⟨Nat.zero_le _, Nat.zero_le _⟩ dX10_found_83 rfl) ?_
    exact ww_iret C HR HL dX10_found_86 E
  rw [if_neg s_8] at E
  by_cases s_11 : a3 = (2 : Int32)
  · rw [if_pos s_11] at E
    refine ww_tabIn (tgt := 87) C dX10_found_8 s_11 (by decide) (by decide) rfl (by decide) ?_
    refine ww_aload_n C dX10_found_87 rfl 1 rfl ?_
    refine ww_iload_n C dX10_found_88 rfl 2 rfl ?_
    refine ww_iload_n C dX10_found_89 rfl 3 rfl ?_
    refine ww_iconst (v := 0) C dX10_found_90 (by decide) ?_
    obtain ⟨u12, e_13, E⟩ := bind_of E
    refine ww_callI C (runs_V (n := 3) (st := []) C [.int a1, .int a2, .int (0 : Int32)] (M_X10_nearBy l G ad N hG a0 a1 a2 (0 : Int32) u1.2 T0 e_13) ⟨q1704, q118, by decide⟩ q1701 q1703 q80 (ci := 10) rfl T0 rfl (Nat.le_of_ble_eq_true rfl) ⟨Nat.le_of_ble_eq_true rfl, Nat.le_of_ble_eq_true rfl⟩ ⟨Nat.zero_le _, Nat.zero_le _⟩ dX10_found_91 rfl) ?_
    exact ww_iret C HR HL dX10_found_94 E
  rw [if_neg s_11] at E
  by_cases s_14 : a3 = (3 : Int32)
  · rw [if_pos s_14] at E
    refine ww_tabIn (tgt := 95) C dX10_found_8 s_14 (by decide) (by decide) rfl (by decide) ?_
    refine ww_aload_n C dX10_found_95 rfl 1 rfl ?_
    refine ww_iload_n C dX10_found_96 rfl 2 rfl ?_
    refine ww_iload_n C dX10_found_97 rfl 3 rfl ?_
    refine ww_iconst (v := 0) C dX10_found_98 (by decide) ?_
    refine ww_aload_n C dX10_found_99 rfl 1 rfl ?_
    refine ww_iload_n C dX10_found_100 rfl 2 rfl ?_
    refine ww_iload_n C dX10_found_101 rfl 3 rfl ?_
    obtain ⟨u15, e_16, E⟩ := bind_of E
    refine ww_callI C (runs_V (n := 2) (st := [.int (0 : Int32), .int a2, .int a1, .ref (ad a0)]) C [.int a1, .int a2] (M_X10_way l G ad N hG a0 a1 a2 u1.2 T0 e_16) ⟨q1680, q118, by decide⟩ q1677 q1679 q74 (ci := 10) rfl T0 rfl (Nat.le_of_ble_eq_true rfl) ⟨Nat.le_of_ble_eq_true rfl, Nat.le_of_ble_eq_true rfl⟩ ⟨Nat.zero_le _, Nat.zero_le _⟩ dX10_found_102 rfl) ?_
    refine ww_iconst (v := (-1)) C dX10_found_105 (by decide) ?_
    obtain ⟨u17, e_18, E⟩ := bind_of E
    refine ww_callI C (runs_V (n := 5) (st := []) C [.int a1, .int a2, .int (0 : Int32), .int u15.1, .int (-1 : Int32)] (M_X10_freeOn l G ad N hG a0 a1 a2 (0 : Int32) u15.1 (-1 : Int32) u15.2 T0 e_18) ⟨q1684, q118, by decide⟩ q1681 q1683 q75 (ci := 10) rfl T0 rfl (Nat.le_of_ble_eq_true rfl) ⟨Nat.le_of_ble_eq_true rfl, Nat.le_of_ble_eq_true rfl⟩ ⟨Nat.zero_le _, Nat.zero_le _⟩ dX10_found_106 rfl) ?_
    exact ww_iret C HR HL dX10_found_109 E
  rw [if_neg s_14] at E
  by_cases s_19 : a3 = (4 : Int32)
  · rw [if_pos s_19] at E
    refine ww_tabIn (tgt := 110) C dX10_found_8 s_19 (by decide) (by decide) rfl (by decide) ?_
    refine ww_aload_n C dX10_found_110 rfl 1 rfl ?_
    refine ww_iload_n C dX10_found_111 rfl 2 rfl ?_
    refine ww_iload_n C dX10_found_112 rfl 3 rfl ?_
    refine ww_iconst (v := 0) C dX10_found_113 (by decide) ?_
    refine ww_aload_n C dX10_found_114 rfl 1 rfl ?_
    refine ww_iload_n C dX10_found_115 rfl 2 rfl ?_
    refine ww_iload_n C dX10_found_116 rfl 3 rfl ?_
    obtain ⟨u20, e_21, E⟩ := bind_of E
    refine ww_callI C (runs_V (n := 2) (st := [.int (0 : Int32), .int a2, .int a1, .ref (ad a0)]) C [.int a1, .int a2] (M_X10_way l G ad N hG a0 a1 a2 u1.2 T0 e_21) ⟨q1680, q118, by decide⟩ q1677 q1679 q74 (ci := 10) rfl T0 rfl (Nat.le_of_ble_eq_true rfl) ⟨Nat.le_of_ble_eq_true rfl, Nat.le_of_ble_eq_true rfl⟩ ⟨Nat.zero_le _, Nat.zero_le _⟩ dX10_found_117 rfl) ?_
    refine ww_ineg C dX10_found_120 ?_
    refine ww_iconst (v := (-1)) C dX10_found_121 (by decide) ?_
    obtain ⟨u22, e_23, E⟩ := bind_of E
    refine ww_callI C (runs_V (n := 5) (st := []) C [.int a1, .int a2, .int (0 : Int32), .int (-u20.1), .int (-1 : Int32)] (M_X10_freeOn l G ad N hG a0 a1 a2 (0 : Int32) (-u20.1) (-1 : Int32) u20.2 T0 e_23) ⟨q1684, q118, by decide⟩ q1681 q1683 q75 (ci := 10) rfl T0 rfl (Nat.le_of_ble_eq_true rfl) ⟨Nat.le_of_ble_eq_true rfl, Nat.le_of_ble_eq_true rfl⟩ ⟨Nat.zero_le _, Nat.zero_le _⟩ dX10_found_122 rfl) ?_
    exact ww_iret C HR HL dX10_found_125 E
  rw [if_neg s_19] at E
  by_cases s_24 : a3 = (5 : Int32)
  · rw [if_pos s_24] at E
    refine ww_tabIn (tgt := 126) C dX10_found_8 s_24 (by decide) (by decide) rfl (by decide) ?_
    refine ww_aload_n C dX10_found_126 rfl 1 rfl ?_
    have T_25 : gs S (gr S a0 39) = (1, 10080) := hG.1 _ 10 T0 39 (by decide)
    refine ww_getr (ci := 10) (k0 := 39) C dX10_found_127 rfl rfl inm10 (by decide) T0 q1317 rfl T_25 (by decide) ?_
    refine ww_iload C dX10_found_130 0 rfl ?_
    refine ww_bipush (v := 18) C dX10_found_132 (by decide) ?_
    refine ww_iadd C dX10_found_134 ?_
    refine ww_iald C dX10_found_135 T_25 E (fun _ E => ?_)
    exact ww_iret C HR HL dX10_found_136 E
  rw [if_neg s_24] at E
  by_cases s_26 : a3 = (6 : Int32)
  · rw [if_pos s_26] at E
    refine ww_tabIn (tgt := 137) C dX10_found_8 s_26 (by decide) (by decide) rfl (by decide) ?_
    refine ww_aload_n C dX10_found_137 rfl 1 rfl ?_
    have T_27 : gs S (gr S a0 39) = (1, 10080) := hG.1 _ 10 T0 39 (by decide)
    refine ww_getr (ci := 10) (k0 := 39) C dX10_found_138 rfl rfl inm10 (by decide) T0 q1317 rfl T_27 (by decide) ?_
    refine ww_iload C dX10_found_141 0 rfl ?_
    refine ww_bipush (v := 11) C dX10_found_143 (by decide) ?_
    refine ww_iadd C dX10_found_145 ?_
    refine ww_iald C dX10_found_146 T_27 E (fun _ E => ?_)
    exact ww_iret C HR HL dX10_found_147 E
  rw [if_neg s_26] at E
  by_cases s_28 : a3 = (7 : Int32)
  · rw [if_pos s_28] at E
    refine ww_tabIn (tgt := 148) C dX10_found_8 s_28 (by decide) (by decide) rfl (by decide) ?_
    refine ww_aload_n C dX10_found_148 rfl 1 rfl ?_
    refine ww_iload_n C dX10_found_149 rfl 2 rfl ?_
    refine ww_iload_n C dX10_found_150 rfl 3 rfl ?_
    refine ww_iconst (v := 1) C dX10_found_151 (by decide) ?_
    obtain ⟨u29, e_30, E⟩ := bind_of E
    refine ww_callI C (runs_V (n := 3) (st := []) C [.int a1, .int a2, .int (1 : Int32)] (M_X10_nearBy l G ad N hG a0 a1 a2 (1 : Int32) u1.2 T0 e_30) ⟨q1704, q118, by decide⟩ q1701 q1703 q80 (ci := 10) rfl T0 rfl (Nat.le_of_ble_eq_true rfl) ⟨Nat.le_of_ble_eq_true rfl, Nat.le_of_ble_eq_true rfl⟩ ⟨Nat.zero_le _, Nat.zero_le _⟩ dX10_found_152 rfl) ?_
    exact ww_iret C HR HL dX10_found_155 E
  rw [if_neg s_28] at E
  by_cases s_31 : a3 = (8 : Int32)
  · rw [if_pos s_31] at E
    refine ww_tabIn (tgt := 156) C dX10_found_8 s_31 (by decide) (by decide) rfl (by decide) ?_
    refine ww_aload_n C dX10_found_156 rfl 1 rfl ?_
    refine ww_iload_n C dX10_found_157 rfl 2 rfl ?_
    refine ww_iload_n C dX10_found_158 rfl 3 rfl ?_
    refine ww_aload_n C dX10_found_159 rfl 1 rfl ?_
    refine ww_iload_n C dX10_found_160 rfl 2 rfl ?_
    refine ww_iload_n C dX10_found_161 rfl 3 rfl ?_
    obtain ⟨u32, e_33, E⟩ := bind_of E
    refine ww_callI C (runs_V (n := 2) (st := [.int a2, .int a1, .ref (ad a0)]) C [.int a1, .int a2] (M_X10_way l G ad N hG a0 a1 a2 u1.2 T0 e_33) ⟨q1680, q118, by decide⟩ q1677 q1679 q74 (ci := 10) rfl T0 rfl (Nat.le_of_ble_eq_true rfl) ⟨Nat.le_of_ble_eq_true rfl, Nat.le_of_ble_eq_true rfl⟩ ⟨Nat.zero_le _, Nat.zero_le _⟩ dX10_found_162 rfl) ?_
    refine ww_iconst (v := 0) C dX10_found_165 (by decide) ?_
    refine ww_bipush (v := 9) C dX10_found_166 (by decide) ?_
    obtain ⟨u34, e_35, E⟩ := bind_of E
    refine ww_callI C (runs_V (n := 5) (st := []) C [.int a1, .int a2, .int u32.1, .int (0 : Int32), .int (9 : Int32)] (M_X10_freeOn l G ad N hG a0 a1 a2 u32.1 (0 : Int32) (9 : Int32) u32.2 T0 e_35) ⟨q1684, q118, by decide⟩ q1681 q1683 q75 (ci := 10) rfl T0 rfl (Nat.le_of_ble_eq_true rfl) ⟨Nat.le_of_ble_eq_true rfl, Nat.le_of_ble_eq_true rfl⟩ ⟨Nat.zero_le _, Nat.zero_le _⟩ dX10_found_168 rfl) ?_
    refine ww_if_ne (tgt := 178) C dX10_found_171 (by decide) E (fun _ E => ?_) (fun _ E => ?_)
    · refine ww_iconst (v := 0) C dX10_found_178 (by decide) ?_
      exact ww_iret C HR HL dX10_found_179 E
    · refine ww_iconst (v := 1) C dX10_found_174 (by decide) ?_
      refine ww_goto (tgt := 179) C dX10_found_175 (by decide) ?_
      exact ww_iret C HR HL dX10_found_179 E
  rw [if_neg s_31] at E
  by_cases s_36 : a3 = (9 : Int32)
  · rw [if_pos s_36] at E
    refine ww_tabIn (tgt := 180) C dX10_found_8 s_36 (by decide) (by decide) rfl (by decide) ?_
    refine ww_aload_n C dX10_found_180 rfl 1 rfl ?_
    refine ww_iload_n C dX10_found_181 rfl 2 rfl ?_
    refine ww_iload_n C dX10_found_182 rfl 3 rfl ?_
    obtain ⟨u37, e_38, E⟩ := bind_of E
    refine ww_callI C (runs_V (n := 2) (st := []) C [.int a1, .int a2] (M_X10_isFacing l G ad N hG a0 a1 a2 u1.2 T0 e_38) ⟨q1712, q118, by decide⟩ q1709 q1711 q82 (ci := 10) rfl T0 rfl (Nat.le_of_ble_eq_true rfl) ⟨Nat.le_of_ble_eq_true rfl, Nat.le_of_ble_eq_true rfl⟩ ⟨Nat.zero_le _, Nat.zero_le _⟩ dX10_found_183 rfl) ?_
    refine ww_if_eq (tgt := 193) C dX10_found_186 (by decide) E (fun _ E => ?_) (fun _ E => ?_)
    · refine ww_iconst (v := 0) C dX10_found_193 (by decide) ?_
      exact ww_iret C HR HL dX10_found_194 E
    · refine ww_iconst (v := 1) C dX10_found_189 (by decide) ?_
      refine ww_goto (tgt := 194) C dX10_found_190 (by decide) ?_
      exact ww_iret C HR HL dX10_found_194 E
  rw [if_neg s_36] at E
  refine ww_tabOut (tgt := 195) C dX10_found_8 (tab_out (fun v h1 h2 => ?_)) (by decide) ?_
  · rcases (show v = 0 ∨ v = 1 ∨ v = 2 ∨ v = 3 ∨ v = 4 ∨ v = 5 ∨ v = 6 ∨ v = 7 ∨ v = 8 ∨ v = 9 by omega) with rfl | rfl | rfl | rfl | rfl | rfl | rfl | rfl | rfl | rfl
    · exact ti_ne s_3 (by decide)
    · exact ti_ne s_8 (by decide)
    · exact ti_ne s_11 (by decide)
    · exact ti_ne s_14 (by decide)
    · exact ti_ne s_19 (by decide)
    · exact ti_ne s_24 (by decide)
    · exact ti_ne s_26 (by decide)
    · exact ti_ne s_28 (by decide)
    · exact ti_ne s_31 (by decide)
    · exact ti_ne s_36 (by decide)
  refine ww_aload_n C dX10_found_195 rfl 1 rfl ?_
  refine ww_iload_n C dX10_found_196 rfl 2 rfl ?_
  refine ww_iload_n C dX10_found_197 rfl 3 rfl ?_
  obtain ⟨u39, e_40, E⟩ := bind_of E
  refine ww_callI C (runs_V (n := 2) (st := []) C [.int a1, .int a2] (M_X10_isParted l G ad N hG a0 a1 a2 u1.2 T0 e_40) ⟨q1716, q118, by decide⟩ q1713 q1715 q83 (ci := 10) rfl T0 rfl (Nat.le_of_ble_eq_true rfl) ⟨Nat.le_of_ble_eq_true rfl, Nat.le_of_ble_eq_true rfl⟩ ⟨Nat.zero_le _, Nat.zero_le _⟩ dX10_found_198 rfl) ?_
  refine ww_if_eq (tgt := 208) C dX10_found_201 (by decide) E (fun _ E => ?_) (fun _ E => ?_)
  · refine ww_iconst (v := 0) C dX10_found_208 (by decide) ?_
    exact ww_iret C HR HL dX10_found_209 E
  · refine ww_iconst (v := 1) C dX10_found_204 (by decide) ?_
    refine ww_goto (tgt := 209) C dX10_found_205 (by decide) ?_
    exact ww_iret C HR HL dX10_found_209 E
section P_X10_holds
variable {p : Program} {l : Launch} {e : Env} {s : State} {m : MethodId} {args : Array Value} {below : List Frame} {meth : Method} {c : Code} {G : GG} {A : Nat → Prop} {ad : Nat → Nat} {S : ST} {N : Nat} {r : Int32} {dy' : DY}
set_option maxHeartbeats 4000000 in
set_option maxRecDepth 100000 in
theorem B_X10_holds_131 (C : CX p s m args c cX10_holds 8 RX10 G A) (HR : meth.sig.returnType = (Option.some Jvm.ClassFile.FieldType.boolean)) (HL : meth.locks = false) (hG : Good S) : ∀ (y0 : Int32) (y1 : Int32) (dy : DY), F_X10_holds_131 S N y0 y1 dy = some (r, dy') → WJ p l e (rmD (6)) s m args below meth c 8 G A 0 0 (MQ below (QI G ad A S r dy') args s 0 0 A) ad 131 [] [.int y1, .int y0] S dy := by
  intro y0 y1 dy E
  rw [F_X10_holds_131_s] at E
  refine ww_icmp_ne (tgt := 138) C dX10_holds_131 (by decide) E (fun _ E => ?_) (fun _ E => ?_)
  · refine ww_iconst (v := 0) C dX10_holds_138 (by decide) ?_
    exact ww_zret C HR HL dX10_holds_139 (Or.inl rfl) E
  · refine ww_iconst (v := 1) C dX10_holds_134 (by decide) ?_
    refine ww_goto (tgt := 139) C dX10_holds_135 (by decide) ?_
    exact ww_zret C HR HL dX10_holds_139 (Or.inr rfl) E
set_option maxHeartbeats 4000000 in
set_option maxRecDepth 100000 in
theorem B_X10_holds_111 (C : CX p s m args c cX10_holds 8 RX10 G A) (HR : meth.sig.returnType = (Option.some Jvm.ClassFile.FieldType.boolean)) (HL : meth.locks = false) (hG : Good S) : ∀ (x0 : Nat) (x3 : Int32) (y0 : Int32) (dy : DY), gs S x0 = (0, 10) → F_X10_holds_111 S N x0 x3 y0 dy = some (r, dy') → WJ p l e (rmD (6)) s m args below meth c 8 G A 0 0 (MQ below (QI G ad A S r dy') args s 0 0 A) ad 111 [(0, .ref (ad x0)), (3, .int x3)] [.int y0] S dy := by
  intro x0 x3 y0 dy Tx0 E
  rw [F_X10_holds_111_s] at E
  refine ww_istore (lv' := [(7, .int y0), (0, .ref (ad x0)), (3, .int x3)]) C dX10_holds_111 (by decide) rfl ?_
  refine ww_iload C dX10_holds_113 0 rfl ?_
  refine ww_aload_n C dX10_holds_115 rfl 1 rfl ?_
  have T_1 : gs S (gr S x0 39) = (1, 10080) := hG.1 _ 10 Tx0 39 (by decide)
  refine ww_getr (ci := 10) (k0 := 39) C dX10_holds_116 rfl rfl inm10 (by decide) Tx0 q1317 rfl T_1 (by decide) ?_
  refine ww_iload_n C dX10_holds_119 rfl 2 rfl ?_
  refine ww_iconst (v := 3) C dX10_holds_120 (by decide) ?_
  refine ww_iadd C dX10_holds_121 ?_
  refine ww_iald C dX10_holds_122 T_1 E (fun _ E => ?_)
  refine ww_if_ne (tgt := 130) C dX10_holds_123 (by decide) E (fun _ E => ?_) (fun _ E => ?_)
  · refine ww_iconst (v := 0) C dX10_holds_130 (by decide) ?_
    refine ww_sub (lv' := []) [] rfl ?_
    exact (B_X10_holds_131 C HR HL hG) y0 (0 : Int32) dy E
  · refine ww_iconst (v := 1) C dX10_holds_126 (by decide) ?_
    refine ww_goto (tgt := 131) C dX10_holds_127 (by decide) ?_
    refine ww_sub (lv' := []) [] rfl ?_
    exact (B_X10_holds_131 C HR HL hG) y0 (1 : Int32) dy E
end P_X10_holds
set_option maxHeartbeats 4000000 in
set_option maxRecDepth 100000 in
theorem M_X10_holds (l : Launch) (G : GG) (ad : Nat → Nat) {S : ST} (N : Nat) (hG : Good S) (a0 : Nat) (a1 : Int32) (a2 : Int32) (a3 : Int32) (dy : DY) (T0 : gs S a0 = (0, 10)) {r : Int32} {dy' : DY} (E : F_X10_holds S N a0 a1 a2 a3 dy = some (r, dy')) : MC l yX10_holds cX10_holds 8 (Option.some Jvm.ClassFile.FieldType.boolean) (6) G ad [.ref (ad a0), .int a1, .int a2, .int a3] S dy (fun A => QI G ad A S r dy') := by
  rw [F_X10_holds_s] at E
  refine mc_of RX10 (by decide) rfl (Nat.le_of_ble_eq_true rfl) (fun p e s m args below meth c A C HR HL => ?_)
  refine ww_sub (lv' := [(0, .ref (ad a0)), (1, .int a1), (2, .int a2), (3, .int a3)]) [0, 1, 2, 3] rfl ?_
  refine ww_aload_n C dX10_holds_0 rfl 0 rfl ?_
  refine ww_iload_n C dX10_holds_1 rfl 1 rfl ?_
  refine ww_iload_n C dX10_holds_2 rfl 2 rfl ?_
  refine ww_aload_n C dX10_holds_3 rfl 0 rfl ?_
  have T_1 : gs S (gr S a0 39) = (1, 10080) := hG.1 _ 10 T0 39 (by decide)
  refine ww_getr (ci := 10) (k0 := 39) C dX10_holds_4 rfl rfl inm10 (by decide) T0 q1317 rfl T_1 (by decide) ?_
  refine ww_iload_n C dX10_holds_7 rfl 3 rfl ?_
  refine ww_iald C dX10_holds_8 T_1 E (fun _ E => ?_)
  obtain ⟨u2, e_3, E⟩ := bind_of E
  refine ww_callI C (runs_V (n := 3) (st := []) C [.int a1, .int a2, .int (gi dy (gr S a0 39) a3.toNatClampNeg)] (M_X10_found l G ad N hG a0 a1 a2 (gi dy (gr S a0 39) a3.toNatClampNeg) dy T0 e_3) ⟨q1676, q118, by decide⟩ q1673 q1675 q73 (ci := 10) rfl T0 rfl (Nat.le_of_ble_eq_true rfl) ⟨Nat.le_of_ble_eq_true rfl, Nat.le_of_ble_eq_true rfl⟩ ⟨Nat.zero_le _, Nat.zero_le _⟩ dX10_holds_9 rfl) ?_
  refine ww_istore (lv' := [(4, .int u2.1), (0, .ref (ad a0)), (1, .int a1), (2, .int a2), (3, .int a3)]) C dX10_holds_12 (by decide) rfl ?_
  refine ww_aload_n C dX10_holds_14 rfl 1 rfl ?_
  have T_4 : gs S (gr S a0 39) = (1, 10080) := hG.1 _ 10 T0 39 (by decide)
  refine ww_getr (ci := 10) (k0 := 39) C dX10_holds_15 rfl rfl inm10 (by decide) T0 q1317 rfl T_4 (by decide) ?_
  refine ww_iload_n C dX10_holds_18 rfl 4 rfl ?_
  refine ww_iconst (v := 1) C dX10_holds_19 (by decide) ?_
  refine ww_iadd C dX10_holds_20 ?_
  refine ww_iald C dX10_holds_21 T_4 E (fun _ E => ?_)
  refine ww_istore (lv' := [(5, .int (gi u2.2 (gr S a0 39) (a3 + (1 : Int32)).toNatClampNeg)), (4, .int u2.1), (0, .ref (ad a0)), (1, .int a1), (2, .int a2), (3, .int a3)]) C dX10_holds_22 (by decide) rfl ?_
  refine ww_aload_n C dX10_holds_24 rfl 2 rfl ?_
  have T_5 : gs S (gr S a0 39) = (1, 10080) := hG.1 _ 10 T0 39 (by decide)
  refine ww_getr (ci := 10) (k0 := 39) C dX10_holds_25 rfl rfl inm10 (by decide) T0 q1317 rfl T_5 (by decide) ?_
  refine ww_iload_n C dX10_holds_28 rfl 5 rfl ?_
  refine ww_iconst (v := 2) C dX10_holds_29 (by decide) ?_
  refine ww_iadd C dX10_holds_30 ?_
  refine ww_iald C dX10_holds_31 T_5 E (fun _ E => ?_)
  refine ww_istore (lv' := [(6, .int (gi u2.2 (gr S a0 39) (a3 + (2 : Int32)).toNatClampNeg)), (5, .int (gi u2.2 (gr S a0 39) (a3 + (1 : Int32)).toNatClampNeg)), (4, .int u2.1), (0, .ref (ad a0)), (1, .int a1), (2, .int a2), (3, .int a3)]) C dX10_holds_32 (by decide) rfl ?_
  refine ww_iload C dX10_holds_34 1 rfl ?_
  refine ww_bipush (v := 60) C dX10_holds_36 (by decide) ?_
  refine ww_icmp_ne (tgt := 56) C dX10_holds_38 (by decide) E (fun _ E => ?_) (fun _ E => ?_)
  · refine ww_iload C dX10_holds_56 1 rfl ?_
    refine ww_bipush (v := 62) C dX10_holds_58 (by decide) ?_
    refine ww_icmp_ne (tgt := 78) C dX10_holds_60 (by decide) E (fun _ E => ?_) (fun _ E => ?_)
    · refine ww_iload C dX10_holds_78 1 rfl ?_
      refine ww_bipush (v := 61) C dX10_holds_80 (by decide) ?_
      refine ww_icmp_ne (tgt := 100) C dX10_holds_82 (by decide) E (fun _ E => ?_) (fun _ E => ?_)
      · refine ww_iload C dX10_holds_100 2 rfl ?_
        refine ww_iconst (v := 1) C dX10_holds_102 (by decide) ?_
        refine ww_icmp_ne (tgt := 110) C dX10_holds_103 (by decide) E (fun _ E => ?_) (fun _ E => ?_)
        · refine ww_iconst (v := 0) C dX10_holds_110 (by decide) ?_
          refine ww_sub (lv' := [(0, .ref (ad a0)), (3, .int a3)]) [3, 6] rfl ?_
          exact (B_X10_holds_111 C HR HL hG) a0 a3 (0 : Int32) u2.2 T0 E
        · refine ww_iconst (v := 1) C dX10_holds_106 (by decide) ?_
          refine ww_goto (tgt := 111) C dX10_holds_107 (by decide) ?_
          refine ww_sub (lv' := [(0, .ref (ad a0)), (3, .int a3)]) [3, 6] rfl ?_
          exact (B_X10_holds_111 C HR HL hG) a0 a3 (1 : Int32) u2.2 T0 E
      · refine ww_iload C dX10_holds_85 2 rfl ?_
        refine ww_iload C dX10_holds_87 0 rfl ?_
        refine ww_icmp_ne (tgt := 96) C dX10_holds_89 (by decide) E (fun _ E => ?_) (fun _ E => ?_)
        · refine ww_iconst (v := 0) C dX10_holds_96 (by decide) ?_
          refine ww_goto (tgt := 111) C dX10_holds_97 (by decide) ?_
          refine ww_sub (lv' := [(0, .ref (ad a0)), (3, .int a3)]) [3, 6] rfl ?_
          exact (B_X10_holds_111 C HR HL hG) a0 a3 (0 : Int32) u2.2 T0 E
        · refine ww_iconst (v := 1) C dX10_holds_92 (by decide) ?_
          refine ww_goto (tgt := 111) C dX10_holds_93 (by decide) ?_
          refine ww_sub (lv' := [(0, .ref (ad a0)), (3, .int a3)]) [3, 6] rfl ?_
          exact (B_X10_holds_111 C HR HL hG) a0 a3 (1 : Int32) u2.2 T0 E
    · refine ww_iload C dX10_holds_63 2 rfl ?_
      refine ww_iload C dX10_holds_65 0 rfl ?_
      refine ww_icmp_le (tgt := 74) C dX10_holds_67 (by decide) E (fun _ E => ?_) (fun _ E => ?_)
      · refine ww_iconst (v := 0) C dX10_holds_74 (by decide) ?_
        refine ww_goto (tgt := 111) C dX10_holds_75 (by decide) ?_
        refine ww_sub (lv' := [(0, .ref (ad a0)), (3, .int a3)]) [3, 6] rfl ?_
        exact (B_X10_holds_111 C HR HL hG) a0 a3 (0 : Int32) u2.2 T0 E
      · refine ww_iconst (v := 1) C dX10_holds_70 (by decide) ?_
        refine ww_goto (tgt := 111) C dX10_holds_71 (by decide) ?_
        refine ww_sub (lv' := [(0, .ref (ad a0)), (3, .int a3)]) [3, 6] rfl ?_
        exact (B_X10_holds_111 C HR HL hG) a0 a3 (1 : Int32) u2.2 T0 E
  · refine ww_iload C dX10_holds_41 2 rfl ?_
    refine ww_iload C dX10_holds_43 0 rfl ?_
    refine ww_icmp_ge (tgt := 52) C dX10_holds_45 (by decide) E (fun _ E => ?_) (fun _ E => ?_)
    · refine ww_iconst (v := 0) C dX10_holds_52 (by decide) ?_
      refine ww_goto (tgt := 111) C dX10_holds_53 (by decide) ?_
      refine ww_sub (lv' := [(0, .ref (ad a0)), (3, .int a3)]) [3, 6] rfl ?_
      exact (B_X10_holds_111 C HR HL hG) a0 a3 (0 : Int32) u2.2 T0 E
    · refine ww_iconst (v := 1) C dX10_holds_48 (by decide) ?_
      refine ww_goto (tgt := 111) C dX10_holds_49 (by decide) ?_
      refine ww_sub (lv' := [(0, .ref (ad a0)), (3, .int a3)]) [3, 6] rfl ?_
      exact (B_X10_holds_111 C HR HL hG) a0 a3 (1 : Int32) u2.2 T0 E
section P_X10_look
variable {p : Program} {l : Launch} {e : Env} {s : State} {m : MethodId} {args : Array Value} {below : List Frame} {meth : Method} {c : Code} {G : GG} {A : Nat → Prop} {ad : Nat → Nat} {S : ST} {N : Nat} {dy' : DY}
set_option maxHeartbeats 4000000 in
set_option maxRecDepth 100000 in
theorem B_X10_look_45 (C : CX p s m args c cX10_look 6 RX10 G A) (HR : meth.sig.returnType = (Option.none : Option Jvm.ClassFile.FieldType)) (HL : meth.locks = false) (hG : Good S) {K17 : Nat → Int32 → Int32 → Int32 → Int32 → DY → Option DY} (hK17 : ∀ (x0 : Nat) (x1 : Int32) (x2 : Int32) (x3 : Int32) (x4 : Int32) (dy : DY), gs S x0 = (0, 10) → K17 x0 x1 x2 x3 x4 dy = some dy' → WJ p l e (rmD (2)) s m args below meth c 6 G A 0 0 (MQ below (QV G ad A S dy') args s 0 0 A) ad 17 [(0, .ref (ad x0)), (1, .int x1), (2, .int x2), (3, .int x3), (4, .int x4)] [] S dy) : ∀ (x0 : Nat) (x1 : Int32) (x2 : Int32) (x3 : Int32) (x4 : Int32) (y0 : Int32) (dy : DY), gs S x0 = (0, 10) → F_X10_look_45 S N K17 x0 x1 x2 x3 x4 y0 dy = some dy' → WJ p l e (rmD (2)) s m args below meth c 6 G A 0 0 (MQ below (QV G ad A S dy') args s 0 0 A) ad 45 [(0, .ref (ad x0)), (1, .int x1), (2, .int x2), (3, .int x3), (4, .int x4)] [.int y0] S dy := by
  intro x0 x1 x2 x3 x4 y0 dy Tx0 E
  rw [F_X10_look_45_s] at E
  refine ww_istore (lv' := [(5, .int y0), (0, .ref (ad x0)), (1, .int x1), (2, .int x2), (3, .int x3), (4, .int x4)]) C dX10_look_45 (by decide) rfl ?_
  refine ww_aload_n C dX10_look_47 rfl 1 rfl ?_
  have T_1 : gs S (gr S x0 40) = (1, 12) := hG.1 _ 10 Tx0 40 (by decide)
  refine ww_getr (ci := 10) (k0 := 40) C dX10_look_48 rfl rfl inm10 (by decide) Tx0 q1318 rfl T_1 (by decide) ?_
  refine ww_iload C dX10_look_51 5 rfl ?_
  refine ww_aload_n C dX10_look_53 rfl 1 rfl ?_
  have T_2 : gs S (gr S x0 39) = (1, 10080) := hG.1 _ 10 Tx0 39 (by decide)
  refine ww_getr (ci := 10) (k0 := 39) C dX10_look_54 rfl rfl inm10 (by decide) Tx0 q1317 rfl T_2 (by decide) ?_
  refine ww_iload_n C dX10_look_57 rfl 2 rfl ?_
  refine ww_iload C dX10_look_58 5 rfl ?_
  obtain ⟨u3, e_4, E⟩ := bind_of E
  refine ww_callI C (runs_S (n := 2) (st := [.ref (ad (gr S x0 39)), .int x4, .ref (ad (gr S x0 40))]) C [.int x1, .int x4] (M_X10_at l G ad N hG x1 x4 dy e_4) ⟨q1644, q118, by decide⟩ q1642 q1643 rfl (Nat.le_of_ble_eq_true rfl) ⟨Nat.le_of_ble_eq_true rfl, Nat.le_of_ble_eq_true rfl⟩ ⟨Nat.zero_le _, Nat.zero_le _⟩ dX10_look_60 rfl) ?_
  refine ww_iload C dX10_look_63 0 rfl ?_
  refine ww_iadd C dX10_look_65 ?_
  refine ww_iald C dX10_look_66 T_2 E (fun _ E => ?_)
  refine ww_iast C dX10_look_67 T_1 E (fun _ E => ?_)
  refine ww_bd E (fun dy5 E => ?_)
  refine ww_aload_n C dX10_look_68 rfl 1 rfl ?_
  have T_6 : gs S (gr S x0 41) = (1, 12) := hG.1 _ 10 Tx0 41 (by decide)
  refine ww_getr (ci := 10) (k0 := 41) C dX10_look_69 rfl rfl inm10 (by decide) Tx0 q1319 rfl T_6 (by decide) ?_
  refine ww_iload C dX10_look_72 5 rfl ?_
  refine ww_aload_n C dX10_look_74 rfl 1 rfl ?_
  have T_7 : gs S (gr S x0 39) = (1, 10080) := hG.1 _ 10 Tx0 39 (by decide)
  refine ww_getr (ci := 10) (k0 := 39) C dX10_look_75 rfl rfl inm10 (by decide) Tx0 q1317 rfl T_7 (by decide) ?_
  refine ww_iload_n C dX10_look_78 rfl 2 rfl ?_
  refine ww_iload C dX10_look_79 5 rfl ?_
  obtain ⟨u8, e_9, E⟩ := bind_of E
  refine ww_callI C (runs_S (n := 2) (st := [.ref (ad (gr S x0 39)), .int x4, .ref (ad (gr S x0 41))]) C [.int x1, .int x4] (M_X10_at l G ad N hG x1 x4 dy5 e_9) ⟨q1644, q118, by decide⟩ q1642 q1643 rfl (Nat.le_of_ble_eq_true rfl) ⟨Nat.le_of_ble_eq_true rfl, Nat.le_of_ble_eq_true rfl⟩ ⟨Nat.zero_le _, Nat.zero_le _⟩ dX10_look_81 rfl) ?_
  refine ww_iconst (v := 4) C dX10_look_84 (by decide) ?_
  refine ww_iadd C dX10_look_85 ?_
  refine ww_iload C dX10_look_86 0 rfl ?_
  refine ww_iadd C dX10_look_88 ?_
  refine ww_iald C dX10_look_89 T_7 E (fun _ E => ?_)
  refine ww_iast C dX10_look_90 T_6 E (fun _ E => ?_)
  refine ww_bd E (fun dy10 E => ?_)
  refine ww_iinc (v := (x4 + (1 : Int32))) (lv' := [(4, .int (x4 + (1 : Int32))), (5, .int y0), (0, .ref (ad x0)), (1, .int x1), (2, .int x2), (3, .int x3)]) C dX10_look_91 5 rfl rfl (by decide) rfl ?_
  refine ww_goto (tgt := 17) C dX10_look_94 (by decide) ?_
  refine ww_sub (lv' := [(0, .ref (ad x0)), (1, .int x1), (2, .int x2), (3, .int x3), (4, .int (x4 + (1 : Int32)))]) [2, 3, 4, 5, 0] rfl ?_
  exact hK17 x0 x1 x2 x3 (x4 + (1 : Int32)) dy10 Tx0 E
set_option maxHeartbeats 4000000 in
set_option maxRecDepth 100000 in
theorem B_X10_look_17 (C : CX p s m args c cX10_look 6 RX10 G A) (HR : meth.sig.returnType = (Option.none : Option Jvm.ClassFile.FieldType)) (HL : meth.locks = false) (hG : Good S) : ∀ k : Nat, ∀ (x0 : Nat) (x1 : Int32) (x2 : Int32) (x3 : Int32) (x4 : Int32) (dy : DY), gs S x0 = (0, 10) → (F_X10_look_17 S N k) x0 x1 x2 x3 x4 dy = some dy' → WJ p l e (rmD (2)) s m args below meth c 6 G A 0 0 (MQ below (QV G ad A S dy') args s 0 0 A) ad 17 [(0, .ref (ad x0)), (1, .int x1), (2, .int x2), (3, .int x3), (4, .int x4)] [] S dy := by
  intro k
  induction k with
  | zero => exact fun _ _ _ _ _ _ _ E => nomatch (show none = some dy' from E)
  | succ k ih =>
    intro x0 x1 x2 x3 x4 dy Tx0 E
    rw [F_X10_look_17_s] at E
    refine ww_iload C dX10_look_17 4 rfl ?_
    refine ww_aload_n C dX10_look_19 rfl 0 rfl ?_
    have T_1 : gs S (gr S x0 39) = (1, 10080) := hG.1 _ 10 Tx0 39 (by decide)
    refine ww_getr (ci := 10) (k0 := 39) C dX10_look_20 rfl rfl inm10 (by decide) Tx0 q1317 rfl T_1 (by decide) ?_
    refine ww_sipush (v := 720) C dX10_look_23 (by decide) ?_
    refine ww_iload_n C dX10_look_26 rfl 1 rfl ?_
    refine ww_imul C dX10_look_27 ?_
    refine ww_iconst (v := 2) C dX10_look_28 (by decide) ?_
    refine ww_iadd C dX10_look_29 ?_
    refine ww_iald C dX10_look_30 T_1 E (fun _ E => ?_)
    refine ww_icmp_ge (tgt := 97) C dX10_look_31 (by decide) E (fun _ E => ?_) (fun _ E => ?_)
    · exact ww_vret C HR HL dX10_look_97 E
    · refine ww_iload C dX10_look_34 4 rfl ?_
      refine ww_iload_n C dX10_look_36 rfl 2 rfl ?_
      refine ww_icmp_ne (tgt := 44) C dX10_look_37 (by decide) E (fun _ E => ?_) (fun _ E => ?_)
      · refine ww_iload_n C dX10_look_44 rfl 3 rfl ?_
        refine ww_sub (lv' := [(0, .ref (ad x0)), (1, .int x1), (2, .int x2), (3, .int x3), (4, .int x4)]) [0, 1, 2, 3, 4] rfl ?_
        exact (B_X10_look_45 C HR HL hG ih) x0 x1 x2 x3 x4 x3 dy Tx0 E
      · refine ww_iconst (v := 0) C dX10_look_40 (by decide) ?_
        refine ww_goto (tgt := 45) C dX10_look_41 (by decide) ?_
        refine ww_sub (lv' := [(0, .ref (ad x0)), (1, .int x1), (2, .int x2), (3, .int x3), (4, .int x4)]) [0, 1, 2, 3, 4] rfl ?_
        exact (B_X10_look_45 C HR HL hG ih) x0 x1 x2 x3 x4 (0 : Int32) dy Tx0 E
end P_X10_look
set_option maxHeartbeats 4000000 in
set_option maxRecDepth 100000 in
theorem M_X10_look (l : Launch) (G : GG) (ad : Nat → Nat) {S : ST} (N : Nat) (hG : Good S) (a0 : Nat) (a1 : Int32) (a2 : Int32) (dy : DY) (T0 : gs S a0 = (0, 10)) {dy' : DY} (E : F_X10_look S N a0 a1 a2 dy = some dy') : MC l yX10_look cX10_look 6 (Option.none : Option Jvm.ClassFile.FieldType) (2) G ad [.ref (ad a0), .int a1, .int a2] S dy (fun A => QV G ad A S dy') := by
  rw [F_X10_look_s] at E
  refine mc_of RX10 (by decide) rfl (Nat.le_of_ble_eq_true rfl) (fun p e s m args below meth c A C HR HL => ?_)
  refine ww_sub (lv' := [(0, .ref (ad a0)), (1, .int a1), (2, .int a2)]) [0, 1, 2] rfl ?_
  refine ww_aload_n C dX10_look_0 rfl 0 rfl ?_
  have T_1 : gs S (gr S a0 39) = (1, 10080) := hG.1 _ 10 T0 39 (by decide)
  refine ww_getr (ci := 10) (k0 := 39) C dX10_look_1 rfl rfl inm10 (by decide) T0 q1317 rfl T_1 (by decide) ?_
  refine ww_iload_n C dX10_look_4 rfl 1 rfl ?_
  refine ww_iload_n C dX10_look_5 rfl 2 rfl ?_
  obtain ⟨u2, e_3, E⟩ := bind_of E
  refine ww_callI C (runs_S (n := 2) (st := [.ref (ad (gr S a0 39))]) C [.int a1, .int a2] (M_X10_at l G ad N hG a1 a2 dy e_3) ⟨q1644, q118, by decide⟩ q1642 q1643 rfl (Nat.le_of_ble_eq_true rfl) ⟨Nat.le_of_ble_eq_true rfl, Nat.le_of_ble_eq_true rfl⟩ ⟨Nat.zero_le _, Nat.zero_le _⟩ dX10_look_6 rfl) ?_
  refine ww_bipush (v := 10) C dX10_look_9 (by decide) ?_
  refine ww_iadd C dX10_look_11 ?_
  refine ww_iald C dX10_look_12 T_1 E (fun _ E => ?_)
  refine ww_istore_n (lv' := [(3, .int (gi u2.2 (gr S a0 39) (u2.1 + (10 : Int32)).toNatClampNeg)), (0, .ref (ad a0)), (1, .int a1), (2, .int a2)]) C dX10_look_13 rfl (by decide) rfl ?_
  refine ww_iconst (v := 0) C dX10_look_14 (by decide) ?_
  refine ww_istore (lv' := [(4, .int (0 : Int32)), (3, .int (gi u2.2 (gr S a0 39) (u2.1 + (10 : Int32)).toNatClampNeg)), (0, .ref (ad a0)), (1, .int a1), (2, .int a2)]) C dX10_look_15 (by decide) rfl ?_
  refine ww_sub (lv' := [(0, .ref (ad a0)), (1, .int a1), (2, .int a2), (3, .int (gi u2.2 (gr S a0 39) (u2.1 + (10 : Int32)).toNatClampNeg)), (4, .int (0 : Int32))]) [2, 3, 4, 1, 0] rfl ?_
  exact (B_X10_look_17 C HR HL hG N) a0 a1 a2 (gi u2.2 (gr S a0 39) (u2.1 + (10 : Int32)).toNatClampNeg) (0 : Int32) u2.2 T0 E
section P_X10_actBy
variable {p : Program} {l : Launch} {e : Env} {s : State} {m : MethodId} {args : Array Value} {below : List Frame} {meth : Method} {c : Code} {G : GG} {A : Nat → Prop} {ad : Nat → Nat} {S : ST} {N : Nat} {r : Int32} {dy' : DY}
set_option maxHeartbeats 4000000 in
set_option maxRecDepth 100000 in
theorem B_X10_actBy_117 (C : CX p s m args c cX10_actBy 8 RX10 G A) (HR : meth.sig.returnType = (Option.some Jvm.ClassFile.FieldType.int)) (HL : meth.locks = false) (hG : Good S) {K42 : Nat → Int32 → Int32 → Int32 → Int32 → DY → Option (Int32 × DY)} (hK42 : ∀ (x0 : Nat) (x1 : Int32) (x2 : Int32) (x3 : Int32) (x4 : Int32) (dy : DY), gs S x0 = (0, 10) → K42 x0 x1 x2 x3 x4 dy = some (r, dy') → WJ p l e (rmD (7)) s m args below meth c 8 G A 0 0 (MQ below (QI G ad A S r dy') args s 0 0 A) ad 42 [(0, .ref (ad x0)), (1, .int x1), (2, .int x2), (3, .int x3), (4, .int x4)] [] S dy) : ∀ (x0 : Nat) (x1 : Int32) (x2 : Int32) (x3 : Int32) (x4 : Int32) (x5 : Int32) (x6 : Int32) (dy : DY), gs S x0 = (0, 10) → F_X10_actBy_117 S N K42 x0 x1 x2 x3 x4 x5 x6 dy = some (r, dy') → WJ p l e (rmD (7)) s m args below meth c 8 G A 0 0 (MQ below (QI G ad A S r dy') args s 0 0 A) ad 117 [(0, .ref (ad x0)), (1, .int x1), (2, .int x2), (3, .int x3), (4, .int x4), (5, .int x5), (6, .int x6)] [] S dy := by
  intro x0 x1 x2 x3 x4 x5 x6 dy Tx0 E
  rw [F_X10_actBy_117_s] at E
  refine ww_iload C dX10_actBy_117 6 rfl ?_
  refine ww_if_eq (tgt := 130) C dX10_actBy_119 (by decide) E (fun _ E => ?_) (fun _ E => ?_)
  · refine ww_iinc (v := (x4 + (1 : Int32))) (lv' := [(4, .int (x4 + (1 : Int32))), (0, .ref (ad x0)), (1, .int x1), (2, .int x2), (3, .int x3), (5, .int x5), (6, .int x6)]) C dX10_actBy_130 4 rfl rfl (by decide) rfl ?_
    refine ww_goto (tgt := 42) C dX10_actBy_133 (by decide) ?_
    refine ww_sub (lv' := [(0, .ref (ad x0)), (1, .int x1), (2, .int x2), (3, .int x3), (4, .int (x4 + (1 : Int32)))]) [1, 2, 3, 4, 0] rfl ?_
    exact hK42 x0 x1 x2 x3 (x4 + (1 : Int32)) dy Tx0 E
  · refine ww_aload_n C dX10_actBy_122 rfl 0 rfl ?_
    have T_1 : gs S (gr S x0 39) = (1, 10080) := hG.1 _ 10 Tx0 39 (by decide)
    refine ww_getr (ci := 10) (k0 := 39) C dX10_actBy_123 rfl rfl inm10 (by decide) Tx0 q1317 rfl T_1 (by decide) ?_
    refine ww_iload C dX10_actBy_126 5 rfl ?_
    refine ww_iald C dX10_actBy_128 T_1 E (fun _ E => ?_)
    exact ww_iret C HR HL dX10_actBy_129 E
set_option maxHeartbeats 4000000 in
set_option maxRecDepth 100000 in
theorem B_X10_actBy_75 (C : CX p s m args c cX10_actBy 8 RX10 G A) (HR : meth.sig.returnType = (Option.some Jvm.ClassFile.FieldType.int)) (HL : meth.locks = false) (hG : Good S) {K42 : Nat → Int32 → Int32 → Int32 → Int32 → DY → Option (Int32 × DY)} (hK42 : ∀ (x0 : Nat) (x1 : Int32) (x2 : Int32) (x3 : Int32) (x4 : Int32) (dy : DY), gs S x0 = (0, 10) → K42 x0 x1 x2 x3 x4 dy = some (r, dy') → WJ p l e (rmD (7)) s m args below meth c 8 G A 0 0 (MQ below (QI G ad A S r dy') args s 0 0 A) ad 42 [(0, .ref (ad x0)), (1, .int x1), (2, .int x2), (3, .int x3), (4, .int x4)] [] S dy) : ∀ k : Nat, ∀ (x0 : Nat) (x1 : Int32) (x2 : Int32) (x3 : Int32) (x4 : Int32) (x5 : Int32) (x6 : Int32) (x7 : Int32) (dy : DY), gs S x0 = (0, 10) → (F_X10_actBy_75 S N K42 k) x0 x1 x2 x3 x4 x5 x6 x7 dy = some (r, dy') → WJ p l e (rmD (7)) s m args below meth c 8 G A 0 0 (MQ below (QI G ad A S r dy') args s 0 0 A) ad 75 [(0, .ref (ad x0)), (1, .int x1), (2, .int x2), (3, .int x3), (4, .int x4), (5, .int x5), (6, .int x6), (7, .int x7)] [] S dy := by
  intro k
  induction k with
  | zero => exact fun _ _ _ _ _ _ _ _ _ _ E => nomatch (show none = some (r, dy') from E)
  | succ k ih =>
    intro x0 x1 x2 x3 x4 x5 x6 x7 dy Tx0 E
    rw [F_X10_actBy_75_s] at E
    refine ww_iload C dX10_actBy_75 7 rfl ?_
    refine ww_aload_n C dX10_actBy_77 rfl 0 rfl ?_
    have T_1 : gs S (gr S x0 39) = (1, 10080) := hG.1 _ 10 Tx0 39 (by decide)
    refine ww_getr (ci := 10) (k0 := 39) C dX10_actBy_78 rfl rfl inm10 (by decide) Tx0 q1317 rfl T_1 (by decide) ?_
    refine ww_iload C dX10_actBy_81 5 rfl ?_
    refine ww_iconst (v := 1) C dX10_actBy_83 (by decide) ?_
    refine ww_iadd C dX10_actBy_84 ?_
    refine ww_iald C dX10_actBy_85 T_1 E (fun _ E => ?_)
    refine ww_icmp_ge (tgt := 117) C dX10_actBy_86 (by decide) E (fun _ E => ?_) (fun _ E => ?_)
    · refine ww_sub (lv' := [(0, .ref (ad x0)), (1, .int x1), (2, .int x2), (3, .int x3), (4, .int x4), (5, .int x5), (6, .int x6)]) [0, 1, 2, 3, 4, 5, 6] rfl ?_
      exact (B_X10_actBy_117 C HR HL hG hK42) x0 x1 x2 x3 x4 x5 x6 dy Tx0 E
    · refine ww_iload C dX10_actBy_89 6 rfl ?_
      refine ww_if_eq (tgt := 117) C dX10_actBy_91 (by decide) E (fun _ E => ?_) (fun _ E => ?_)
      · refine ww_sub (lv' := [(0, .ref (ad x0)), (1, .int x1), (2, .int x2), (3, .int x3), (4, .int x4), (5, .int x5), (6, .int x6)]) [0, 1, 2, 3, 4, 5, 6] rfl ?_
        exact (B_X10_actBy_117 C HR HL hG hK42) x0 x1 x2 x3 x4 x5 x6 dy Tx0 E
      · refine ww_aload_n C dX10_actBy_94 rfl 0 rfl ?_
        refine ww_iload_n C dX10_actBy_95 rfl 1 rfl ?_
        refine ww_iload_n C dX10_actBy_96 rfl 2 rfl ?_
        refine ww_iload C dX10_actBy_97 5 rfl ?_
        refine ww_iconst (v := 2) C dX10_actBy_99 (by decide) ?_
        refine ww_iadd C dX10_actBy_100 ?_
        refine ww_iconst (v := 4) C dX10_actBy_101 (by decide) ?_
        refine ww_iload C dX10_actBy_102 7 rfl ?_
        refine ww_imul C dX10_actBy_104 ?_
        refine ww_iadd C dX10_actBy_105 ?_
        obtain ⟨u2, e_3, E⟩ := bind_of E
        refine ww_callI C (runs_V (n := 3) (st := []) C [.int x1, .int x2, .int ((x5 + (2 : Int32)) + ((4 : Int32) * x7))] (M_X10_holds l G ad N hG x0 x1 x2 ((x5 + (2 : Int32)) + ((4 : Int32) * x7)) dy Tx0 e_3) ⟨q1672, q118, by decide⟩ q1669 q1671 q72 (ci := 10) rfl Tx0 rfl (Nat.le_of_ble_eq_true rfl) ⟨Nat.le_of_ble_eq_true rfl, Nat.le_of_ble_eq_true rfl⟩ ⟨Nat.zero_le _, Nat.zero_le _⟩ dX10_actBy_106 rfl) ?_
        refine ww_istore (lv' := [(6, .int u2.1), (0, .ref (ad x0)), (1, .int x1), (2, .int x2), (3, .int x3), (4, .int x4), (5, .int x5), (7, .int x7)]) C dX10_actBy_109 (by decide) rfl ?_
        refine ww_iinc (v := (x7 + (1 : Int32))) (lv' := [(7, .int (x7 + (1 : Int32))), (6, .int u2.1), (0, .ref (ad x0)), (1, .int x1), (2, .int x2), (3, .int x3), (4, .int x4), (5, .int x5)]) C dX10_actBy_111 7 rfl rfl (by decide) rfl ?_
        refine ww_goto (tgt := 75) C dX10_actBy_114 (by decide) ?_
        refine ww_sub (lv' := [(0, .ref (ad x0)), (1, .int x1), (2, .int x2), (3, .int x3), (4, .int x4), (5, .int x5), (6, .int u2.1), (7, .int (x7 + (1 : Int32)))]) [2, 3, 4, 5, 6, 7, 1, 0] rfl ?_
        exact ih x0 x1 x2 x3 x4 x5 u2.1 (x7 + (1 : Int32)) u2.2 Tx0 E
set_option maxHeartbeats 4000000 in
set_option maxRecDepth 100000 in
theorem B_X10_actBy_42 (C : CX p s m args c cX10_actBy 8 RX10 G A) (HR : meth.sig.returnType = (Option.some Jvm.ClassFile.FieldType.int)) (HL : meth.locks = false) (hG : Good S) : ∀ k : Nat, ∀ (x0 : Nat) (x1 : Int32) (x2 : Int32) (x3 : Int32) (x4 : Int32) (dy : DY), gs S x0 = (0, 10) → (F_X10_actBy_42 S N k) x0 x1 x2 x3 x4 dy = some (r, dy') → WJ p l e (rmD (7)) s m args below meth c 8 G A 0 0 (MQ below (QI G ad A S r dy') args s 0 0 A) ad 42 [(0, .ref (ad x0)), (1, .int x1), (2, .int x2), (3, .int x3), (4, .int x4)] [] S dy := by
  intro k
  induction k with
  | zero => exact fun _ _ _ _ _ _ _ E => nomatch (show none = some (r, dy') from E)
  | succ k ih =>
    intro x0 x1 x2 x3 x4 dy Tx0 E
    rw [F_X10_actBy_42_s] at E
    refine ww_iload C dX10_actBy_42 4 rfl ?_
    refine ww_aload_n C dX10_actBy_44 rfl 0 rfl ?_
    have T_1 : gs S (gr S x0 39) = (1, 10080) := hG.1 _ 10 Tx0 39 (by decide)
    refine ww_getr (ci := 10) (k0 := 39) C dX10_actBy_45 rfl rfl inm10 (by decide) Tx0 q1317 rfl T_1 (by decide) ?_
    refine ww_iload_n C dX10_actBy_48 rfl 3 rfl ?_
    refine ww_bipush (v := 9) C dX10_actBy_49 (by decide) ?_
    refine ww_iadd C dX10_actBy_51 ?_
    refine ww_iald C dX10_actBy_52 T_1 E (fun _ E => ?_)
    refine ww_icmp_ge (tgt := 136) C dX10_actBy_53 (by decide) E (fun _ E => ?_) (fun _ E => ?_)
    · refine ww_iconst (v := 5) C dX10_actBy_136 (by decide) ?_
      exact ww_iret C HR HL dX10_actBy_137 E
    · refine ww_iload_n C dX10_actBy_56 rfl 3 rfl ?_
      refine ww_sipush (v := 352) C dX10_actBy_57 (by decide) ?_
      refine ww_iadd C dX10_actBy_60 ?_
      refine ww_bipush (v := 18) C dX10_actBy_61 (by decide) ?_
      refine ww_iload C dX10_actBy_63 4 rfl ?_
      refine ww_imul C dX10_actBy_65 ?_
      refine ww_iadd C dX10_actBy_66 ?_
      refine ww_istore (lv' := [(5, .int ((x3 + (352 : Int32)) + ((18 : Int32) * x4))), (0, .ref (ad x0)), (1, .int x1), (2, .int x2), (3, .int x3), (4, .int x4)]) C dX10_actBy_67 (by decide) rfl ?_
      refine ww_iconst (v := 1) C dX10_actBy_69 (by decide) ?_
      refine ww_istore (lv' := [(6, .int (1 : Int32)), (5, .int ((x3 + (352 : Int32)) + ((18 : Int32) * x4))), (0, .ref (ad x0)), (1, .int x1), (2, .int x2), (3, .int x3), (4, .int x4)]) C dX10_actBy_70 (by decide) rfl ?_
      refine ww_iconst (v := 0) C dX10_actBy_72 (by decide) ?_
      refine ww_istore (lv' := [(7, .int (0 : Int32)), (6, .int (1 : Int32)), (5, .int ((x3 + (352 : Int32)) + ((18 : Int32) * x4))), (0, .ref (ad x0)), (1, .int x1), (2, .int x2), (3, .int x3), (4, .int x4)]) C dX10_actBy_73 (by decide) rfl ?_
      refine ww_sub (lv' := [(0, .ref (ad x0)), (1, .int x1), (2, .int x2), (3, .int x3), (4, .int x4), (5, .int ((x3 + (352 : Int32)) + ((18 : Int32) * x4))), (6, .int (1 : Int32)), (7, .int (0 : Int32))]) [3, 4, 5, 6, 7, 2, 1, 0] rfl ?_
      exact (B_X10_actBy_75 C HR HL hG ih N) x0 x1 x2 x3 x4 ((x3 + (352 : Int32)) + ((18 : Int32) * x4)) (1 : Int32) (0 : Int32) dy Tx0 E
end P_X10_actBy
set_option maxHeartbeats 4000000 in
set_option maxRecDepth 100000 in
theorem M_X10_actBy (l : Launch) (G : GG) (ad : Nat → Nat) {S : ST} (N : Nat) (hG : Good S) (a0 : Nat) (a1 : Int32) (a2 : Int32) (dy : DY) (T0 : gs S a0 = (0, 10)) {r : Int32} {dy' : DY} (E : F_X10_actBy S N a0 a1 a2 dy = some (r, dy')) : MC l yX10_actBy cX10_actBy 8 (Option.some Jvm.ClassFile.FieldType.int) (7) G ad [.ref (ad a0), .int a1, .int a2] S dy (fun A => QI G ad A S r dy') := by
  rw [F_X10_actBy_s] at E
  refine mc_of RX10 (by decide) rfl (Nat.le_of_ble_eq_true rfl) (fun p e s m args below meth c A C HR HL => ?_)
  refine ww_sub (lv' := [(0, .ref (ad a0)), (1, .int a1), (2, .int a2)]) [0, 1, 2] rfl ?_
  refine ww_sipush (v := 720) C dX10_actBy_0 (by decide) ?_
  refine ww_iload_n C dX10_actBy_3 rfl 1 rfl ?_
  refine ww_imul C dX10_actBy_4 ?_
  refine ww_istore_n (lv' := [(3, .int ((720 : Int32) * a1)), (0, .ref (ad a0)), (1, .int a1), (2, .int a2)]) C dX10_actBy_5 rfl (by decide) rfl ?_
  refine ww_aload_n C dX10_actBy_6 rfl 1 rfl ?_
  have T_1 : gs S (gr S a0 39) = (1, 10080) := hG.1 _ 10 T0 39 (by decide)
  refine ww_getr (ci := 10) (k0 := 39) C dX10_actBy_7 rfl rfl inm10 (by decide) T0 q1317 rfl T_1 (by decide) ?_
  refine ww_iload_n C dX10_actBy_10 rfl 0 rfl ?_
  refine ww_iconst (v := 3) C dX10_actBy_11 (by decide) ?_
  refine ww_iadd C dX10_actBy_12 ?_
  refine ww_iald C dX10_actBy_13 T_1 E (fun _ E => ?_)
  refine ww_aload_n C dX10_actBy_14 rfl 1 rfl ?_
  have T_2 : gs S (gr S a0 39) = (1, 10080) := hG.1 _ 10 T0 39 (by decide)
  refine ww_getr (ci := 10) (k0 := 39) C dX10_actBy_15 rfl rfl inm10 (by decide) T0 q1317 rfl T_2 (by decide) ?_
  refine ww_iload_n C dX10_actBy_18 rfl 2 rfl ?_
  refine ww_iload_n C dX10_actBy_19 rfl 3 rfl ?_
  obtain ⟨u3, e_4, E⟩ := bind_of E
  refine ww_callI C (runs_S (n := 2) (st := [.ref (ad (gr S a0 39)), .int (gi dy (gr S a0 39) (((720 : Int32) * a1) + (3 : Int32)).toNatClampNeg)]) C [.int a1, .int a2] (M_X10_at l G ad N hG a1 a2 dy e_4) ⟨q1644, q118, by decide⟩ q1642 q1643 rfl (Nat.le_of_ble_eq_true rfl) ⟨Nat.le_of_ble_eq_true rfl, Nat.le_of_ble_eq_true rfl⟩ ⟨Nat.zero_le _, Nat.zero_le _⟩ dX10_actBy_20 rfl) ?_
  refine ww_bipush (v := 9) C dX10_actBy_23 (by decide) ?_
  refine ww_iadd C dX10_actBy_25 ?_
  refine ww_iald C dX10_actBy_26 T_2 E (fun _ E => ?_)
  refine ww_irem C dX10_actBy_27 E (fun _ E => ?_)
  refine ww_if_eq (tgt := 33) C dX10_actBy_28 (by decide) E (fun _ E => ?_) (fun _ E => ?_)
  · refine ww_aload_n C dX10_actBy_33 rfl 1 rfl ?_
    refine ww_iload_n C dX10_actBy_34 rfl 2 rfl ?_
    refine ww_iload_n C dX10_actBy_35 rfl 3 rfl ?_
    obtain ⟨u5, e_6, E⟩ := bind_of E
    refine ww_callV C (runs_V (n := 2) (st := []) C [.int a1, .int a2] (M_X10_look l G ad N hG a0 a1 a2 u3.2 T0 e_6) ⟨q1668, q118, by decide⟩ q1665 q1667 q71 (ci := 10) rfl T0 rfl (Nat.le_of_ble_eq_true rfl) ⟨Nat.le_of_ble_eq_true rfl, Nat.le_of_ble_eq_true rfl⟩ ⟨Nat.zero_le _, Nat.zero_le _⟩ dX10_actBy_36 rfl) ?_
    refine ww_iconst (v := 0) C dX10_actBy_39 (by decide) ?_
    refine ww_istore (lv' := [(4, .int (0 : Int32)), (3, .int ((720 : Int32) * a1)), (0, .ref (ad a0)), (1, .int a1), (2, .int a2)]) C dX10_actBy_40 (by decide) rfl ?_
    refine ww_sub (lv' := [(0, .ref (ad a0)), (1, .int a1), (2, .int a2), (3, .int ((720 : Int32) * a1)), (4, .int (0 : Int32))]) [2, 3, 4, 1, 0] rfl ?_
    exact (B_X10_actBy_42 C HR HL hG N) a0 a1 a2 ((720 : Int32) * a1) (0 : Int32) u5 T0 E
  · refine ww_iconst (v := 5) C dX10_actBy_31 (by decide) ?_
    exact ww_iret C HR HL dX10_actBy_32 E
section P_X10_isWord
variable {p : Program} {l : Launch} {e : Env} {s : State} {m : MethodId} {args : Array Value} {below : List Frame} {meth : Method} {c : Code} {G : GG} {A : Nat → Prop} {ad : Nat → Nat} {S : ST} {N : Nat} {r : Int32} {dy' : DY}
end P_X10_isWord
set_option maxHeartbeats 4000000 in
set_option maxRecDepth 100000 in
theorem M_X10_isWord (l : Launch) (G : GG) (ad : Nat → Nat) {S : ST} (N : Nat) (hG : Good S) (a0 : Nat) (a1 : Int64) (dy : DY) (T0 : gs S a0 = (0, 10)) {r : Int32} {dy' : DY} (E : F_X10_isWord S N a0 a1 dy = some (r, dy')) : MC l yX10_isWord cX10_isWord 3 (Option.some Jvm.ClassFile.FieldType.boolean) (1) G ad [.ref (ad a0), .long a1] S dy (fun A => QI G ad A S r dy') := by
  rw [F_X10_isWord_s] at E
  refine mc_of RX10 (by decide) rfl (Nat.le_of_ble_eq_true rfl) (fun p e s m args below meth c A C HR HL => ?_)
  refine ww_sub (lv' := [(0, .ref (ad a0)), (1, .long a1)]) [0, 1] rfl ?_
  refine ww_aload_n C dX10_isWord_0 rfl 0 rfl ?_
  refine ww_geti (ci := 10) (k0 := 21) C dX10_isWord_1 rfl rfl inm10 (by decide) T0 q1299 rfl ?_
  refine ww_iconst (v := 2) C dX10_isWord_4 (by decide) ?_
  refine ww_icmp_ne (tgt := 21) C dX10_isWord_5 (by decide) E (fun _ E => ?_) (fun _ E => ?_)
  · refine ww_iconst (v := 0) C dX10_isWord_21 (by decide) ?_
    exact ww_zret C HR HL dX10_isWord_22 (Or.inl rfl) E
  · refine ww_aload_n C dX10_isWord_8 rfl 0 rfl ?_
    refine ww_getl (ci := 10) (k0 := 23) C dX10_isWord_9 rfl rfl inm10 (by decide) T0 q1301 rfl ?_
    refine ww_lload_n C dX10_isWord_12 rfl 1 rfl ?_
    refine ww_lcmp C dX10_isWord_13 ?_
    refine ww_if_ne (tgt := 21) C dX10_isWord_14 (by decide) E (fun _ E => ?_) (fun _ E => ?_)
    · refine ww_iconst (v := 0) C dX10_isWord_21 (by decide) ?_
      exact ww_zret C HR HL dX10_isWord_22 (Or.inl rfl) E
    · refine ww_iconst (v := 1) C dX10_isWord_17 (by decide) ?_
      refine ww_goto (tgt := 22) C dX10_isWord_18 (by decide) ?_
      exact ww_zret C HR HL dX10_isWord_22 (Or.inr rfl) E
section P_X10_actOf
variable {p : Program} {l : Launch} {e : Env} {s : State} {m : MethodId} {args : Array Value} {below : List Frame} {meth : Method} {c : Code} {G : GG} {A : Nat → Prop} {ad : Nat → Nat} {S : ST} {N : Nat} {r : Int32} {dy' : DY}
end P_X10_actOf
set_option maxHeartbeats 4000000 in
set_option maxRecDepth 100000 in
theorem M_X10_actOf (l : Launch) (G : GG) (ad : Nat → Nat) {S : ST} (N : Nat) (hG : Good S) (a0 : Nat) (dy : DY) (T0 : gs S a0 = (0, 10)) {r : Int32} {dy' : DY} (E : F_X10_actOf S N a0 dy = some (r, dy')) : MC l yX10_actOf cX10_actOf 1 (Option.some Jvm.ClassFile.FieldType.int) (2) G ad [.ref (ad a0)] S dy (fun A => QI G ad A S r dy') := by
  rw [F_X10_actOf_s] at E
  refine mc_of RX10 (by decide) rfl (Nat.le_of_ble_eq_true rfl) (fun p e s m args below meth c A C HR HL => ?_)
  refine ww_sub (lv' := [(0, .ref (ad a0))]) [0] rfl ?_
  refine ww_aload_n C dX10_actOf_0 rfl 0 rfl ?_
  refine ww_ldc2 (v := (26479)) C dX10_actOf_1 q1615 ?_
  obtain ⟨u1, e_2, E⟩ := bind_of E
  refine ww_callI C (runs_V (n := 1) (st := []) C [.long (26479 : Int64)] (M_X10_isWord l G ad N hG a0 (26479 : Int64) dy T0 e_2) ⟨q1508, q118, by decide⟩ q1505 q1507 q45 (ci := 10) rfl T0 rfl (Nat.le_of_ble_eq_true rfl) ⟨Nat.le_of_ble_eq_true rfl, Nat.le_of_ble_eq_true rfl⟩ ⟨Nat.zero_le _, Nat.zero_le _⟩ dX10_actOf_4 rfl) ?_
  refine ww_if_eq (tgt := 14) C dX10_actOf_7 (by decide) E (fun _ E => ?_) (fun _ E => ?_)
  · refine ww_aload_n C dX10_actOf_14 rfl 0 rfl ?_
    refine ww_ldc2 (v := (491394656372)) C dX10_actOf_15 q1566 ?_
    obtain ⟨u3, e_4, E⟩ := bind_of E
    refine ww_callI C (runs_V (n := 1) (st := []) C [.long (491394656372 : Int64)] (M_X10_isWord l G ad N hG a0 (491394656372 : Int64) u1.2 T0 e_4) ⟨q1508, q118, by decide⟩ q1505 q1507 q45 (ci := 10) rfl T0 rfl (Nat.le_of_ble_eq_true rfl) ⟨Nat.le_of_ble_eq_true rfl, Nat.le_of_ble_eq_true rfl⟩ ⟨Nat.zero_le _, Nat.zero_le _⟩ dX10_actOf_18 rfl) ?_
    refine ww_if_eq (tgt := 28) C dX10_actOf_21 (by decide) E (fun _ E => ?_) (fun _ E => ?_)
    · refine ww_aload_n C dX10_actOf_28 rfl 0 rfl ?_
      refine ww_ldc2 (v := (1818584692)) C dX10_actOf_29 q1567 ?_
      obtain ⟨u5, e_6, E⟩ := bind_of E
      refine ww_callI C (runs_V (n := 1) (st := []) C [.long (1818584692 : Int64)] (M_X10_isWord l G ad N hG a0 (1818584692 : Int64) u3.2 T0 e_6) ⟨q1508, q118, by decide⟩ q1505 q1507 q45 (ci := 10) rfl T0 rfl (Nat.le_of_ble_eq_true rfl) ⟨Nat.le_of_ble_eq_true rfl, Nat.le_of_ble_eq_true rfl⟩ ⟨Nat.zero_le _, Nat.zero_le _⟩ dX10_actOf_32 rfl) ?_
      refine ww_if_eq (tgt := 42) C dX10_actOf_35 (by decide) E (fun _ E => ?_) (fun _ E => ?_)
      · refine ww_aload_n C dX10_actOf_42 rfl 0 rfl ?_
        refine ww_ldc2 (v := (1751215716)) C dX10_actOf_43 q1538 ?_
        obtain ⟨u7, e_8, E⟩ := bind_of E
        refine ww_callI C (runs_V (n := 1) (st := []) C [.long (1751215716 : Int64)] (M_X10_isWord l G ad N hG a0 (1751215716 : Int64) u5.2 T0 e_8) ⟨q1508, q118, by decide⟩ q1505 q1507 q45 (ci := 10) rfl T0 rfl (Nat.le_of_ble_eq_true rfl) ⟨Nat.le_of_ble_eq_true rfl, Nat.le_of_ble_eq_true rfl⟩ ⟨Nat.zero_le _, Nat.zero_le _⟩ dX10_actOf_46 rfl) ?_
        refine ww_if_eq (tgt := 56) C dX10_actOf_49 (by decide) E (fun _ E => ?_) (fun _ E => ?_)
        · refine ww_aload_n C dX10_actOf_56 rfl 0 rfl ?_
          refine ww_ldc2 (v := (7106420)) C dX10_actOf_57 q1616 ?_
          obtain ⟨u9, e_10, E⟩ := bind_of E
          refine ww_callI C (runs_V (n := 1) (st := []) C [.long (7106420 : Int64)] (M_X10_isWord l G ad N hG a0 (7106420 : Int64) u7.2 T0 e_10) ⟨q1508, q118, by decide⟩ q1505 q1507 q45 (ci := 10) rfl T0 rfl (Nat.le_of_ble_eq_true rfl) ⟨Nat.le_of_ble_eq_true rfl, Nat.le_of_ble_eq_true rfl⟩ ⟨Nat.zero_le _, Nat.zero_le _⟩ dX10_actOf_60 rfl) ?_
          refine ww_if_eq (tgt := 70) C dX10_actOf_63 (by decide) E (fun _ E => ?_) (fun _ E => ?_)
          · refine ww_aload_n C dX10_actOf_70 rfl 0 rfl ?_
            refine ww_ldc2 (v := (2002872692)) C dX10_actOf_71 q1617 ?_
            obtain ⟨u11, e_12, E⟩ := bind_of E
            refine ww_callI C (runs_V (n := 1) (st := []) C [.long (2002872692 : Int64)] (M_X10_isWord l G ad N hG a0 (2002872692 : Int64) u9.2 T0 e_12) ⟨q1508, q118, by decide⟩ q1505 q1507 q45 (ci := 10) rfl T0 rfl (Nat.le_of_ble_eq_true rfl) ⟨Nat.le_of_ble_eq_true rfl, Nat.le_of_ble_eq_true rfl⟩ ⟨Nat.zero_le _, Nat.zero_le _⟩ dX10_actOf_74 rfl) ?_
            refine ww_if_eq (tgt := 84) C dX10_actOf_77 (by decide) E (fun _ E => ?_) (fun _ E => ?_)
            · refine ww_iconst (v := (-1)) C dX10_actOf_84 (by decide) ?_
              exact ww_iret C HR HL dX10_actOf_85 E
            · refine ww_iconst (v := 5) C dX10_actOf_80 (by decide) ?_
              refine ww_goto (tgt := 85) C dX10_actOf_81 (by decide) ?_
              exact ww_iret C HR HL dX10_actOf_85 E
          · refine ww_iconst (v := 4) C dX10_actOf_66 (by decide) ?_
            refine ww_goto (tgt := 85) C dX10_actOf_67 (by decide) ?_
            exact ww_iret C HR HL dX10_actOf_85 E
        · refine ww_iconst (v := 3) C dX10_actOf_52 (by decide) ?_
          refine ww_goto (tgt := 85) C dX10_actOf_53 (by decide) ?_
          exact ww_iret C HR HL dX10_actOf_85 E
      · refine ww_iconst (v := 2) C dX10_actOf_38 (by decide) ?_
        refine ww_goto (tgt := 85) C dX10_actOf_39 (by decide) ?_
        exact ww_iret C HR HL dX10_actOf_85 E
    · refine ww_iconst (v := 1) C dX10_actOf_24 (by decide) ?_
      refine ww_goto (tgt := 85) C dX10_actOf_25 (by decide) ?_
      exact ww_iret C HR HL dX10_actOf_85 E
  · refine ww_iconst (v := 0) C dX10_actOf_10 (by decide) ?_
    refine ww_goto (tgt := 85) C dX10_actOf_11 (by decide) ?_
    exact ww_iret C HR HL dX10_actOf_85 E
section P_X10_move
variable {p : Program} {l : Launch} {e : Env} {s : State} {m : MethodId} {args : Array Value} {below : List Frame} {meth : Method} {c : Code} {G : GG} {A : Nat → Prop} {ad : Nat → Nat} {S : ST} {N : Nat} {dy' : DY} {n0 : Nat}
set_option maxHeartbeats 4000000 in
set_option maxRecDepth 100000 in
theorem B_X10_move_3 (C : CX p s m args c cX10_move 5 RX10 G A) (HR : meth.sig.returnType = (Option.none : Option Jvm.ClassFile.FieldType)) (HL : meth.locks = false) (hG : Good S) : ∀ k : Nat, ∀ (x0 : Nat) (x1 : Int32) (x2 : Int32) (x3 : Int32) (x4 : Int32) (dy : DY), gs S x0 = (1, n0) → (F_X10_move_3 S N n0 k) x0 x1 x2 x3 x4 dy = some dy' → WJ p l e (rmD (1)) s m args below meth c 5 G A 0 0 (MQ below (QV G ad A S dy') args s 0 0 A) ad 3 [(0, .ref (ad x0)), (1, .int x1), (2, .int x2), (3, .int x3), (4, .int x4)] [] S dy := by
  intro k
  induction k with
  | zero => exact fun _ _ _ _ _ _ _ E => nomatch (show none = some dy' from E)
  | succ k ih =>
    intro x0 x1 x2 x3 x4 dy Tx0 E
    rw [F_X10_move_3_s] at E
    refine ww_iload C dX10_move_3 4 rfl ?_
    refine ww_iload_n C dX10_move_5 rfl 1 rfl ?_
    refine ww_icmp_ge (tgt := 31) C dX10_move_6 (by decide) E (fun _ E => ?_) (fun _ E => ?_)
    · exact ww_vret C HR HL dX10_move_31 E
    · refine ww_aload_n C dX10_move_9 rfl 0 rfl ?_
      refine ww_iload_n C dX10_move_10 rfl 1 rfl ?_
      refine ww_iload_n C dX10_move_11 rfl 3 rfl ?_
      refine ww_imul C dX10_move_12 ?_
      refine ww_iload C dX10_move_13 4 rfl ?_
      refine ww_iadd C dX10_move_15 ?_
      refine ww_aload_n C dX10_move_16 rfl 0 rfl ?_
      refine ww_iload_n C dX10_move_17 rfl 1 rfl ?_
      refine ww_iload_n C dX10_move_18 rfl 2 rfl ?_
      refine ww_imul C dX10_move_19 ?_
      refine ww_iload C dX10_move_20 4 rfl ?_
      refine ww_iadd C dX10_move_22 ?_
      refine ww_iald C dX10_move_23 Tx0 E (fun _ E => ?_)
      refine ww_iast C dX10_move_24 Tx0 E (fun _ E => ?_)
      refine ww_bd E (fun dy1 E => ?_)
      refine ww_iinc (v := (x4 + (1 : Int32))) (lv' := [(4, .int (x4 + (1 : Int32))), (0, .ref (ad x0)), (1, .int x1), (2, .int x2), (3, .int x3)]) C dX10_move_25 4 rfl rfl (by decide) rfl ?_
      refine ww_goto (tgt := 3) C dX10_move_28 (by decide) ?_
      refine ww_sub (lv' := [(0, .ref (ad x0)), (1, .int x1), (2, .int x2), (3, .int x3), (4, .int (x4 + (1 : Int32)))]) [1, 2, 3, 4, 0] rfl ?_
      exact ih x0 x1 x2 x3 (x4 + (1 : Int32)) dy1 Tx0 E
end P_X10_move
set_option maxHeartbeats 4000000 in
set_option maxRecDepth 100000 in
theorem M_X10_move (l : Launch) (G : GG) (ad : Nat → Nat) {S : ST} (N : Nat) (n0 : Nat) (hG : Good S) (a0 : Nat) (a1 : Int32) (a2 : Int32) (a3 : Int32) (dy : DY) (T0 : gs S a0 = (1, n0)) {dy' : DY} (E : F_X10_move S N n0 a0 a1 a2 a3 dy = some dy') : MC l yX10_move cX10_move 5 (Option.none : Option Jvm.ClassFile.FieldType) (1) G ad [.ref (ad a0), .int a1, .int a2, .int a3] S dy (fun A => QV G ad A S dy') := by
  rw [F_X10_move_s] at E
  refine mc_of RX10 (by decide) rfl (Nat.le_of_ble_eq_true rfl) (fun p e s m args below meth c A C HR HL => ?_)
  refine ww_sub (lv' := [(0, .ref (ad a0)), (1, .int a1), (2, .int a2), (3, .int a3)]) [0, 1, 2, 3] rfl ?_
  refine ww_iconst (v := 0) C dX10_move_0 (by decide) ?_
  refine ww_istore (lv' := [(4, .int (0 : Int32)), (0, .ref (ad a0)), (1, .int a1), (2, .int a2), (3, .int a3)]) C dX10_move_1 (by decide) rfl ?_
  refine ww_sub (lv' := [(0, .ref (ad a0)), (1, .int a1), (2, .int a2), (3, .int a3), (4, .int (0 : Int32))]) [1, 2, 3, 4, 0] rfl ?_
  exact (B_X10_move_3 C HR HL hG N) a0 a1 a2 a3 (0 : Int32) dy T0 E
section P_X10_copy
variable {p : Program} {l : Launch} {e : Env} {s : State} {m : MethodId} {args : Array Value} {below : List Frame} {meth : Method} {c : Code} {G : GG} {A : Nat → Prop} {ad : Nat → Nat} {S : ST} {N : Nat} {dy' : DY}
set_option maxHeartbeats 4000000 in
set_option maxRecDepth 100000 in
theorem B_X10_copy_2 (C : CX p s m args c cX10_copy 4 RX10 G A) (HR : meth.sig.returnType = (Option.none : Option Jvm.ClassFile.FieldType)) (HL : meth.locks = false) (hG : Good S) : ∀ k : Nat, ∀ (x0 : Nat) (x1 : Int32) (x2 : Int32) (x3 : Int32) (dy : DY), gs S x0 = (0, 10) → (F_X10_copy_2 S N k) x0 x1 x2 x3 dy = some dy' → WJ p l e (rmD (2)) s m args below meth c 4 G A 0 0 (MQ below (QV G ad A S dy') args s 0 0 A) ad 2 [(0, .ref (ad x0)), (1, .int x1), (2, .int x2), (3, .int x3)] [] S dy := by
  intro k
  induction k with
  | zero => exact fun _ _ _ _ _ _ E => nomatch (show none = some dy' from E)
  | succ k ih =>
    intro x0 x1 x2 x3 dy Tx0 E
    rw [F_X10_copy_2_s] at E
    refine ww_iload_n C dX10_copy_2 rfl 3 rfl ?_
    refine ww_sipush (v := 500) C dX10_copy_3 (by decide) ?_
    refine ww_icmp_ge (tgt := 39) C dX10_copy_6 (by decide) E (fun _ E => ?_) (fun _ E => ?_)
    · refine ww_aload_n C dX10_copy_39 rfl 0 rfl ?_
      have T_1 : gs S (gr S x0 2) = (1, 4) := hG.1 _ 10 Tx0 2 (by decide)
      refine ww_getr (ci := 10) (k0 := 2) C dX10_copy_40 rfl rfl inm10 (by decide) Tx0 q1280 rfl T_1 (by decide) ?_
      refine ww_iconst (v := 1) C dX10_copy_43 (by decide) ?_
      refine ww_iload_n C dX10_copy_44 rfl 1 rfl ?_
      refine ww_iload_n C dX10_copy_45 rfl 2 rfl ?_
      obtain ⟨u2, e_3, E⟩ := bind_of E
      refine ww_callV C (runs_S (n := 4) (st := []) C [.ref (ad (gr S x0 2)), .int (1 : Int32), .int x1, .int x2] (M_X10_move l G ad N 4 hG (gr S x0 2) (1 : Int32) x1 x2 dy T_1 e_3) ⟨q1917, q118, by decide⟩ q1915 q1916 rfl (Nat.le_of_ble_eq_true rfl) ⟨Nat.le_of_ble_eq_true rfl, Nat.le_of_ble_eq_true rfl⟩ ⟨Nat.zero_le _, Nat.zero_le _⟩ dX10_copy_46 rfl) ?_
      refine ww_aload_n C dX10_copy_49 rfl 0 rfl ?_
      have T_4 : gs S (gr S x0 3) = (1, 4) := hG.1 _ 10 Tx0 3 (by decide)
      refine ww_getr (ci := 10) (k0 := 3) C dX10_copy_50 rfl rfl inm10 (by decide) Tx0 q1281 rfl T_4 (by decide) ?_
      refine ww_iconst (v := 1) C dX10_copy_53 (by decide) ?_
      refine ww_iload_n C dX10_copy_54 rfl 1 rfl ?_
      refine ww_iload_n C dX10_copy_55 rfl 2 rfl ?_
      obtain ⟨u5, e_6, E⟩ := bind_of E
      refine ww_callV C (runs_S (n := 4) (st := []) C [.ref (ad (gr S x0 3)), .int (1 : Int32), .int x1, .int x2] (M_X10_move l G ad N 4 hG (gr S x0 3) (1 : Int32) x1 x2 u2 T_4 e_6) ⟨q1917, q118, by decide⟩ q1915 q1916 rfl (Nat.le_of_ble_eq_true rfl) ⟨Nat.le_of_ble_eq_true rfl, Nat.le_of_ble_eq_true rfl⟩ ⟨Nat.zero_le _, Nat.zero_le _⟩ dX10_copy_56 rfl) ?_
      refine ww_aload_n C dX10_copy_59 rfl 0 rfl ?_
      have T_7 : gs S (gr S x0 4) = (1, 4) := hG.1 _ 10 Tx0 4 (by decide)
      refine ww_getr (ci := 10) (k0 := 4) C dX10_copy_60 rfl rfl inm10 (by decide) Tx0 q1282 rfl T_7 (by decide) ?_
      refine ww_iconst (v := 1) C dX10_copy_63 (by decide) ?_
      refine ww_iload_n C dX10_copy_64 rfl 1 rfl ?_
      refine ww_iload_n C dX10_copy_65 rfl 2 rfl ?_
      obtain ⟨u8, e_9, E⟩ := bind_of E
      refine ww_callV C (runs_S (n := 4) (st := []) C [.ref (ad (gr S x0 4)), .int (1 : Int32), .int x1, .int x2] (M_X10_move l G ad N 4 hG (gr S x0 4) (1 : Int32) x1 x2 u5 T_7 e_9) ⟨q1917, q118, by decide⟩ q1915 q1916 rfl (Nat.le_of_ble_eq_true rfl) ⟨Nat.le_of_ble_eq_true rfl, Nat.le_of_ble_eq_true rfl⟩ ⟨Nat.zero_le _, Nat.zero_le _⟩ dX10_copy_66 rfl) ?_
      refine ww_aload_n C dX10_copy_69 rfl 0 rfl ?_
      have T_10 : gs S (gr S x0 5) = (1, 4) := hG.1 _ 10 Tx0 5 (by decide)
      refine ww_getr (ci := 10) (k0 := 5) C dX10_copy_70 rfl rfl inm10 (by decide) Tx0 q1283 rfl T_10 (by decide) ?_
      refine ww_iconst (v := 1) C dX10_copy_73 (by decide) ?_
      refine ww_iload_n C dX10_copy_74 rfl 1 rfl ?_
      refine ww_iload_n C dX10_copy_75 rfl 2 rfl ?_
      obtain ⟨u11, e_12, E⟩ := bind_of E
      refine ww_callV C (runs_S (n := 4) (st := []) C [.ref (ad (gr S x0 5)), .int (1 : Int32), .int x1, .int x2] (M_X10_move l G ad N 4 hG (gr S x0 5) (1 : Int32) x1 x2 u8 T_10 e_12) ⟨q1917, q118, by decide⟩ q1915 q1916 rfl (Nat.le_of_ble_eq_true rfl) ⟨Nat.le_of_ble_eq_true rfl, Nat.le_of_ble_eq_true rfl⟩ ⟨Nat.zero_le _, Nat.zero_le _⟩ dX10_copy_76 rfl) ?_
      refine ww_aload_n C dX10_copy_79 rfl 0 rfl ?_
      have T_13 : gs S (gr S x0 6) = (1, 12) := hG.1 _ 10 Tx0 6 (by decide)
      refine ww_getr (ci := 10) (k0 := 6) C dX10_copy_80 rfl rfl inm10 (by decide) Tx0 q1284 rfl T_13 (by decide) ?_
      refine ww_iconst (v := 3) C dX10_copy_83 (by decide) ?_
      refine ww_iload_n C dX10_copy_84 rfl 1 rfl ?_
      refine ww_iload_n C dX10_copy_85 rfl 2 rfl ?_
      obtain ⟨u14, e_15, E⟩ := bind_of E
      refine ww_callV C (runs_S (n := 4) (st := []) C [.ref (ad (gr S x0 6)), .int (3 : Int32), .int x1, .int x2] (M_X10_move l G ad N 12 hG (gr S x0 6) (3 : Int32) x1 x2 u11 T_13 e_15) ⟨q1917, q118, by decide⟩ q1915 q1916 rfl (Nat.le_of_ble_eq_true rfl) ⟨Nat.le_of_ble_eq_true rfl, Nat.le_of_ble_eq_true rfl⟩ ⟨Nat.zero_le _, Nat.zero_le _⟩ dX10_copy_86 rfl) ?_
      refine ww_aload_n C dX10_copy_89 rfl 0 rfl ?_
      have T_16 : gs S (gr S x0 7) = (1, 12) := hG.1 _ 10 Tx0 7 (by decide)
      refine ww_getr (ci := 10) (k0 := 7) C dX10_copy_90 rfl rfl inm10 (by decide) Tx0 q1285 rfl T_16 (by decide) ?_
      refine ww_iconst (v := 3) C dX10_copy_93 (by decide) ?_
      refine ww_iload_n C dX10_copy_94 rfl 1 rfl ?_
      refine ww_iload_n C dX10_copy_95 rfl 2 rfl ?_
      obtain ⟨u17, e_18, E⟩ := bind_of E
      refine ww_callV C (runs_S (n := 4) (st := []) C [.ref (ad (gr S x0 7)), .int (3 : Int32), .int x1, .int x2] (M_X10_move l G ad N 12 hG (gr S x0 7) (3 : Int32) x1 x2 u14 T_16 e_18) ⟨q1917, q118, by decide⟩ q1915 q1916 rfl (Nat.le_of_ble_eq_true rfl) ⟨Nat.le_of_ble_eq_true rfl, Nat.le_of_ble_eq_true rfl⟩ ⟨Nat.zero_le _, Nat.zero_le _⟩ dX10_copy_96 rfl) ?_
      refine ww_aload_n C dX10_copy_99 rfl 0 rfl ?_
      have T_19 : gs S (gr S x0 8) = (1, 12) := hG.1 _ 10 Tx0 8 (by decide)
      refine ww_getr (ci := 10) (k0 := 8) C dX10_copy_100 rfl rfl inm10 (by decide) Tx0 q1286 rfl T_19 (by decide) ?_
      refine ww_iconst (v := 3) C dX10_copy_103 (by decide) ?_
      refine ww_iload_n C dX10_copy_104 rfl 1 rfl ?_
      refine ww_iload_n C dX10_copy_105 rfl 2 rfl ?_
      obtain ⟨u20, e_21, E⟩ := bind_of E
      refine ww_callV C (runs_S (n := 4) (st := []) C [.ref (ad (gr S x0 8)), .int (3 : Int32), .int x1, .int x2] (M_X10_move l G ad N 12 hG (gr S x0 8) (3 : Int32) x1 x2 u17 T_19 e_21) ⟨q1917, q118, by decide⟩ q1915 q1916 rfl (Nat.le_of_ble_eq_true rfl) ⟨Nat.le_of_ble_eq_true rfl, Nat.le_of_ble_eq_true rfl⟩ ⟨Nat.zero_le _, Nat.zero_le _⟩ dX10_copy_106 rfl) ?_
      refine ww_aload_n C dX10_copy_109 rfl 0 rfl ?_
      have T_22 : gs S (gr S x0 9) = (1, 12) := hG.1 _ 10 Tx0 9 (by decide)
      refine ww_getr (ci := 10) (k0 := 9) C dX10_copy_110 rfl rfl inm10 (by decide) Tx0 q1287 rfl T_22 (by decide) ?_
      refine ww_iconst (v := 3) C dX10_copy_113 (by decide) ?_
      refine ww_iload_n C dX10_copy_114 rfl 1 rfl ?_
      refine ww_iload_n C dX10_copy_115 rfl 2 rfl ?_
      obtain ⟨u23, e_24, E⟩ := bind_of E
      refine ww_callV C (runs_S (n := 4) (st := []) C [.ref (ad (gr S x0 9)), .int (3 : Int32), .int x1, .int x2] (M_X10_move l G ad N 12 hG (gr S x0 9) (3 : Int32) x1 x2 u20 T_22 e_24) ⟨q1917, q118, by decide⟩ q1915 q1916 rfl (Nat.le_of_ble_eq_true rfl) ⟨Nat.le_of_ble_eq_true rfl, Nat.le_of_ble_eq_true rfl⟩ ⟨Nat.zero_le _, Nat.zero_le _⟩ dX10_copy_116 rfl) ?_
      refine ww_aload_n C dX10_copy_119 rfl 0 rfl ?_
      have T_25 : gs S (gr S x0 10) = (1, 1152) := hG.1 _ 10 Tx0 10 (by decide)
      refine ww_getr (ci := 10) (k0 := 10) C dX10_copy_120 rfl rfl inm10 (by decide) Tx0 q1288 rfl T_25 (by decide) ?_
      refine ww_sipush (v := 288) C dX10_copy_123 (by decide) ?_
      refine ww_iload_n C dX10_copy_126 rfl 1 rfl ?_
      refine ww_iload_n C dX10_copy_127 rfl 2 rfl ?_
      obtain ⟨u26, e_27, E⟩ := bind_of E
      refine ww_callV C (runs_S (n := 4) (st := []) C [.ref (ad (gr S x0 10)), .int (288 : Int32), .int x1, .int x2] (M_X10_move l G ad N 1152 hG (gr S x0 10) (288 : Int32) x1 x2 u23 T_25 e_27) ⟨q1917, q118, by decide⟩ q1915 q1916 rfl (Nat.le_of_ble_eq_true rfl) ⟨Nat.le_of_ble_eq_true rfl, Nat.le_of_ble_eq_true rfl⟩ ⟨Nat.zero_le _, Nat.zero_le _⟩ dX10_copy_128 rfl) ?_
      refine ww_aload_n C dX10_copy_131 rfl 0 rfl ?_
      have T_28 : gs S (gr S x0 11) = (1, 1152) := hG.1 _ 10 Tx0 11 (by decide)
      refine ww_getr (ci := 10) (k0 := 11) C dX10_copy_132 rfl rfl inm10 (by decide) Tx0 q1289 rfl T_28 (by decide) ?_
      refine ww_sipush (v := 288) C dX10_copy_135 (by decide) ?_
      refine ww_iload_n C dX10_copy_138 rfl 1 rfl ?_
      refine ww_iload_n C dX10_copy_139 rfl 2 rfl ?_
      obtain ⟨u29, e_30, E⟩ := bind_of E
      refine ww_callV C (runs_S (n := 4) (st := []) C [.ref (ad (gr S x0 11)), .int (288 : Int32), .int x1, .int x2] (M_X10_move l G ad N 1152 hG (gr S x0 11) (288 : Int32) x1 x2 u26 T_28 e_30) ⟨q1917, q118, by decide⟩ q1915 q1916 rfl (Nat.le_of_ble_eq_true rfl) ⟨Nat.le_of_ble_eq_true rfl, Nat.le_of_ble_eq_true rfl⟩ ⟨Nat.zero_le _, Nat.zero_le _⟩ dX10_copy_140 rfl) ?_
      refine ww_aload_n C dX10_copy_143 rfl 0 rfl ?_
      have T_31 : gs S (gr S x0 12) = (1, 4) := hG.1 _ 10 Tx0 12 (by decide)
      refine ww_getr (ci := 10) (k0 := 12) C dX10_copy_144 rfl rfl inm10 (by decide) Tx0 q1290 rfl T_31 (by decide) ?_
      refine ww_iconst (v := 1) C dX10_copy_147 (by decide) ?_
      refine ww_iload_n C dX10_copy_148 rfl 1 rfl ?_
      refine ww_iload_n C dX10_copy_149 rfl 2 rfl ?_
      obtain ⟨u32, e_33, E⟩ := bind_of E
      refine ww_callV C (runs_S (n := 4) (st := []) C [.ref (ad (gr S x0 12)), .int (1 : Int32), .int x1, .int x2] (M_X10_move l G ad N 4 hG (gr S x0 12) (1 : Int32) x1 x2 u29 T_31 e_33) ⟨q1917, q118, by decide⟩ q1915 q1916 rfl (Nat.le_of_ble_eq_true rfl) ⟨Nat.le_of_ble_eq_true rfl, Nat.le_of_ble_eq_true rfl⟩ ⟨Nat.zero_le _, Nat.zero_le _⟩ dX10_copy_150 rfl) ?_
      refine ww_aload_n C dX10_copy_153 rfl 0 rfl ?_
      have T_34 : gs S (gr S x0 13) = (1, 12) := hG.1 _ 10 Tx0 13 (by decide)
      refine ww_getr (ci := 10) (k0 := 13) C dX10_copy_154 rfl rfl inm10 (by decide) Tx0 q1291 rfl T_34 (by decide) ?_
      refine ww_iconst (v := 3) C dX10_copy_157 (by decide) ?_
      refine ww_iload_n C dX10_copy_158 rfl 1 rfl ?_
      refine ww_iload_n C dX10_copy_159 rfl 2 rfl ?_
      obtain ⟨u35, e_36, E⟩ := bind_of E
      refine ww_callV C (runs_S (n := 4) (st := []) C [.ref (ad (gr S x0 13)), .int (3 : Int32), .int x1, .int x2] (M_X10_move l G ad N 12 hG (gr S x0 13) (3 : Int32) x1 x2 u32 T_34 e_36) ⟨q1917, q118, by decide⟩ q1915 q1916 rfl (Nat.le_of_ble_eq_true rfl) ⟨Nat.le_of_ble_eq_true rfl, Nat.le_of_ble_eq_true rfl⟩ ⟨Nat.zero_le _, Nat.zero_le _⟩ dX10_copy_160 rfl) ?_
      refine ww_aload_n C dX10_copy_163 rfl 0 rfl ?_
      have T_37 : gs S (gr S x0 14) = (1, 3456) := hG.1 _ 10 Tx0 14 (by decide)
      refine ww_getr (ci := 10) (k0 := 14) C dX10_copy_164 rfl rfl inm10 (by decide) Tx0 q1292 rfl T_37 (by decide) ?_
      refine ww_sipush (v := 864) C dX10_copy_167 (by decide) ?_
      refine ww_iload_n C dX10_copy_170 rfl 1 rfl ?_
      refine ww_iload_n C dX10_copy_171 rfl 2 rfl ?_
      obtain ⟨u38, e_39, E⟩ := bind_of E
      refine ww_callV C (runs_S (n := 4) (st := []) C [.ref (ad (gr S x0 14)), .int (864 : Int32), .int x1, .int x2] (M_X10_move l G ad N 3456 hG (gr S x0 14) (864 : Int32) x1 x2 u35 T_37 e_39) ⟨q1917, q118, by decide⟩ q1915 q1916 rfl (Nat.le_of_ble_eq_true rfl) ⟨Nat.le_of_ble_eq_true rfl, Nat.le_of_ble_eq_true rfl⟩ ⟨Nat.zero_le _, Nat.zero_le _⟩ dX10_copy_172 rfl) ?_
      refine ww_aload_n C dX10_copy_175 rfl 0 rfl ?_
      have T_40 : gs S (gr S x0 15) = (1, 32) := hG.1 _ 10 Tx0 15 (by decide)
      refine ww_getr (ci := 10) (k0 := 15) C dX10_copy_176 rfl rfl inm10 (by decide) Tx0 q1293 rfl T_40 (by decide) ?_
      refine ww_bipush (v := 8) C dX10_copy_179 (by decide) ?_
      refine ww_iload_n C dX10_copy_181 rfl 1 rfl ?_
      refine ww_iload_n C dX10_copy_182 rfl 2 rfl ?_
      obtain ⟨u41, e_42, E⟩ := bind_of E
      refine ww_callV C (runs_S (n := 4) (st := []) C [.ref (ad (gr S x0 15)), .int (8 : Int32), .int x1, .int x2] (M_X10_move l G ad N 32 hG (gr S x0 15) (8 : Int32) x1 x2 u38 T_40 e_42) ⟨q1917, q118, by decide⟩ q1915 q1916 rfl (Nat.le_of_ble_eq_true rfl) ⟨Nat.le_of_ble_eq_true rfl, Nat.le_of_ble_eq_true rfl⟩ ⟨Nat.zero_le _, Nat.zero_le _⟩ dX10_copy_183 rfl) ?_
      refine ww_aload_n C dX10_copy_186 rfl 0 rfl ?_
      have T_43 : gs S (gr S x0 16) = (1, 192) := hG.1 _ 10 Tx0 16 (by decide)
      refine ww_getr (ci := 10) (k0 := 16) C dX10_copy_187 rfl rfl inm10 (by decide) Tx0 q1294 rfl T_43 (by decide) ?_
      refine ww_bipush (v := 48) C dX10_copy_190 (by decide) ?_
      refine ww_iload_n C dX10_copy_192 rfl 1 rfl ?_
      refine ww_iload_n C dX10_copy_193 rfl 2 rfl ?_
      obtain ⟨u44, e_45, E⟩ := bind_of E
      refine ww_callV C (runs_S (n := 4) (st := []) C [.ref (ad (gr S x0 16)), .int (48 : Int32), .int x1, .int x2] (M_X10_move l G ad N 192 hG (gr S x0 16) (48 : Int32) x1 x2 u41 T_43 e_45) ⟨q1917, q118, by decide⟩ q1915 q1916 rfl (Nat.le_of_ble_eq_true rfl) ⟨Nat.le_of_ble_eq_true rfl, Nat.le_of_ble_eq_true rfl⟩ ⟨Nat.zero_le _, Nat.zero_le _⟩ dX10_copy_194 rfl) ?_
      refine ww_aload_n C dX10_copy_197 rfl 0 rfl ?_
      have T_46 : gs S (gr S x0 17) = (1, 192) := hG.1 _ 10 Tx0 17 (by decide)
      refine ww_getr (ci := 10) (k0 := 17) C dX10_copy_198 rfl rfl inm10 (by decide) Tx0 q1295 rfl T_46 (by decide) ?_
      refine ww_bipush (v := 48) C dX10_copy_201 (by decide) ?_
      refine ww_iload_n C dX10_copy_203 rfl 1 rfl ?_
      refine ww_iload_n C dX10_copy_204 rfl 2 rfl ?_
      obtain ⟨u47, e_48, E⟩ := bind_of E
      refine ww_callV C (runs_S (n := 4) (st := []) C [.ref (ad (gr S x0 17)), .int (48 : Int32), .int x1, .int x2] (M_X10_move l G ad N 192 hG (gr S x0 17) (48 : Int32) x1 x2 u44 T_46 e_48) ⟨q1917, q118, by decide⟩ q1915 q1916 rfl (Nat.le_of_ble_eq_true rfl) ⟨Nat.le_of_ble_eq_true rfl, Nat.le_of_ble_eq_true rfl⟩ ⟨Nat.zero_le _, Nat.zero_le _⟩ dX10_copy_205 rfl) ?_
      refine ww_aload_n C dX10_copy_208 rfl 0 rfl ?_
      have T_49 : gs S (gr S x0 39) = (1, 10080) := hG.1 _ 10 Tx0 39 (by decide)
      refine ww_getr (ci := 10) (k0 := 39) C dX10_copy_209 rfl rfl inm10 (by decide) Tx0 q1317 rfl T_49 (by decide) ?_
      refine ww_sipush (v := 720) C dX10_copy_212 (by decide) ?_
      refine ww_iload_n C dX10_copy_215 rfl 1 rfl ?_
      refine ww_iload_n C dX10_copy_216 rfl 2 rfl ?_
      obtain ⟨u50, e_51, E⟩ := bind_of E
      refine ww_callV C (runs_S (n := 4) (st := []) C [.ref (ad (gr S x0 39)), .int (720 : Int32), .int x1, .int x2] (M_X10_move l G ad N 10080 hG (gr S x0 39) (720 : Int32) x1 x2 u47 T_49 e_51) ⟨q1917, q118, by decide⟩ q1915 q1916 rfl (Nat.le_of_ble_eq_true rfl) ⟨Nat.le_of_ble_eq_true rfl, Nat.le_of_ble_eq_true rfl⟩ ⟨Nat.zero_le _, Nat.zero_le _⟩ dX10_copy_217 rfl) ?_
      exact ww_vret C HR HL dX10_copy_220 E
    · refine ww_aload_n C dX10_copy_9 rfl 0 rfl ?_
      have T_52 : gs S (gr S x0 1) = (2, 2000) := hG.1 _ 10 Tx0 1 (by decide)
      refine ww_getr (ci := 10) (k0 := 1) C dX10_copy_10 rfl rfl inm10 (by decide) Tx0 q1279 rfl T_52 (by decide) ?_
      refine ww_sipush (v := 500) C dX10_copy_13 (by decide) ?_
      refine ww_iload_n C dX10_copy_16 rfl 2 rfl ?_
      refine ww_imul C dX10_copy_17 ?_
      refine ww_iload_n C dX10_copy_18 rfl 3 rfl ?_
      refine ww_iadd C dX10_copy_19 ?_
      refine ww_aload_n C dX10_copy_20 rfl 0 rfl ?_
      have T_53 : gs S (gr S x0 1) = (2, 2000) := hG.1 _ 10 Tx0 1 (by decide)
      refine ww_getr (ci := 10) (k0 := 1) C dX10_copy_21 rfl rfl inm10 (by decide) Tx0 q1279 rfl T_53 (by decide) ?_
      refine ww_sipush (v := 500) C dX10_copy_24 (by decide) ?_
      refine ww_iload_n C dX10_copy_27 rfl 1 rfl ?_
      refine ww_imul C dX10_copy_28 ?_
      refine ww_iload_n C dX10_copy_29 rfl 3 rfl ?_
      refine ww_iadd C dX10_copy_30 ?_
      refine ww_bald C dX10_copy_31 T_53 E (fun _ E => ?_)
      refine ww_bast C dX10_copy_32 T_52 E (fun _ E => ?_)
      refine ww_bd E (fun dy54 E => ?_)
      refine ww_iinc (v := (x3 + (1 : Int32))) (lv' := [(3, .int (x3 + (1 : Int32))), (0, .ref (ad x0)), (1, .int x1), (2, .int x2)]) C dX10_copy_33 3 rfl rfl (by decide) rfl ?_
      refine ww_goto (tgt := 2) C dX10_copy_36 (by decide) ?_
      refine ww_sub (lv' := [(0, .ref (ad x0)), (1, .int x1), (2, .int x2), (3, .int (x3 + (1 : Int32)))]) [1, 2, 3, 0] rfl ?_
      exact ih x0 x1 x2 (x3 + (1 : Int32)) dy54 Tx0 E
end P_X10_copy
set_option maxHeartbeats 4000000 in
set_option maxRecDepth 100000 in
theorem M_X10_copy (l : Launch) (G : GG) (ad : Nat → Nat) {S : ST} (N : Nat) (hG : Good S) (a0 : Nat) (a1 : Int32) (a2 : Int32) (dy : DY) (T0 : gs S a0 = (0, 10)) {dy' : DY} (E : F_X10_copy S N a0 a1 a2 dy = some dy') : MC l yX10_copy cX10_copy 4 (Option.none : Option Jvm.ClassFile.FieldType) (2) G ad [.ref (ad a0), .int a1, .int a2] S dy (fun A => QV G ad A S dy') := by
  rw [F_X10_copy_s] at E
  refine mc_of RX10 (by decide) rfl (Nat.le_of_ble_eq_true rfl) (fun p e s m args below meth c A C HR HL => ?_)
  refine ww_sub (lv' := [(0, .ref (ad a0)), (1, .int a1), (2, .int a2)]) [0, 1, 2] rfl ?_
  refine ww_iconst (v := 0) C dX10_copy_0 (by decide) ?_
  refine ww_istore_n (lv' := [(3, .int (0 : Int32)), (0, .ref (ad a0)), (1, .int a1), (2, .int a2)]) C dX10_copy_1 rfl (by decide) rfl ?_
  refine ww_sub (lv' := [(0, .ref (ad a0)), (1, .int a1), (2, .int a2), (3, .int (0 : Int32))]) [1, 2, 3, 0] rfl ?_
  exact (B_X10_copy_2 C HR HL hG N) a0 a1 a2 (0 : Int32) dy T0 E
section P_X10_again
variable {p : Program} {l : Launch} {e : Env} {s : State} {m : MethodId} {args : Array Value} {below : List Frame} {meth : Method} {c : Code} {G : GG} {A : Nat → Prop} {ad : Nat → Nat} {S : ST} {N : Nat} {r : Int32} {dy' : DY}
end P_X10_again
set_option maxHeartbeats 4000000 in
set_option maxRecDepth 100000 in
theorem M_X10_again (l : Launch) (G : GG) (ad : Nat → Nat) {S : ST} (N : Nat) (hG : Good S) (a0 : Nat) (a1 : Int32) (dy : DY) (T0 : gs S a0 = (0, 10)) {r : Int32} {dy' : DY} (E : F_X10_again S N a0 a1 dy = some (r, dy')) : MC l yX10_again cX10_again 2 (Option.some Jvm.ClassFile.FieldType.boolean) (3) G ad [.ref (ad a0), .int a1] S dy (fun A => QI G ad A S r dy') := by
  rw [F_X10_again_s] at E
  refine mc_of RX10 (by decide) rfl (Nat.le_of_ble_eq_true rfl) (fun p e s m args below meth c A C HR HL => ?_)
  refine ww_sub (lv' := [(0, .ref (ad a0)), (1, .int a1)]) [0, 1] rfl ?_
  refine ww_aload_n C dX10_again_0 rfl 0 rfl ?_
  refine ww_iconst (v := 0) C dX10_again_1 (by decide) ?_
  refine ww_puti (ci := 10) (k0 := 0) C dX10_again_2 rfl rfl inm10 tyX10_ok nmX10 (by decide) T0 q1278 rfl rfl rfl ?_
  refine ww_bd E (fun dy1 E => ?_)
  refine ww_iload_n C dX10_again_5 rfl 1 rfl ?_
  refine ww_iconst (v := 0) C dX10_again_6 (by decide) ?_
  refine ww_iconst (v := 2) C dX10_again_7 (by decide) ?_
  obtain ⟨u2, e_3, E⟩ := bind_of E
  refine ww_callI C (runs_S (n := 3) (st := []) C [.int a1, .int (0 : Int32), .int (2 : Int32)] (M_X10_in l G ad N hG a1 (0 : Int32) (2 : Int32) dy1 e_3) ⟨q1476, q118, by decide⟩ q1474 q1475 rfl (Nat.le_of_ble_eq_true rfl) ⟨Nat.le_of_ble_eq_true rfl, Nat.le_of_ble_eq_true rfl⟩ ⟨Nat.zero_le _, Nat.zero_le _⟩ dX10_again_8 rfl) ?_
  refine ww_if_eq (tgt := 23) C dX10_again_11 (by decide) E (fun _ E => ?_) (fun _ E => ?_)
  · refine ww_iconst (v := 0) C dX10_again_23 (by decide) ?_
    exact ww_zret C HR HL dX10_again_24 (Or.inl rfl) E
  · refine ww_aload_n C dX10_again_14 rfl 0 rfl ?_
    have T_4 : gs S (gr S a0 60) = (3, 3) := hG.1 _ 10 T0 60 (by decide)
    refine ww_getr (ci := 10) (k0 := 60) C dX10_again_15 rfl rfl inm10 (by decide) T0 q1338 rfl T_4 (by decide) ?_
    refine ww_iload_n C dX10_again_18 rfl 1 rfl ?_
    refine ww_zald C dX10_again_19 T_4 E (fun _ E => ?_)
    refine ww_if_ne (tgt := 25) C dX10_again_20 (by decide) E (fun _ E => ?_) (fun _ E => ?_)
    · refine ww_aload_n C dX10_again_25 rfl 0 rfl ?_
      refine ww_iload_n C dX10_again_26 rfl 1 rfl ?_
      refine ww_iconst (v := 1) C dX10_again_27 (by decide) ?_
      refine ww_iadd C dX10_again_28 ?_
      refine ww_iconst (v := 0) C dX10_again_29 (by decide) ?_
      obtain ⟨u5, e_6, E⟩ := bind_of E
      refine ww_callV C (runs_V (n := 2) (st := []) C [.int (a1 + (1 : Int32)), .int (0 : Int32)] (M_X10_copy l G ad N hG a0 (a1 + (1 : Int32)) (0 : Int32) u2.2 T0 e_6) ⟨q1914, q118, by decide⟩ q1911 q1913 q106 (ci := 10) rfl T0 rfl (Nat.le_of_ble_eq_true rfl) ⟨Nat.le_of_ble_eq_true rfl, Nat.le_of_ble_eq_true rfl⟩ ⟨Nat.zero_le _, Nat.zero_le _⟩ dX10_again_30 rfl) ?_
      refine ww_iconst (v := 1) C dX10_again_33 (by decide) ?_
      exact ww_zret C HR HL dX10_again_34 (Or.inr rfl) E
    · refine ww_iconst (v := 0) C dX10_again_23 (by decide) ?_
      exact ww_zret C HR HL dX10_again_24 (Or.inl rfl) E
section P_X10_isThere
variable {p : Program} {l : Launch} {e : Env} {s : State} {m : MethodId} {args : Array Value} {below : List Frame} {meth : Method} {c : Code} {G : GG} {A : Nat → Prop} {ad : Nat → Nat} {S : ST} {N : Nat} {r : Int32} {dy' : DY}
end P_X10_isThere
set_option maxHeartbeats 4000000 in
set_option maxRecDepth 100000 in
theorem M_X10_isThere (l : Launch) (G : GG) (ad : Nat → Nat) {S : ST} (N : Nat) (hG : Good S) (a0 : Nat) (a1 : Int32) (a2 : Int32) (dy : DY) (T0 : gs S a0 = (0, 10)) {r : Int32} {dy' : DY} (E : F_X10_isThere S N a0 a1 a2 dy = some (r, dy')) : MC l yX10_isThere cX10_isThere 3 (Option.some Jvm.ClassFile.FieldType.boolean) (2) G ad [.ref (ad a0), .int a1, .int a2] S dy (fun A => QI G ad A S r dy') := by
  rw [F_X10_isThere_s] at E
  refine mc_of RX10 (by decide) rfl (Nat.le_of_ble_eq_true rfl) (fun p e s m args below meth c A C HR HL => ?_)
  refine ww_sub (lv' := [(0, .ref (ad a0)), (1, .int a1), (2, .int a2)]) [0, 1, 2] rfl ?_
  refine ww_aload_n C dX10_isThere_0 rfl 0 rfl ?_
  have T_1 : gs S (gr S a0 39) = (1, 10080) := hG.1 _ 10 T0 39 (by decide)
  refine ww_getr (ci := 10) (k0 := 39) C dX10_isThere_1 rfl rfl inm10 (by decide) T0 q1317 rfl T_1 (by decide) ?_
  refine ww_iload_n C dX10_isThere_4 rfl 1 rfl ?_
  refine ww_iload_n C dX10_isThere_5 rfl 2 rfl ?_
  obtain ⟨u2, e_3, E⟩ := bind_of E
  refine ww_callI C (runs_S (n := 2) (st := [.ref (ad (gr S a0 39))]) C [.int a1, .int a2] (M_X10_at l G ad N hG a1 a2 dy e_3) ⟨q1644, q118, by decide⟩ q1642 q1643 rfl (Nat.le_of_ble_eq_true rfl) ⟨Nat.le_of_ble_eq_true rfl, Nat.le_of_ble_eq_true rfl⟩ ⟨Nat.zero_le _, Nat.zero_le _⟩ dX10_isThere_6 rfl) ?_
  refine ww_iald C dX10_isThere_9 T_1 E (fun _ E => ?_)
  refine ww_iconst (v := (-1)) C dX10_isThere_10 (by decide) ?_
  refine ww_icmp_eq (tgt := 18) C dX10_isThere_11 (by decide) E (fun _ E => ?_) (fun _ E => ?_)
  · refine ww_iconst (v := 0) C dX10_isThere_18 (by decide) ?_
    exact ww_zret C HR HL dX10_isThere_19 (Or.inl rfl) E
  · refine ww_iconst (v := 1) C dX10_isThere_14 (by decide) ?_
    refine ww_goto (tgt := 19) C dX10_isThere_15 (by decide) ?_
    exact ww_zret C HR HL dX10_isThere_19 (Or.inr rfl) E
section P_X10_lotIsRight
variable {p : Program} {l : Launch} {e : Env} {s : State} {m : MethodId} {args : Array Value} {below : List Frame} {meth : Method} {c : Code} {G : GG} {A : Nat → Prop} {ad : Nat → Nat} {S : ST} {N : Nat} {r : Int32} {dy' : DY}
end P_X10_lotIsRight
set_option maxHeartbeats 4000000 in
set_option maxRecDepth 100000 in
theorem M_X10_lotIsRight (l : Launch) (G : GG) (ad : Nat → Nat) {S : ST} (N : Nat) (hG : Good S) (a0 : Nat) (a1 : Int32) (dy : DY) (T0 : gs S a0 = (0, 10)) {r : Int32} {dy' : DY} (E : F_X10_lotIsRight S N a0 a1 dy = some (r, dy')) : MC l yX10_lotIsRight cX10_lotIsRight 3 (Option.some Jvm.ClassFile.FieldType.boolean) (1) G ad [.ref (ad a0), .int a1] S dy (fun A => QI G ad A S r dy') := by
  rw [F_X10_lotIsRight_s] at E
  refine mc_of RX10 (by decide) rfl (Nat.le_of_ble_eq_true rfl) (fun p e s m args below meth c A C HR HL => ?_)
  refine ww_sub (lv' := [(0, .ref (ad a0)), (1, .int a1)]) [0, 1] rfl ?_
  refine ww_aload_n C dX10_lotIsRight_0 rfl 0 rfl ?_
  refine ww_dup C dX10_lotIsRight_1 rfl ?_
  refine ww_geti (ci := 10) (k0 := 47) C dX10_lotIsRight_2 rfl rfl inm10 (by decide) T0 q1325 rfl ?_
  refine ww_iconst (v := 1) C dX10_lotIsRight_5 (by decide) ?_
  refine ww_iadd C dX10_lotIsRight_6 ?_
  refine ww_puti (ci := 10) (k0 := 47) C dX10_lotIsRight_7 rfl rfl inm10 tyX10_ok nmX10 (by decide) T0 q1325 rfl rfl rfl ?_
  refine ww_bd E (fun dy1 E => ?_)
  refine ww_aload_n C dX10_lotIsRight_10 rfl 0 rfl ?_
  have T_2 : gs S (gr S a0 39) = (1, 10080) := hG.1 _ 10 T0 39 (by decide)
  refine ww_getr (ci := 10) (k0 := 39) C dX10_lotIsRight_11 rfl rfl inm10 (by decide) T0 q1317 rfl T_2 (by decide) ?_
  refine ww_sipush (v := 720) C dX10_lotIsRight_14 (by decide) ?_
  refine ww_iload_n C dX10_lotIsRight_17 rfl 1 rfl ?_
  refine ww_imul C dX10_lotIsRight_18 ?_
  refine ww_iconst (v := 5) C dX10_lotIsRight_19 (by decide) ?_
  refine ww_iadd C dX10_lotIsRight_20 ?_
  refine ww_dup2 C dX10_lotIsRight_21 rfl rfl ?_
  refine ww_iald C dX10_lotIsRight_22 T_2 E (fun _ E => ?_)
  refine ww_iconst (v := 1) C dX10_lotIsRight_23 (by decide) ?_
  refine ww_iadd C dX10_lotIsRight_24 ?_
  refine ww_iast C dX10_lotIsRight_25 T_2 E (fun _ E => ?_)
  refine ww_bd E (fun dy3 E => ?_)
  refine ww_aload_n C dX10_lotIsRight_26 rfl 0 rfl ?_
  refine ww_getz (ci := 10) (k0 := 45) C dX10_lotIsRight_27 rfl rfl inm10 (by decide) T0 q1323 rfl ?_
  refine ww_if_eq (tgt := 55) C dX10_lotIsRight_30 (by decide) E (fun _ E => ?_) (fun _ E => ?_)
  · refine ww_aload_n C dX10_lotIsRight_55 rfl 0 rfl ?_
    have T_4 : gs S (gr S a0 39) = (1, 10080) := hG.1 _ 10 T0 39 (by decide)
    refine ww_getr (ci := 10) (k0 := 39) C dX10_lotIsRight_56 rfl rfl inm10 (by decide) T0 q1317 rfl T_4 (by decide) ?_
    refine ww_sipush (v := 720) C dX10_lotIsRight_59 (by decide) ?_
    refine ww_iload_n C dX10_lotIsRight_62 rfl 1 rfl ?_
    refine ww_imul C dX10_lotIsRight_63 ?_
    refine ww_iconst (v := 4) C dX10_lotIsRight_64 (by decide) ?_
    refine ww_iadd C dX10_lotIsRight_65 ?_
    refine ww_iald C dX10_lotIsRight_66 T_4 E (fun _ E => ?_)
    refine ww_ldcw (v := (1103515245)) C dX10_lotIsRight_67 q1721 ?_
    refine ww_imul C dX10_lotIsRight_70 ?_
    refine ww_sipush (v := 12345) C dX10_lotIsRight_71 (by decide) ?_
    refine ww_iadd C dX10_lotIsRight_74 ?_
    refine ww_istore_n (lv' := [(2, .int (((gi dy3 (gr S a0 39) (((720 : Int32) * a1) + (4 : Int32)).toNatClampNeg) * (1103515245 : Int32)) + (12345 : Int32))), (0, .ref (ad a0)), (1, .int a1)]) C dX10_lotIsRight_75 rfl (by decide) rfl ?_
    refine ww_aload_n C dX10_lotIsRight_76 rfl 1 rfl ?_
    have T_5 : gs S (gr S a0 39) = (1, 10080) := hG.1 _ 10 T0 39 (by decide)
    refine ww_getr (ci := 10) (k0 := 39) C dX10_lotIsRight_77 rfl rfl inm10 (by decide) T0 q1317 rfl T_5 (by decide) ?_
    refine ww_sipush (v := 720) C dX10_lotIsRight_80 (by decide) ?_
    refine ww_iload_n C dX10_lotIsRight_83 rfl 2 rfl ?_
    refine ww_imul C dX10_lotIsRight_84 ?_
    refine ww_iconst (v := 4) C dX10_lotIsRight_85 (by decide) ?_
    refine ww_iadd C dX10_lotIsRight_86 ?_
    refine ww_iload_n C dX10_lotIsRight_87 rfl 0 rfl ?_
    refine ww_iast C dX10_lotIsRight_88 T_5 E (fun _ E => ?_)
    refine ww_bd E (fun dy6 E => ?_)
    refine ww_iload_n C dX10_lotIsRight_89 rfl 0 rfl ?_
    refine ww_bipush (v := 16) C dX10_lotIsRight_90 (by decide) ?_
    refine ww_ishr C dX10_lotIsRight_92 ?_
    refine ww_iconst (v := 1) C dX10_lotIsRight_93 (by decide) ?_
    refine ww_iand C dX10_lotIsRight_94 ?_
    refine ww_if_ne (tgt := 102) C dX10_lotIsRight_95 (by decide) E (fun _ E => ?_) (fun _ E => ?_)
    · refine ww_iconst (v := 0) C dX10_lotIsRight_102 (by decide) ?_
      exact ww_zret C HR HL dX10_lotIsRight_103 (Or.inl rfl) E
    · refine ww_iconst (v := 1) C dX10_lotIsRight_98 (by decide) ?_
      refine ww_goto (tgt := 103) C dX10_lotIsRight_99 (by decide) ?_
      exact ww_zret C HR HL dX10_lotIsRight_103 (Or.inr rfl) E
  · refine ww_aload_n C dX10_lotIsRight_33 rfl 0 rfl ?_
    refine ww_geti (ci := 10) (k0 := 46) C dX10_lotIsRight_34 rfl rfl inm10 (by decide) T0 q1324 rfl ?_
    refine ww_aload_n C dX10_lotIsRight_37 rfl 0 rfl ?_
    refine ww_geti (ci := 10) (k0 := 47) C dX10_lotIsRight_38 rfl rfl inm10 (by decide) T0 q1325 rfl ?_
    refine ww_iconst (v := 1) C dX10_lotIsRight_41 (by decide) ?_
    refine ww_isub C dX10_lotIsRight_42 ?_
    refine ww_ishr C dX10_lotIsRight_43 ?_
    refine ww_iconst (v := 1) C dX10_lotIsRight_44 (by decide) ?_
    refine ww_iand C dX10_lotIsRight_45 ?_
    refine ww_if_ne (tgt := 53) C dX10_lotIsRight_46 (by decide) E (fun _ E => ?_) (fun _ E => ?_)
    · refine ww_iconst (v := 0) C dX10_lotIsRight_53 (by decide) ?_
      exact ww_zret C HR HL dX10_lotIsRight_54 (Or.inl rfl) E
    · refine ww_iconst (v := 1) C dX10_lotIsRight_49 (by decide) ?_
      refine ww_goto (tgt := 54) C dX10_lotIsRight_50 (by decide) ?_
      exact ww_zret C HR HL dX10_lotIsRight_54 (Or.inr rfl) E
section P_X10_aimBy
variable {p : Program} {l : Launch} {e : Env} {s : State} {m : MethodId} {args : Array Value} {below : List Frame} {meth : Method} {c : Code} {G : GG} {A : Nat → Prop} {ad : Nat → Nat} {S : ST} {N : Nat} {r : Int32} {dy' : DY}
set_option maxHeartbeats 4000000 in
set_option maxRecDepth 100000 in
theorem B_X10_aimBy_65 (C : CX p s m args c cX10_aimBy 5 RX10 G A) (HR : meth.sig.returnType = (Option.some Jvm.ClassFile.FieldType.int)) (HL : meth.locks = false) (hG : Good S) : ∀ (x0 : Nat) (x1 : Int32) (dy : DY), gs S x0 = (0, 10) → F_X10_aimBy_65 S N x0 x1 dy = some (r, dy') → WJ p l e (rmD (8)) s m args below meth c 5 G A 0 0 (MQ below (QI G ad A S r dy') args s 0 0 A) ad 65 [(0, .ref (ad x0)), (1, .int x1)] [] S dy := by
  intro x0 x1 dy Tx0 E
  rw [F_X10_aimBy_65_s] at E
  refine ww_aload_n C dX10_aimBy_65 rfl 0 rfl ?_
  refine ww_iload_n C dX10_aimBy_66 rfl 1 rfl ?_
  obtain ⟨u1, e_2, E⟩ := bind_of E
  refine ww_callI C (runs_V (n := 1) (st := []) C [.int x1] (M_X10_lotIsRight l G ad N hG x0 x1 dy Tx0 e_2) ⟨q1720, q118, by decide⟩ q1717 q1719 q84 (ci := 10) rfl Tx0 rfl (Nat.le_of_ble_eq_true rfl) ⟨Nat.le_of_ble_eq_true rfl, Nat.le_of_ble_eq_true rfl⟩ ⟨Nat.zero_le _, Nat.zero_le _⟩ dX10_aimBy_67 rfl) ?_
  refine ww_if_eq (tgt := 77) C dX10_aimBy_70 (by decide) E (fun _ E => ?_) (fun _ E => ?_)
  · refine ww_iconst (v := 2) C dX10_aimBy_77 (by decide) ?_
    refine ww_goto (tgt := 82) C dX10_aimBy_78 (by decide) ?_
    exact ww_iret C HR HL dX10_aimBy_82 E
  · refine ww_iconst (v := 1) C dX10_aimBy_73 (by decide) ?_
    refine ww_goto (tgt := 82) C dX10_aimBy_74 (by decide) ?_
    exact ww_iret C HR HL dX10_aimBy_82 E
set_option maxHeartbeats 4000000 in
set_option maxRecDepth 100000 in
theorem B_X10_aimBy_55 (C : CX p s m args c cX10_aimBy 5 RX10 G A) (HR : meth.sig.returnType = (Option.some Jvm.ClassFile.FieldType.int)) (HL : meth.locks = false) (hG : Good S) : ∀ (x0 : Nat) (x1 : Int32) (x3 : Int32) (dy : DY), gs S x0 = (0, 10) → F_X10_aimBy_55 S N x0 x1 x3 dy = some (r, dy') → WJ p l e (rmD (8)) s m args below meth c 5 G A 0 0 (MQ below (QI G ad A S r dy') args s 0 0 A) ad 55 [(0, .ref (ad x0)), (1, .int x1), (3, .int x3)] [] S dy := by
  intro x0 x1 x3 dy Tx0 E
  rw [F_X10_aimBy_55_s] at E
  refine ww_iload_n C dX10_aimBy_55 rfl 2 rfl ?_
  refine ww_iconst (v := 3) C dX10_aimBy_56 (by decide) ?_
  refine ww_icmp_eq (tgt := 65) C dX10_aimBy_57 (by decide) E (fun _ E => ?_) (fun _ E => ?_)
  · refine ww_sub (lv' := [(0, .ref (ad x0)), (1, .int x1)]) [0, 1] rfl ?_
    exact (B_X10_aimBy_65 C HR HL hG) x0 x1 dy Tx0 E
  · refine ww_iload_n C dX10_aimBy_60 rfl 2 rfl ?_
    refine ww_iconst (v := 4) C dX10_aimBy_61 (by decide) ?_
    refine ww_icmp_ne (tgt := 81) C dX10_aimBy_62 (by decide) E (fun _ E => ?_) (fun _ E => ?_)
    · refine ww_iload_n C dX10_aimBy_81 rfl 2 rfl ?_
      exact ww_iret C HR HL dX10_aimBy_82 E
    · refine ww_sub (lv' := [(0, .ref (ad x0)), (1, .int x1)]) [0, 1] rfl ?_
      exact (B_X10_aimBy_65 C HR HL hG) x0 x1 dy Tx0 E
end P_X10_aimBy
set_option maxHeartbeats 4000000 in
set_option maxRecDepth 100000 in
theorem M_X10_aimBy (l : Launch) (G : GG) (ad : Nat → Nat) {S : ST} (N : Nat) (hG : Good S) (a0 : Nat) (a1 : Int32) (a2 : Int32) (dy : DY) (T0 : gs S a0 = (0, 10)) {r : Int32} {dy' : DY} (E : F_X10_aimBy S N a0 a1 a2 dy = some (r, dy')) : MC l yX10_aimBy cX10_aimBy 5 (Option.some Jvm.ClassFile.FieldType.int) (8) G ad [.ref (ad a0), .int a1, .int a2] S dy (fun A => QI G ad A S r dy') := by
  rw [F_X10_aimBy_s] at E
  refine mc_of RX10 (by decide) rfl (Nat.le_of_ble_eq_true rfl) (fun p e s m args below meth c A C HR HL => ?_)
  refine ww_sub (lv' := [(0, .ref (ad a0)), (1, .int a1), (2, .int a2)]) [0, 1, 2] rfl ?_
  refine ww_aload_n C dX10_aimBy_0 rfl 0 rfl ?_
  refine ww_iload_n C dX10_aimBy_1 rfl 1 rfl ?_
  refine ww_iload_n C dX10_aimBy_2 rfl 2 rfl ?_
  obtain ⟨u1, e_2, E⟩ := bind_of E
  refine ww_callI C (runs_V (n := 2) (st := []) C [.int a1, .int a2] (M_X10_isThere l G ad N hG a0 a1 a2 dy T0 e_2) ⟨q1660, q118, by decide⟩ q1657 q1659 q69 (ci := 10) rfl T0 rfl (Nat.le_of_ble_eq_true rfl) ⟨Nat.le_of_ble_eq_true rfl, Nat.le_of_ble_eq_true rfl⟩ ⟨Nat.zero_le _, Nat.zero_le _⟩ dX10_aimBy_3 rfl) ?_
  refine ww_if_ne (tgt := 11) C dX10_aimBy_6 (by decide) E (fun _ E => ?_) (fun _ E => ?_)
  · refine ww_aload_n C dX10_aimBy_11 rfl 0 rfl ?_
    refine ww_iload_n C dX10_aimBy_12 rfl 1 rfl ?_
    refine ww_iload_n C dX10_aimBy_13 rfl 2 rfl ?_
    obtain ⟨u3, e_4, E⟩ := bind_of E
    refine ww_callI C (runs_V (n := 2) (st := []) C [.int a1, .int a2] (M_X10_actBy l G ad N hG a0 a1 a2 u1.2 T0 e_4) ⟨q1664, q118, by decide⟩ q1661 q1663 q70 (ci := 10) rfl T0 rfl (Nat.le_of_ble_eq_true rfl) ⟨Nat.le_of_ble_eq_true rfl, Nat.le_of_ble_eq_true rfl⟩ ⟨Nat.zero_le _, Nat.zero_le _⟩ dX10_aimBy_14 rfl) ?_
    refine ww_istore_n (lv' := [(3, .int u3.1), (0, .ref (ad a0)), (1, .int a1), (2, .int a2)]) C dX10_aimBy_17 rfl (by decide) rfl ?_
    refine ww_aload_n C dX10_aimBy_18 rfl 1 rfl ?_
    have T_5 : gs S (gr S a0 39) = (1, 10080) := hG.1 _ 10 T0 39 (by decide)
    refine ww_getr (ci := 10) (k0 := 39) C dX10_aimBy_19 rfl rfl inm10 (by decide) T0 q1317 rfl T_5 (by decide) ?_
    refine ww_iload_n C dX10_aimBy_22 rfl 2 rfl ?_
    refine ww_iload_n C dX10_aimBy_23 rfl 3 rfl ?_
    obtain ⟨u6, e_7, E⟩ := bind_of E
    refine ww_callI C (runs_S (n := 2) (st := [.ref (ad (gr S a0 39))]) C [.int a1, .int a2] (M_X10_at l G ad N hG a1 a2 u3.2 e_7) ⟨q1644, q118, by decide⟩ q1642 q1643 rfl (Nat.le_of_ble_eq_true rfl) ⟨Nat.le_of_ble_eq_true rfl, Nat.le_of_ble_eq_true rfl⟩ ⟨Nat.zero_le _, Nat.zero_le _⟩ dX10_aimBy_24 rfl) ?_
    refine ww_bipush (v := 12) C dX10_aimBy_27 (by decide) ?_
    refine ww_iadd C dX10_aimBy_29 ?_
    refine ww_iald C dX10_aimBy_30 T_5 E (fun _ E => ?_)
    refine ww_istore (lv' := [(4, .int (gi u6.2 (gr S a0 39) (u6.1 + (12 : Int32)).toNatClampNeg)), (3, .int u3.1), (0, .ref (ad a0)), (1, .int a1), (2, .int a2)]) C dX10_aimBy_31 (by decide) rfl ?_
    refine ww_iload_n C dX10_aimBy_33 rfl 1 rfl ?_
    refine ww_iconst (v := 3) C dX10_aimBy_34 (by decide) ?_
    refine ww_icmp_ne (tgt := 55) C dX10_aimBy_35 (by decide) E (fun _ E => ?_) (fun _ E => ?_)
    · refine ww_sub (lv' := [(0, .ref (ad a0)), (1, .int a1), (3, .int u3.1)]) [2, 3, 1] rfl ?_
      exact (B_X10_aimBy_55 C HR HL hG) a0 a1 u3.1 u6.2 T0 E
    · refine ww_iload C dX10_aimBy_38 0 rfl ?_
      refine ww_if_le (tgt := 55) C dX10_aimBy_40 (by decide) E (fun _ E => ?_) (fun _ E => ?_)
      · refine ww_sub (lv' := [(0, .ref (ad a0)), (1, .int a1), (3, .int u3.1)]) [2, 3, 1] rfl ?_
        exact (B_X10_aimBy_55 C HR HL hG) a0 a1 u3.1 u6.2 T0 E
      · refine ww_iload C dX10_aimBy_43 0 rfl ?_
        refine ww_iconst (v := 1) C dX10_aimBy_45 (by decide) ?_
        refine ww_icmp_ne (tgt := 53) C dX10_aimBy_46 (by decide) E (fun _ E => ?_) (fun _ E => ?_)
        · refine ww_iconst (v := 2) C dX10_aimBy_53 (by decide) ?_
          exact ww_iret C HR HL dX10_aimBy_54 E
        · refine ww_iconst (v := 1) C dX10_aimBy_49 (by decide) ?_
          refine ww_goto (tgt := 54) C dX10_aimBy_50 (by decide) ?_
          exact ww_iret C HR HL dX10_aimBy_54 E
  · refine ww_iconst (v := 5) C dX10_aimBy_9 (by decide) ?_
    exact ww_iret C HR HL dX10_aimBy_10 E
section P_X10_areBeside
variable {p : Program} {l : Launch} {e : Env} {s : State} {m : MethodId} {args : Array Value} {below : List Frame} {meth : Method} {c : Code} {G : GG} {A : Nat → Prop} {ad : Nat → Nat} {S : ST} {N : Nat} {r : Int32} {dy' : DY}
end P_X10_areBeside
set_option maxHeartbeats 4000000 in
set_option maxRecDepth 100000 in
theorem M_X10_areBeside (l : Launch) (G : GG) (ad : Nat → Nat) {S : ST} (N : Nat) (hG : Good S) (a0 : Nat) (a1 : Int32) (a2 : Int32) (dy : DY) (T0 : gs S a0 = (0, 10)) {r : Int32} {dy' : DY} (E : F_X10_areBeside S N a0 a1 a2 dy = some (r, dy')) : MC l yX10_areBeside cX10_areBeside 7 (Option.some Jvm.ClassFile.FieldType.boolean) (2) G ad [.ref (ad a0), .int a1, .int a2] S dy (fun A => QI G ad A S r dy') := by
  rw [F_X10_areBeside_s] at E
  refine mc_of RX10 (by decide) rfl (Nat.le_of_ble_eq_true rfl) (fun p e s m args below meth c A C HR HL => ?_)
  refine ww_sub (lv' := [(0, .ref (ad a0)), (1, .int a1), (2, .int a2)]) [0, 1, 2] rfl ?_
  refine ww_iconst (v := 4) C dX10_areBeside_0 (by decide) ?_
  refine ww_iload_n C dX10_areBeside_1 rfl 1 rfl ?_
  obtain ⟨u1, e_2, E⟩ := bind_of E
  refine ww_callI C (runs_S (n := 2) (st := []) C [.int (4 : Int32), .int a1] (M_X10_at l G ad N hG (4 : Int32) a1 dy e_2) ⟨q1644, q118, by decide⟩ q1642 q1643 rfl (Nat.le_of_ble_eq_true rfl) ⟨Nat.le_of_ble_eq_true rfl, Nat.le_of_ble_eq_true rfl⟩ ⟨Nat.zero_le _, Nat.zero_le _⟩ dX10_areBeside_2 rfl) ?_
  refine ww_istore_n (lv' := [(3, .int u1.1), (0, .ref (ad a0)), (1, .int a1), (2, .int a2)]) C dX10_areBeside_5 rfl (by decide) rfl ?_
  refine ww_iconst (v := 4) C dX10_areBeside_6 (by decide) ?_
  refine ww_iload_n C dX10_areBeside_7 rfl 3 rfl ?_
  obtain ⟨u3, e_4, E⟩ := bind_of E
  refine ww_callI C (runs_S (n := 2) (st := []) C [.int (4 : Int32), .int a2] (M_X10_at l G ad N hG (4 : Int32) a2 u1.2 e_4) ⟨q1644, q118, by decide⟩ q1642 q1643 rfl (Nat.le_of_ble_eq_true rfl) ⟨Nat.le_of_ble_eq_true rfl, Nat.le_of_ble_eq_true rfl⟩ ⟨Nat.zero_le _, Nat.zero_le _⟩ dX10_areBeside_8 rfl) ?_
  refine ww_istore (lv' := [(4, .int u3.1), (3, .int u1.1), (0, .ref (ad a0)), (1, .int a1), (2, .int a2)]) C dX10_areBeside_11 (by decide) rfl ?_
  refine ww_aload_n C dX10_areBeside_13 rfl 2 rfl ?_
  have T_5 : gs S (gr S a0 39) = (1, 10080) := hG.1 _ 10 T0 39 (by decide)
  refine ww_getr (ci := 10) (k0 := 39) C dX10_areBeside_14 rfl rfl inm10 (by decide) T0 q1317 rfl T_5 (by decide) ?_
  refine ww_iload_n C dX10_areBeside_17 rfl 1 rfl ?_
  refine ww_iald C dX10_areBeside_18 T_5 E (fun _ E => ?_)
  refine ww_aload_n C dX10_areBeside_19 rfl 2 rfl ?_
  have T_6 : gs S (gr S a0 39) = (1, 10080) := hG.1 _ 10 T0 39 (by decide)
  refine ww_getr (ci := 10) (k0 := 39) C dX10_areBeside_20 rfl rfl inm10 (by decide) T0 q1317 rfl T_6 (by decide) ?_
  refine ww_iload C dX10_areBeside_23 0 rfl ?_
  refine ww_iald C dX10_areBeside_25 T_6 E (fun _ E => ?_)
  refine ww_isub C dX10_areBeside_26 ?_
  refine ww_istore (lv' := [(5, .int ((gi u3.2 (gr S a0 39) u1.1.toNatClampNeg) - (gi u3.2 (gr S a0 39) u3.1.toNatClampNeg))), (4, .int u3.1), (3, .int u1.1), (0, .ref (ad a0)), (1, .int a1), (2, .int a2)]) C dX10_areBeside_27 (by decide) rfl ?_
  refine ww_aload_n C dX10_areBeside_29 rfl 3 rfl ?_
  have T_7 : gs S (gr S a0 39) = (1, 10080) := hG.1 _ 10 T0 39 (by decide)
  refine ww_getr (ci := 10) (k0 := 39) C dX10_areBeside_30 rfl rfl inm10 (by decide) T0 q1317 rfl T_7 (by decide) ?_
  refine ww_iload_n C dX10_areBeside_33 rfl 2 rfl ?_
  refine ww_iconst (v := 4) C dX10_areBeside_34 (by decide) ?_
  refine ww_iadd C dX10_areBeside_35 ?_
  refine ww_iald C dX10_areBeside_36 T_7 E (fun _ E => ?_)
  refine ww_aload_n C dX10_areBeside_37 rfl 3 rfl ?_
  have T_8 : gs S (gr S a0 39) = (1, 10080) := hG.1 _ 10 T0 39 (by decide)
  refine ww_getr (ci := 10) (k0 := 39) C dX10_areBeside_38 rfl rfl inm10 (by decide) T0 q1317 rfl T_8 (by decide) ?_
  refine ww_iload C dX10_areBeside_41 1 rfl ?_
  refine ww_iconst (v := 4) C dX10_areBeside_43 (by decide) ?_
  refine ww_iadd C dX10_areBeside_44 ?_
  refine ww_iald C dX10_areBeside_45 T_8 E (fun _ E => ?_)
  refine ww_isub C dX10_areBeside_46 ?_
  refine ww_istore (lv' := [(6, .int ((gi u3.2 (gr S a0 39) (u1.1 + (4 : Int32)).toNatClampNeg) - (gi u3.2 (gr S a0 39) (u3.1 + (4 : Int32)).toNatClampNeg))), (5, .int ((gi u3.2 (gr S a0 39) u1.1.toNatClampNeg) - (gi u3.2 (gr S a0 39) u3.1.toNatClampNeg))), (4, .int u3.1), (3, .int u1.1), (0, .ref (ad a0)), (1, .int a1), (2, .int a2)]) C dX10_areBeside_47 (by decide) rfl ?_
  refine ww_aload_n C dX10_areBeside_49 rfl 4 rfl ?_
  have T_9 : gs S (gr S a0 39) = (1, 10080) := hG.1 _ 10 T0 39 (by decide)
  refine ww_getr (ci := 10) (k0 := 39) C dX10_areBeside_50 rfl rfl inm10 (by decide) T0 q1317 rfl T_9 (by decide) ?_
  refine ww_iload_n C dX10_areBeside_53 rfl 3 rfl ?_
  refine ww_iald C dX10_areBeside_54 T_9 E (fun _ E => ?_)
  refine ww_iconst (v := (-1)) C dX10_areBeside_55 (by decide) ?_
  refine ww_icmp_eq (tgt := 89) C dX10_areBeside_56 (by decide) E (fun _ E => ?_) (fun _ E => ?_)
  · refine ww_iconst (v := 0) C dX10_areBeside_89 (by decide) ?_
    exact ww_zret C HR HL dX10_areBeside_90 (Or.inl rfl) E
  · refine ww_aload_n C dX10_areBeside_59 rfl 4 rfl ?_
    have T_10 : gs S (gr S a0 39) = (1, 10080) := hG.1 _ 10 T0 39 (by decide)
    refine ww_getr (ci := 10) (k0 := 39) C dX10_areBeside_60 rfl rfl inm10 (by decide) T0 q1317 rfl T_10 (by decide) ?_
    refine ww_iload C dX10_areBeside_63 2 rfl ?_
    refine ww_iald C dX10_areBeside_65 T_10 E (fun _ E => ?_)
    refine ww_iconst (v := (-1)) C dX10_areBeside_66 (by decide) ?_
    refine ww_icmp_eq (tgt := 89) C dX10_areBeside_67 (by decide) E (fun _ E => ?_) (fun _ E => ?_)
    · refine ww_iconst (v := 0) C dX10_areBeside_89 (by decide) ?_
      exact ww_zret C HR HL dX10_areBeside_90 (Or.inl rfl) E
    · refine ww_iload C dX10_areBeside_70 1 rfl ?_
      refine ww_iload C dX10_areBeside_72 1 rfl ?_
      refine ww_imul C dX10_areBeside_74 ?_
      refine ww_iload C dX10_areBeside_75 0 rfl ?_
      refine ww_iload C dX10_areBeside_77 0 rfl ?_
      refine ww_imul C dX10_areBeside_79 ?_
      refine ww_iadd C dX10_areBeside_80 ?_
      refine ww_iconst (v := 1) C dX10_areBeside_81 (by decide) ?_
      refine ww_icmp_ne (tgt := 89) C dX10_areBeside_82 (by decide) E (fun _ E => ?_) (fun _ E => ?_)
      · refine ww_iconst (v := 0) C dX10_areBeside_89 (by decide) ?_
        exact ww_zret C HR HL dX10_areBeside_90 (Or.inl rfl) E
      · refine ww_iconst (v := 1) C dX10_areBeside_85 (by decide) ?_
        refine ww_goto (tgt := 90) C dX10_areBeside_86 (by decide) ?_
        exact ww_zret C HR HL dX10_areBeside_90 (Or.inr rfl) E
section P_X10_lay
variable {p : Program} {l : Launch} {e : Env} {s : State} {m : MethodId} {args : Array Value} {below : List Frame} {meth : Method} {c : Code} {G : GG} {A : Nat → Prop} {ad : Nat → Nat} {S : ST} {N : Nat} {dy' : DY}
set_option maxHeartbeats 4000000 in
set_option maxRecDepth 100000 in
theorem B_X10_lay_237 (C : CX p s m args c cX10_lay 13 RX10 G A) (HR : meth.sig.returnType = (Option.none : Option Jvm.ClassFile.FieldType)) (HL : meth.locks = false) (hG : Good S) {K176 : Nat → Int32 → Int32 → Int32 → Int32 → Int32 → Int32 → Int32 → Int32 → Int32 → Int32 → Int32 → DY → Option DY} (hK176 : ∀ (x0 : Nat) (x1 : Int32) (x2 : Int32) (x3 : Int32) (x5 : Int32) (x6 : Int32) (x7 : Int32) (x8 : Int32) (x9 : Int32) (x10 : Int32) (x11 : Int32) (x12 : Int32) (dy : DY), gs S x0 = (0, 10) → K176 x0 x1 x2 x3 x5 x6 x7 x8 x9 x10 x11 x12 dy = some dy' → WJ p l e (rmD (2)) s m args below meth c 13 G A 0 0 (MQ below (QV G ad A S dy') args s 0 0 A) ad 176 [(0, .ref (ad x0)), (1, .int x1), (2, .int x2), (3, .int x3), (5, .int x5), (6, .int x6), (7, .int x7), (8, .int x8), (9, .int x9), (10, .int x10), (11, .int x11), (12, .int x12)] [] S dy) : ∀ (x0 : Nat) (x1 : Int32) (x2 : Int32) (x3 : Int32) (x5 : Int32) (x6 : Int32) (x7 : Int32) (x8 : Int32) (x9 : Int32) (x10 : Int32) (x11 : Int32) (x12 : Int32) (y0 : Nat) (y1 : Int32) (y2 : Int32) (dy : DY), gs S x0 = (0, 10) → gs S y0 = (1, 10080) → F_X10_lay_237 S N K176 x0 x1 x2 x3 x5 x6 x7 x8 x9 x10 x11 x12 y0 y1 y2 dy = some dy' → WJ p l e (rmD (2)) s m args below meth c 13 G A 0 0 (MQ below (QV G ad A S dy') args s 0 0 A) ad 237 [(0, .ref (ad x0)), (1, .int x1), (2, .int x2), (3, .int x3), (5, .int x5), (6, .int x6), (7, .int x7), (8, .int x8), (9, .int x9), (10, .int x10), (11, .int x11), (12, .int x12)] [.int y2, .int y1, .ref (ad y0)] S dy := by
  intro x0 x1 x2 x3 x5 x6 x7 x8 x9 x10 x11 x12 y0 y1 y2 dy Tx0 Ty0 E
  rw [F_X10_lay_237_s] at E
  refine ww_iast C dX10_lay_237 Ty0 E (fun _ E => ?_)
  refine ww_bd E (fun dy1 E => ?_)
  refine ww_iinc (v := (x12 + (1 : Int32))) (lv' := [(12, .int (x12 + (1 : Int32))), (0, .ref (ad x0)), (1, .int x1), (2, .int x2), (3, .int x3), (5, .int x5), (6, .int x6), (7, .int x7), (8, .int x8), (9, .int x9), (10, .int x10), (11, .int x11)]) C dX10_lay_238 11 rfl rfl (by decide) rfl ?_
  refine ww_goto (tgt := 176) C dX10_lay_241 (by decide) ?_
  refine ww_sub (lv' := [(0, .ref (ad x0)), (1, .int x1), (2, .int x2), (3, .int x3), (5, .int x5), (6, .int x6), (7, .int x7), (8, .int x8), (9, .int x9), (10, .int x10), (11, .int x11), (12, .int (x12 + (1 : Int32)))]) [1, 2, 3, 4, 5, 6, 7, 8, 9, 10, 11, 0] rfl ?_
  exact hK176 x0 x1 x2 x3 x5 x6 x7 x8 x9 x10 x11 (x12 + (1 : Int32)) dy1 Tx0 E
set_option maxHeartbeats 4000000 in
set_option maxRecDepth 100000 in
theorem B_X10_lay_207 (C : CX p s m args c cX10_lay 13 RX10 G A) (HR : meth.sig.returnType = (Option.none : Option Jvm.ClassFile.FieldType)) (HL : meth.locks = false) (hG : Good S) {K176 : Nat → Int32 → Int32 → Int32 → Int32 → Int32 → Int32 → Int32 → Int32 → Int32 → Int32 → Int32 → DY → Option DY} (hK176 : ∀ (x0 : Nat) (x1 : Int32) (x2 : Int32) (x3 : Int32) (x5 : Int32) (x6 : Int32) (x7 : Int32) (x8 : Int32) (x9 : Int32) (x10 : Int32) (x11 : Int32) (x12 : Int32) (dy : DY), gs S x0 = (0, 10) → K176 x0 x1 x2 x3 x5 x6 x7 x8 x9 x10 x11 x12 dy = some dy' → WJ p l e (rmD (2)) s m args below meth c 13 G A 0 0 (MQ below (QV G ad A S dy') args s 0 0 A) ad 176 [(0, .ref (ad x0)), (1, .int x1), (2, .int x2), (3, .int x3), (5, .int x5), (6, .int x6), (7, .int x7), (8, .int x8), (9, .int x9), (10, .int x10), (11, .int x11), (12, .int x12)] [] S dy) : ∀ (x0 : Nat) (x1 : Int32) (x2 : Int32) (x3 : Int32) (x5 : Int32) (x6 : Int32) (x7 : Int32) (x8 : Int32) (x9 : Int32) (x10 : Int32) (x11 : Int32) (x12 : Int32) (y0 : Nat) (y1 : Int32) (y2 : Int32) (dy : DY), gs S x0 = (0, 10) → gs S y0 = (1, 10080) → F_X10_lay_207 S N K176 x0 x1 x2 x3 x5 x6 x7 x8 x9 x10 x11 x12 y0 y1 y2 dy = some dy' → WJ p l e (rmD (2)) s m args below meth c 13 G A 0 0 (MQ below (QV G ad A S dy') args s 0 0 A) ad 207 [(0, .ref (ad x0)), (1, .int x1), (2, .int x2), (3, .int x3), (5, .int x5), (6, .int x6), (7, .int x7), (8, .int x8), (9, .int x9), (10, .int x10), (11, .int x11), (12, .int x12)] [.int y2, .int y1, .ref (ad y0)] S dy := by
  intro x0 x1 x2 x3 x5 x6 x7 x8 x9 x10 x11 x12 y0 y1 y2 dy Tx0 Ty0 E
  rw [F_X10_lay_207_s] at E
  refine ww_iast C dX10_lay_207 Ty0 E (fun _ E => ?_)
  refine ww_bd E (fun dy1 E => ?_)
  refine ww_aload_n C dX10_lay_208 rfl 0 rfl ?_
  have T_2 : gs S (gr S x0 39) = (1, 10080) := hG.1 _ 10 Tx0 39 (by decide)
  refine ww_getr (ci := 10) (k0 := 39) C dX10_lay_209 rfl rfl inm10 (by decide) Tx0 q1317 rfl T_2 (by decide) ?_
  refine ww_iload C dX10_lay_212 8 rfl ?_
  refine ww_iconst (v := 4) C dX10_lay_214 (by decide) ?_
  refine ww_iadd C dX10_lay_215 ?_
  refine ww_iload C dX10_lay_216 11 rfl ?_
  refine ww_iadd C dX10_lay_218 ?_
  refine ww_iload C dX10_lay_219 10 rfl ?_
  refine ww_if_eq (tgt := 228) C dX10_lay_221 (by decide) E (fun _ E => ?_) (fun _ E => ?_)
  · refine ww_aload_n C dX10_lay_228 rfl 0 rfl ?_
    have T_3 : gs S (gr S x0 11) = (1, 1152) := hG.1 _ 10 Tx0 11 (by decide)
    refine ww_getr (ci := 10) (k0 := 11) C dX10_lay_229 rfl rfl inm10 (by decide) Tx0 q1289 rfl T_3 (by decide) ?_
    refine ww_iload C dX10_lay_232 9 rfl ?_
    refine ww_iconst (v := 1) C dX10_lay_234 (by decide) ?_
    refine ww_iadd C dX10_lay_235 ?_
    refine ww_iald C dX10_lay_236 T_3 E (fun _ E => ?_)
    refine ww_sub (lv' := [(0, .ref (ad x0)), (1, .int x1), (2, .int x2), (3, .int x3), (5, .int x5), (6, .int x6), (7, .int x7), (8, .int x8), (9, .int x9), (10, .int x10), (11, .int x11), (12, .int x12)]) [0, 1, 2, 3, 4, 5, 6, 7, 8, 9, 10, 11] rfl ?_
    exact (B_X10_lay_237 C HR HL hG hK176) x0 x1 x2 x3 x5 x6 x7 x8 x9 x10 x11 x12 (gr S x0 39) ((x9 + (4 : Int32)) + x12) (gi dy1 (gr S x0 11) (x10 + (1 : Int32)).toNatClampNeg) dy1 Tx0 T_2 E
  · refine ww_iconst (v := (-1)) C dX10_lay_224 (by decide) ?_
    refine ww_goto (tgt := 237) C dX10_lay_225 (by decide) ?_
    refine ww_sub (lv' := [(0, .ref (ad x0)), (1, .int x1), (2, .int x2), (3, .int x3), (5, .int x5), (6, .int x6), (7, .int x7), (8, .int x8), (9, .int x9), (10, .int x10), (11, .int x11), (12, .int x12)]) [0, 1, 2, 3, 4, 5, 6, 7, 8, 9, 10, 11] rfl ?_
    exact (B_X10_lay_237 C HR HL hG hK176) x0 x1 x2 x3 x5 x6 x7 x8 x9 x10 x11 x12 (gr S x0 39) ((x9 + (4 : Int32)) + x12) (-1 : Int32) dy1 Tx0 T_2 E
set_option maxHeartbeats 4000000 in
set_option maxRecDepth 100000 in
theorem B_X10_lay_247 (C : CX p s m args c cX10_lay 13 RX10 G A) (HR : meth.sig.returnType = (Option.none : Option Jvm.ClassFile.FieldType)) (HL : meth.locks = false) (hG : Good S) {K121 : Nat → Int32 → Int32 → Int32 → Int32 → Int32 → Int32 → Int32 → DY → Option DY} (hK121 : ∀ (x0 : Nat) (x1 : Int32) (x2 : Int32) (x3 : Int32) (x5 : Int32) (x6 : Int32) (x7 : Int32) (x8 : Int32) (dy : DY), gs S x0 = (0, 10) → K121 x0 x1 x2 x3 x5 x6 x7 x8 dy = some dy' → WJ p l e (rmD (2)) s m args below meth c 13 G A 0 0 (MQ below (QV G ad A S dy') args s 0 0 A) ad 121 [(0, .ref (ad x0)), (1, .int x1), (2, .int x2), (3, .int x3), (5, .int x5), (6, .int x6), (7, .int x7), (8, .int x8)] [] S dy) : ∀ k : Nat, ∀ (x0 : Nat) (x1 : Int32) (x2 : Int32) (x3 : Int32) (x5 : Int32) (x6 : Int32) (x7 : Int32) (x8 : Int32) (x9 : Int32) (x10 : Int32) (x12 : Int32) (dy : DY), gs S x0 = (0, 10) → (F_X10_lay_247 S N K121 k) x0 x1 x2 x3 x5 x6 x7 x8 x9 x10 x12 dy = some dy' → WJ p l e (rmD (2)) s m args below meth c 13 G A 0 0 (MQ below (QV G ad A S dy') args s 0 0 A) ad 247 [(0, .ref (ad x0)), (1, .int x1), (2, .int x2), (3, .int x3), (5, .int x5), (6, .int x6), (7, .int x7), (8, .int x8), (9, .int x9), (10, .int x10), (12, .int x12)] [] S dy := by
  intro k
  induction k with
  | zero => exact fun _ _ _ _ _ _ _ _ _ _ _ _ _ E => nomatch (show none = some dy' from E)
  | succ k ih =>
    intro x0 x1 x2 x3 x5 x6 x7 x8 x9 x10 x12 dy Tx0 E
    rw [F_X10_lay_247_s] at E
    refine ww_iload C dX10_lay_247 10 rfl ?_
    refine ww_bipush (v := 8) C dX10_lay_249 (by decide) ?_
    refine ww_icmp_ge (tgt := 285) C dX10_lay_251 (by decide) E (fun _ E => ?_) (fun _ E => ?_)
    · refine ww_aload_n C dX10_lay_285 rfl 0 rfl ?_
      have T_1 : gs S (gr S x0 39) = (1, 10080) := hG.1 _ 10 Tx0 39 (by decide)
      refine ww_getr (ci := 10) (k0 := 39) C dX10_lay_286 rfl rfl inm10 (by decide) Tx0 q1317 rfl T_1 (by decide) ?_
      refine ww_iload C dX10_lay_289 8 rfl ?_
      refine ww_bipush (v := 14) C dX10_lay_291 (by decide) ?_
      refine ww_iadd C dX10_lay_293 ?_
      refine ww_iconst (v := (-1)) C dX10_lay_294 (by decide) ?_
      refine ww_iast C dX10_lay_295 T_1 E (fun _ E => ?_)
      refine ww_bd E (fun dy2 E => ?_)
      refine ww_iinc (v := (x8 + (1 : Int32))) (lv' := [(8, .int (x8 + (1 : Int32))), (0, .ref (ad x0)), (1, .int x1), (2, .int x2), (3, .int x3), (5, .int x5), (6, .int x6), (7, .int x7), (9, .int x9), (10, .int x10), (12, .int x12)]) C dX10_lay_296 7 rfl rfl (by decide) rfl ?_
      refine ww_goto (tgt := 121) C dX10_lay_299 (by decide) ?_
      refine ww_sub (lv' := [(0, .ref (ad x0)), (1, .int x1), (2, .int x2), (3, .int x3), (5, .int x5), (6, .int x6), (7, .int x7), (8, .int (x8 + (1 : Int32)))]) [1, 2, 3, 4, 5, 6, 7, 0] rfl ?_
      exact hK121 x0 x1 x2 x3 x5 x6 x7 (x8 + (1 : Int32)) dy2 Tx0 E
    · refine ww_aload_n C dX10_lay_254 rfl 0 rfl ?_
      have T_3 : gs S (gr S x0 39) = (1, 10080) := hG.1 _ 10 Tx0 39 (by decide)
      refine ww_getr (ci := 10) (k0 := 39) C dX10_lay_255 rfl rfl inm10 (by decide) Tx0 q1317 rfl T_3 (by decide) ?_
      refine ww_iload C dX10_lay_258 8 rfl ?_
      refine ww_bipush (v := 8) C dX10_lay_260 (by decide) ?_
      refine ww_iadd C dX10_lay_262 ?_
      refine ww_iload C dX10_lay_263 10 rfl ?_
      refine ww_iadd C dX10_lay_265 ?_
      refine ww_iconst (v := 2) C dX10_lay_266 (by decide) ?_
      refine ww_isub C dX10_lay_267 ?_
      refine ww_aload_n C dX10_lay_268 rfl 0 rfl ?_
      have T_4 : gs S (gr S x0 11) = (1, 1152) := hG.1 _ 10 Tx0 11 (by decide)
      refine ww_getr (ci := 10) (k0 := 11) C dX10_lay_269 rfl rfl inm10 (by decide) Tx0 q1289 rfl T_4 (by decide) ?_
      refine ww_iload C dX10_lay_272 9 rfl ?_
      refine ww_iload C dX10_lay_274 10 rfl ?_
      refine ww_iadd C dX10_lay_276 ?_
      refine ww_iald C dX10_lay_277 T_4 E (fun _ E => ?_)
      refine ww_iast C dX10_lay_278 T_3 E (fun _ E => ?_)
      refine ww_bd E (fun dy5 E => ?_)
      refine ww_iinc (v := (x12 + (1 : Int32))) (lv' := [(12, .int (x12 + (1 : Int32))), (0, .ref (ad x0)), (1, .int x1), (2, .int x2), (3, .int x3), (5, .int x5), (6, .int x6), (7, .int x7), (8, .int x8), (9, .int x9), (10, .int x10)]) C dX10_lay_279 10 rfl rfl (by decide) rfl ?_
      refine ww_goto (tgt := 247) C dX10_lay_282 (by decide) ?_
      refine ww_sub (lv' := [(0, .ref (ad x0)), (1, .int x1), (2, .int x2), (3, .int x3), (5, .int x5), (6, .int x6), (7, .int x7), (8, .int x8), (9, .int x9), (10, .int x10), (12, .int (x12 + (1 : Int32)))]) [1, 2, 3, 4, 5, 6, 7, 8, 9, 10, 0] rfl ?_
      exact ih x0 x1 x2 x3 x5 x6 x7 x8 x9 x10 (x12 + (1 : Int32)) dy5 Tx0 E
set_option maxHeartbeats 4000000 in
set_option maxRecDepth 100000 in
theorem B_X10_lay_176 (C : CX p s m args c cX10_lay 13 RX10 G A) (HR : meth.sig.returnType = (Option.none : Option Jvm.ClassFile.FieldType)) (HL : meth.locks = false) (hG : Good S) {K121 : Nat → Int32 → Int32 → Int32 → Int32 → Int32 → Int32 → Int32 → DY → Option DY} (hK121 : ∀ (x0 : Nat) (x1 : Int32) (x2 : Int32) (x3 : Int32) (x5 : Int32) (x6 : Int32) (x7 : Int32) (x8 : Int32) (dy : DY), gs S x0 = (0, 10) → K121 x0 x1 x2 x3 x5 x6 x7 x8 dy = some dy' → WJ p l e (rmD (2)) s m args below meth c 13 G A 0 0 (MQ below (QV G ad A S dy') args s 0 0 A) ad 121 [(0, .ref (ad x0)), (1, .int x1), (2, .int x2), (3, .int x3), (5, .int x5), (6, .int x6), (7, .int x7), (8, .int x8)] [] S dy) : ∀ k : Nat, ∀ (x0 : Nat) (x1 : Int32) (x2 : Int32) (x3 : Int32) (x5 : Int32) (x6 : Int32) (x7 : Int32) (x8 : Int32) (x9 : Int32) (x10 : Int32) (x11 : Int32) (x12 : Int32) (dy : DY), gs S x0 = (0, 10) → (F_X10_lay_176 S N K121 k) x0 x1 x2 x3 x5 x6 x7 x8 x9 x10 x11 x12 dy = some dy' → WJ p l e (rmD (2)) s m args below meth c 13 G A 0 0 (MQ below (QV G ad A S dy') args s 0 0 A) ad 176 [(0, .ref (ad x0)), (1, .int x1), (2, .int x2), (3, .int x3), (5, .int x5), (6, .int x6), (7, .int x7), (8, .int x8), (9, .int x9), (10, .int x10), (11, .int x11), (12, .int x12)] [] S dy := by
  intro k
  induction k with
  | zero => exact fun _ _ _ _ _ _ _ _ _ _ _ _ _ _ E => nomatch (show none = some dy' from E)
  | succ k ih =>
    intro x0 x1 x2 x3 x5 x6 x7 x8 x9 x10 x11 x12 dy Tx0 E
    rw [F_X10_lay_176_s] at E
    refine ww_iload C dX10_lay_176 11 rfl ?_
    refine ww_iconst (v := 4) C dX10_lay_178 (by decide) ?_
    refine ww_icmp_ge (tgt := 244) C dX10_lay_179 (by decide) E (fun _ E => ?_) (fun _ E => ?_)
    · refine ww_iconst (v := 2) C dX10_lay_244 (by decide) ?_
      refine ww_istore (lv' := [(12, .int (2 : Int32)), (0, .ref (ad x0)), (1, .int x1), (2, .int x2), (3, .int x3), (5, .int x5), (6, .int x6), (7, .int x7), (8, .int x8), (9, .int x9), (10, .int x10), (11, .int x11)]) C dX10_lay_245 (by decide) rfl ?_
      refine ww_sub (lv' := [(0, .ref (ad x0)), (1, .int x1), (2, .int x2), (3, .int x3), (5, .int x5), (6, .int x6), (7, .int x7), (8, .int x8), (9, .int x9), (10, .int x10), (12, .int (2 : Int32))]) [1, 2, 3, 4, 5, 6, 7, 8, 9, 10, 0] rfl ?_
      exact (B_X10_lay_247 C HR HL hG hK121 N) x0 x1 x2 x3 x5 x6 x7 x8 x9 x10 (2 : Int32) dy Tx0 E
    · refine ww_aload_n C dX10_lay_182 rfl 0 rfl ?_
      have T_1 : gs S (gr S x0 39) = (1, 10080) := hG.1 _ 10 Tx0 39 (by decide)
      refine ww_getr (ci := 10) (k0 := 39) C dX10_lay_183 rfl rfl inm10 (by decide) Tx0 q1317 rfl T_1 (by decide) ?_
      refine ww_iload C dX10_lay_186 8 rfl ?_
      refine ww_iload C dX10_lay_188 11 rfl ?_
      refine ww_iadd C dX10_lay_190 ?_
      refine ww_iload C dX10_lay_191 10 rfl ?_
      refine ww_if_eq (tgt := 200) C dX10_lay_193 (by decide) E (fun _ E => ?_) (fun _ E => ?_)
      · refine ww_aload_n C dX10_lay_200 rfl 0 rfl ?_
        have T_2 : gs S (gr S x0 11) = (1, 1152) := hG.1 _ 10 Tx0 11 (by decide)
        refine ww_getr (ci := 10) (k0 := 11) C dX10_lay_201 rfl rfl inm10 (by decide) Tx0 q1289 rfl T_2 (by decide) ?_
        refine ww_iload C dX10_lay_204 9 rfl ?_
        refine ww_iald C dX10_lay_206 T_2 E (fun _ E => ?_)
        refine ww_sub (lv' := [(0, .ref (ad x0)), (1, .int x1), (2, .int x2), (3, .int x3), (5, .int x5), (6, .int x6), (7, .int x7), (8, .int x8), (9, .int x9), (10, .int x10), (11, .int x11), (12, .int x12)]) [0, 1, 2, 3, 4, 5, 6, 7, 8, 9, 10, 11] rfl ?_
        exact (B_X10_lay_207 C HR HL hG ih) x0 x1 x2 x3 x5 x6 x7 x8 x9 x10 x11 x12 (gr S x0 39) (x9 + x12) (gi dy (gr S x0 11) x10.toNatClampNeg) dy Tx0 T_1 E
      · refine ww_iconst (v := (-1)) C dX10_lay_196 (by decide) ?_
        refine ww_goto (tgt := 207) C dX10_lay_197 (by decide) ?_
        refine ww_sub (lv' := [(0, .ref (ad x0)), (1, .int x1), (2, .int x2), (3, .int x3), (5, .int x5), (6, .int x6), (7, .int x7), (8, .int x8), (9, .int x9), (10, .int x10), (11, .int x11), (12, .int x12)]) [0, 1, 2, 3, 4, 5, 6, 7, 8, 9, 10, 11] rfl ?_
        exact (B_X10_lay_207 C HR HL hG ih) x0 x1 x2 x3 x5 x6 x7 x8 x9 x10 x11 x12 (gr S x0 39) (x9 + x12) (-1 : Int32) dy Tx0 T_1 E
set_option maxHeartbeats 4000000 in
set_option maxRecDepth 100000 in
theorem B_X10_lay_347 (C : CX p s m args c cX10_lay 13 RX10 G A) (HR : meth.sig.returnType = (Option.none : Option Jvm.ClassFile.FieldType)) (HL : meth.locks = false) (hG : Good S) : ∀ k : Nat, ∀ (x0 : Nat) (x3 : Int32) (x7 : Int32) (x8 : Int32) (dy : DY), gs S x0 = (0, 10) → (F_X10_lay_347 S N k) x0 x3 x7 x8 dy = some dy' → WJ p l e (rmD (2)) s m args below meth c 13 G A 0 0 (MQ below (QV G ad A S dy') args s 0 0 A) ad 347 [(0, .ref (ad x0)), (3, .int x3), (7, .int x7), (8, .int x8)] [] S dy := by
  intro k
  induction k with
  | zero => exact fun _ _ _ _ _ _ E => nomatch (show none = some dy' from E)
  | succ k ih =>
    intro x0 x3 x7 x8 dy Tx0 E
    rw [F_X10_lay_347_s] at E
    refine ww_iload C dX10_lay_347 3 rfl ?_
    refine ww_sipush (v := 288) C dX10_lay_349 (by decide) ?_
    refine ww_icmp_ge (tgt := 388) C dX10_lay_352 (by decide) E (fun _ E => ?_) (fun _ E => ?_)
    · exact ww_vret C HR HL dX10_lay_388 E
    · refine ww_aload_n C dX10_lay_355 rfl 0 rfl ?_
      have T_1 : gs S (gr S x0 39) = (1, 10080) := hG.1 _ 10 Tx0 39 (by decide)
      refine ww_getr (ci := 10) (k0 := 39) C dX10_lay_356 rfl rfl inm10 (by decide) Tx0 q1317 rfl T_1 (by decide) ?_
      refine ww_iload C dX10_lay_359 2 rfl ?_
      refine ww_sipush (v := 352) C dX10_lay_361 (by decide) ?_
      refine ww_iadd C dX10_lay_364 ?_
      refine ww_iload C dX10_lay_365 3 rfl ?_
      refine ww_iadd C dX10_lay_367 ?_
      refine ww_aload_n C dX10_lay_368 rfl 0 rfl ?_
      have T_2 : gs S (gr S x0 14) = (1, 3456) := hG.1 _ 10 Tx0 14 (by decide)
      refine ww_getr (ci := 10) (k0 := 14) C dX10_lay_369 rfl rfl inm10 (by decide) Tx0 q1292 rfl T_2 (by decide) ?_
      refine ww_sipush (v := 288) C dX10_lay_372 (by decide) ?_
      refine ww_iload_n C dX10_lay_375 rfl 1 rfl ?_
      refine ww_imul C dX10_lay_376 ?_
      refine ww_iload C dX10_lay_377 3 rfl ?_
      refine ww_iadd C dX10_lay_379 ?_
      refine ww_iald C dX10_lay_380 T_2 E (fun _ E => ?_)
      refine ww_iast C dX10_lay_381 T_1 E (fun _ E => ?_)
      refine ww_bd E (fun dy3 E => ?_)
      refine ww_iinc (v := (x8 + (1 : Int32))) (lv' := [(8, .int (x8 + (1 : Int32))), (0, .ref (ad x0)), (3, .int x3), (7, .int x7)]) C dX10_lay_382 3 rfl rfl (by decide) rfl ?_
      refine ww_goto (tgt := 347) C dX10_lay_385 (by decide) ?_
      refine ww_sub (lv' := [(0, .ref (ad x0)), (3, .int x3), (7, .int x7), (8, .int (x8 + (1 : Int32)))]) [1, 2, 3, 0] rfl ?_
      exact ih x0 x3 x7 (x8 + (1 : Int32)) dy3 Tx0 E
set_option maxHeartbeats 4000000 in
set_option maxRecDepth 100000 in
theorem B_X10_lay_305 (C : CX p s m args c cX10_lay 13 RX10 G A) (HR : meth.sig.returnType = (Option.none : Option Jvm.ClassFile.FieldType)) (HL : meth.locks = false) (hG : Good S) : ∀ k : Nat, ∀ (x0 : Nat) (x2 : Int32) (x3 : Int32) (x7 : Int32) (x8 : Int32) (dy : DY), gs S x0 = (0, 10) → (F_X10_lay_305 S N k) x0 x2 x3 x7 x8 dy = some dy' → WJ p l e (rmD (2)) s m args below meth c 13 G A 0 0 (MQ below (QV G ad A S dy') args s 0 0 A) ad 305 [(0, .ref (ad x0)), (2, .int x2), (3, .int x3), (7, .int x7), (8, .int x8)] [] S dy := by
  intro k
  induction k with
  | zero => exact fun _ _ _ _ _ _ _ E => nomatch (show none = some dy' from E)
  | succ k ih =>
    intro x0 x2 x3 x7 x8 dy Tx0 E
    rw [F_X10_lay_305_s] at E
    refine ww_iload C dX10_lay_305 4 rfl ?_
    refine ww_bipush (v := 96) C dX10_lay_307 (by decide) ?_
    refine ww_icmp_ge (tgt := 344) C dX10_lay_309 (by decide) E (fun _ E => ?_) (fun _ E => ?_)
    · refine ww_iconst (v := 0) C dX10_lay_344 (by decide) ?_
      refine ww_istore (lv' := [(8, .int (0 : Int32)), (0, .ref (ad x0)), (2, .int x2), (3, .int x3), (7, .int x7)]) C dX10_lay_345 (by decide) rfl ?_
      refine ww_sub (lv' := [(0, .ref (ad x0)), (3, .int x3), (7, .int x7), (8, .int (0 : Int32))]) [1, 3, 4, 0] rfl ?_
      exact (B_X10_lay_347 C HR HL hG N) x0 x3 x7 (0 : Int32) dy Tx0 E
    · refine ww_aload_n C dX10_lay_312 rfl 0 rfl ?_
      have T_1 : gs S (gr S x0 39) = (1, 10080) := hG.1 _ 10 Tx0 39 (by decide)
      refine ww_getr (ci := 10) (k0 := 39) C dX10_lay_313 rfl rfl inm10 (by decide) Tx0 q1317 rfl T_1 (by decide) ?_
      refine ww_iload C dX10_lay_316 3 rfl ?_
      refine ww_sipush (v := 256) C dX10_lay_318 (by decide) ?_
      refine ww_iadd C dX10_lay_321 ?_
      refine ww_iload C dX10_lay_322 4 rfl ?_
      refine ww_iadd C dX10_lay_324 ?_
      refine ww_aload_n C dX10_lay_325 rfl 0 rfl ?_
      have T_2 : gs S (gr S x0 10) = (1, 1152) := hG.1 _ 10 Tx0 10 (by decide)
      refine ww_getr (ci := 10) (k0 := 10) C dX10_lay_326 rfl rfl inm10 (by decide) Tx0 q1288 rfl T_2 (by decide) ?_
      refine ww_bipush (v := 96) C dX10_lay_329 (by decide) ?_
      refine ww_iload_n C dX10_lay_331 rfl 1 rfl ?_
      refine ww_imul C dX10_lay_332 ?_
      refine ww_iload C dX10_lay_333 4 rfl ?_
      refine ww_iadd C dX10_lay_335 ?_
      refine ww_iald C dX10_lay_336 T_2 E (fun _ E => ?_)
      refine ww_iast C dX10_lay_337 T_1 E (fun _ E => ?_)
      refine ww_bd E (fun dy3 E => ?_)
      refine ww_iinc (v := (x8 + (1 : Int32))) (lv' := [(8, .int (x8 + (1 : Int32))), (0, .ref (ad x0)), (2, .int x2), (3, .int x3), (7, .int x7)]) C dX10_lay_338 4 rfl rfl (by decide) rfl ?_
      refine ww_goto (tgt := 305) C dX10_lay_341 (by decide) ?_
      refine ww_sub (lv' := [(0, .ref (ad x0)), (2, .int x2), (3, .int x3), (7, .int x7), (8, .int (x8 + (1 : Int32)))]) [1, 2, 3, 4, 0] rfl ?_
      exact ih x0 x2 x3 x7 (x8 + (1 : Int32)) dy3 Tx0 E
set_option maxHeartbeats 4000000 in
set_option maxRecDepth 100000 in
theorem B_X10_lay_121 (C : CX p s m args c cX10_lay 13 RX10 G A) (HR : meth.sig.returnType = (Option.none : Option Jvm.ClassFile.FieldType)) (HL : meth.locks = false) (hG : Good S) : ∀ k : Nat, ∀ (x0 : Nat) (x1 : Int32) (x2 : Int32) (x3 : Int32) (x5 : Int32) (x6 : Int32) (x7 : Int32) (x8 : Int32) (dy : DY), gs S x0 = (0, 10) → (F_X10_lay_121 S N k) x0 x1 x2 x3 x5 x6 x7 x8 dy = some dy' → WJ p l e (rmD (2)) s m args below meth c 13 G A 0 0 (MQ below (QV G ad A S dy') args s 0 0 A) ad 121 [(0, .ref (ad x0)), (1, .int x1), (2, .int x2), (3, .int x3), (5, .int x5), (6, .int x6), (7, .int x7), (8, .int x8)] [] S dy := by
  intro k
  induction k with
  | zero => exact fun _ _ _ _ _ _ _ _ _ _ E => nomatch (show none = some dy' from E)
  | succ k ih =>
    intro x0 x1 x2 x3 x5 x6 x7 x8 dy Tx0 E
    rw [F_X10_lay_121_s] at E
    refine ww_iload C dX10_lay_121 7 rfl ?_
    refine ww_aload_n C dX10_lay_123 rfl 0 rfl ?_
    have T_1 : gs S (gr S x0 8) = (1, 12) := hG.1 _ 10 Tx0 8 (by decide)
    refine ww_getr (ci := 10) (k0 := 8) C dX10_lay_124 rfl rfl inm10 (by decide) Tx0 q1286 rfl T_1 (by decide) ?_
    refine ww_iload_n C dX10_lay_127 rfl 2 rfl ?_
    refine ww_iald C dX10_lay_128 T_1 E (fun _ E => ?_)
    refine ww_icmp_ge (tgt := 302) C dX10_lay_129 (by decide) E (fun _ E => ?_) (fun _ E => ?_)
    · refine ww_iconst (v := 0) C dX10_lay_302 (by decide) ?_
      refine ww_istore (lv' := [(8, .int (0 : Int32)), (0, .ref (ad x0)), (1, .int x1), (2, .int x2), (3, .int x3), (5, .int x5), (6, .int x6), (7, .int x7)]) C dX10_lay_303 (by decide) rfl ?_
      refine ww_sub (lv' := [(0, .ref (ad x0)), (2, .int x2), (3, .int x3), (7, .int x7), (8, .int (0 : Int32))]) [1, 3, 4, 7, 0] rfl ?_
      exact (B_X10_lay_305 C HR HL hG N) x0 x2 x3 x7 (0 : Int32) dy Tx0 E
    · refine ww_iload_n C dX10_lay_132 rfl 1 rfl ?_
      refine ww_iload C dX10_lay_133 7 rfl ?_
      obtain ⟨u2, e_3, E⟩ := bind_of E
      refine ww_callI C (runs_S (n := 2) (st := []) C [.int x1, .int x8] (M_X10_at l G ad N hG x1 x8 dy e_3) ⟨q1644, q118, by decide⟩ q1642 q1643 rfl (Nat.le_of_ble_eq_true rfl) ⟨Nat.le_of_ble_eq_true rfl, Nat.le_of_ble_eq_true rfl⟩ ⟨Nat.zero_le _, Nat.zero_le _⟩ dX10_lay_135 rfl) ?_
      refine ww_istore (lv' := [(9, .int u2.1), (0, .ref (ad x0)), (1, .int x1), (2, .int x2), (3, .int x3), (5, .int x5), (6, .int x6), (7, .int x7), (8, .int x8)]) C dX10_lay_138 (by decide) rfl ?_
      refine ww_bipush (v := 8) C dX10_lay_140 (by decide) ?_
      refine ww_bipush (v := 12) C dX10_lay_142 (by decide) ?_
      refine ww_iload_n C dX10_lay_144 rfl 3 rfl ?_
      refine ww_imul C dX10_lay_145 ?_
      refine ww_iload C dX10_lay_146 8 rfl ?_
      refine ww_iadd C dX10_lay_148 ?_
      refine ww_imul C dX10_lay_149 ?_
      refine ww_istore (lv' := [(10, .int ((8 : Int32) * (((12 : Int32) * x2) + x8))), (9, .int u2.1), (0, .ref (ad x0)), (1, .int x1), (2, .int x2), (3, .int x3), (5, .int x5), (6, .int x6), (7, .int x7), (8, .int x8)]) C dX10_lay_150 (by decide) rfl ?_
      refine ww_iload C dX10_lay_152 9 rfl ?_
      refine ww_iload C dX10_lay_154 6 rfl ?_
      refine ww_icmp_ge (tgt := 166) C dX10_lay_156 (by decide) E (fun _ E => ?_) (fun _ E => ?_)
      · refine ww_iconst (v := 1) C dX10_lay_166 (by decide) ?_
        refine ww_goto (tgt := 171) C dX10_lay_167 (by decide) ?_
        refine ww_istore (lv' := [(11, .int (1 : Int32)), (10, .int ((8 : Int32) * (((12 : Int32) * x2) + x8))), (9, .int u2.1), (0, .ref (ad x0)), (1, .int x1), (2, .int x2), (3, .int x3), (5, .int x5), (6, .int x6), (7, .int x7), (8, .int x8)]) C dX10_lay_171 (by decide) rfl ?_
        refine ww_iconst (v := 0) C dX10_lay_173 (by decide) ?_
        refine ww_istore (lv' := [(12, .int (0 : Int32)), (11, .int (1 : Int32)), (10, .int ((8 : Int32) * (((12 : Int32) * x2) + x8))), (9, .int u2.1), (0, .ref (ad x0)), (1, .int x1), (2, .int x2), (3, .int x3), (5, .int x5), (6, .int x6), (7, .int x7), (8, .int x8)]) C dX10_lay_174 (by decide) rfl ?_
        refine ww_sub (lv' := [(0, .ref (ad x0)), (1, .int x1), (2, .int x2), (3, .int x3), (5, .int x5), (6, .int x6), (7, .int x7), (8, .int x8), (9, .int u2.1), (10, .int ((8 : Int32) * (((12 : Int32) * x2) + x8))), (11, .int (1 : Int32)), (12, .int (0 : Int32))]) [4, 5, 6, 7, 8, 9, 10, 11, 3, 2, 1, 0] rfl ?_
        exact (B_X10_lay_176 C HR HL hG ih N) x0 x1 x2 x3 x5 x6 x7 x8 u2.1 ((8 : Int32) * (((12 : Int32) * x2) + x8)) (1 : Int32) (0 : Int32) u2.2 Tx0 E
      · refine ww_iload C dX10_lay_159 9 rfl ?_
        refine ww_iload C dX10_lay_161 7 rfl ?_
        refine ww_icmp_ne (tgt := 170) C dX10_lay_163 (by decide) E (fun _ E => ?_) (fun _ E => ?_)
        · refine ww_iconst (v := 0) C dX10_lay_170 (by decide) ?_
          refine ww_istore (lv' := [(11, .int (0 : Int32)), (10, .int ((8 : Int32) * (((12 : Int32) * x2) + x8))), (9, .int u2.1), (0, .ref (ad x0)), (1, .int x1), (2, .int x2), (3, .int x3), (5, .int x5), (6, .int x6), (7, .int x7), (8, .int x8)]) C dX10_lay_171 (by decide) rfl ?_
          refine ww_iconst (v := 0) C dX10_lay_173 (by decide) ?_
          refine ww_istore (lv' := [(12, .int (0 : Int32)), (11, .int (0 : Int32)), (10, .int ((8 : Int32) * (((12 : Int32) * x2) + x8))), (9, .int u2.1), (0, .ref (ad x0)), (1, .int x1), (2, .int x2), (3, .int x3), (5, .int x5), (6, .int x6), (7, .int x7), (8, .int x8)]) C dX10_lay_174 (by decide) rfl ?_
          refine ww_sub (lv' := [(0, .ref (ad x0)), (1, .int x1), (2, .int x2), (3, .int x3), (5, .int x5), (6, .int x6), (7, .int x7), (8, .int x8), (9, .int u2.1), (10, .int ((8 : Int32) * (((12 : Int32) * x2) + x8))), (11, .int (0 : Int32)), (12, .int (0 : Int32))]) [4, 5, 6, 7, 8, 9, 10, 11, 3, 2, 1, 0] rfl ?_
          exact (B_X10_lay_176 C HR HL hG ih N) x0 x1 x2 x3 x5 x6 x7 x8 u2.1 ((8 : Int32) * (((12 : Int32) * x2) + x8)) (0 : Int32) (0 : Int32) u2.2 Tx0 E
        · refine ww_iconst (v := 1) C dX10_lay_166 (by decide) ?_
          refine ww_goto (tgt := 171) C dX10_lay_167 (by decide) ?_
          refine ww_istore (lv' := [(11, .int (1 : Int32)), (10, .int ((8 : Int32) * (((12 : Int32) * x2) + x8))), (9, .int u2.1), (0, .ref (ad x0)), (1, .int x1), (2, .int x2), (3, .int x3), (5, .int x5), (6, .int x6), (7, .int x7), (8, .int x8)]) C dX10_lay_171 (by decide) rfl ?_
          refine ww_iconst (v := 0) C dX10_lay_173 (by decide) ?_
          refine ww_istore (lv' := [(12, .int (0 : Int32)), (11, .int (1 : Int32)), (10, .int ((8 : Int32) * (((12 : Int32) * x2) + x8))), (9, .int u2.1), (0, .ref (ad x0)), (1, .int x1), (2, .int x2), (3, .int x3), (5, .int x5), (6, .int x6), (7, .int x7), (8, .int x8)]) C dX10_lay_174 (by decide) rfl ?_
          refine ww_sub (lv' := [(0, .ref (ad x0)), (1, .int x1), (2, .int x2), (3, .int x3), (5, .int x5), (6, .int x6), (7, .int x7), (8, .int x8), (9, .int u2.1), (10, .int ((8 : Int32) * (((12 : Int32) * x2) + x8))), (11, .int (1 : Int32)), (12, .int (0 : Int32))]) [4, 5, 6, 7, 8, 9, 10, 11, 3, 2, 1, 0] rfl ?_
          exact (B_X10_lay_176 C HR HL hG ih N) x0 x1 x2 x3 x5 x6 x7 x8 u2.1 ((8 : Int32) * (((12 : Int32) * x2) + x8)) (1 : Int32) (0 : Int32) u2.2 Tx0 E
set_option maxHeartbeats 4000000 in
set_option maxRecDepth 100000 in
theorem B_X10_lay_10 (C : CX p s m args c cX10_lay 13 RX10 G A) (HR : meth.sig.returnType = (Option.none : Option Jvm.ClassFile.FieldType)) (HL : meth.locks = false) (hG : Good S) : ∀ k : Nat, ∀ (x0 : Nat) (x1 : Int32) (x2 : Int32) (x3 : Int32) (x4 : Int32) (x5 : Int32) (x6 : Int32) (x7 : Int32) (x8 : Int32) (dy : DY), gs S x0 = (0, 10) → (F_X10_lay_10 S N k) x0 x1 x2 x3 x4 x5 x6 x7 x8 dy = some dy' → WJ p l e (rmD (2)) s m args below meth c 13 G A 0 0 (MQ below (QV G ad A S dy') args s 0 0 A) ad 10 [(0, .ref (ad x0)), (1, .int x1), (2, .int x2), (3, .int x3), (4, .int x4), (5, .int x5), (6, .int x6), (7, .int x7), (8, .int x8)] [] S dy := by
  intro k
  induction k with
  | zero => exact fun _ _ _ _ _ _ _ _ _ _ _ E => nomatch (show none = some dy' from E)
  | succ k ih =>
    intro x0 x1 x2 x3 x4 x5 x6 x7 x8 dy Tx0 E
    rw [F_X10_lay_10_s] at E
    refine ww_iload C dX10_lay_10 8 rfl ?_
    refine ww_sipush (v := 720) C dX10_lay_12 (by decide) ?_
    refine ww_icmp_ge (tgt := 35) C dX10_lay_15 (by decide) E (fun _ E => ?_) (fun _ E => ?_)
    · refine ww_aload_n C dX10_lay_35 rfl 0 rfl ?_
      have T_1 : gs S (gr S x0 39) = (1, 10080) := hG.1 _ 10 Tx0 39 (by decide)
      refine ww_getr (ci := 10) (k0 := 39) C dX10_lay_36 rfl rfl inm10 (by decide) Tx0 q1317 rfl T_1 (by decide) ?_
      refine ww_iload C dX10_lay_39 7 rfl ?_
      refine ww_iconst (v := 0) C dX10_lay_41 (by decide) ?_
      refine ww_iadd C dX10_lay_42 ?_
      refine ww_aload_n C dX10_lay_43 rfl 0 rfl ?_
      have T_2 : gs S (gr S x0 6) = (1, 12) := hG.1 _ 10 Tx0 6 (by decide)
      refine ww_getr (ci := 10) (k0 := 6) C dX10_lay_44 rfl rfl inm10 (by decide) Tx0 q1284 rfl T_2 (by decide) ?_
      refine ww_iload_n C dX10_lay_47 rfl 2 rfl ?_
      refine ww_iald C dX10_lay_48 T_2 E (fun _ E => ?_)
      refine ww_iast C dX10_lay_49 T_1 E (fun _ E => ?_)
      refine ww_bd E (fun dy3 E => ?_)
      refine ww_aload_n C dX10_lay_50 rfl 0 rfl ?_
      have T_4 : gs S (gr S x0 39) = (1, 10080) := hG.1 _ 10 Tx0 39 (by decide)
      refine ww_getr (ci := 10) (k0 := 39) C dX10_lay_51 rfl rfl inm10 (by decide) Tx0 q1317 rfl T_4 (by decide) ?_
      refine ww_iload C dX10_lay_54 7 rfl ?_
      refine ww_iconst (v := 1) C dX10_lay_56 (by decide) ?_
      refine ww_iadd C dX10_lay_57 ?_
      refine ww_aload_n C dX10_lay_58 rfl 0 rfl ?_
      have T_5 : gs S (gr S x0 7) = (1, 12) := hG.1 _ 10 Tx0 7 (by decide)
      refine ww_getr (ci := 10) (k0 := 7) C dX10_lay_59 rfl rfl inm10 (by decide) Tx0 q1285 rfl T_5 (by decide) ?_
      refine ww_iload_n C dX10_lay_62 rfl 2 rfl ?_
      refine ww_iald C dX10_lay_63 T_5 E (fun _ E => ?_)
      refine ww_iast C dX10_lay_64 T_4 E (fun _ E => ?_)
      refine ww_bd E (fun dy6 E => ?_)
      refine ww_aload_n C dX10_lay_65 rfl 0 rfl ?_
      have T_7 : gs S (gr S x0 39) = (1, 10080) := hG.1 _ 10 Tx0 39 (by decide)
      refine ww_getr (ci := 10) (k0 := 39) C dX10_lay_66 rfl rfl inm10 (by decide) Tx0 q1317 rfl T_7 (by decide) ?_
      refine ww_iload C dX10_lay_69 7 rfl ?_
      refine ww_iconst (v := 2) C dX10_lay_71 (by decide) ?_
      refine ww_iadd C dX10_lay_72 ?_
      refine ww_aload_n C dX10_lay_73 rfl 0 rfl ?_
      have T_8 : gs S (gr S x0 8) = (1, 12) := hG.1 _ 10 Tx0 8 (by decide)
      refine ww_getr (ci := 10) (k0 := 8) C dX10_lay_74 rfl rfl inm10 (by decide) Tx0 q1286 rfl T_8 (by decide) ?_
      refine ww_iload_n C dX10_lay_77 rfl 2 rfl ?_
      refine ww_iald C dX10_lay_78 T_8 E (fun _ E => ?_)
      refine ww_iast C dX10_lay_79 T_7 E (fun _ E => ?_)
      refine ww_bd E (fun dy9 E => ?_)
      refine ww_aload_n C dX10_lay_80 rfl 0 rfl ?_
      have T_10 : gs S (gr S x0 39) = (1, 10080) := hG.1 _ 10 Tx0 39 (by decide)
      refine ww_getr (ci := 10) (k0 := 39) C dX10_lay_81 rfl rfl inm10 (by decide) Tx0 q1317 rfl T_10 (by decide) ?_
      refine ww_iload C dX10_lay_84 7 rfl ?_
      refine ww_iconst (v := 4) C dX10_lay_86 (by decide) ?_
      refine ww_iadd C dX10_lay_87 ?_
      refine ww_iload C dX10_lay_88 4 rfl ?_
      refine ww_iast C dX10_lay_90 T_10 E (fun _ E => ?_)
      refine ww_bd E (fun dy11 E => ?_)
      refine ww_aload_n C dX10_lay_91 rfl 0 rfl ?_
      have T_12 : gs S (gr S x0 39) = (1, 10080) := hG.1 _ 10 Tx0 39 (by decide)
      refine ww_getr (ci := 10) (k0 := 39) C dX10_lay_92 rfl rfl inm10 (by decide) Tx0 q1317 rfl T_12 (by decide) ?_
      refine ww_iload C dX10_lay_95 7 rfl ?_
      refine ww_bipush (v := 9) C dX10_lay_97 (by decide) ?_
      refine ww_iadd C dX10_lay_99 ?_
      refine ww_aload_n C dX10_lay_100 rfl 0 rfl ?_
      have T_13 : gs S (gr S x0 13) = (1, 12) := hG.1 _ 10 Tx0 13 (by decide)
      refine ww_getr (ci := 10) (k0 := 13) C dX10_lay_101 rfl rfl inm10 (by decide) Tx0 q1291 rfl T_13 (by decide) ?_
      refine ww_iload_n C dX10_lay_104 rfl 3 rfl ?_
      refine ww_iald C dX10_lay_105 T_13 E (fun _ E => ?_)
      refine ww_iast C dX10_lay_106 T_12 E (fun _ E => ?_)
      refine ww_bd E (fun dy14 E => ?_)
      refine ww_aload_n C dX10_lay_107 rfl 0 rfl ?_
      have T_15 : gs S (gr S x0 39) = (1, 10080) := hG.1 _ 10 Tx0 39 (by decide)
      refine ww_getr (ci := 10) (k0 := 39) C dX10_lay_108 rfl rfl inm10 (by decide) Tx0 q1317 rfl T_15 (by decide) ?_
      refine ww_iload C dX10_lay_111 7 rfl ?_
      refine ww_bipush (v := 10) C dX10_lay_113 (by decide) ?_
      refine ww_iadd C dX10_lay_115 ?_
      refine ww_iconst (v := 1) C dX10_lay_116 (by decide) ?_
      refine ww_iast C dX10_lay_117 T_15 E (fun _ E => ?_)
      refine ww_bd E (fun dy16 E => ?_)
      refine ww_iconst (v := 0) C dX10_lay_118 (by decide) ?_
      refine ww_istore (lv' := [(8, .int (0 : Int32)), (0, .ref (ad x0)), (1, .int x1), (2, .int x2), (3, .int x3), (4, .int x4), (5, .int x5), (6, .int x6), (7, .int x7)]) C dX10_lay_119 (by decide) rfl ?_
      refine ww_sub (lv' := [(0, .ref (ad x0)), (1, .int x1), (2, .int x2), (3, .int x3), (5, .int x5), (6, .int x6), (7, .int x7), (8, .int (0 : Int32))]) [1, 2, 3, 4, 6, 7, 8, 0] rfl ?_
      exact (B_X10_lay_121 C HR HL hG N) x0 x1 x2 x3 x5 x6 x7 (0 : Int32) dy16 Tx0 E
    · refine ww_aload_n C dX10_lay_18 rfl 0 rfl ?_
      have T_17 : gs S (gr S x0 39) = (1, 10080) := hG.1 _ 10 Tx0 39 (by decide)
      refine ww_getr (ci := 10) (k0 := 39) C dX10_lay_19 rfl rfl inm10 (by decide) Tx0 q1317 rfl T_17 (by decide) ?_
      refine ww_iload C dX10_lay_22 7 rfl ?_
      refine ww_iload C dX10_lay_24 8 rfl ?_
      refine ww_iadd C dX10_lay_26 ?_
      refine ww_iconst (v := 0) C dX10_lay_27 (by decide) ?_
      refine ww_iast C dX10_lay_28 T_17 E (fun _ E => ?_)
      refine ww_bd E (fun dy18 E => ?_)
      refine ww_iinc (v := (x8 + (1 : Int32))) (lv' := [(8, .int (x8 + (1 : Int32))), (0, .ref (ad x0)), (1, .int x1), (2, .int x2), (3, .int x3), (4, .int x4), (5, .int x5), (6, .int x6), (7, .int x7)]) C dX10_lay_29 8 rfl rfl (by decide) rfl ?_
      refine ww_goto (tgt := 10) C dX10_lay_32 (by decide) ?_
      refine ww_sub (lv' := [(0, .ref (ad x0)), (1, .int x1), (2, .int x2), (3, .int x3), (4, .int x4), (5, .int x5), (6, .int x6), (7, .int x7), (8, .int (x8 + (1 : Int32)))]) [1, 2, 3, 4, 5, 6, 7, 8, 0] rfl ?_
      exact ih x0 x1 x2 x3 x4 x5 x6 x7 (x8 + (1 : Int32)) dy18 Tx0 E
end P_X10_lay
set_option maxHeartbeats 4000000 in
set_option maxRecDepth 100000 in
theorem M_X10_lay (l : Launch) (G : GG) (ad : Nat → Nat) {S : ST} (N : Nat) (hG : Good S) (a0 : Nat) (a1 : Int32) (a2 : Int32) (a3 : Int32) (a4 : Int32) (a5 : Int32) (a6 : Int32) (dy : DY) (T0 : gs S a0 = (0, 10)) {dy' : DY} (E : F_X10_lay S N a0 a1 a2 a3 a4 a5 a6 dy = some dy') : MC l yX10_lay cX10_lay 13 (Option.none : Option Jvm.ClassFile.FieldType) (2) G ad [.ref (ad a0), .int a1, .int a2, .int a3, .int a4, .int a5, .int a6] S dy (fun A => QV G ad A S dy') := by
  rw [F_X10_lay_s] at E
  refine mc_of RX10 (by decide) rfl (Nat.le_of_ble_eq_true rfl) (fun p e s m args below meth c A C HR HL => ?_)
  refine ww_sub (lv' := [(0, .ref (ad a0)), (1, .int a1), (2, .int a2), (3, .int a3), (4, .int a4), (5, .int a5), (6, .int a6)]) [0, 1, 2, 3, 4, 5, 6] rfl ?_
  refine ww_sipush (v := 720) C dX10_lay_0 (by decide) ?_
  refine ww_iload_n C dX10_lay_3 rfl 1 rfl ?_
  refine ww_imul C dX10_lay_4 ?_
  refine ww_istore (lv' := [(7, .int ((720 : Int32) * a1)), (0, .ref (ad a0)), (1, .int a1), (2, .int a2), (3, .int a3), (4, .int a4), (5, .int a5), (6, .int a6)]) C dX10_lay_5 (by decide) rfl ?_
  refine ww_iconst (v := 0) C dX10_lay_7 (by decide) ?_
  refine ww_istore (lv' := [(8, .int (0 : Int32)), (7, .int ((720 : Int32) * a1)), (0, .ref (ad a0)), (1, .int a1), (2, .int a2), (3, .int a3), (4, .int a4), (5, .int a5), (6, .int a6)]) C dX10_lay_8 (by decide) rfl ?_
  refine ww_sub (lv' := [(0, .ref (ad a0)), (1, .int a1), (2, .int a2), (3, .int a3), (4, .int a4), (5, .int a5), (6, .int a6), (7, .int ((720 : Int32) * a1)), (8, .int (0 : Int32))]) [2, 3, 4, 5, 6, 7, 8, 1, 0] rfl ?_
  exact (B_X10_lay_10 C HR HL hG N) a0 a1 a2 a3 a4 a5 a6 ((720 : Int32) * a1) (0 : Int32) dy T0 E
section P_X10_dance
variable {p : Program} {l : Launch} {e : Env} {s : State} {m : MethodId} {args : Array Value} {below : List Frame} {meth : Method} {c : Code} {G : GG} {A : Nat → Prop} {ad : Nat → Nat} {S : ST} {N : Nat} {r : Int32} {dy' : DY}
end P_X10_dance
set_option maxHeartbeats 4000000 in
set_option maxRecDepth 100000 in
theorem M_X10_dance (l : Launch) (G : GG) (ad : Nat → Nat) {S : ST} (N : Nat) (hG : Good S) (a0 : Nat) (a1 : Int32) (a2 : Int32) (a3 : Int32) (dy : DY) (T0 : gs S a0 = (0, 10)) {r : Int32} {dy' : DY} (E : F_X10_dance S N a0 a1 a2 a3 dy = some (r, dy')) : MC l yX10_dance cX10_dance 7 (Option.some Jvm.ClassFile.FieldType.boolean) (2) G ad [.ref (ad a0), .int a1, .int a2, .int a3] S dy (fun A => QI G ad A S r dy') := by
  rw [F_X10_dance_s] at E
  refine mc_of RX10 (by decide) rfl (Nat.le_of_ble_eq_true rfl) (fun p e s m args below meth c A C HR HL => ?_)
  refine ww_sub (lv' := [(0, .ref (ad a0)), (1, .int a1), (2, .int a2), (3, .int a3)]) [0, 1, 2, 3] rfl ?_
  refine ww_iload_n C dX10_dance_0 rfl 1 rfl ?_
  refine ww_iload_n C dX10_dance_1 rfl 2 rfl ?_
  obtain ⟨u1, e_2, E⟩ := bind_of E
  refine ww_callI C (runs_S (n := 2) (st := []) C [.int a1, .int a2] (M_X10_at l G ad N hG a1 a2 dy e_2) ⟨q1644, q118, by decide⟩ q1642 q1643 rfl (Nat.le_of_ble_eq_true rfl) ⟨Nat.le_of_ble_eq_true rfl, Nat.le_of_ble_eq_true rfl⟩ ⟨Nat.zero_le _, Nat.zero_le _⟩ dX10_dance_2 rfl) ?_
  refine ww_istore (lv' := [(4, .int u1.1), (0, .ref (ad a0)), (1, .int a1), (2, .int a2), (3, .int a3)]) C dX10_dance_5 (by decide) rfl ?_
  refine ww_iload_n C dX10_dance_7 rfl 2 rfl ?_
  refine ww_iload_n C dX10_dance_8 rfl 4 rfl ?_
  obtain ⟨u3, e_4, E⟩ := bind_of E
  refine ww_callI C (runs_S (n := 2) (st := []) C [.int a1, .int a3] (M_X10_at l G ad N hG a1 a3 u1.2 e_4) ⟨q1644, q118, by decide⟩ q1642 q1643 rfl (Nat.le_of_ble_eq_true rfl) ⟨Nat.le_of_ble_eq_true rfl, Nat.le_of_ble_eq_true rfl⟩ ⟨Nat.zero_le _, Nat.zero_le _⟩ dX10_dance_9 rfl) ?_
  refine ww_istore (lv' := [(5, .int u3.1), (4, .int u1.1), (0, .ref (ad a0)), (1, .int a1), (2, .int a2), (3, .int a3)]) C dX10_dance_12 (by decide) rfl ?_
  refine ww_aload_n C dX10_dance_14 rfl 2 rfl ?_
  have T_5 : gs S (gr S a0 44) = (1, 12) := hG.1 _ 10 T0 44 (by decide)
  refine ww_getr (ci := 10) (k0 := 44) C dX10_dance_15 rfl rfl inm10 (by decide) T0 q1322 rfl T_5 (by decide) ?_
  refine ww_iload_n C dX10_dance_18 rfl 4 rfl ?_
  refine ww_iald C dX10_dance_19 T_5 E (fun _ E => ?_)
  refine ww_if_eq (tgt := 73) C dX10_dance_20 (by decide) E (fun _ E => ?_) (fun _ E => ?_)
  · refine ww_iconst (v := 0) C dX10_dance_73 (by decide) ?_
    exact ww_zret C HR HL dX10_dance_74 (Or.inl rfl) E
  · refine ww_aload_n C dX10_dance_23 rfl 2 rfl ?_
    have T_6 : gs S (gr S a0 44) = (1, 12) := hG.1 _ 10 T0 44 (by decide)
    refine ww_getr (ci := 10) (k0 := 44) C dX10_dance_24 rfl rfl inm10 (by decide) T0 q1322 rfl T_6 (by decide) ?_
    refine ww_iload_n C dX10_dance_27 rfl 5 rfl ?_
    refine ww_iald C dX10_dance_28 T_6 E (fun _ E => ?_)
    refine ww_if_eq (tgt := 73) C dX10_dance_29 (by decide) E (fun _ E => ?_) (fun _ E => ?_)
    · refine ww_iconst (v := 0) C dX10_dance_73 (by decide) ?_
      exact ww_zret C HR HL dX10_dance_74 (Or.inl rfl) E
    · refine ww_aload_n C dX10_dance_32 rfl 2 rfl ?_
      have T_7 : gs S (gr S a0 43) = (1, 12) := hG.1 _ 10 T0 43 (by decide)
      refine ww_getr (ci := 10) (k0 := 43) C dX10_dance_33 rfl rfl inm10 (by decide) T0 q1321 rfl T_7 (by decide) ?_
      refine ww_iload_n C dX10_dance_36 rfl 4 rfl ?_
      refine ww_iald C dX10_dance_37 T_7 E (fun _ E => ?_)
      refine ww_if_eq (tgt := 73) C dX10_dance_38 (by decide) E (fun _ E => ?_) (fun _ E => ?_)
      · refine ww_iconst (v := 0) C dX10_dance_73 (by decide) ?_
        exact ww_zret C HR HL dX10_dance_74 (Or.inl rfl) E
      · refine ww_aload_n C dX10_dance_41 rfl 2 rfl ?_
        have T_8 : gs S (gr S a0 43) = (1, 12) := hG.1 _ 10 T0 43 (by decide)
        refine ww_getr (ci := 10) (k0 := 43) C dX10_dance_42 rfl rfl inm10 (by decide) T0 q1321 rfl T_8 (by decide) ?_
        refine ww_iload_n C dX10_dance_45 rfl 5 rfl ?_
        refine ww_iald C dX10_dance_46 T_8 E (fun _ E => ?_)
        refine ww_if_eq (tgt := 73) C dX10_dance_47 (by decide) E (fun _ E => ?_) (fun _ E => ?_)
        · refine ww_iconst (v := 0) C dX10_dance_73 (by decide) ?_
          exact ww_zret C HR HL dX10_dance_74 (Or.inl rfl) E
        · refine ww_aload_n C dX10_dance_50 rfl 2 rfl ?_
          have T_9 : gs S (gr S a0 39) = (1, 10080) := hG.1 _ 10 T0 39 (by decide)
          refine ww_getr (ci := 10) (k0 := 39) C dX10_dance_51 rfl rfl inm10 (by decide) T0 q1317 rfl T_9 (by decide) ?_
          refine ww_iload C dX10_dance_54 1 rfl ?_
          refine ww_bipush (v := 8) C dX10_dance_56 (by decide) ?_
          refine ww_iadd C dX10_dance_58 ?_
          refine ww_iald C dX10_dance_59 T_9 E (fun _ E => ?_)
          refine ww_aload_n C dX10_dance_60 rfl 2 rfl ?_
          have T_10 : gs S (gr S a0 39) = (1, 10080) := hG.1 _ 10 T0 39 (by decide)
          refine ww_getr (ci := 10) (k0 := 39) C dX10_dance_61 rfl rfl inm10 (by decide) T0 q1317 rfl T_10 (by decide) ?_
          refine ww_iload C dX10_dance_64 0 rfl ?_
          refine ww_bipush (v := 8) C dX10_dance_66 (by decide) ?_
          refine ww_iadd C dX10_dance_68 ?_
          refine ww_iald C dX10_dance_69 T_10 E (fun _ E => ?_)
          refine ww_icmp_ne (tgt := 75) C dX10_dance_70 (by decide) E (fun _ E => ?_) (fun _ E => ?_)
          · refine ww_aload_n C dX10_dance_75 rfl 2 rfl ?_
            have T_11 : gs S (gr S a0 39) = (1, 10080) := hG.1 _ 10 T0 39 (by decide)
            refine ww_getr (ci := 10) (k0 := 39) C dX10_dance_76 rfl rfl inm10 (by decide) T0 q1317 rfl T_11 (by decide) ?_
            refine ww_iload C dX10_dance_79 1 rfl ?_
            refine ww_iald C dX10_dance_81 T_11 E (fun _ E => ?_)
            refine ww_aload_n C dX10_dance_82 rfl 2 rfl ?_
            have T_12 : gs S (gr S a0 39) = (1, 10080) := hG.1 _ 10 T0 39 (by decide)
            refine ww_getr (ci := 10) (k0 := 39) C dX10_dance_83 rfl rfl inm10 (by decide) T0 q1317 rfl T_12 (by decide) ?_
            refine ww_iload C dX10_dance_86 0 rfl ?_
            refine ww_iald C dX10_dance_88 T_12 E (fun _ E => ?_)
            refine ww_isub C dX10_dance_89 ?_
            refine ww_istore (lv' := [(6, .int ((gi u3.2 (gr S a0 39) u1.1.toNatClampNeg) - (gi u3.2 (gr S a0 39) u3.1.toNatClampNeg))), (5, .int u3.1), (4, .int u1.1), (0, .ref (ad a0)), (1, .int a1), (2, .int a2), (3, .int a3)]) C dX10_dance_90 (by decide) rfl ?_
            refine ww_iload C dX10_dance_92 0 rfl ?_
            refine ww_bipush (v := (-2)) C dX10_dance_94 (by decide) ?_
            refine ww_iconst (v := 2) C dX10_dance_96 (by decide) ?_
            obtain ⟨u13, e_14, E⟩ := bind_of E
            refine ww_callI C (runs_S (n := 3) (st := []) C [.int ((gi u3.2 (gr S a0 39) u1.1.toNatClampNeg) - (gi u3.2 (gr S a0 39) u3.1.toNatClampNeg)), .int (-2 : Int32), .int (2 : Int32)] (M_X10_in l G ad N hG ((gi u3.2 (gr S a0 39) u1.1.toNatClampNeg) - (gi u3.2 (gr S a0 39) u3.1.toNatClampNeg)) (-2 : Int32) (2 : Int32) u3.2 e_14) ⟨q1476, q118, by decide⟩ q1474 q1475 rfl (Nat.le_of_ble_eq_true rfl) ⟨Nat.le_of_ble_eq_true rfl, Nat.le_of_ble_eq_true rfl⟩ ⟨Nat.zero_le _, Nat.zero_le _⟩ dX10_dance_97 rfl) ?_
            refine ww_if_eq (tgt := 143) C dX10_dance_100 (by decide) E (fun _ E => ?_) (fun _ E => ?_)
            · refine ww_iconst (v := 0) C dX10_dance_143 (by decide) ?_
              exact ww_zret C HR HL dX10_dance_144 (Or.inl rfl) E
            · refine ww_aload_n C dX10_dance_103 rfl 3 rfl ?_
              have T_15 : gs S (gr S a0 39) = (1, 10080) := hG.1 _ 10 T0 39 (by decide)
              refine ww_getr (ci := 10) (k0 := 39) C dX10_dance_104 rfl rfl inm10 (by decide) T0 q1317 rfl T_15 (by decide) ?_
              refine ww_iload C dX10_dance_107 2 rfl ?_
              refine ww_iconst (v := 4) C dX10_dance_109 (by decide) ?_
              refine ww_iadd C dX10_dance_110 ?_
              refine ww_iald C dX10_dance_111 T_15 E (fun _ E => ?_)
              refine ww_aload_n C dX10_dance_112 rfl 3 rfl ?_
              have T_16 : gs S (gr S a0 39) = (1, 10080) := hG.1 _ 10 T0 39 (by decide)
              refine ww_getr (ci := 10) (k0 := 39) C dX10_dance_113 rfl rfl inm10 (by decide) T0 q1317 rfl T_16 (by decide) ?_
              refine ww_iload C dX10_dance_116 1 rfl ?_
              refine ww_iconst (v := 4) C dX10_dance_118 (by decide) ?_
              refine ww_iadd C dX10_dance_119 ?_
              refine ww_iald C dX10_dance_120 T_16 E (fun _ E => ?_)
              refine ww_icmp_ne (tgt := 143) C dX10_dance_121 (by decide) E (fun _ E => ?_) (fun _ E => ?_)
              · refine ww_iconst (v := 0) C dX10_dance_143 (by decide) ?_
                exact ww_zret C HR HL dX10_dance_144 (Or.inl rfl) E
              · refine ww_aload_n C dX10_dance_124 rfl 3 rfl ?_
                have T_17 : gs S (gr S a0 49) = (1, 12) := hG.1 _ 10 T0 49 (by decide)
                refine ww_getr (ci := 10) (k0 := 49) C dX10_dance_125 rfl rfl inm10 (by decide) T0 q1327 rfl T_17 (by decide) ?_
                refine ww_iload_n C dX10_dance_128 rfl 5 rfl ?_
                refine ww_iald C dX10_dance_129 T_17 E (fun _ E => ?_)
                refine ww_aload_n C dX10_dance_130 rfl 3 rfl ?_
                have T_18 : gs S (gr S a0 49) = (1, 12) := hG.1 _ 10 T0 49 (by decide)
                refine ww_getr (ci := 10) (k0 := 49) C dX10_dance_131 rfl rfl inm10 (by decide) T0 q1327 rfl T_18 (by decide) ?_
                refine ww_iload_n C dX10_dance_134 rfl 6 rfl ?_
                refine ww_iald C dX10_dance_135 T_18 E (fun _ E => ?_)
                refine ww_icmp_ne (tgt := 143) C dX10_dance_136 (by decide) E (fun _ E => ?_) (fun _ E => ?_)
                · refine ww_iconst (v := 0) C dX10_dance_143 (by decide) ?_
                  exact ww_zret C HR HL dX10_dance_144 (Or.inl rfl) E
                · refine ww_iconst (v := 1) C dX10_dance_139 (by decide) ?_
                  refine ww_goto (tgt := 144) C dX10_dance_140 (by decide) ?_
                  exact ww_zret C HR HL dX10_dance_144 (Or.inr rfl) E
          · refine ww_iconst (v := 0) C dX10_dance_73 (by decide) ?_
            exact ww_zret C HR HL dX10_dance_74 (Or.inl rfl) E
section P_X10_ends
variable {p : Program} {l : Launch} {e : Env} {s : State} {m : MethodId} {args : Array Value} {below : List Frame} {meth : Method} {c : Code} {G : GG} {A : Nat → Prop} {ad : Nat → Nat} {S : ST} {N : Nat} {dy' : DY}
set_option maxHeartbeats 4000000 in
set_option maxRecDepth 100000 in
theorem B_X10_ends_137 (C : CX p s m args c cX10_ends 4 RX10 G A) (HR : meth.sig.returnType = (Option.none : Option Jvm.ClassFile.FieldType)) (HL : meth.locks = false) (hG : Good S) : ∀ (y0 : Nat) (y1 : Int32) (y2 : Int32) (dy : DY), gs S y0 = (1, 10080) → F_X10_ends_137 S N y0 y1 y2 dy = some dy' → WJ p l e (rmD (1)) s m args below meth c 4 G A 0 0 (MQ below (QV G ad A S dy') args s 0 0 A) ad 137 [] [.int y2, .int y1, .ref (ad y0)] S dy := by
  intro y0 y1 y2 dy Ty0 E
  rw [F_X10_ends_137_s] at E
  refine ww_iast C dX10_ends_137 Ty0 E (fun _ E => ?_)
  refine ww_bd E (fun dy1 E => ?_)
  exact ww_vret C HR HL dX10_ends_138 E
set_option maxHeartbeats 4000000 in
set_option maxRecDepth 100000 in
theorem B_X10_ends_2 (C : CX p s m args c cX10_ends 4 RX10 G A) (HR : meth.sig.returnType = (Option.none : Option Jvm.ClassFile.FieldType)) (HL : meth.locks = false) (hG : Good S) : ∀ k : Nat, ∀ (x0 : Nat) (x1 : Int32) (x2 : Int32) (x3 : Int32) (dy : DY), gs S x0 = (0, 10) → (F_X10_ends_2 S N k) x0 x1 x2 x3 dy = some dy' → WJ p l e (rmD (1)) s m args below meth c 4 G A 0 0 (MQ below (QV G ad A S dy') args s 0 0 A) ad 2 [(0, .ref (ad x0)), (1, .int x1), (2, .int x2), (3, .int x3)] [] S dy := by
  intro k
  induction k with
  | zero => exact fun _ _ _ _ _ _ E => nomatch (show none = some dy' from E)
  | succ k ih =>
    intro x0 x1 x2 x3 dy Tx0 E
    rw [F_X10_ends_2_s] at E
    refine ww_iload_n C dX10_ends_2 rfl 3 rfl ?_
    refine ww_if_le (tgt := 52) C dX10_ends_3 (by decide) E (fun _ E => ?_) (fun _ E => ?_)
    · refine ww_aload_n C dX10_ends_52 rfl 0 rfl ?_
      have T_1 : gs S (gr S x0 39) = (1, 10080) := hG.1 _ 10 Tx0 39 (by decide)
      refine ww_getr (ci := 10) (k0 := 39) C dX10_ends_53 rfl rfl inm10 (by decide) Tx0 q1317 rfl T_1 (by decide) ?_
      refine ww_iload_n C dX10_ends_56 rfl 1 rfl ?_
      refine ww_aload_n C dX10_ends_57 rfl 0 rfl ?_
      have T_2 : gs S (gr S x0 48) = (1, 12) := hG.1 _ 10 Tx0 48 (by decide)
      refine ww_getr (ci := 10) (k0 := 48) C dX10_ends_58 rfl rfl inm10 (by decide) Tx0 q1326 rfl T_2 (by decide) ?_
      refine ww_iload_n C dX10_ends_61 rfl 2 rfl ?_
      refine ww_iald C dX10_ends_62 T_2 E (fun _ E => ?_)
      refine ww_iast C dX10_ends_63 T_1 E (fun _ E => ?_)
      refine ww_bd E (fun dy3 E => ?_)
      refine ww_aload_n C dX10_ends_64 rfl 0 rfl ?_
      have T_4 : gs S (gr S x0 39) = (1, 10080) := hG.1 _ 10 Tx0 39 (by decide)
      refine ww_getr (ci := 10) (k0 := 39) C dX10_ends_65 rfl rfl inm10 (by decide) Tx0 q1317 rfl T_4 (by decide) ?_
      refine ww_iload_n C dX10_ends_68 rfl 1 rfl ?_
      refine ww_iconst (v := 4) C dX10_ends_69 (by decide) ?_
      refine ww_iadd C dX10_ends_70 ?_
      refine ww_aload_n C dX10_ends_71 rfl 0 rfl ?_
      have T_5 : gs S (gr S x0 49) = (1, 12) := hG.1 _ 10 Tx0 49 (by decide)
      refine ww_getr (ci := 10) (k0 := 49) C dX10_ends_72 rfl rfl inm10 (by decide) Tx0 q1327 rfl T_5 (by decide) ?_
      refine ww_iload_n C dX10_ends_75 rfl 2 rfl ?_
      refine ww_iald C dX10_ends_76 T_5 E (fun _ E => ?_)
      refine ww_iast C dX10_ends_77 T_4 E (fun _ E => ?_)
      refine ww_bd E (fun dy6 E => ?_)
      refine ww_aload_n C dX10_ends_78 rfl 0 rfl ?_
      have T_7 : gs S (gr S x0 39) = (1, 10080) := hG.1 _ 10 Tx0 39 (by decide)
      refine ww_getr (ci := 10) (k0 := 39) C dX10_ends_79 rfl rfl inm10 (by decide) Tx0 q1317 rfl T_7 (by decide) ?_
      refine ww_iload_n C dX10_ends_82 rfl 1 rfl ?_
      refine ww_bipush (v := 18) C dX10_ends_83 (by decide) ?_
      refine ww_iadd C dX10_ends_85 ?_
      refine ww_aload_n C dX10_ends_86 rfl 0 rfl ?_
      have T_8 : gs S (gr S x0 44) = (1, 12) := hG.1 _ 10 Tx0 44 (by decide)
      refine ww_getr (ci := 10) (k0 := 44) C dX10_ends_87 rfl rfl inm10 (by decide) Tx0 q1322 rfl T_8 (by decide) ?_
      refine ww_iload_n C dX10_ends_90 rfl 2 rfl ?_
      refine ww_iald C dX10_ends_91 T_8 E (fun _ E => ?_)
      refine ww_iconst (v := 1) C dX10_ends_92 (by decide) ?_
      refine ww_icmp_ne (tgt := 100) C dX10_ends_93 (by decide) E (fun _ E => ?_) (fun _ E => ?_)
      · refine ww_aload_n C dX10_ends_100 rfl 0 rfl ?_
        have T_9 : gs S (gr S x0 39) = (1, 10080) := hG.1 _ 10 Tx0 39 (by decide)
        refine ww_getr (ci := 10) (k0 := 39) C dX10_ends_101 rfl rfl inm10 (by decide) Tx0 q1317 rfl T_9 (by decide) ?_
        refine ww_iload_n C dX10_ends_104 rfl 1 rfl ?_
        refine ww_bipush (v := 18) C dX10_ends_105 (by decide) ?_
        refine ww_iadd C dX10_ends_107 ?_
        refine ww_iald C dX10_ends_108 T_9 E (fun _ E => ?_)
        refine ww_bipush (v := 99) C dX10_ends_109 (by decide) ?_
        refine ww_icmp_ge (tgt := 128) C dX10_ends_111 (by decide) E (fun _ E => ?_) (fun _ E => ?_)
        · refine ww_aload_n C dX10_ends_128 rfl 0 rfl ?_
          have T_10 : gs S (gr S x0 39) = (1, 10080) := hG.1 _ 10 Tx0 39 (by decide)
          refine ww_getr (ci := 10) (k0 := 39) C dX10_ends_129 rfl rfl inm10 (by decide) Tx0 q1317 rfl T_10 (by decide) ?_
          refine ww_iload_n C dX10_ends_132 rfl 1 rfl ?_
          refine ww_bipush (v := 18) C dX10_ends_133 (by decide) ?_
          refine ww_iadd C dX10_ends_135 ?_
          refine ww_iald C dX10_ends_136 T_10 E (fun _ E => ?_)
          refine ww_sub (lv' := []) [] rfl ?_
          exact (B_X10_ends_137 C HR HL hG) (gr S x0 39) (x1 + (18 : Int32)) (gi dy6 (gr S x0 39) (x1 + (18 : Int32)).toNatClampNeg) dy6 T_7 E
        · refine ww_aload_n C dX10_ends_114 rfl 0 rfl ?_
          have T_11 : gs S (gr S x0 39) = (1, 10080) := hG.1 _ 10 Tx0 39 (by decide)
          refine ww_getr (ci := 10) (k0 := 39) C dX10_ends_115 rfl rfl inm10 (by decide) Tx0 q1317 rfl T_11 (by decide) ?_
          refine ww_iload_n C dX10_ends_118 rfl 1 rfl ?_
          refine ww_bipush (v := 18) C dX10_ends_119 (by decide) ?_
          refine ww_iadd C dX10_ends_121 ?_
          refine ww_iald C dX10_ends_122 T_11 E (fun _ E => ?_)
          refine ww_iconst (v := 1) C dX10_ends_123 (by decide) ?_
          refine ww_iadd C dX10_ends_124 ?_
          refine ww_goto (tgt := 137) C dX10_ends_125 (by decide) ?_
          refine ww_sub (lv' := []) [] rfl ?_
          exact (B_X10_ends_137 C HR HL hG) (gr S x0 39) (x1 + (18 : Int32)) ((gi dy6 (gr S x0 39) (x1 + (18 : Int32)).toNatClampNeg) + (1 : Int32)) dy6 T_7 E
      · refine ww_iconst (v := 0) C dX10_ends_96 (by decide) ?_
        refine ww_goto (tgt := 137) C dX10_ends_97 (by decide) ?_
        refine ww_sub (lv' := []) [] rfl ?_
        exact (B_X10_ends_137 C HR HL hG) (gr S x0 39) (x1 + (18 : Int32)) (0 : Int32) dy6 T_7 E
    · refine ww_aload_n C dX10_ends_6 rfl 0 rfl ?_
      have T_12 : gs S (gr S x0 39) = (1, 10080) := hG.1 _ 10 Tx0 39 (by decide)
      refine ww_getr (ci := 10) (k0 := 39) C dX10_ends_7 rfl rfl inm10 (by decide) Tx0 q1317 rfl T_12 (by decide) ?_
      refine ww_iload_n C dX10_ends_10 rfl 1 rfl ?_
      refine ww_iload_n C dX10_ends_11 rfl 3 rfl ?_
      refine ww_iadd C dX10_ends_12 ?_
      refine ww_aload_n C dX10_ends_13 rfl 0 rfl ?_
      have T_13 : gs S (gr S x0 39) = (1, 10080) := hG.1 _ 10 Tx0 39 (by decide)
      refine ww_getr (ci := 10) (k0 := 39) C dX10_ends_14 rfl rfl inm10 (by decide) Tx0 q1317 rfl T_13 (by decide) ?_
      refine ww_iload_n C dX10_ends_17 rfl 1 rfl ?_
      refine ww_iload_n C dX10_ends_18 rfl 3 rfl ?_
      refine ww_iadd C dX10_ends_19 ?_
      refine ww_iconst (v := 1) C dX10_ends_20 (by decide) ?_
      refine ww_isub C dX10_ends_21 ?_
      refine ww_iald C dX10_ends_22 T_13 E (fun _ E => ?_)
      refine ww_iast C dX10_ends_23 T_12 E (fun _ E => ?_)
      refine ww_bd E (fun dy14 E => ?_)
      refine ww_aload_n C dX10_ends_24 rfl 0 rfl ?_
      have T_15 : gs S (gr S x0 39) = (1, 10080) := hG.1 _ 10 Tx0 39 (by decide)
      refine ww_getr (ci := 10) (k0 := 39) C dX10_ends_25 rfl rfl inm10 (by decide) Tx0 q1317 rfl T_15 (by decide) ?_
      refine ww_iload_n C dX10_ends_28 rfl 1 rfl ?_
      refine ww_iconst (v := 4) C dX10_ends_29 (by decide) ?_
      refine ww_iadd C dX10_ends_30 ?_
      refine ww_iload_n C dX10_ends_31 rfl 3 rfl ?_
      refine ww_iadd C dX10_ends_32 ?_
      refine ww_aload_n C dX10_ends_33 rfl 0 rfl ?_
      have T_16 : gs S (gr S x0 39) = (1, 10080) := hG.1 _ 10 Tx0 39 (by decide)
      refine ww_getr (ci := 10) (k0 := 39) C dX10_ends_34 rfl rfl inm10 (by decide) Tx0 q1317 rfl T_16 (by decide) ?_
      refine ww_iload_n C dX10_ends_37 rfl 1 rfl ?_
      refine ww_iconst (v := 4) C dX10_ends_38 (by decide) ?_
      refine ww_iadd C dX10_ends_39 ?_
      refine ww_iload_n C dX10_ends_40 rfl 3 rfl ?_
      refine ww_iadd C dX10_ends_41 ?_
      refine ww_iconst (v := 1) C dX10_ends_42 (by decide) ?_
      refine ww_isub C dX10_ends_43 ?_
      refine ww_iald C dX10_ends_44 T_16 E (fun _ E => ?_)
      refine ww_iast C dX10_ends_45 T_15 E (fun _ E => ?_)
      refine ww_bd E (fun dy17 E => ?_)
      refine ww_iinc (v := (x3 + (-1 : Int32))) (lv' := [(3, .int (x3 + (-1 : Int32))), (0, .ref (ad x0)), (1, .int x1), (2, .int x2)]) C dX10_ends_46 3 rfl rfl (by decide) rfl ?_
      refine ww_goto (tgt := 2) C dX10_ends_49 (by decide) ?_
      refine ww_sub (lv' := [(0, .ref (ad x0)), (1, .int x1), (2, .int x2), (3, .int (x3 + (-1 : Int32)))]) [1, 2, 3, 0] rfl ?_
      exact ih x0 x1 x2 (x3 + (-1 : Int32)) dy17 Tx0 E
end P_X10_ends
set_option maxHeartbeats 4000000 in
set_option maxRecDepth 100000 in
theorem M_X10_ends (l : Launch) (G : GG) (ad : Nat → Nat) {S : ST} (N : Nat) (hG : Good S) (a0 : Nat) (a1 : Int32) (a2 : Int32) (dy : DY) (T0 : gs S a0 = (0, 10)) {dy' : DY} (E : F_X10_ends S N a0 a1 a2 dy = some dy') : MC l yX10_ends cX10_ends 4 (Option.none : Option Jvm.ClassFile.FieldType) (1) G ad [.ref (ad a0), .int a1, .int a2] S dy (fun A => QV G ad A S dy') := by
  rw [F_X10_ends_s] at E
  refine mc_of RX10 (by decide) rfl (Nat.le_of_ble_eq_true rfl) (fun p e s m args below meth c A C HR HL => ?_)
  refine ww_sub (lv' := [(0, .ref (ad a0)), (1, .int a1), (2, .int a2)]) [0, 1, 2] rfl ?_
  refine ww_iconst (v := 3) C dX10_ends_0 (by decide) ?_
  refine ww_istore_n (lv' := [(3, .int (3 : Int32)), (0, .ref (ad a0)), (1, .int a1), (2, .int a2)]) C dX10_ends_1 rfl (by decide) rfl ?_
  refine ww_sub (lv' := [(0, .ref (ad a0)), (1, .int a1), (2, .int a2), (3, .int (3 : Int32))]) [1, 2, 3, 0] rfl ?_
  exact (B_X10_ends_2 C HR HL hG N) a0 a1 a2 (3 : Int32) dy T0 E
