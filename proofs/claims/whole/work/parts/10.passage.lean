noncomputable def F_X4_isInside (S : ST) (N : Nat) (a0 : Nat) (a1 : Int32) (a2 : Int32) (dy : DY) : Option (Int32 × DY) := (if a1 < 0 then some ((0 : Int32), dy) else (if (gi dy a0 0) ≤ a1 then some ((0 : Int32), dy) else (if a2 < 0 then some ((0 : Int32), dy) else (if (gi dy a0 1) ≤ a2 then some ((0 : Int32), dy) else some ((1 : Int32), dy)))))
theorem F_X4_isInside_s (S : ST) (N : Nat) (a0 : Nat) (a1 : Int32) (a2 : Int32) (dy : DY) : F_X4_isInside S N a0 a1 a2 dy = (if a1 < 0 then some ((0 : Int32), dy) else (if (gi dy a0 0) ≤ a1 then some ((0 : Int32), dy) else (if a2 < 0 then some ((0 : Int32), dy) else (if (gi dy a0 1) ≤ a2 then some ((0 : Int32), dy) else some ((1 : Int32), dy))))) := rfl
noncomputable def F_X4_isWall (S : ST) (N : Nat) (a0 : Nat) (a1 : Int32) (a2 : Int32) (dy : DY) : Option (Int32 × DY) := (F_X4_isInside S N a0 a1 a2 dy).bind fun u1 => (if u1.1 = 0 then some ((0 : Int32), u1.2) else if ib ((a1 * (6 : Int32)) + a2) 96 then (if (nr 3 (gi u1.2 (gr S a0 4) ((a1 * (6 : Int32)) + a2).toNatClampNeg)) = 0 then some ((0 : Int32), u1.2) else some ((1 : Int32), u1.2)) else none)
theorem F_X4_isWall_s (S : ST) (N : Nat) (a0 : Nat) (a1 : Int32) (a2 : Int32) (dy : DY) : F_X4_isWall S N a0 a1 a2 dy = ((F_X4_isInside S N a0 a1 a2 dy).bind fun u1 => (if u1.1 = 0 then some ((0 : Int32), u1.2) else if ib ((a1 * (6 : Int32)) + a2) 96 then (if (nr 3 (gi u1.2 (gr S a0 4) ((a1 * (6 : Int32)) + a2).toNatClampNeg)) = 0 then some ((0 : Int32), u1.2) else some ((1 : Int32), u1.2)) else none)) := rfl
noncomputable def F_X4_has (S : ST) (N : Nat) (a0 : Nat) (a1 : Int32) (dy : DY) : Option (Int32 × DY) := (if a1 < 0 then some ((0 : Int32), dy) else (if (gi dy a0 3) ≤ a1 then some ((0 : Int32), dy) else some ((1 : Int32), dy)))
theorem F_X4_has_s (S : ST) (N : Nat) (a0 : Nat) (a1 : Int32) (dy : DY) : F_X4_has S N a0 a1 dy = (if a1 < 0 then some ((0 : Int32), dy) else (if (gi dy a0 3) ≤ a1 then some ((0 : Int32), dy) else some ((1 : Int32), dy))) := rfl
noncomputable def F_X4_addWalker (S : ST) (N : Nat) (a0 : Nat) (a1 : Int32) (a2 : Int32) (a3 : Int32) (dy : DY) : Option DY := (if (gi dy a0 3) < (12 : Int32) then bd (si dy a0 3 ((gi dy a0 3) + (1 : Int32))) fun dy1 => if ib (gi dy a0 3) 12 then bd (si dy1 (gr S a0 5) (gi dy a0 3).toNatClampNeg a1) fun dy3 => if ib (gi dy a0 3) 12 then bd (si dy3 (gr S a0 6) (gi dy a0 3).toNatClampNeg a2) fun dy5 => if ib (gi dy a0 3) 12 then bd (si dy5 (gr S a0 7) (gi dy a0 3).toNatClampNeg a3) fun dy7 => if ib (gi dy a0 3) 12 then bd (si dy7 (gr S a0 8) (gi dy a0 3).toNatClampNeg (1 : Int32)) fun dy9 => if ib (gi dy a0 3) 12 then bd (si dy9 (gr S a0 9) (gi dy a0 3).toNatClampNeg (0 : Int32)) fun dy11 => if ib (gi dy a0 3) 12 then bd (si dy11 (gr S a0 10) (gi dy a0 3).toNatClampNeg (0 : Int32)) fun dy13 => if ib (gi dy a0 3) 12 then bd (si dy13 (gr S a0 11) (gi dy a0 3).toNatClampNeg (0 : Int32)) fun dy15 => if ib (gi dy a0 3) 12 then bd (si dy15 (gr S a0 12) (gi dy a0 3).toNatClampNeg (-1 : Int32)) fun dy17 => some dy17 else none else none else none else none else none else none else none else none else some dy)
theorem F_X4_addWalker_s (S : ST) (N : Nat) (a0 : Nat) (a1 : Int32) (a2 : Int32) (a3 : Int32) (dy : DY) : F_X4_addWalker S N a0 a1 a2 a3 dy = (if (gi dy a0 3) < (12 : Int32) then bd (si dy a0 3 ((gi dy a0 3) + (1 : Int32))) fun dy1 => if ib (gi dy a0 3) 12 then bd (si dy1 (gr S a0 5) (gi dy a0 3).toNatClampNeg a1) fun dy3 => if ib (gi dy a0 3) 12 then bd (si dy3 (gr S a0 6) (gi dy a0 3).toNatClampNeg a2) fun dy5 => if ib (gi dy a0 3) 12 then bd (si dy5 (gr S a0 7) (gi dy a0 3).toNatClampNeg a3) fun dy7 => if ib (gi dy a0 3) 12 then bd (si dy7 (gr S a0 8) (gi dy a0 3).toNatClampNeg (1 : Int32)) fun dy9 => if ib (gi dy a0 3) 12 then bd (si dy9 (gr S a0 9) (gi dy a0 3).toNatClampNeg (0 : Int32)) fun dy11 => if ib (gi dy a0 3) 12 then bd (si dy11 (gr S a0 10) (gi dy a0 3).toNatClampNeg (0 : Int32)) fun dy13 => if ib (gi dy a0 3) 12 then bd (si dy13 (gr S a0 11) (gi dy a0 3).toNatClampNeg (0 : Int32)) fun dy15 => if ib (gi dy a0 3) 12 then bd (si dy15 (gr S a0 12) (gi dy a0 3).toNatClampNeg (-1 : Int32)) fun dy17 => some dy17 else none else none else none else none else none else none else none else none else some dy) := rfl
noncomputable def F_X4_unfriend (S : ST) (N : Nat) (a0 : Nat) (a1 : Int32) (dy : DY) : Option DY := if ib a1 12 then (F_X4_has S N a0 (gi dy (gr S a0 12) a1.toNatClampNeg) dy).bind fun u2 => (if u2.1 = 0 then some u2.2 else if ib (gi dy (gr S a0 12) a1.toNatClampNeg) 12 then bd (si u2.2 (gr S a0 12) (gi dy (gr S a0 12) a1.toNatClampNeg).toNatClampNeg (-1 : Int32)) fun dy5 => some dy5 else none) else none
theorem F_X4_unfriend_s (S : ST) (N : Nat) (a0 : Nat) (a1 : Int32) (dy : DY) : F_X4_unfriend S N a0 a1 dy = (if ib a1 12 then (F_X4_has S N a0 (gi dy (gr S a0 12) a1.toNatClampNeg) dy).bind fun u2 => (if u2.1 = 0 then some u2.2 else if ib (gi dy (gr S a0 12) a1.toNatClampNeg) 12 then bd (si u2.2 (gr S a0 12) (gi dy (gr S a0 12) a1.toNatClampNeg).toNatClampNeg (-1 : Int32)) fun dy5 => some dy5 else none) else none) := rfl
noncomputable def F_X4_befriend (S : ST) (N : Nat) (a0 : Nat) (a1 : Int32) (a2 : Int32) (dy : DY) : Option DY := (F_X4_has S N a0 a1 dy).bind fun u1 => (if u1.1 = 0 then some u1.2 else (F_X4_has S N a0 a2 u1.2).bind fun u3 => (if u3.1 = 0 then some u3.2 else (if a1 = a2 then some u3.2 else (F_X4_unfriend S N a0 a1 u3.2).bind fun u5 => (F_X4_unfriend S N a0 a2 u5).bind fun u7 => if ib a1 12 then bd (si u7 (gr S a0 12) a1.toNatClampNeg a2) fun dy10 => if ib a2 12 then bd (si dy10 (gr S a0 12) a2.toNatClampNeg a1) fun dy12 => some dy12 else none else none)))
theorem F_X4_befriend_s (S : ST) (N : Nat) (a0 : Nat) (a1 : Int32) (a2 : Int32) (dy : DY) : F_X4_befriend S N a0 a1 a2 dy = ((F_X4_has S N a0 a1 dy).bind fun u1 => (if u1.1 = 0 then some u1.2 else (F_X4_has S N a0 a2 u1.2).bind fun u3 => (if u3.1 = 0 then some u3.2 else (if a1 = a2 then some u3.2 else (F_X4_unfriend S N a0 a1 u3.2).bind fun u5 => (F_X4_unfriend S N a0 a2 u5).bind fun u7 => if ib a1 12 then bd (si u7 (gr S a0 12) a1.toNatClampNeg a2) fun dy10 => if ib a2 12 then bd (si dy10 (gr S a0 12) a2.toNatClampNeg a1) fun dy12 => some dy12 else none else none)))) := rfl
noncomputable def F_X4_clear_40 (S : ST) (N : Nat) : Nat → Nat → Int32 → DY → Option DY := fun k => Nat.rec (motive := fun _ => Nat → Int32 → DY → Option DY) (fun _ _ _ => none) (fun _ ih x0 x3 dy => (if (96 : Int32) ≤ x3 then some dy else if ib x3 96 then bd (si dy (gr S x0 4) x3.toNatClampNeg (0 : Int32)) fun dy2 => ih x0 (x3 + (1 : Int32)) dy2 else none)) k
theorem F_X4_clear_40_s (S : ST) (N : Nat) (k : Nat) (x0 : Nat) (x3 : Int32) (dy : DY) : F_X4_clear_40 S N (k + 1) x0 x3 dy = (if (96 : Int32) ≤ x3 then some dy else if ib x3 96 then bd (si dy (gr S x0 4) x3.toNatClampNeg (0 : Int32)) fun dy2 => (F_X4_clear_40 S N k) x0 (x3 + (1 : Int32)) dy2 else none) := rfl
noncomputable def F_X4_clear (S : ST) (N : Nat) (a0 : Nat) (a1 : Int32) (a2 : Int32) (dy : DY) : Option DY := bd (si dy a0 0 (if (0 : Int32) < (if (16 : Int32) < a1 then (16 : Int32) else a1) then (if (16 : Int32) < a1 then (16 : Int32) else a1) else (0 : Int32))) fun dy1 => bd (si dy1 a0 1 (if (0 : Int32) < (if (6 : Int32) < a2 then (6 : Int32) else a2) then (if (6 : Int32) < a2 then (6 : Int32) else a2) else (0 : Int32))) fun dy2 => bd (si dy2 a0 2 (0 : Int32)) fun dy3 => bd (si dy3 a0 3 (0 : Int32)) fun dy4 => (F_X4_clear_40 S N N) a0 (0 : Int32) dy4
theorem F_X4_clear_s (S : ST) (N : Nat) (a0 : Nat) (a1 : Int32) (a2 : Int32) (dy : DY) : F_X4_clear S N a0 a1 a2 dy = (bd (si dy a0 0 (if (0 : Int32) < (if (16 : Int32) < a1 then (16 : Int32) else a1) then (if (16 : Int32) < a1 then (16 : Int32) else a1) else (0 : Int32))) fun dy1 => bd (si dy1 a0 1 (if (0 : Int32) < (if (6 : Int32) < a2 then (6 : Int32) else a2) then (if (6 : Int32) < a2 then (6 : Int32) else a2) else (0 : Int32))) fun dy2 => bd (si dy2 a0 2 (0 : Int32)) fun dy3 => bd (si dy3 a0 3 (0 : Int32)) fun dy4 => (F_X4_clear_40 S N N) a0 (0 : Int32) dy4) := rfl
noncomputable def F_X4_copyFrom (S : ST) (N : Nat) (a0 : Nat) (a1 : Nat) (dy : DY) : Option DY := bd (si dy a0 0 (gi dy a1 0)) fun dy1 => bd (si dy1 a0 1 (gi dy1 a1 1)) fun dy2 => bd (si dy2 a0 2 (gi dy2 a1 2)) fun dy3 => bd (si dy3 a0 3 (gi dy3 a1 3)) fun dy4 => if ic (0 : Int32) (96 : Int32) 96 ∧ ic (0 : Int32) (96 : Int32) 96 then bd (cpi dy4 (gr S a1 4) (gr S a0 4) (0 : Int32).toNatClampNeg (0 : Int32).toNatClampNeg (96 : Int32).toNatClampNeg) fun dy7 => if ic (0 : Int32) (12 : Int32) 12 ∧ ic (0 : Int32) (12 : Int32) 12 then bd (cpi dy7 (gr S a1 5) (gr S a0 5) (0 : Int32).toNatClampNeg (0 : Int32).toNatClampNeg (12 : Int32).toNatClampNeg) fun dy11 => if ic (0 : Int32) (12 : Int32) 12 ∧ ic (0 : Int32) (12 : Int32) 12 then bd (cpi dy11 (gr S a1 6) (gr S a0 6) (0 : Int32).toNatClampNeg (0 : Int32).toNatClampNeg (12 : Int32).toNatClampNeg) fun dy15 => if ic (0 : Int32) (12 : Int32) 12 ∧ ic (0 : Int32) (12 : Int32) 12 then bd (cpi dy15 (gr S a1 7) (gr S a0 7) (0 : Int32).toNatClampNeg (0 : Int32).toNatClampNeg (12 : Int32).toNatClampNeg) fun dy19 => if ic (0 : Int32) (12 : Int32) 12 ∧ ic (0 : Int32) (12 : Int32) 12 then bd (cpi dy19 (gr S a1 8) (gr S a0 8) (0 : Int32).toNatClampNeg (0 : Int32).toNatClampNeg (12 : Int32).toNatClampNeg) fun dy23 => if ic (0 : Int32) (12 : Int32) 12 ∧ ic (0 : Int32) (12 : Int32) 12 then bd (cpi dy23 (gr S a1 9) (gr S a0 9) (0 : Int32).toNatClampNeg (0 : Int32).toNatClampNeg (12 : Int32).toNatClampNeg) fun dy27 => if ic (0 : Int32) (12 : Int32) 12 ∧ ic (0 : Int32) (12 : Int32) 12 then bd (cpi dy27 (gr S a1 10) (gr S a0 10) (0 : Int32).toNatClampNeg (0 : Int32).toNatClampNeg (12 : Int32).toNatClampNeg) fun dy31 => if ic (0 : Int32) (12 : Int32) 12 ∧ ic (0 : Int32) (12 : Int32) 12 then bd (cpi dy31 (gr S a1 11) (gr S a0 11) (0 : Int32).toNatClampNeg (0 : Int32).toNatClampNeg (12 : Int32).toNatClampNeg) fun dy35 => if ic (0 : Int32) (12 : Int32) 12 ∧ ic (0 : Int32) (12 : Int32) 12 then bd (cpi dy35 (gr S a1 12) (gr S a0 12) (0 : Int32).toNatClampNeg (0 : Int32).toNatClampNeg (12 : Int32).toNatClampNeg) fun dy39 => some dy39 else none else none else none else none else none else none else none else none else none
theorem F_X4_copyFrom_s (S : ST) (N : Nat) (a0 : Nat) (a1 : Nat) (dy : DY) : F_X4_copyFrom S N a0 a1 dy = (bd (si dy a0 0 (gi dy a1 0)) fun dy1 => bd (si dy1 a0 1 (gi dy1 a1 1)) fun dy2 => bd (si dy2 a0 2 (gi dy2 a1 2)) fun dy3 => bd (si dy3 a0 3 (gi dy3 a1 3)) fun dy4 => if ic (0 : Int32) (96 : Int32) 96 ∧ ic (0 : Int32) (96 : Int32) 96 then bd (cpi dy4 (gr S a1 4) (gr S a0 4) (0 : Int32).toNatClampNeg (0 : Int32).toNatClampNeg (96 : Int32).toNatClampNeg) fun dy7 => if ic (0 : Int32) (12 : Int32) 12 ∧ ic (0 : Int32) (12 : Int32) 12 then bd (cpi dy7 (gr S a1 5) (gr S a0 5) (0 : Int32).toNatClampNeg (0 : Int32).toNatClampNeg (12 : Int32).toNatClampNeg) fun dy11 => if ic (0 : Int32) (12 : Int32) 12 ∧ ic (0 : Int32) (12 : Int32) 12 then bd (cpi dy11 (gr S a1 6) (gr S a0 6) (0 : Int32).toNatClampNeg (0 : Int32).toNatClampNeg (12 : Int32).toNatClampNeg) fun dy15 => if ic (0 : Int32) (12 : Int32) 12 ∧ ic (0 : Int32) (12 : Int32) 12 then bd (cpi dy15 (gr S a1 7) (gr S a0 7) (0 : Int32).toNatClampNeg (0 : Int32).toNatClampNeg (12 : Int32).toNatClampNeg) fun dy19 => if ic (0 : Int32) (12 : Int32) 12 ∧ ic (0 : Int32) (12 : Int32) 12 then bd (cpi dy19 (gr S a1 8) (gr S a0 8) (0 : Int32).toNatClampNeg (0 : Int32).toNatClampNeg (12 : Int32).toNatClampNeg) fun dy23 => if ic (0 : Int32) (12 : Int32) 12 ∧ ic (0 : Int32) (12 : Int32) 12 then bd (cpi dy23 (gr S a1 9) (gr S a0 9) (0 : Int32).toNatClampNeg (0 : Int32).toNatClampNeg (12 : Int32).toNatClampNeg) fun dy27 => if ic (0 : Int32) (12 : Int32) 12 ∧ ic (0 : Int32) (12 : Int32) 12 then bd (cpi dy27 (gr S a1 10) (gr S a0 10) (0 : Int32).toNatClampNeg (0 : Int32).toNatClampNeg (12 : Int32).toNatClampNeg) fun dy31 => if ic (0 : Int32) (12 : Int32) 12 ∧ ic (0 : Int32) (12 : Int32) 12 then bd (cpi dy31 (gr S a1 11) (gr S a0 11) (0 : Int32).toNatClampNeg (0 : Int32).toNatClampNeg (12 : Int32).toNatClampNeg) fun dy35 => if ic (0 : Int32) (12 : Int32) 12 ∧ ic (0 : Int32) (12 : Int32) 12 then bd (cpi dy35 (gr S a1 12) (gr S a0 12) (0 : Int32).toNatClampNeg (0 : Int32).toNatClampNeg (12 : Int32).toNatClampNeg) fun dy39 => some dy39 else none else none else none else none else none else none else none else none else none) := rfl
noncomputable def F_X4_drop_156 (S : ST) (N : Nat) : Nat → Nat → Int32 → Int32 → DY → Option DY := fun k => Nat.rec (motive := fun _ => Nat → Int32 → Int32 → DY → Option DY) (fun _ _ _ _ => none) (fun _ ih x0 x1 x2 dy => (if (gi dy x0 3) ≤ x2 then some dy else if ib x2 12 then (if (gi dy (gr S x0 12) x2.toNatClampNeg) ≤ x1 then ih x0 x1 (x2 + (1 : Int32)) dy else if ib x2 12 then if ib x2 12 then bd (si dy (gr S x0 12) x2.toNatClampNeg ((gi dy (gr S x0 12) x2.toNatClampNeg) - (1 : Int32))) fun dy3 => ih x0 x1 (x2 + (1 : Int32)) dy3 else none else none) else none)) k
theorem F_X4_drop_156_s (S : ST) (N : Nat) (k : Nat) (x0 : Nat) (x1 : Int32) (x2 : Int32) (dy : DY) : F_X4_drop_156 S N (k + 1) x0 x1 x2 dy = (if (gi dy x0 3) ≤ x2 then some dy else if ib x2 12 then (if (gi dy (gr S x0 12) x2.toNatClampNeg) ≤ x1 then (F_X4_drop_156 S N k) x0 x1 (x2 + (1 : Int32)) dy else if ib x2 12 then if ib x2 12 then bd (si dy (gr S x0 12) x2.toNatClampNeg ((gi dy (gr S x0 12) x2.toNatClampNeg) - (1 : Int32))) fun dy3 => (F_X4_drop_156 S N k) x0 x1 (x2 + (1 : Int32)) dy3 else none else none) else none) := rfl
noncomputable def F_X4_drop_16 (S : ST) (N : Nat) : Nat → Nat → Int32 → Int32 → DY → Option DY := fun k => Nat.rec (motive := fun _ => Nat → Int32 → Int32 → DY → Option DY) (fun _ _ _ _ => none) (fun _ ih x0 x1 x2 dy => (if (gi dy x0 3) ≤ (x2 + (1 : Int32)) then bd (si dy x0 3 ((gi dy x0 3) - (1 : Int32))) fun dy1 => (F_X4_drop_156 S N N) x0 x1 (0 : Int32) dy1 else if ib (x2 + (1 : Int32)) 12 then if ib x2 12 then bd (si dy (gr S x0 5) x2.toNatClampNeg (gi dy (gr S x0 5) (x2 + (1 : Int32)).toNatClampNeg)) fun dy4 => if ib (x2 + (1 : Int32)) 12 then if ib x2 12 then bd (si dy4 (gr S x0 6) x2.toNatClampNeg (gi dy4 (gr S x0 6) (x2 + (1 : Int32)).toNatClampNeg)) fun dy7 => if ib (x2 + (1 : Int32)) 12 then if ib x2 12 then bd (si dy7 (gr S x0 7) x2.toNatClampNeg (gi dy7 (gr S x0 7) (x2 + (1 : Int32)).toNatClampNeg)) fun dy10 => if ib (x2 + (1 : Int32)) 12 then if ib x2 12 then bd (si dy10 (gr S x0 8) x2.toNatClampNeg (gi dy10 (gr S x0 8) (x2 + (1 : Int32)).toNatClampNeg)) fun dy13 => if ib (x2 + (1 : Int32)) 12 then if ib x2 12 then bd (si dy13 (gr S x0 9) x2.toNatClampNeg (gi dy13 (gr S x0 9) (x2 + (1 : Int32)).toNatClampNeg)) fun dy16 => if ib (x2 + (1 : Int32)) 12 then if ib x2 12 then bd (si dy16 (gr S x0 10) x2.toNatClampNeg (gi dy16 (gr S x0 10) (x2 + (1 : Int32)).toNatClampNeg)) fun dy19 => if ib (x2 + (1 : Int32)) 12 then if ib x2 12 then bd (si dy19 (gr S x0 11) x2.toNatClampNeg (gi dy19 (gr S x0 11) (x2 + (1 : Int32)).toNatClampNeg)) fun dy22 => if ib (x2 + (1 : Int32)) 12 then if ib x2 12 then bd (si dy22 (gr S x0 12) x2.toNatClampNeg (gi dy22 (gr S x0 12) (x2 + (1 : Int32)).toNatClampNeg)) fun dy25 => ih x0 x1 (x2 + (1 : Int32)) dy25 else none else none else none else none else none else none else none else none else none else none else none else none else none else none else none else none)) k
theorem F_X4_drop_16_s (S : ST) (N : Nat) (k : Nat) (x0 : Nat) (x1 : Int32) (x2 : Int32) (dy : DY) : F_X4_drop_16 S N (k + 1) x0 x1 x2 dy = (if (gi dy x0 3) ≤ (x2 + (1 : Int32)) then bd (si dy x0 3 ((gi dy x0 3) - (1 : Int32))) fun dy1 => (F_X4_drop_156 S N N) x0 x1 (0 : Int32) dy1 else if ib (x2 + (1 : Int32)) 12 then if ib x2 12 then bd (si dy (gr S x0 5) x2.toNatClampNeg (gi dy (gr S x0 5) (x2 + (1 : Int32)).toNatClampNeg)) fun dy4 => if ib (x2 + (1 : Int32)) 12 then if ib x2 12 then bd (si dy4 (gr S x0 6) x2.toNatClampNeg (gi dy4 (gr S x0 6) (x2 + (1 : Int32)).toNatClampNeg)) fun dy7 => if ib (x2 + (1 : Int32)) 12 then if ib x2 12 then bd (si dy7 (gr S x0 7) x2.toNatClampNeg (gi dy7 (gr S x0 7) (x2 + (1 : Int32)).toNatClampNeg)) fun dy10 => if ib (x2 + (1 : Int32)) 12 then if ib x2 12 then bd (si dy10 (gr S x0 8) x2.toNatClampNeg (gi dy10 (gr S x0 8) (x2 + (1 : Int32)).toNatClampNeg)) fun dy13 => if ib (x2 + (1 : Int32)) 12 then if ib x2 12 then bd (si dy13 (gr S x0 9) x2.toNatClampNeg (gi dy13 (gr S x0 9) (x2 + (1 : Int32)).toNatClampNeg)) fun dy16 => if ib (x2 + (1 : Int32)) 12 then if ib x2 12 then bd (si dy16 (gr S x0 10) x2.toNatClampNeg (gi dy16 (gr S x0 10) (x2 + (1 : Int32)).toNatClampNeg)) fun dy19 => if ib (x2 + (1 : Int32)) 12 then if ib x2 12 then bd (si dy19 (gr S x0 11) x2.toNatClampNeg (gi dy19 (gr S x0 11) (x2 + (1 : Int32)).toNatClampNeg)) fun dy22 => if ib (x2 + (1 : Int32)) 12 then if ib x2 12 then bd (si dy22 (gr S x0 12) x2.toNatClampNeg (gi dy22 (gr S x0 12) (x2 + (1 : Int32)).toNatClampNeg)) fun dy25 => (F_X4_drop_16 S N k) x0 x1 (x2 + (1 : Int32)) dy25 else none else none else none else none else none else none else none else none else none else none else none else none else none else none else none else none) := rfl
noncomputable def F_X4_drop (S : ST) (N : Nat) (a0 : Nat) (a1 : Int32) (dy : DY) : Option DY := (F_X4_has S N a0 a1 dy).bind fun u1 => (if u1.1 = 0 then some u1.2 else (F_X4_unfriend S N a0 a1 u1.2).bind fun u3 => (F_X4_drop_16 S N N) a0 a1 a1 u3)
theorem F_X4_drop_s (S : ST) (N : Nat) (a0 : Nat) (a1 : Int32) (dy : DY) : F_X4_drop S N a0 a1 dy = ((F_X4_has S N a0 a1 dy).bind fun u1 => (if u1.1 = 0 then some u1.2 else (F_X4_unfriend S N a0 a1 u1.2).bind fun u3 => (F_X4_drop_16 S N N) a0 a1 a1 u3)) := rfl
noncomputable def F_X4_isTaken_2 (S : ST) (N : Nat) : Nat → Nat → Int32 → Int32 → Int32 → DY → Option (Int32 × DY) := fun k => Nat.rec (motive := fun _ => Nat → Int32 → Int32 → Int32 → DY → Option (Int32 × DY)) (fun _ _ _ _ _ => none) (fun _ ih x0 x1 x2 x3 dy => (if (gi dy x0 3) ≤ x3 then (F_X4_isWall S N x0 x1 x2 dy).bind fun u1 => if zb u1.1 then some (u1.1, u1.2) else none else if ib x3 12 then (if (gi dy (gr S x0 5) x3.toNatClampNeg) = x1 then if ib x3 12 then (if (gi dy (gr S x0 6) x3.toNatClampNeg) = x2 then some ((1 : Int32), dy) else ih x0 x1 x2 (x3 + (1 : Int32)) dy) else none else ih x0 x1 x2 (x3 + (1 : Int32)) dy) else none)) k
theorem F_X4_isTaken_2_s (S : ST) (N : Nat) (k : Nat) (x0 : Nat) (x1 : Int32) (x2 : Int32) (x3 : Int32) (dy : DY) : F_X4_isTaken_2 S N (k + 1) x0 x1 x2 x3 dy = (if (gi dy x0 3) ≤ x3 then (F_X4_isWall S N x0 x1 x2 dy).bind fun u1 => if zb u1.1 then some (u1.1, u1.2) else none else if ib x3 12 then (if (gi dy (gr S x0 5) x3.toNatClampNeg) = x1 then if ib x3 12 then (if (gi dy (gr S x0 6) x3.toNatClampNeg) = x2 then some ((1 : Int32), dy) else (F_X4_isTaken_2 S N k) x0 x1 x2 (x3 + (1 : Int32)) dy) else none else (F_X4_isTaken_2 S N k) x0 x1 x2 (x3 + (1 : Int32)) dy) else none) := rfl
noncomputable def F_X4_isTaken (S : ST) (N : Nat) (a0 : Nat) (a1 : Int32) (a2 : Int32) (dy : DY) : Option (Int32 × DY) := (F_X4_isTaken_2 S N N) a0 a1 a2 (0 : Int32) dy
theorem F_X4_isTaken_s (S : ST) (N : Nat) (a0 : Nat) (a1 : Int32) (a2 : Int32) (dy : DY) : F_X4_isTaken S N a0 a1 a2 dy = ((F_X4_isTaken_2 S N N) a0 a1 a2 (0 : Int32) dy) := rfl
noncomputable def F_X4_keepFirst (S : ST) (N : Nat) (a0 : Nat) (a1 : Int32) (a2 : Int32) (dy : DY) : Option DY := bd (si dy a0 3 (if (0 : Int32) < (if (if (12 : Int32) < a2 then (12 : Int32) else a2) < a1 then (if (12 : Int32) < a2 then (12 : Int32) else a2) else a1) then (if (if (12 : Int32) < a2 then (12 : Int32) else a2) < a1 then (if (12 : Int32) < a2 then (12 : Int32) else a2) else a1) else (0 : Int32))) fun dy1 => some dy1
theorem F_X4_keepFirst_s (S : ST) (N : Nat) (a0 : Nat) (a1 : Int32) (a2 : Int32) (dy : DY) : F_X4_keepFirst S N a0 a1 a2 dy = (bd (si dy a0 3 (if (0 : Int32) < (if (if (12 : Int32) < a2 then (12 : Int32) else a2) < a1 then (if (12 : Int32) < a2 then (12 : Int32) else a2) else a1) then (if (if (12 : Int32) < a2 then (12 : Int32) else a2) < a1 then (if (12 : Int32) < a2 then (12 : Int32) else a2) else a1) else (0 : Int32))) fun dy1 => some dy1) := rfl
noncomputable def F_X4_setWall_50 (S : ST) (N : Nat) (y0 : Nat) (y1 : Int32) (y2 : Int32) (dy : DY) : Option DY := bd (si dy y0 2 (y1 + y2)) fun dy1 => some dy1
theorem F_X4_setWall_50_s (S : ST) (N : Nat) (y0 : Nat) (y1 : Int32) (y2 : Int32) (dy : DY) : F_X4_setWall_50 S N y0 y1 y2 dy = (bd (si dy y0 2 (y1 + y2)) fun dy1 => some dy1) := rfl
noncomputable def F_X4_setWall (S : ST) (N : Nat) (a0 : Nat) (a1 : Int32) (a2 : Int32) (a3 : Int32) (dy : DY) : Option DY := (F_X4_isInside S N a0 a1 a2 dy).bind fun u1 => (if u1.1 = 0 then some u1.2 else if ib ((a1 * (6 : Int32)) + a2) 96 then (if (nr 3 (gi u1.2 (gr S a0 4) ((a1 * (6 : Int32)) + a2).toNatClampNeg)) = a3 then some u1.2 else if ib ((a1 * (6 : Int32)) + a2) 96 then bd (si u1.2 (gr S a0 4) ((a1 * (6 : Int32)) + a2).toNatClampNeg a3) fun dy5 => (if a3 = 0 then (F_X4_setWall_50 S N) a0 (gi dy5 a0 2) (-1 : Int32) dy5 else (F_X4_setWall_50 S N) a0 (gi dy5 a0 2) (1 : Int32) dy5) else none) else none)
theorem F_X4_setWall_s (S : ST) (N : Nat) (a0 : Nat) (a1 : Int32) (a2 : Int32) (a3 : Int32) (dy : DY) : F_X4_setWall S N a0 a1 a2 a3 dy = ((F_X4_isInside S N a0 a1 a2 dy).bind fun u1 => (if u1.1 = 0 then some u1.2 else if ib ((a1 * (6 : Int32)) + a2) 96 then (if (nr 3 (gi u1.2 (gr S a0 4) ((a1 * (6 : Int32)) + a2).toNatClampNeg)) = a3 then some u1.2 else if ib ((a1 * (6 : Int32)) + a2) 96 then bd (si u1.2 (gr S a0 4) ((a1 * (6 : Int32)) + a2).toNatClampNeg a3) fun dy5 => (if a3 = 0 then (F_X4_setWall_50 S N) a0 (gi dy5 a0 2) (-1 : Int32) dy5 else (F_X4_setWall_50 S N) a0 (gi dy5 a0 2) (1 : Int32) dy5) else none) else none)) := rfl
theorem dX4_isInside_0 : decode cX4_isInside 0 = .ok (.iload_n 1, 1) := by decide +kernel
theorem dX4_isInside_1 : decode cX4_isInside 1 = .ok (.ifCond .lt 27, 3) := by decide +kernel
theorem dX4_isInside_4 : decode cX4_isInside 4 = .ok (.iload_n 1, 1) := by decide +kernel
theorem dX4_isInside_5 : decode cX4_isInside 5 = .ok (.aload_n 0, 1) := by decide +kernel
theorem dX4_isInside_6 : decode cX4_isInside 6 = .ok (.getfield 49, 3) := by decide +kernel
theorem dX4_isInside_9 : decode cX4_isInside 9 = .ok (.if_icmp .ge 19, 3) := by decide +kernel
theorem dX4_isInside_12 : decode cX4_isInside 12 = .ok (.iload_n 2, 1) := by decide +kernel
theorem dX4_isInside_13 : decode cX4_isInside 13 = .ok (.ifCond .lt 15, 3) := by decide +kernel
theorem dX4_isInside_16 : decode cX4_isInside 16 = .ok (.iload_n 2, 1) := by decide +kernel
theorem dX4_isInside_17 : decode cX4_isInside 17 = .ok (.aload_n 0, 1) := by decide +kernel
theorem dX4_isInside_18 : decode cX4_isInside 18 = .ok (.getfield 53, 3) := by decide +kernel
theorem dX4_isInside_21 : decode cX4_isInside 21 = .ok (.if_icmp .ge 7, 3) := by decide +kernel
theorem dX4_isInside_24 : decode cX4_isInside 24 = .ok (.iconst 1, 1) := by decide +kernel
theorem dX4_isInside_25 : decode cX4_isInside 25 = .ok (.goto 4, 3) := by decide +kernel
theorem dX4_isInside_28 : decode cX4_isInside 28 = .ok (.iconst 0, 1) := by decide +kernel
theorem dX4_isInside_29 : decode cX4_isInside 29 = .ok (.ireturn, 1) := by decide +kernel
theorem dX4_isWall_0 : decode cX4_isWall 0 = .ok (.aload_n 0, 1) := by decide +kernel
theorem dX4_isWall_1 : decode cX4_isWall 1 = .ok (.iload_n 1, 1) := by decide +kernel
theorem dX4_isWall_2 : decode cX4_isWall 2 = .ok (.iload_n 2, 1) := by decide +kernel
theorem dX4_isWall_3 : decode cX4_isWall 3 = .ok (.invokevirtual 68, 3) := by decide +kernel
theorem dX4_isWall_6 : decode cX4_isWall 6 = .ok (.ifCond .eq 21, 3) := by decide +kernel
theorem dX4_isWall_9 : decode cX4_isWall 9 = .ok (.aload_n 0, 1) := by decide +kernel
theorem dX4_isWall_10 : decode cX4_isWall 10 = .ok (.getfield 9, 3) := by decide +kernel
theorem dX4_isWall_13 : decode cX4_isWall 13 = .ok (.iload_n 1, 1) := by decide +kernel
theorem dX4_isWall_14 : decode cX4_isWall 14 = .ok (.bipush 6, 2) := by decide +kernel
theorem dX4_isWall_16 : decode cX4_isWall 16 = .ok (.imul, 1) := by decide +kernel
theorem dX4_isWall_17 : decode cX4_isWall 17 = .ok (.iload_n 2, 1) := by decide +kernel
theorem dX4_isWall_18 : decode cX4_isWall 18 = .ok (.iadd, 1) := by decide +kernel
theorem dX4_isWall_19 : decode cX4_isWall 19 = .ok (.baload, 1) := by decide +kernel
theorem dX4_isWall_20 : decode cX4_isWall 20 = .ok (.ifCond .eq 7, 3) := by decide +kernel
theorem dX4_isWall_23 : decode cX4_isWall 23 = .ok (.iconst 1, 1) := by decide +kernel
theorem dX4_isWall_24 : decode cX4_isWall 24 = .ok (.goto 4, 3) := by decide +kernel
theorem dX4_isWall_27 : decode cX4_isWall 27 = .ok (.iconst 0, 1) := by decide +kernel
theorem dX4_isWall_28 : decode cX4_isWall 28 = .ok (.ireturn, 1) := by decide +kernel
theorem dX4_has_0 : decode cX4_has 0 = .ok (.iload_n 1, 1) := by decide +kernel
theorem dX4_has_1 : decode cX4_has 1 = .ok (.ifCond .lt 15, 3) := by decide +kernel
theorem dX4_has_4 : decode cX4_has 4 = .ok (.iload_n 1, 1) := by decide +kernel
theorem dX4_has_5 : decode cX4_has 5 = .ok (.aload_n 0, 1) := by decide +kernel
theorem dX4_has_6 : decode cX4_has 6 = .ok (.getfield 59, 3) := by decide +kernel
theorem dX4_has_9 : decode cX4_has 9 = .ok (.if_icmp .ge 7, 3) := by decide +kernel
theorem dX4_has_12 : decode cX4_has 12 = .ok (.iconst 1, 1) := by decide +kernel
theorem dX4_has_13 : decode cX4_has 13 = .ok (.goto 4, 3) := by decide +kernel
theorem dX4_has_16 : decode cX4_has 16 = .ok (.iconst 0, 1) := by decide +kernel
theorem dX4_has_17 : decode cX4_has 17 = .ok (.ireturn, 1) := by decide +kernel
theorem dX4_addWalker_0 : decode cX4_addWalker 0 = .ok (.aload_n 0, 1) := by decide +kernel
theorem dX4_addWalker_1 : decode cX4_addWalker 1 = .ok (.getfield 59, 3) := by decide +kernel
theorem dX4_addWalker_4 : decode cX4_addWalker 4 = .ok (.bipush 12, 2) := by decide +kernel
theorem dX4_addWalker_6 : decode cX4_addWalker 6 = .ok (.if_icmp .lt 4, 3) := by decide +kernel
theorem dX4_addWalker_9 : decode cX4_addWalker 9 = .ok (.return_, 1) := by decide +kernel
theorem dX4_addWalker_10 : decode cX4_addWalker 10 = .ok (.aload_n 0, 1) := by decide +kernel
theorem dX4_addWalker_11 : decode cX4_addWalker 11 = .ok (.getfield 59, 3) := by decide +kernel
theorem dX4_addWalker_14 : decode cX4_addWalker 14 = .ok (.istore 4, 2) := by decide +kernel
theorem dX4_addWalker_16 : decode cX4_addWalker 16 = .ok (.aload_n 0, 1) := by decide +kernel
theorem dX4_addWalker_17 : decode cX4_addWalker 17 = .ok (.dup, 1) := by decide +kernel
theorem dX4_addWalker_18 : decode cX4_addWalker 18 = .ok (.getfield 59, 3) := by decide +kernel
theorem dX4_addWalker_21 : decode cX4_addWalker 21 = .ok (.iconst 1, 1) := by decide +kernel
theorem dX4_addWalker_22 : decode cX4_addWalker 22 = .ok (.iadd, 1) := by decide +kernel
theorem dX4_addWalker_23 : decode cX4_addWalker 23 = .ok (.putfield 59, 3) := by decide +kernel
theorem dX4_addWalker_26 : decode cX4_addWalker 26 = .ok (.aload_n 0, 1) := by decide +kernel
theorem dX4_addWalker_27 : decode cX4_addWalker 27 = .ok (.getfield 15, 3) := by decide +kernel
theorem dX4_addWalker_30 : decode cX4_addWalker 30 = .ok (.iload 4, 2) := by decide +kernel
theorem dX4_addWalker_32 : decode cX4_addWalker 32 = .ok (.iload_n 1, 1) := by decide +kernel
theorem dX4_addWalker_33 : decode cX4_addWalker 33 = .ok (.iastore, 1) := by decide +kernel
theorem dX4_addWalker_34 : decode cX4_addWalker 34 = .ok (.aload_n 0, 1) := by decide +kernel
theorem dX4_addWalker_35 : decode cX4_addWalker 35 = .ok (.getfield 19, 3) := by decide +kernel
theorem dX4_addWalker_38 : decode cX4_addWalker 38 = .ok (.iload 4, 2) := by decide +kernel
theorem dX4_addWalker_40 : decode cX4_addWalker 40 = .ok (.iload_n 2, 1) := by decide +kernel
theorem dX4_addWalker_41 : decode cX4_addWalker 41 = .ok (.iastore, 1) := by decide +kernel
theorem dX4_addWalker_42 : decode cX4_addWalker 42 = .ok (.aload_n 0, 1) := by decide +kernel
theorem dX4_addWalker_43 : decode cX4_addWalker 43 = .ok (.getfield 22, 3) := by decide +kernel
theorem dX4_addWalker_46 : decode cX4_addWalker 46 = .ok (.iload 4, 2) := by decide +kernel
theorem dX4_addWalker_48 : decode cX4_addWalker 48 = .ok (.iload_n 3, 1) := by decide +kernel
theorem dX4_addWalker_49 : decode cX4_addWalker 49 = .ok (.iastore, 1) := by decide +kernel
theorem dX4_addWalker_50 : decode cX4_addWalker 50 = .ok (.aload_n 0, 1) := by decide +kernel
theorem dX4_addWalker_51 : decode cX4_addWalker 51 = .ok (.getfield 25, 3) := by decide +kernel
theorem dX4_addWalker_54 : decode cX4_addWalker 54 = .ok (.iload 4, 2) := by decide +kernel
theorem dX4_addWalker_56 : decode cX4_addWalker 56 = .ok (.iconst 1, 1) := by decide +kernel
theorem dX4_addWalker_57 : decode cX4_addWalker 57 = .ok (.iastore, 1) := by decide +kernel
theorem dX4_addWalker_58 : decode cX4_addWalker 58 = .ok (.aload_n 0, 1) := by decide +kernel
theorem dX4_addWalker_59 : decode cX4_addWalker 59 = .ok (.getfield 28, 3) := by decide +kernel
theorem dX4_addWalker_62 : decode cX4_addWalker 62 = .ok (.iload 4, 2) := by decide +kernel
theorem dX4_addWalker_64 : decode cX4_addWalker 64 = .ok (.iconst 0, 1) := by decide +kernel
theorem dX4_addWalker_65 : decode cX4_addWalker 65 = .ok (.iastore, 1) := by decide +kernel
theorem dX4_addWalker_66 : decode cX4_addWalker 66 = .ok (.aload_n 0, 1) := by decide +kernel
theorem dX4_addWalker_67 : decode cX4_addWalker 67 = .ok (.getfield 31, 3) := by decide +kernel
theorem dX4_addWalker_70 : decode cX4_addWalker 70 = .ok (.iload 4, 2) := by decide +kernel
theorem dX4_addWalker_72 : decode cX4_addWalker 72 = .ok (.iconst 0, 1) := by decide +kernel
theorem dX4_addWalker_73 : decode cX4_addWalker 73 = .ok (.iastore, 1) := by decide +kernel
theorem dX4_addWalker_74 : decode cX4_addWalker 74 = .ok (.aload_n 0, 1) := by decide +kernel
theorem dX4_addWalker_75 : decode cX4_addWalker 75 = .ok (.getfield 34, 3) := by decide +kernel
theorem dX4_addWalker_78 : decode cX4_addWalker 78 = .ok (.iload 4, 2) := by decide +kernel
theorem dX4_addWalker_80 : decode cX4_addWalker 80 = .ok (.iconst 0, 1) := by decide +kernel
theorem dX4_addWalker_81 : decode cX4_addWalker 81 = .ok (.iastore, 1) := by decide +kernel
theorem dX4_addWalker_82 : decode cX4_addWalker 82 = .ok (.aload_n 0, 1) := by decide +kernel
theorem dX4_addWalker_83 : decode cX4_addWalker 83 = .ok (.getfield 37, 3) := by decide +kernel
theorem dX4_addWalker_86 : decode cX4_addWalker 86 = .ok (.iload 4, 2) := by decide +kernel
theorem dX4_addWalker_88 : decode cX4_addWalker 88 = .ok (.iconst (-1), 1) := by decide +kernel
theorem dX4_addWalker_89 : decode cX4_addWalker 89 = .ok (.iastore, 1) := by decide +kernel
theorem dX4_addWalker_90 : decode cX4_addWalker 90 = .ok (.return_, 1) := by decide +kernel
theorem dX4_unfriend_0 : decode cX4_unfriend 0 = .ok (.aload_n 0, 1) := by decide +kernel
theorem dX4_unfriend_1 : decode cX4_unfriend 1 = .ok (.getfield 37, 3) := by decide +kernel
theorem dX4_unfriend_4 : decode cX4_unfriend 4 = .ok (.iload_n 1, 1) := by decide +kernel
theorem dX4_unfriend_5 : decode cX4_unfriend 5 = .ok (.iaload, 1) := by decide +kernel
theorem dX4_unfriend_6 : decode cX4_unfriend 6 = .ok (.istore_n 2, 1) := by decide +kernel
theorem dX4_unfriend_7 : decode cX4_unfriend 7 = .ok (.aload_n 0, 1) := by decide +kernel
theorem dX4_unfriend_8 : decode cX4_unfriend 8 = .ok (.iload_n 2, 1) := by decide +kernel
theorem dX4_unfriend_9 : decode cX4_unfriend 9 = .ok (.invokevirtual 75, 3) := by decide +kernel
theorem dX4_unfriend_12 : decode cX4_unfriend 12 = .ok (.ifCond .eq 10, 3) := by decide +kernel
theorem dX4_unfriend_15 : decode cX4_unfriend 15 = .ok (.aload_n 0, 1) := by decide +kernel
theorem dX4_unfriend_16 : decode cX4_unfriend 16 = .ok (.getfield 37, 3) := by decide +kernel
theorem dX4_unfriend_19 : decode cX4_unfriend 19 = .ok (.iload_n 2, 1) := by decide +kernel
theorem dX4_unfriend_20 : decode cX4_unfriend 20 = .ok (.iconst (-1), 1) := by decide +kernel
theorem dX4_unfriend_21 : decode cX4_unfriend 21 = .ok (.iastore, 1) := by decide +kernel
theorem dX4_unfriend_22 : decode cX4_unfriend 22 = .ok (.return_, 1) := by decide +kernel
theorem dX4_befriend_0 : decode cX4_befriend 0 = .ok (.aload_n 0, 1) := by decide +kernel
theorem dX4_befriend_1 : decode cX4_befriend 1 = .ok (.iload_n 1, 1) := by decide +kernel
theorem dX4_befriend_2 : decode cX4_befriend 2 = .ok (.invokevirtual 75, 3) := by decide +kernel
theorem dX4_befriend_5 : decode cX4_befriend 5 = .ok (.ifCond .eq 40, 3) := by decide +kernel
theorem dX4_befriend_8 : decode cX4_befriend 8 = .ok (.aload_n 0, 1) := by decide +kernel
theorem dX4_befriend_9 : decode cX4_befriend 9 = .ok (.iload_n 2, 1) := by decide +kernel
theorem dX4_befriend_10 : decode cX4_befriend 10 = .ok (.invokevirtual 75, 3) := by decide +kernel
theorem dX4_befriend_13 : decode cX4_befriend 13 = .ok (.ifCond .eq 32, 3) := by decide +kernel
theorem dX4_befriend_16 : decode cX4_befriend 16 = .ok (.iload_n 1, 1) := by decide +kernel
theorem dX4_befriend_17 : decode cX4_befriend 17 = .ok (.iload_n 2, 1) := by decide +kernel
theorem dX4_befriend_18 : decode cX4_befriend 18 = .ok (.if_icmp .eq 27, 3) := by decide +kernel
theorem dX4_befriend_21 : decode cX4_befriend 21 = .ok (.aload_n 0, 1) := by decide +kernel
theorem dX4_befriend_22 : decode cX4_befriend 22 = .ok (.iload_n 1, 1) := by decide +kernel
theorem dX4_befriend_23 : decode cX4_befriend 23 = .ok (.invokevirtual 79, 3) := by decide +kernel
theorem dX4_befriend_26 : decode cX4_befriend 26 = .ok (.aload_n 0, 1) := by decide +kernel
theorem dX4_befriend_27 : decode cX4_befriend 27 = .ok (.iload_n 2, 1) := by decide +kernel
theorem dX4_befriend_28 : decode cX4_befriend 28 = .ok (.invokevirtual 79, 3) := by decide +kernel
theorem dX4_befriend_31 : decode cX4_befriend 31 = .ok (.aload_n 0, 1) := by decide +kernel
theorem dX4_befriend_32 : decode cX4_befriend 32 = .ok (.getfield 37, 3) := by decide +kernel
theorem dX4_befriend_35 : decode cX4_befriend 35 = .ok (.iload_n 1, 1) := by decide +kernel
theorem dX4_befriend_36 : decode cX4_befriend 36 = .ok (.iload_n 2, 1) := by decide +kernel
theorem dX4_befriend_37 : decode cX4_befriend 37 = .ok (.iastore, 1) := by decide +kernel
theorem dX4_befriend_38 : decode cX4_befriend 38 = .ok (.aload_n 0, 1) := by decide +kernel
theorem dX4_befriend_39 : decode cX4_befriend 39 = .ok (.getfield 37, 3) := by decide +kernel
theorem dX4_befriend_42 : decode cX4_befriend 42 = .ok (.iload_n 2, 1) := by decide +kernel
theorem dX4_befriend_43 : decode cX4_befriend 43 = .ok (.iload_n 1, 1) := by decide +kernel
theorem dX4_befriend_44 : decode cX4_befriend 44 = .ok (.iastore, 1) := by decide +kernel
theorem dX4_befriend_45 : decode cX4_befriend 45 = .ok (.return_, 1) := by decide +kernel
theorem dX4_clear_0 : decode cX4_clear 0 = .ok (.aload_n 0, 1) := by decide +kernel
theorem dX4_clear_1 : decode cX4_clear 1 = .ok (.iconst 0, 1) := by decide +kernel
theorem dX4_clear_2 : decode cX4_clear 2 = .ok (.iload_n 1, 1) := by decide +kernel
theorem dX4_clear_3 : decode cX4_clear 3 = .ok (.bipush 16, 2) := by decide +kernel
theorem dX4_clear_5 : decode cX4_clear 5 = .ok (.invokestatic 40, 3) := by decide +kernel
theorem dX4_clear_8 : decode cX4_clear 8 = .ok (.invokestatic 46, 3) := by decide +kernel
theorem dX4_clear_11 : decode cX4_clear 11 = .ok (.putfield 49, 3) := by decide +kernel
theorem dX4_clear_14 : decode cX4_clear 14 = .ok (.aload_n 0, 1) := by decide +kernel
theorem dX4_clear_15 : decode cX4_clear 15 = .ok (.iconst 0, 1) := by decide +kernel
theorem dX4_clear_16 : decode cX4_clear 16 = .ok (.iload_n 2, 1) := by decide +kernel
theorem dX4_clear_17 : decode cX4_clear 17 = .ok (.bipush 6, 2) := by decide +kernel
theorem dX4_clear_19 : decode cX4_clear 19 = .ok (.invokestatic 40, 3) := by decide +kernel
theorem dX4_clear_22 : decode cX4_clear 22 = .ok (.invokestatic 46, 3) := by decide +kernel
theorem dX4_clear_25 : decode cX4_clear 25 = .ok (.putfield 53, 3) := by decide +kernel
theorem dX4_clear_28 : decode cX4_clear 28 = .ok (.aload_n 0, 1) := by decide +kernel
theorem dX4_clear_29 : decode cX4_clear 29 = .ok (.iconst 0, 1) := by decide +kernel
theorem dX4_clear_30 : decode cX4_clear 30 = .ok (.putfield 56, 3) := by decide +kernel
theorem dX4_clear_33 : decode cX4_clear 33 = .ok (.aload_n 0, 1) := by decide +kernel
theorem dX4_clear_34 : decode cX4_clear 34 = .ok (.iconst 0, 1) := by decide +kernel
theorem dX4_clear_35 : decode cX4_clear 35 = .ok (.putfield 59, 3) := by decide +kernel
theorem dX4_clear_38 : decode cX4_clear 38 = .ok (.iconst 0, 1) := by decide +kernel
theorem dX4_clear_39 : decode cX4_clear 39 = .ok (.istore_n 3, 1) := by decide +kernel
theorem dX4_clear_40 : decode cX4_clear 40 = .ok (.iload_n 3, 1) := by decide +kernel
theorem dX4_clear_41 : decode cX4_clear 41 = .ok (.bipush 96, 2) := by decide +kernel
theorem dX4_clear_43 : decode cX4_clear 43 = .ok (.if_icmp .ge 16, 3) := by decide +kernel
theorem dX4_clear_46 : decode cX4_clear 46 = .ok (.aload_n 0, 1) := by decide +kernel
theorem dX4_clear_47 : decode cX4_clear 47 = .ok (.getfield 9, 3) := by decide +kernel
theorem dX4_clear_50 : decode cX4_clear 50 = .ok (.iload_n 3, 1) := by decide +kernel
theorem dX4_clear_51 : decode cX4_clear 51 = .ok (.iconst 0, 1) := by decide +kernel
theorem dX4_clear_52 : decode cX4_clear 52 = .ok (.bastore, 1) := by decide +kernel
theorem dX4_clear_53 : decode cX4_clear 53 = .ok (.iinc 3 1, 3) := by decide +kernel
theorem dX4_clear_56 : decode cX4_clear 56 = .ok (.goto (-16), 3) := by decide +kernel
theorem dX4_clear_59 : decode cX4_clear 59 = .ok (.return_, 1) := by decide +kernel
theorem dX4_copyFrom_0 : decode cX4_copyFrom 0 = .ok (.aload_n 0, 1) := by decide +kernel
theorem dX4_copyFrom_1 : decode cX4_copyFrom 1 = .ok (.aload_n 1, 1) := by decide +kernel
theorem dX4_copyFrom_2 : decode cX4_copyFrom 2 = .ok (.getfield 49, 3) := by decide +kernel
theorem dX4_copyFrom_5 : decode cX4_copyFrom 5 = .ok (.putfield 49, 3) := by decide +kernel
theorem dX4_copyFrom_8 : decode cX4_copyFrom 8 = .ok (.aload_n 0, 1) := by decide +kernel
theorem dX4_copyFrom_9 : decode cX4_copyFrom 9 = .ok (.aload_n 1, 1) := by decide +kernel
theorem dX4_copyFrom_10 : decode cX4_copyFrom 10 = .ok (.getfield 53, 3) := by decide +kernel
theorem dX4_copyFrom_13 : decode cX4_copyFrom 13 = .ok (.putfield 53, 3) := by decide +kernel
theorem dX4_copyFrom_16 : decode cX4_copyFrom 16 = .ok (.aload_n 0, 1) := by decide +kernel
theorem dX4_copyFrom_17 : decode cX4_copyFrom 17 = .ok (.aload_n 1, 1) := by decide +kernel
theorem dX4_copyFrom_18 : decode cX4_copyFrom 18 = .ok (.getfield 56, 3) := by decide +kernel
theorem dX4_copyFrom_21 : decode cX4_copyFrom 21 = .ok (.putfield 56, 3) := by decide +kernel
theorem dX4_copyFrom_24 : decode cX4_copyFrom 24 = .ok (.aload_n 0, 1) := by decide +kernel
theorem dX4_copyFrom_25 : decode cX4_copyFrom 25 = .ok (.aload_n 1, 1) := by decide +kernel
theorem dX4_copyFrom_26 : decode cX4_copyFrom 26 = .ok (.getfield 59, 3) := by decide +kernel
theorem dX4_copyFrom_29 : decode cX4_copyFrom 29 = .ok (.putfield 59, 3) := by decide +kernel
theorem dX4_copyFrom_32 : decode cX4_copyFrom 32 = .ok (.aload_n 1, 1) := by decide +kernel
theorem dX4_copyFrom_33 : decode cX4_copyFrom 33 = .ok (.getfield 9, 3) := by decide +kernel
theorem dX4_copyFrom_36 : decode cX4_copyFrom 36 = .ok (.iconst 0, 1) := by decide +kernel
theorem dX4_copyFrom_37 : decode cX4_copyFrom 37 = .ok (.aload_n 0, 1) := by decide +kernel
theorem dX4_copyFrom_38 : decode cX4_copyFrom 38 = .ok (.getfield 9, 3) := by decide +kernel
theorem dX4_copyFrom_41 : decode cX4_copyFrom 41 = .ok (.iconst 0, 1) := by decide +kernel
theorem dX4_copyFrom_42 : decode cX4_copyFrom 42 = .ok (.bipush 96, 2) := by decide +kernel
theorem dX4_copyFrom_44 : decode cX4_copyFrom 44 = .ok (.invokestatic 62, 3) := by decide +kernel
theorem dX4_copyFrom_47 : decode cX4_copyFrom 47 = .ok (.aload_n 1, 1) := by decide +kernel
theorem dX4_copyFrom_48 : decode cX4_copyFrom 48 = .ok (.getfield 15, 3) := by decide +kernel
theorem dX4_copyFrom_51 : decode cX4_copyFrom 51 = .ok (.iconst 0, 1) := by decide +kernel
theorem dX4_copyFrom_52 : decode cX4_copyFrom 52 = .ok (.aload_n 0, 1) := by decide +kernel
theorem dX4_copyFrom_53 : decode cX4_copyFrom 53 = .ok (.getfield 15, 3) := by decide +kernel
theorem dX4_copyFrom_56 : decode cX4_copyFrom 56 = .ok (.iconst 0, 1) := by decide +kernel
theorem dX4_copyFrom_57 : decode cX4_copyFrom 57 = .ok (.bipush 12, 2) := by decide +kernel
theorem dX4_copyFrom_59 : decode cX4_copyFrom 59 = .ok (.invokestatic 62, 3) := by decide +kernel
theorem dX4_copyFrom_62 : decode cX4_copyFrom 62 = .ok (.aload_n 1, 1) := by decide +kernel
theorem dX4_copyFrom_63 : decode cX4_copyFrom 63 = .ok (.getfield 19, 3) := by decide +kernel
theorem dX4_copyFrom_66 : decode cX4_copyFrom 66 = .ok (.iconst 0, 1) := by decide +kernel
theorem dX4_copyFrom_67 : decode cX4_copyFrom 67 = .ok (.aload_n 0, 1) := by decide +kernel
theorem dX4_copyFrom_68 : decode cX4_copyFrom 68 = .ok (.getfield 19, 3) := by decide +kernel
theorem dX4_copyFrom_71 : decode cX4_copyFrom 71 = .ok (.iconst 0, 1) := by decide +kernel
theorem dX4_copyFrom_72 : decode cX4_copyFrom 72 = .ok (.bipush 12, 2) := by decide +kernel
theorem dX4_copyFrom_74 : decode cX4_copyFrom 74 = .ok (.invokestatic 62, 3) := by decide +kernel
theorem dX4_copyFrom_77 : decode cX4_copyFrom 77 = .ok (.aload_n 1, 1) := by decide +kernel
theorem dX4_copyFrom_78 : decode cX4_copyFrom 78 = .ok (.getfield 22, 3) := by decide +kernel
theorem dX4_copyFrom_81 : decode cX4_copyFrom 81 = .ok (.iconst 0, 1) := by decide +kernel
theorem dX4_copyFrom_82 : decode cX4_copyFrom 82 = .ok (.aload_n 0, 1) := by decide +kernel
theorem dX4_copyFrom_83 : decode cX4_copyFrom 83 = .ok (.getfield 22, 3) := by decide +kernel
theorem dX4_copyFrom_86 : decode cX4_copyFrom 86 = .ok (.iconst 0, 1) := by decide +kernel
theorem dX4_copyFrom_87 : decode cX4_copyFrom 87 = .ok (.bipush 12, 2) := by decide +kernel
theorem dX4_copyFrom_89 : decode cX4_copyFrom 89 = .ok (.invokestatic 62, 3) := by decide +kernel
theorem dX4_copyFrom_92 : decode cX4_copyFrom 92 = .ok (.aload_n 1, 1) := by decide +kernel
theorem dX4_copyFrom_93 : decode cX4_copyFrom 93 = .ok (.getfield 25, 3) := by decide +kernel
theorem dX4_copyFrom_96 : decode cX4_copyFrom 96 = .ok (.iconst 0, 1) := by decide +kernel
theorem dX4_copyFrom_97 : decode cX4_copyFrom 97 = .ok (.aload_n 0, 1) := by decide +kernel
theorem dX4_copyFrom_98 : decode cX4_copyFrom 98 = .ok (.getfield 25, 3) := by decide +kernel
theorem dX4_copyFrom_101 : decode cX4_copyFrom 101 = .ok (.iconst 0, 1) := by decide +kernel
theorem dX4_copyFrom_102 : decode cX4_copyFrom 102 = .ok (.bipush 12, 2) := by decide +kernel
theorem dX4_copyFrom_104 : decode cX4_copyFrom 104 = .ok (.invokestatic 62, 3) := by decide +kernel
theorem dX4_copyFrom_107 : decode cX4_copyFrom 107 = .ok (.aload_n 1, 1) := by decide +kernel
theorem dX4_copyFrom_108 : decode cX4_copyFrom 108 = .ok (.getfield 28, 3) := by decide +kernel
theorem dX4_copyFrom_111 : decode cX4_copyFrom 111 = .ok (.iconst 0, 1) := by decide +kernel
theorem dX4_copyFrom_112 : decode cX4_copyFrom 112 = .ok (.aload_n 0, 1) := by decide +kernel
theorem dX4_copyFrom_113 : decode cX4_copyFrom 113 = .ok (.getfield 28, 3) := by decide +kernel
theorem dX4_copyFrom_116 : decode cX4_copyFrom 116 = .ok (.iconst 0, 1) := by decide +kernel
theorem dX4_copyFrom_117 : decode cX4_copyFrom 117 = .ok (.bipush 12, 2) := by decide +kernel
theorem dX4_copyFrom_119 : decode cX4_copyFrom 119 = .ok (.invokestatic 62, 3) := by decide +kernel
theorem dX4_copyFrom_122 : decode cX4_copyFrom 122 = .ok (.aload_n 1, 1) := by decide +kernel
theorem dX4_copyFrom_123 : decode cX4_copyFrom 123 = .ok (.getfield 31, 3) := by decide +kernel
theorem dX4_copyFrom_126 : decode cX4_copyFrom 126 = .ok (.iconst 0, 1) := by decide +kernel
theorem dX4_copyFrom_127 : decode cX4_copyFrom 127 = .ok (.aload_n 0, 1) := by decide +kernel
theorem dX4_copyFrom_128 : decode cX4_copyFrom 128 = .ok (.getfield 31, 3) := by decide +kernel
theorem dX4_copyFrom_131 : decode cX4_copyFrom 131 = .ok (.iconst 0, 1) := by decide +kernel
theorem dX4_copyFrom_132 : decode cX4_copyFrom 132 = .ok (.bipush 12, 2) := by decide +kernel
theorem dX4_copyFrom_134 : decode cX4_copyFrom 134 = .ok (.invokestatic 62, 3) := by decide +kernel
theorem dX4_copyFrom_137 : decode cX4_copyFrom 137 = .ok (.aload_n 1, 1) := by decide +kernel
theorem dX4_copyFrom_138 : decode cX4_copyFrom 138 = .ok (.getfield 34, 3) := by decide +kernel
theorem dX4_copyFrom_141 : decode cX4_copyFrom 141 = .ok (.iconst 0, 1) := by decide +kernel
theorem dX4_copyFrom_142 : decode cX4_copyFrom 142 = .ok (.aload_n 0, 1) := by decide +kernel
theorem dX4_copyFrom_143 : decode cX4_copyFrom 143 = .ok (.getfield 34, 3) := by decide +kernel
theorem dX4_copyFrom_146 : decode cX4_copyFrom 146 = .ok (.iconst 0, 1) := by decide +kernel
theorem dX4_copyFrom_147 : decode cX4_copyFrom 147 = .ok (.bipush 12, 2) := by decide +kernel
theorem dX4_copyFrom_149 : decode cX4_copyFrom 149 = .ok (.invokestatic 62, 3) := by decide +kernel
theorem dX4_copyFrom_152 : decode cX4_copyFrom 152 = .ok (.aload_n 1, 1) := by decide +kernel
theorem dX4_copyFrom_153 : decode cX4_copyFrom 153 = .ok (.getfield 37, 3) := by decide +kernel
theorem dX4_copyFrom_156 : decode cX4_copyFrom 156 = .ok (.iconst 0, 1) := by decide +kernel
theorem dX4_copyFrom_157 : decode cX4_copyFrom 157 = .ok (.aload_n 0, 1) := by decide +kernel
theorem dX4_copyFrom_158 : decode cX4_copyFrom 158 = .ok (.getfield 37, 3) := by decide +kernel
theorem dX4_copyFrom_161 : decode cX4_copyFrom 161 = .ok (.iconst 0, 1) := by decide +kernel
theorem dX4_copyFrom_162 : decode cX4_copyFrom 162 = .ok (.bipush 12, 2) := by decide +kernel
theorem dX4_copyFrom_164 : decode cX4_copyFrom 164 = .ok (.invokestatic 62, 3) := by decide +kernel
theorem dX4_copyFrom_167 : decode cX4_copyFrom 167 = .ok (.return_, 1) := by decide +kernel
theorem dX4_drop_0 : decode cX4_drop 0 = .ok (.aload_n 0, 1) := by decide +kernel
theorem dX4_drop_1 : decode cX4_drop 1 = .ok (.iload_n 1, 1) := by decide +kernel
theorem dX4_drop_2 : decode cX4_drop 2 = .ok (.invokevirtual 75, 3) := by decide +kernel
theorem dX4_drop_5 : decode cX4_drop 5 = .ok (.ifCond .ne 4, 3) := by decide +kernel
theorem dX4_drop_8 : decode cX4_drop 8 = .ok (.return_, 1) := by decide +kernel
theorem dX4_drop_9 : decode cX4_drop 9 = .ok (.aload_n 0, 1) := by decide +kernel
theorem dX4_drop_10 : decode cX4_drop 10 = .ok (.iload_n 1, 1) := by decide +kernel
theorem dX4_drop_11 : decode cX4_drop 11 = .ok (.invokevirtual 79, 3) := by decide +kernel
theorem dX4_drop_14 : decode cX4_drop 14 = .ok (.iload_n 1, 1) := by decide +kernel
theorem dX4_drop_15 : decode cX4_drop 15 = .ok (.istore_n 2, 1) := by decide +kernel
theorem dX4_drop_16 : decode cX4_drop 16 = .ok (.iload_n 2, 1) := by decide +kernel
theorem dX4_drop_17 : decode cX4_drop 17 = .ok (.iconst 1, 1) := by decide +kernel
theorem dX4_drop_18 : decode cX4_drop 18 = .ok (.iadd, 1) := by decide +kernel
theorem dX4_drop_19 : decode cX4_drop 19 = .ok (.aload_n 0, 1) := by decide +kernel
theorem dX4_drop_20 : decode cX4_drop 20 = .ok (.getfield 59, 3) := by decide +kernel
theorem dX4_drop_23 : decode cX4_drop 23 = .ok (.if_icmp .ge 121, 3) := by decide +kernel
theorem dX4_drop_26 : decode cX4_drop 26 = .ok (.aload_n 0, 1) := by decide +kernel
theorem dX4_drop_27 : decode cX4_drop 27 = .ok (.getfield 15, 3) := by decide +kernel
theorem dX4_drop_30 : decode cX4_drop 30 = .ok (.iload_n 2, 1) := by decide +kernel
theorem dX4_drop_31 : decode cX4_drop 31 = .ok (.aload_n 0, 1) := by decide +kernel
theorem dX4_drop_32 : decode cX4_drop 32 = .ok (.getfield 15, 3) := by decide +kernel
theorem dX4_drop_35 : decode cX4_drop 35 = .ok (.iload_n 2, 1) := by decide +kernel
theorem dX4_drop_36 : decode cX4_drop 36 = .ok (.iconst 1, 1) := by decide +kernel
theorem dX4_drop_37 : decode cX4_drop 37 = .ok (.iadd, 1) := by decide +kernel
theorem dX4_drop_38 : decode cX4_drop 38 = .ok (.iaload, 1) := by decide +kernel
theorem dX4_drop_39 : decode cX4_drop 39 = .ok (.iastore, 1) := by decide +kernel
theorem dX4_drop_40 : decode cX4_drop 40 = .ok (.aload_n 0, 1) := by decide +kernel
theorem dX4_drop_41 : decode cX4_drop 41 = .ok (.getfield 19, 3) := by decide +kernel
theorem dX4_drop_44 : decode cX4_drop 44 = .ok (.iload_n 2, 1) := by decide +kernel
theorem dX4_drop_45 : decode cX4_drop 45 = .ok (.aload_n 0, 1) := by decide +kernel
theorem dX4_drop_46 : decode cX4_drop 46 = .ok (.getfield 19, 3) := by decide +kernel
theorem dX4_drop_49 : decode cX4_drop 49 = .ok (.iload_n 2, 1) := by decide +kernel
theorem dX4_drop_50 : decode cX4_drop 50 = .ok (.iconst 1, 1) := by decide +kernel
theorem dX4_drop_51 : decode cX4_drop 51 = .ok (.iadd, 1) := by decide +kernel
theorem dX4_drop_52 : decode cX4_drop 52 = .ok (.iaload, 1) := by decide +kernel
theorem dX4_drop_53 : decode cX4_drop 53 = .ok (.iastore, 1) := by decide +kernel
theorem dX4_drop_54 : decode cX4_drop 54 = .ok (.aload_n 0, 1) := by decide +kernel
theorem dX4_drop_55 : decode cX4_drop 55 = .ok (.getfield 22, 3) := by decide +kernel
theorem dX4_drop_58 : decode cX4_drop 58 = .ok (.iload_n 2, 1) := by decide +kernel
theorem dX4_drop_59 : decode cX4_drop 59 = .ok (.aload_n 0, 1) := by decide +kernel
theorem dX4_drop_60 : decode cX4_drop 60 = .ok (.getfield 22, 3) := by decide +kernel
theorem dX4_drop_63 : decode cX4_drop 63 = .ok (.iload_n 2, 1) := by decide +kernel
theorem dX4_drop_64 : decode cX4_drop 64 = .ok (.iconst 1, 1) := by decide +kernel
theorem dX4_drop_65 : decode cX4_drop 65 = .ok (.iadd, 1) := by decide +kernel
theorem dX4_drop_66 : decode cX4_drop 66 = .ok (.iaload, 1) := by decide +kernel
theorem dX4_drop_67 : decode cX4_drop 67 = .ok (.iastore, 1) := by decide +kernel
theorem dX4_drop_68 : decode cX4_drop 68 = .ok (.aload_n 0, 1) := by decide +kernel
theorem dX4_drop_69 : decode cX4_drop 69 = .ok (.getfield 25, 3) := by decide +kernel
theorem dX4_drop_72 : decode cX4_drop 72 = .ok (.iload_n 2, 1) := by decide +kernel
theorem dX4_drop_73 : decode cX4_drop 73 = .ok (.aload_n 0, 1) := by decide +kernel
theorem dX4_drop_74 : decode cX4_drop 74 = .ok (.getfield 25, 3) := by decide +kernel
theorem dX4_drop_77 : decode cX4_drop 77 = .ok (.iload_n 2, 1) := by decide +kernel
theorem dX4_drop_78 : decode cX4_drop 78 = .ok (.iconst 1, 1) := by decide +kernel
theorem dX4_drop_79 : decode cX4_drop 79 = .ok (.iadd, 1) := by decide +kernel
theorem dX4_drop_80 : decode cX4_drop 80 = .ok (.iaload, 1) := by decide +kernel
theorem dX4_drop_81 : decode cX4_drop 81 = .ok (.iastore, 1) := by decide +kernel
theorem dX4_drop_82 : decode cX4_drop 82 = .ok (.aload_n 0, 1) := by decide +kernel
theorem dX4_drop_83 : decode cX4_drop 83 = .ok (.getfield 28, 3) := by decide +kernel
theorem dX4_drop_86 : decode cX4_drop 86 = .ok (.iload_n 2, 1) := by decide +kernel
theorem dX4_drop_87 : decode cX4_drop 87 = .ok (.aload_n 0, 1) := by decide +kernel
theorem dX4_drop_88 : decode cX4_drop 88 = .ok (.getfield 28, 3) := by decide +kernel
theorem dX4_drop_91 : decode cX4_drop 91 = .ok (.iload_n 2, 1) := by decide +kernel
theorem dX4_drop_92 : decode cX4_drop 92 = .ok (.iconst 1, 1) := by decide +kernel
theorem dX4_drop_93 : decode cX4_drop 93 = .ok (.iadd, 1) := by decide +kernel
theorem dX4_drop_94 : decode cX4_drop 94 = .ok (.iaload, 1) := by decide +kernel
theorem dX4_drop_95 : decode cX4_drop 95 = .ok (.iastore, 1) := by decide +kernel
theorem dX4_drop_96 : decode cX4_drop 96 = .ok (.aload_n 0, 1) := by decide +kernel
theorem dX4_drop_97 : decode cX4_drop 97 = .ok (.getfield 31, 3) := by decide +kernel
theorem dX4_drop_100 : decode cX4_drop 100 = .ok (.iload_n 2, 1) := by decide +kernel
theorem dX4_drop_101 : decode cX4_drop 101 = .ok (.aload_n 0, 1) := by decide +kernel
theorem dX4_drop_102 : decode cX4_drop 102 = .ok (.getfield 31, 3) := by decide +kernel
theorem dX4_drop_105 : decode cX4_drop 105 = .ok (.iload_n 2, 1) := by decide +kernel
theorem dX4_drop_106 : decode cX4_drop 106 = .ok (.iconst 1, 1) := by decide +kernel
theorem dX4_drop_107 : decode cX4_drop 107 = .ok (.iadd, 1) := by decide +kernel
theorem dX4_drop_108 : decode cX4_drop 108 = .ok (.iaload, 1) := by decide +kernel
theorem dX4_drop_109 : decode cX4_drop 109 = .ok (.iastore, 1) := by decide +kernel
theorem dX4_drop_110 : decode cX4_drop 110 = .ok (.aload_n 0, 1) := by decide +kernel
theorem dX4_drop_111 : decode cX4_drop 111 = .ok (.getfield 34, 3) := by decide +kernel
theorem dX4_drop_114 : decode cX4_drop 114 = .ok (.iload_n 2, 1) := by decide +kernel
theorem dX4_drop_115 : decode cX4_drop 115 = .ok (.aload_n 0, 1) := by decide +kernel
theorem dX4_drop_116 : decode cX4_drop 116 = .ok (.getfield 34, 3) := by decide +kernel
theorem dX4_drop_119 : decode cX4_drop 119 = .ok (.iload_n 2, 1) := by decide +kernel
theorem dX4_drop_120 : decode cX4_drop 120 = .ok (.iconst 1, 1) := by decide +kernel
theorem dX4_drop_121 : decode cX4_drop 121 = .ok (.iadd, 1) := by decide +kernel
theorem dX4_drop_122 : decode cX4_drop 122 = .ok (.iaload, 1) := by decide +kernel
theorem dX4_drop_123 : decode cX4_drop 123 = .ok (.iastore, 1) := by decide +kernel
theorem dX4_drop_124 : decode cX4_drop 124 = .ok (.aload_n 0, 1) := by decide +kernel
theorem dX4_drop_125 : decode cX4_drop 125 = .ok (.getfield 37, 3) := by decide +kernel
theorem dX4_drop_128 : decode cX4_drop 128 = .ok (.iload_n 2, 1) := by decide +kernel
theorem dX4_drop_129 : decode cX4_drop 129 = .ok (.aload_n 0, 1) := by decide +kernel
theorem dX4_drop_130 : decode cX4_drop 130 = .ok (.getfield 37, 3) := by decide +kernel
theorem dX4_drop_133 : decode cX4_drop 133 = .ok (.iload_n 2, 1) := by decide +kernel
theorem dX4_drop_134 : decode cX4_drop 134 = .ok (.iconst 1, 1) := by decide +kernel
theorem dX4_drop_135 : decode cX4_drop 135 = .ok (.iadd, 1) := by decide +kernel
theorem dX4_drop_136 : decode cX4_drop 136 = .ok (.iaload, 1) := by decide +kernel
theorem dX4_drop_137 : decode cX4_drop 137 = .ok (.iastore, 1) := by decide +kernel
theorem dX4_drop_138 : decode cX4_drop 138 = .ok (.iinc 2 1, 3) := by decide +kernel
theorem dX4_drop_141 : decode cX4_drop 141 = .ok (.goto (-125), 3) := by decide +kernel
theorem dX4_drop_144 : decode cX4_drop 144 = .ok (.aload_n 0, 1) := by decide +kernel
theorem dX4_drop_145 : decode cX4_drop 145 = .ok (.dup, 1) := by decide +kernel
theorem dX4_drop_146 : decode cX4_drop 146 = .ok (.getfield 59, 3) := by decide +kernel
theorem dX4_drop_149 : decode cX4_drop 149 = .ok (.iconst 1, 1) := by decide +kernel
theorem dX4_drop_150 : decode cX4_drop 150 = .ok (.isub, 1) := by decide +kernel
theorem dX4_drop_151 : decode cX4_drop 151 = .ok (.putfield 59, 3) := by decide +kernel
theorem dX4_drop_154 : decode cX4_drop 154 = .ok (.iconst 0, 1) := by decide +kernel
theorem dX4_drop_155 : decode cX4_drop 155 = .ok (.istore_n 2, 1) := by decide +kernel
theorem dX4_drop_156 : decode cX4_drop 156 = .ok (.iload_n 2, 1) := by decide +kernel
theorem dX4_drop_157 : decode cX4_drop 157 = .ok (.aload_n 0, 1) := by decide +kernel
theorem dX4_drop_158 : decode cX4_drop 158 = .ok (.getfield 59, 3) := by decide +kernel
theorem dX4_drop_161 : decode cX4_drop 161 = .ok (.if_icmp .ge 29, 3) := by decide +kernel
theorem dX4_drop_164 : decode cX4_drop 164 = .ok (.aload_n 0, 1) := by decide +kernel
theorem dX4_drop_165 : decode cX4_drop 165 = .ok (.getfield 37, 3) := by decide +kernel
theorem dX4_drop_168 : decode cX4_drop 168 = .ok (.iload_n 2, 1) := by decide +kernel
theorem dX4_drop_169 : decode cX4_drop 169 = .ok (.iaload, 1) := by decide +kernel
theorem dX4_drop_170 : decode cX4_drop 170 = .ok (.iload_n 1, 1) := by decide +kernel
theorem dX4_drop_171 : decode cX4_drop 171 = .ok (.if_icmp .le 13, 3) := by decide +kernel
theorem dX4_drop_174 : decode cX4_drop 174 = .ok (.aload_n 0, 1) := by decide +kernel
theorem dX4_drop_175 : decode cX4_drop 175 = .ok (.getfield 37, 3) := by decide +kernel
theorem dX4_drop_178 : decode cX4_drop 178 = .ok (.iload_n 2, 1) := by decide +kernel
theorem dX4_drop_179 : decode cX4_drop 179 = .ok (.dup2, 1) := by decide +kernel
theorem dX4_drop_180 : decode cX4_drop 180 = .ok (.iaload, 1) := by decide +kernel
theorem dX4_drop_181 : decode cX4_drop 181 = .ok (.iconst 1, 1) := by decide +kernel
theorem dX4_drop_182 : decode cX4_drop 182 = .ok (.isub, 1) := by decide +kernel
theorem dX4_drop_183 : decode cX4_drop 183 = .ok (.iastore, 1) := by decide +kernel
theorem dX4_drop_184 : decode cX4_drop 184 = .ok (.iinc 2 1, 3) := by decide +kernel
theorem dX4_drop_187 : decode cX4_drop 187 = .ok (.goto (-31), 3) := by decide +kernel
theorem dX4_drop_190 : decode cX4_drop 190 = .ok (.return_, 1) := by decide +kernel
theorem dX4_isTaken_0 : decode cX4_isTaken 0 = .ok (.iconst 0, 1) := by decide +kernel
theorem dX4_isTaken_1 : decode cX4_isTaken 1 = .ok (.istore_n 3, 1) := by decide +kernel
theorem dX4_isTaken_2 : decode cX4_isTaken 2 = .ok (.iload_n 3, 1) := by decide +kernel
theorem dX4_isTaken_3 : decode cX4_isTaken 3 = .ok (.aload_n 0, 1) := by decide +kernel
theorem dX4_isTaken_4 : decode cX4_isTaken 4 = .ok (.getfield 59, 3) := by decide +kernel
theorem dX4_isTaken_7 : decode cX4_isTaken 7 = .ok (.if_icmp .ge 31, 3) := by decide +kernel
theorem dX4_isTaken_10 : decode cX4_isTaken 10 = .ok (.aload_n 0, 1) := by decide +kernel
theorem dX4_isTaken_11 : decode cX4_isTaken 11 = .ok (.getfield 15, 3) := by decide +kernel
theorem dX4_isTaken_14 : decode cX4_isTaken 14 = .ok (.iload_n 3, 1) := by decide +kernel
theorem dX4_isTaken_15 : decode cX4_isTaken 15 = .ok (.iaload, 1) := by decide +kernel
theorem dX4_isTaken_16 : decode cX4_isTaken 16 = .ok (.iload_n 1, 1) := by decide +kernel
theorem dX4_isTaken_17 : decode cX4_isTaken 17 = .ok (.if_icmp .ne 15, 3) := by decide +kernel
theorem dX4_isTaken_20 : decode cX4_isTaken 20 = .ok (.aload_n 0, 1) := by decide +kernel
theorem dX4_isTaken_21 : decode cX4_isTaken 21 = .ok (.getfield 19, 3) := by decide +kernel
theorem dX4_isTaken_24 : decode cX4_isTaken 24 = .ok (.iload_n 3, 1) := by decide +kernel
theorem dX4_isTaken_25 : decode cX4_isTaken 25 = .ok (.iaload, 1) := by decide +kernel
theorem dX4_isTaken_26 : decode cX4_isTaken 26 = .ok (.iload_n 2, 1) := by decide +kernel
theorem dX4_isTaken_27 : decode cX4_isTaken 27 = .ok (.if_icmp .ne 5, 3) := by decide +kernel
theorem dX4_isTaken_30 : decode cX4_isTaken 30 = .ok (.iconst 1, 1) := by decide +kernel
theorem dX4_isTaken_31 : decode cX4_isTaken 31 = .ok (.ireturn, 1) := by decide +kernel
theorem dX4_isTaken_32 : decode cX4_isTaken 32 = .ok (.iinc 3 1, 3) := by decide +kernel
theorem dX4_isTaken_35 : decode cX4_isTaken 35 = .ok (.goto (-33), 3) := by decide +kernel
theorem dX4_isTaken_38 : decode cX4_isTaken 38 = .ok (.aload_n 0, 1) := by decide +kernel
theorem dX4_isTaken_39 : decode cX4_isTaken 39 = .ok (.iload_n 1, 1) := by decide +kernel
theorem dX4_isTaken_40 : decode cX4_isTaken 40 = .ok (.iload_n 2, 1) := by decide +kernel
theorem dX4_isTaken_41 : decode cX4_isTaken 41 = .ok (.invokevirtual 72, 3) := by decide +kernel
theorem dX4_isTaken_44 : decode cX4_isTaken 44 = .ok (.ireturn, 1) := by decide +kernel
theorem dX4_keepFirst_0 : decode cX4_keepFirst 0 = .ok (.aload_n 0, 1) := by decide +kernel
theorem dX4_keepFirst_1 : decode cX4_keepFirst 1 = .ok (.iconst 0, 1) := by decide +kernel
theorem dX4_keepFirst_2 : decode cX4_keepFirst 2 = .ok (.iload_n 1, 1) := by decide +kernel
theorem dX4_keepFirst_3 : decode cX4_keepFirst 3 = .ok (.iload_n 2, 1) := by decide +kernel
theorem dX4_keepFirst_4 : decode cX4_keepFirst 4 = .ok (.bipush 12, 2) := by decide +kernel
theorem dX4_keepFirst_6 : decode cX4_keepFirst 6 = .ok (.invokestatic 40, 3) := by decide +kernel
theorem dX4_keepFirst_9 : decode cX4_keepFirst 9 = .ok (.invokestatic 40, 3) := by decide +kernel
theorem dX4_keepFirst_12 : decode cX4_keepFirst 12 = .ok (.invokestatic 46, 3) := by decide +kernel
theorem dX4_keepFirst_15 : decode cX4_keepFirst 15 = .ok (.putfield 59, 3) := by decide +kernel
theorem dX4_keepFirst_18 : decode cX4_keepFirst 18 = .ok (.return_, 1) := by decide +kernel
theorem dX4_setWall_0 : decode cX4_setWall 0 = .ok (.aload_n 0, 1) := by decide +kernel
theorem dX4_setWall_1 : decode cX4_setWall 1 = .ok (.iload_n 1, 1) := by decide +kernel
theorem dX4_setWall_2 : decode cX4_setWall 2 = .ok (.iload_n 2, 1) := by decide +kernel
theorem dX4_setWall_3 : decode cX4_setWall 3 = .ok (.invokevirtual 68, 3) := by decide +kernel
theorem dX4_setWall_6 : decode cX4_setWall 6 = .ok (.ifCond .eq 48, 3) := by decide +kernel
theorem dX4_setWall_9 : decode cX4_setWall 9 = .ok (.aload_n 0, 1) := by decide +kernel
theorem dX4_setWall_10 : decode cX4_setWall 10 = .ok (.getfield 9, 3) := by decide +kernel
theorem dX4_setWall_13 : decode cX4_setWall 13 = .ok (.iload_n 1, 1) := by decide +kernel
theorem dX4_setWall_14 : decode cX4_setWall 14 = .ok (.bipush 6, 2) := by decide +kernel
theorem dX4_setWall_16 : decode cX4_setWall 16 = .ok (.imul, 1) := by decide +kernel
theorem dX4_setWall_17 : decode cX4_setWall 17 = .ok (.iload_n 2, 1) := by decide +kernel
theorem dX4_setWall_18 : decode cX4_setWall 18 = .ok (.iadd, 1) := by decide +kernel
theorem dX4_setWall_19 : decode cX4_setWall 19 = .ok (.baload, 1) := by decide +kernel
theorem dX4_setWall_20 : decode cX4_setWall 20 = .ok (.iload_n 3, 1) := by decide +kernel
theorem dX4_setWall_21 : decode cX4_setWall 21 = .ok (.if_icmp .eq 33, 3) := by decide +kernel
theorem dX4_setWall_24 : decode cX4_setWall 24 = .ok (.aload_n 0, 1) := by decide +kernel
theorem dX4_setWall_25 : decode cX4_setWall 25 = .ok (.getfield 9, 3) := by decide +kernel
theorem dX4_setWall_28 : decode cX4_setWall 28 = .ok (.iload_n 1, 1) := by decide +kernel
theorem dX4_setWall_29 : decode cX4_setWall 29 = .ok (.bipush 6, 2) := by decide +kernel
theorem dX4_setWall_31 : decode cX4_setWall 31 = .ok (.imul, 1) := by decide +kernel
theorem dX4_setWall_32 : decode cX4_setWall 32 = .ok (.iload_n 2, 1) := by decide +kernel
theorem dX4_setWall_33 : decode cX4_setWall 33 = .ok (.iadd, 1) := by decide +kernel
theorem dX4_setWall_34 : decode cX4_setWall 34 = .ok (.iload_n 3, 1) := by decide +kernel
theorem dX4_setWall_35 : decode cX4_setWall 35 = .ok (.bastore, 1) := by decide +kernel
theorem dX4_setWall_36 : decode cX4_setWall 36 = .ok (.aload_n 0, 1) := by decide +kernel
theorem dX4_setWall_37 : decode cX4_setWall 37 = .ok (.dup, 1) := by decide +kernel
theorem dX4_setWall_38 : decode cX4_setWall 38 = .ok (.getfield 56, 3) := by decide +kernel
theorem dX4_setWall_41 : decode cX4_setWall 41 = .ok (.iload_n 3, 1) := by decide +kernel
theorem dX4_setWall_42 : decode cX4_setWall 42 = .ok (.ifCond .eq 7, 3) := by decide +kernel
theorem dX4_setWall_45 : decode cX4_setWall 45 = .ok (.iconst 1, 1) := by decide +kernel
theorem dX4_setWall_46 : decode cX4_setWall 46 = .ok (.goto 4, 3) := by decide +kernel
theorem dX4_setWall_49 : decode cX4_setWall 49 = .ok (.iconst (-1), 1) := by decide +kernel
theorem dX4_setWall_50 : decode cX4_setWall 50 = .ok (.iadd, 1) := by decide +kernel
theorem dX4_setWall_51 : decode cX4_setWall 51 = .ok (.putfield 56, 3) := by decide +kernel
theorem dX4_setWall_54 : decode cX4_setWall 54 = .ok (.return_, 1) := by decide +kernel
section P_X4_isInside
variable {p : Program} {l : Launch} {e : Env} {s : State} {m : MethodId} {args : Array Value} {below : List Frame} {meth : Method} {c : Code} {G : GG} {A : Nat → Prop} {ad : Nat → Nat} {S : ST} {N : Nat} {r : Int32} {dy' : DY}
end P_X4_isInside
set_option maxHeartbeats 4000000 in
set_option maxRecDepth 100000 in
theorem M_X4_isInside (l : Launch) (G : GG) (ad : Nat → Nat) {S : ST} (N : Nat) (hG : Good S) (a0 : Nat) (a1 : Int32) (a2 : Int32) (dy : DY) (T0 : gs S a0 = (0, 4)) {r : Int32} {dy' : DY} (E : F_X4_isInside S N a0 a1 a2 dy = some (r, dy')) : MC l yX4_isInside cX4_isInside 3 (Option.some Jvm.ClassFile.FieldType.boolean) (1) G ad [.ref (ad a0), .int a1, .int a2] S dy (fun A => QI G ad A S r dy') := by
  rw [F_X4_isInside_s] at E
  refine mc_of RX4 (by decide) rfl (Nat.le_of_ble_eq_true rfl) (fun p e s m args below meth c A C HR HL => ?_)
  refine ww_sub (lv' := [(0, .ref (ad a0)), (1, .int a1), (2, .int a2)]) [0, 1, 2] rfl ?_
  refine ww_iload_n C dX4_isInside_0 rfl 1 rfl ?_
  refine ww_if_lt (tgt := 28) C dX4_isInside_1 (by decide) E (fun _ E => ?_) (fun _ E => ?_)
  · refine ww_iconst (v := 0) C dX4_isInside_28 (by decide) ?_
    exact ww_zret C HR HL dX4_isInside_29 (Or.inl rfl) E
  · refine ww_iload_n C dX4_isInside_4 rfl 1 rfl ?_
    refine ww_aload_n C dX4_isInside_5 rfl 0 rfl ?_
    refine ww_geti (ci := 4) (k0 := 0) C dX4_isInside_6 rfl rfl inm4 (by decide) T0 q150 rfl ?_
    refine ww_icmp_ge (tgt := 28) C dX4_isInside_9 (by decide) E (fun _ E => ?_) (fun _ E => ?_)
    · refine ww_iconst (v := 0) C dX4_isInside_28 (by decide) ?_
      exact ww_zret C HR HL dX4_isInside_29 (Or.inl rfl) E
    · refine ww_iload_n C dX4_isInside_12 rfl 2 rfl ?_
      refine ww_if_lt (tgt := 28) C dX4_isInside_13 (by decide) E (fun _ E => ?_) (fun _ E => ?_)
      · refine ww_iconst (v := 0) C dX4_isInside_28 (by decide) ?_
        exact ww_zret C HR HL dX4_isInside_29 (Or.inl rfl) E
      · refine ww_iload_n C dX4_isInside_16 rfl 2 rfl ?_
        refine ww_aload_n C dX4_isInside_17 rfl 0 rfl ?_
        refine ww_geti (ci := 4) (k0 := 1) C dX4_isInside_18 rfl rfl inm4 (by decide) T0 q154 rfl ?_
        refine ww_icmp_ge (tgt := 28) C dX4_isInside_21 (by decide) E (fun _ E => ?_) (fun _ E => ?_)
        · refine ww_iconst (v := 0) C dX4_isInside_28 (by decide) ?_
          exact ww_zret C HR HL dX4_isInside_29 (Or.inl rfl) E
        · refine ww_iconst (v := 1) C dX4_isInside_24 (by decide) ?_
          refine ww_goto (tgt := 29) C dX4_isInside_25 (by decide) ?_
          exact ww_zret C HR HL dX4_isInside_29 (Or.inr rfl) E
section P_X4_isWall
variable {p : Program} {l : Launch} {e : Env} {s : State} {m : MethodId} {args : Array Value} {below : List Frame} {meth : Method} {c : Code} {G : GG} {A : Nat → Prop} {ad : Nat → Nat} {S : ST} {N : Nat} {r : Int32} {dy' : DY}
end P_X4_isWall
set_option maxHeartbeats 4000000 in
set_option maxRecDepth 100000 in
theorem M_X4_isWall (l : Launch) (G : GG) (ad : Nat → Nat) {S : ST} (N : Nat) (hG : Good S) (a0 : Nat) (a1 : Int32) (a2 : Int32) (dy : DY) (T0 : gs S a0 = (0, 4)) {r : Int32} {dy' : DY} (E : F_X4_isWall S N a0 a1 a2 dy = some (r, dy')) : MC l yX4_isWall cX4_isWall 3 (Option.some Jvm.ClassFile.FieldType.boolean) (2) G ad [.ref (ad a0), .int a1, .int a2] S dy (fun A => QI G ad A S r dy') := by
  rw [F_X4_isWall_s] at E
  refine mc_of RX4 (by decide) rfl (Nat.le_of_ble_eq_true rfl) (fun p e s m args below meth c A C HR HL => ?_)
  refine ww_sub (lv' := [(0, .ref (ad a0)), (1, .int a1), (2, .int a2)]) [0, 1, 2] rfl ?_
  refine ww_aload_n C dX4_isWall_0 rfl 0 rfl ?_
  refine ww_iload_n C dX4_isWall_1 rfl 1 rfl ?_
  refine ww_iload_n C dX4_isWall_2 rfl 2 rfl ?_
  obtain ⟨u1, e_2, E⟩ := bind_of E
  refine ww_callI C (runs_V (n := 2) (st := []) C [.int a1, .int a2] (M_X4_isInside l G ad N hG a0 a1 a2 dy T0 e_2) ⟨q731, q110, by decide⟩ q728 q729 q730 (ci := 4) rfl T0 rfl (Nat.le_of_ble_eq_true rfl) ⟨Nat.le_of_ble_eq_true rfl, Nat.le_of_ble_eq_true rfl⟩ ⟨Nat.zero_le _, Nat.zero_le _⟩ dX4_isWall_3 rfl) ?_
  refine ww_if_eq (tgt := 27) C dX4_isWall_6 (by decide) E (fun _ E => ?_) (fun _ E => ?_)
  · refine ww_iconst (v := 0) C dX4_isWall_27 (by decide) ?_
    exact ww_zret C HR HL dX4_isWall_28 (Or.inl rfl) E
  · refine ww_aload_n C dX4_isWall_9 rfl 0 rfl ?_
    have T_3 : gs S (gr S a0 4) = (3, 96) := hG.1 _ 4 T0 4 (by decide)
    refine ww_getr (ci := 4) (k0 := 4) C dX4_isWall_10 rfl rfl inm4 (by decide) T0 q165 rfl T_3 (by decide) ?_
    refine ww_iload_n C dX4_isWall_13 rfl 1 rfl ?_
    refine ww_bipush (v := 6) C dX4_isWall_14 (by decide) ?_
    refine ww_imul C dX4_isWall_16 ?_
    refine ww_iload_n C dX4_isWall_17 rfl 2 rfl ?_
    refine ww_iadd C dX4_isWall_18 ?_
    refine ww_zald C dX4_isWall_19 T_3 E (fun _ E => ?_)
    refine ww_if_eq (tgt := 27) C dX4_isWall_20 (by decide) E (fun _ E => ?_) (fun _ E => ?_)
    · refine ww_iconst (v := 0) C dX4_isWall_27 (by decide) ?_
      exact ww_zret C HR HL dX4_isWall_28 (Or.inl rfl) E
    · refine ww_iconst (v := 1) C dX4_isWall_23 (by decide) ?_
      refine ww_goto (tgt := 28) C dX4_isWall_24 (by decide) ?_
      exact ww_zret C HR HL dX4_isWall_28 (Or.inr rfl) E
section P_X4_has
variable {p : Program} {l : Launch} {e : Env} {s : State} {m : MethodId} {args : Array Value} {below : List Frame} {meth : Method} {c : Code} {G : GG} {A : Nat → Prop} {ad : Nat → Nat} {S : ST} {N : Nat} {r : Int32} {dy' : DY}
end P_X4_has
set_option maxHeartbeats 4000000 in
set_option maxRecDepth 100000 in
theorem M_X4_has (l : Launch) (G : GG) (ad : Nat → Nat) {S : ST} (N : Nat) (hG : Good S) (a0 : Nat) (a1 : Int32) (dy : DY) (T0 : gs S a0 = (0, 4)) {r : Int32} {dy' : DY} (E : F_X4_has S N a0 a1 dy = some (r, dy')) : MC l yX4_has cX4_has 2 (Option.some Jvm.ClassFile.FieldType.boolean) (1) G ad [.ref (ad a0), .int a1] S dy (fun A => QI G ad A S r dy') := by
  rw [F_X4_has_s] at E
  refine mc_of RX4 (by decide) rfl (Nat.le_of_ble_eq_true rfl) (fun p e s m args below meth c A C HR HL => ?_)
  refine ww_sub (lv' := [(0, .ref (ad a0)), (1, .int a1)]) [0, 1] rfl ?_
  refine ww_iload_n C dX4_has_0 rfl 1 rfl ?_
  refine ww_if_lt (tgt := 16) C dX4_has_1 (by decide) E (fun _ E => ?_) (fun _ E => ?_)
  · refine ww_iconst (v := 0) C dX4_has_16 (by decide) ?_
    exact ww_zret C HR HL dX4_has_17 (Or.inl rfl) E
  · refine ww_iload_n C dX4_has_4 rfl 1 rfl ?_
    refine ww_aload_n C dX4_has_5 rfl 0 rfl ?_
    refine ww_geti (ci := 4) (k0 := 3) C dX4_has_6 rfl rfl inm4 (by decide) T0 q161 rfl ?_
    refine ww_icmp_ge (tgt := 16) C dX4_has_9 (by decide) E (fun _ E => ?_) (fun _ E => ?_)
    · refine ww_iconst (v := 0) C dX4_has_16 (by decide) ?_
      exact ww_zret C HR HL dX4_has_17 (Or.inl rfl) E
    · refine ww_iconst (v := 1) C dX4_has_12 (by decide) ?_
      refine ww_goto (tgt := 17) C dX4_has_13 (by decide) ?_
      exact ww_zret C HR HL dX4_has_17 (Or.inr rfl) E
section P_X4_addWalker
variable {p : Program} {l : Launch} {e : Env} {s : State} {m : MethodId} {args : Array Value} {below : List Frame} {meth : Method} {c : Code} {G : GG} {A : Nat → Prop} {ad : Nat → Nat} {S : ST} {N : Nat} {dy' : DY}
end P_X4_addWalker
set_option maxHeartbeats 4000000 in
set_option maxRecDepth 100000 in
theorem M_X4_addWalker (l : Launch) (G : GG) (ad : Nat → Nat) {S : ST} (N : Nat) (hG : Good S) (a0 : Nat) (a1 : Int32) (a2 : Int32) (a3 : Int32) (dy : DY) (T0 : gs S a0 = (0, 4)) {dy' : DY} (E : F_X4_addWalker S N a0 a1 a2 a3 dy = some dy') : MC l yX4_addWalker cX4_addWalker 5 (Option.none : Option Jvm.ClassFile.FieldType) (1) G ad [.ref (ad a0), .int a1, .int a2, .int a3] S dy (fun A => QV G ad A S dy') := by
  rw [F_X4_addWalker_s] at E
  refine mc_of RX4 (by decide) rfl (Nat.le_of_ble_eq_true rfl) (fun p e s m args below meth c A C HR HL => ?_)
  refine ww_sub (lv' := [(0, .ref (ad a0)), (1, .int a1), (2, .int a2), (3, .int a3)]) [0, 1, 2, 3] rfl ?_
  refine ww_aload_n C dX4_addWalker_0 rfl 0 rfl ?_
  refine ww_geti (ci := 4) (k0 := 3) C dX4_addWalker_1 rfl rfl inm4 (by decide) T0 q161 rfl ?_
  refine ww_bipush (v := 12) C dX4_addWalker_4 (by decide) ?_
  refine ww_icmp_lt (tgt := 10) C dX4_addWalker_6 (by decide) E (fun _ E => ?_) (fun _ E => ?_)
  · refine ww_aload_n C dX4_addWalker_10 rfl 0 rfl ?_
    refine ww_geti (ci := 4) (k0 := 3) C dX4_addWalker_11 rfl rfl inm4 (by decide) T0 q161 rfl ?_
    refine ww_istore (lv' := [(4, .int (gi dy a0 3)), (0, .ref (ad a0)), (1, .int a1), (2, .int a2), (3, .int a3)]) C dX4_addWalker_14 (by decide) rfl ?_
    refine ww_aload_n C dX4_addWalker_16 rfl 1 rfl ?_
    refine ww_dup C dX4_addWalker_17 rfl ?_
    refine ww_geti (ci := 4) (k0 := 3) C dX4_addWalker_18 rfl rfl inm4 (by decide) T0 q161 rfl ?_
    refine ww_iconst (v := 1) C dX4_addWalker_21 (by decide) ?_
    refine ww_iadd C dX4_addWalker_22 ?_
    refine ww_puti (ci := 4) (k0 := 3) C dX4_addWalker_23 rfl rfl inm4 tyX4_ok nmX4 (by decide) T0 q161 rfl rfl rfl ?_
    refine ww_bd E (fun dy1 E => ?_)
    refine ww_aload_n C dX4_addWalker_26 rfl 1 rfl ?_
    have T_2 : gs S (gr S a0 5) = (1, 12) := hG.1 _ 4 T0 5 (by decide)
    refine ww_getr (ci := 4) (k0 := 5) C dX4_addWalker_27 rfl rfl inm4 (by decide) T0 q167 rfl T_2 (by decide) ?_
    refine ww_iload C dX4_addWalker_30 0 rfl ?_
    refine ww_iload_n C dX4_addWalker_32 rfl 2 rfl ?_
    refine ww_iast C dX4_addWalker_33 T_2 E (fun _ E => ?_)
    refine ww_bd E (fun dy3 E => ?_)
    refine ww_aload_n C dX4_addWalker_34 rfl 1 rfl ?_
    have T_4 : gs S (gr S a0 6) = (1, 12) := hG.1 _ 4 T0 6 (by decide)
    refine ww_getr (ci := 4) (k0 := 6) C dX4_addWalker_35 rfl rfl inm4 (by decide) T0 q170 rfl T_4 (by decide) ?_
    refine ww_iload C dX4_addWalker_38 0 rfl ?_
    refine ww_iload_n C dX4_addWalker_40 rfl 3 rfl ?_
    refine ww_iast C dX4_addWalker_41 T_4 E (fun _ E => ?_)
    refine ww_bd E (fun dy5 E => ?_)
    refine ww_aload_n C dX4_addWalker_42 rfl 1 rfl ?_
    have T_6 : gs S (gr S a0 7) = (1, 12) := hG.1 _ 4 T0 7 (by decide)
    refine ww_getr (ci := 4) (k0 := 7) C dX4_addWalker_43 rfl rfl inm4 (by decide) T0 q173 rfl T_6 (by decide) ?_
    refine ww_iload C dX4_addWalker_46 0 rfl ?_
    refine ww_iload_n C dX4_addWalker_48 rfl 4 rfl ?_
    refine ww_iast C dX4_addWalker_49 T_6 E (fun _ E => ?_)
    refine ww_bd E (fun dy7 E => ?_)
    refine ww_aload_n C dX4_addWalker_50 rfl 1 rfl ?_
    have T_8 : gs S (gr S a0 8) = (1, 12) := hG.1 _ 4 T0 8 (by decide)
    refine ww_getr (ci := 4) (k0 := 8) C dX4_addWalker_51 rfl rfl inm4 (by decide) T0 q176 rfl T_8 (by decide) ?_
    refine ww_iload C dX4_addWalker_54 0 rfl ?_
    refine ww_iconst (v := 1) C dX4_addWalker_56 (by decide) ?_
    refine ww_iast C dX4_addWalker_57 T_8 E (fun _ E => ?_)
    refine ww_bd E (fun dy9 E => ?_)
    refine ww_aload_n C dX4_addWalker_58 rfl 1 rfl ?_
    have T_10 : gs S (gr S a0 9) = (1, 12) := hG.1 _ 4 T0 9 (by decide)
    refine ww_getr (ci := 4) (k0 := 9) C dX4_addWalker_59 rfl rfl inm4 (by decide) T0 q180 rfl T_10 (by decide) ?_
    refine ww_iload C dX4_addWalker_62 0 rfl ?_
    refine ww_iconst (v := 0) C dX4_addWalker_64 (by decide) ?_
    refine ww_iast C dX4_addWalker_65 T_10 E (fun _ E => ?_)
    refine ww_bd E (fun dy11 E => ?_)
    refine ww_aload_n C dX4_addWalker_66 rfl 1 rfl ?_
    have T_12 : gs S (gr S a0 10) = (1, 12) := hG.1 _ 4 T0 10 (by decide)
    refine ww_getr (ci := 4) (k0 := 10) C dX4_addWalker_67 rfl rfl inm4 (by decide) T0 q185 rfl T_12 (by decide) ?_
    refine ww_iload C dX4_addWalker_70 0 rfl ?_
    refine ww_iconst (v := 0) C dX4_addWalker_72 (by decide) ?_
    refine ww_iast C dX4_addWalker_73 T_12 E (fun _ E => ?_)
    refine ww_bd E (fun dy13 E => ?_)
    refine ww_aload_n C dX4_addWalker_74 rfl 1 rfl ?_
    have T_14 : gs S (gr S a0 11) = (1, 12) := hG.1 _ 4 T0 11 (by decide)
    refine ww_getr (ci := 4) (k0 := 11) C dX4_addWalker_75 rfl rfl inm4 (by decide) T0 q189 rfl T_14 (by decide) ?_
    refine ww_iload C dX4_addWalker_78 0 rfl ?_
    refine ww_iconst (v := 0) C dX4_addWalker_80 (by decide) ?_
    refine ww_iast C dX4_addWalker_81 T_14 E (fun _ E => ?_)
    refine ww_bd E (fun dy15 E => ?_)
    refine ww_aload_n C dX4_addWalker_82 rfl 1 rfl ?_
    have T_16 : gs S (gr S a0 12) = (1, 12) := hG.1 _ 4 T0 12 (by decide)
    refine ww_getr (ci := 4) (k0 := 12) C dX4_addWalker_83 rfl rfl inm4 (by decide) T0 q193 rfl T_16 (by decide) ?_
    refine ww_iload C dX4_addWalker_86 0 rfl ?_
    refine ww_iconst (v := (-1)) C dX4_addWalker_88 (by decide) ?_
    refine ww_iast C dX4_addWalker_89 T_16 E (fun _ E => ?_)
    refine ww_bd E (fun dy17 E => ?_)
    exact ww_vret C HR HL dX4_addWalker_90 E
  · exact ww_vret C HR HL dX4_addWalker_9 E
section P_X4_unfriend
variable {p : Program} {l : Launch} {e : Env} {s : State} {m : MethodId} {args : Array Value} {below : List Frame} {meth : Method} {c : Code} {G : GG} {A : Nat → Prop} {ad : Nat → Nat} {S : ST} {N : Nat} {dy' : DY}
end P_X4_unfriend
set_option maxHeartbeats 4000000 in
set_option maxRecDepth 100000 in
theorem M_X4_unfriend (l : Launch) (G : GG) (ad : Nat → Nat) {S : ST} (N : Nat) (hG : Good S) (a0 : Nat) (a1 : Int32) (dy : DY) (T0 : gs S a0 = (0, 4)) {dy' : DY} (E : F_X4_unfriend S N a0 a1 dy = some dy') : MC l yX4_unfriend cX4_unfriend 3 (Option.none : Option Jvm.ClassFile.FieldType) (2) G ad [.ref (ad a0), .int a1] S dy (fun A => QV G ad A S dy') := by
  rw [F_X4_unfriend_s] at E
  refine mc_of RX4 (by decide) rfl (Nat.le_of_ble_eq_true rfl) (fun p e s m args below meth c A C HR HL => ?_)
  refine ww_sub (lv' := [(0, .ref (ad a0)), (1, .int a1)]) [0, 1] rfl ?_
  refine ww_aload_n C dX4_unfriend_0 rfl 0 rfl ?_
  have T_1 : gs S (gr S a0 12) = (1, 12) := hG.1 _ 4 T0 12 (by decide)
  refine ww_getr (ci := 4) (k0 := 12) C dX4_unfriend_1 rfl rfl inm4 (by decide) T0 q193 rfl T_1 (by decide) ?_
  refine ww_iload_n C dX4_unfriend_4 rfl 1 rfl ?_
  refine ww_iald C dX4_unfriend_5 T_1 E (fun _ E => ?_)
  refine ww_istore_n (lv' := [(2, .int (gi dy (gr S a0 12) a1.toNatClampNeg)), (0, .ref (ad a0)), (1, .int a1)]) C dX4_unfriend_6 rfl (by decide) rfl ?_
  refine ww_aload_n C dX4_unfriend_7 rfl 1 rfl ?_
  refine ww_iload_n C dX4_unfriend_8 rfl 0 rfl ?_
  obtain ⟨u2, e_3, E⟩ := bind_of E
  refine ww_callI C (runs_V (n := 1) (st := []) C [.int (gi dy (gr S a0 12) a1.toNatClampNeg)] (M_X4_has l G ad N hG a0 (gi dy (gr S a0 12) a1.toNatClampNeg) dy T0 e_3) ⟨q764, q110, by decide⟩ q774 q762 q763 (ci := 4) rfl T0 rfl (Nat.le_of_ble_eq_true rfl) ⟨Nat.le_of_ble_eq_true rfl, Nat.le_of_ble_eq_true rfl⟩ ⟨Nat.zero_le _, Nat.zero_le _⟩ dX4_unfriend_9 rfl) ?_
  refine ww_if_eq (tgt := 22) C dX4_unfriend_12 (by decide) E (fun _ E => ?_) (fun _ E => ?_)
  · exact ww_vret C HR HL dX4_unfriend_22 E
  · refine ww_aload_n C dX4_unfriend_15 rfl 1 rfl ?_
    have T_4 : gs S (gr S a0 12) = (1, 12) := hG.1 _ 4 T0 12 (by decide)
    refine ww_getr (ci := 4) (k0 := 12) C dX4_unfriend_16 rfl rfl inm4 (by decide) T0 q193 rfl T_4 (by decide) ?_
    refine ww_iload_n C dX4_unfriend_19 rfl 0 rfl ?_
    refine ww_iconst (v := (-1)) C dX4_unfriend_20 (by decide) ?_
    refine ww_iast C dX4_unfriend_21 T_4 E (fun _ E => ?_)
    refine ww_bd E (fun dy5 E => ?_)
    exact ww_vret C HR HL dX4_unfriend_22 E
section P_X4_befriend
variable {p : Program} {l : Launch} {e : Env} {s : State} {m : MethodId} {args : Array Value} {below : List Frame} {meth : Method} {c : Code} {G : GG} {A : Nat → Prop} {ad : Nat → Nat} {S : ST} {N : Nat} {dy' : DY}
end P_X4_befriend
set_option maxHeartbeats 4000000 in
set_option maxRecDepth 100000 in
theorem M_X4_befriend (l : Launch) (G : GG) (ad : Nat → Nat) {S : ST} (N : Nat) (hG : Good S) (a0 : Nat) (a1 : Int32) (a2 : Int32) (dy : DY) (T0 : gs S a0 = (0, 4)) {dy' : DY} (E : F_X4_befriend S N a0 a1 a2 dy = some dy') : MC l yX4_befriend cX4_befriend 3 (Option.none : Option Jvm.ClassFile.FieldType) (3) G ad [.ref (ad a0), .int a1, .int a2] S dy (fun A => QV G ad A S dy') := by
  rw [F_X4_befriend_s] at E
  refine mc_of RX4 (by decide) rfl (Nat.le_of_ble_eq_true rfl) (fun p e s m args below meth c A C HR HL => ?_)
  refine ww_sub (lv' := [(0, .ref (ad a0)), (1, .int a1), (2, .int a2)]) [0, 1, 2] rfl ?_
  refine ww_aload_n C dX4_befriend_0 rfl 0 rfl ?_
  refine ww_iload_n C dX4_befriend_1 rfl 1 rfl ?_
  obtain ⟨u1, e_2, E⟩ := bind_of E
  refine ww_callI C (runs_V (n := 1) (st := []) C [.int a1] (M_X4_has l G ad N hG a0 a1 dy T0 e_2) ⟨q764, q110, by decide⟩ q774 q762 q763 (ci := 4) rfl T0 rfl (Nat.le_of_ble_eq_true rfl) ⟨Nat.le_of_ble_eq_true rfl, Nat.le_of_ble_eq_true rfl⟩ ⟨Nat.zero_le _, Nat.zero_le _⟩ dX4_befriend_2 rfl) ?_
  refine ww_if_eq (tgt := 45) C dX4_befriend_5 (by decide) E (fun _ E => ?_) (fun _ E => ?_)
  · exact ww_vret C HR HL dX4_befriend_45 E
  · refine ww_aload_n C dX4_befriend_8 rfl 0 rfl ?_
    refine ww_iload_n C dX4_befriend_9 rfl 2 rfl ?_
    obtain ⟨u3, e_4, E⟩ := bind_of E
    refine ww_callI C (runs_V (n := 1) (st := []) C [.int a2] (M_X4_has l G ad N hG a0 a2 u1.2 T0 e_4) ⟨q764, q110, by decide⟩ q774 q762 q763 (ci := 4) rfl T0 rfl (Nat.le_of_ble_eq_true rfl) ⟨Nat.le_of_ble_eq_true rfl, Nat.le_of_ble_eq_true rfl⟩ ⟨Nat.zero_le _, Nat.zero_le _⟩ dX4_befriend_10 rfl) ?_
    refine ww_if_eq (tgt := 45) C dX4_befriend_13 (by decide) E (fun _ E => ?_) (fun _ E => ?_)
    · exact ww_vret C HR HL dX4_befriend_45 E
    · refine ww_iload_n C dX4_befriend_16 rfl 1 rfl ?_
      refine ww_iload_n C dX4_befriend_17 rfl 2 rfl ?_
      refine ww_icmp_eq (tgt := 45) C dX4_befriend_18 (by decide) E (fun _ E => ?_) (fun _ E => ?_)
      · exact ww_vret C HR HL dX4_befriend_45 E
      · refine ww_aload_n C dX4_befriend_21 rfl 0 rfl ?_
        refine ww_iload_n C dX4_befriend_22 rfl 1 rfl ?_
        obtain ⟨u5, e_6, E⟩ := bind_of E
        refine ww_callV C (runs_V (n := 1) (st := []) C [.int a1] (M_X4_unfriend l G ad N hG a0 a1 u3.2 T0 e_6) ⟨q778, q110, by decide⟩ q775 q777 q8 (ci := 4) rfl T0 rfl (Nat.le_of_ble_eq_true rfl) ⟨Nat.le_of_ble_eq_true rfl, Nat.le_of_ble_eq_true rfl⟩ ⟨Nat.zero_le _, Nat.zero_le _⟩ dX4_befriend_23 rfl) ?_
        refine ww_aload_n C dX4_befriend_26 rfl 0 rfl ?_
        refine ww_iload_n C dX4_befriend_27 rfl 2 rfl ?_
        obtain ⟨u7, e_8, E⟩ := bind_of E
        refine ww_callV C (runs_V (n := 1) (st := []) C [.int a2] (M_X4_unfriend l G ad N hG a0 a2 u5 T0 e_8) ⟨q778, q110, by decide⟩ q775 q777 q8 (ci := 4) rfl T0 rfl (Nat.le_of_ble_eq_true rfl) ⟨Nat.le_of_ble_eq_true rfl, Nat.le_of_ble_eq_true rfl⟩ ⟨Nat.zero_le _, Nat.zero_le _⟩ dX4_befriend_28 rfl) ?_
        refine ww_aload_n C dX4_befriend_31 rfl 0 rfl ?_
        have T_9 : gs S (gr S a0 12) = (1, 12) := hG.1 _ 4 T0 12 (by decide)
        refine ww_getr (ci := 4) (k0 := 12) C dX4_befriend_32 rfl rfl inm4 (by decide) T0 q193 rfl T_9 (by decide) ?_
        refine ww_iload_n C dX4_befriend_35 rfl 1 rfl ?_
        refine ww_iload_n C dX4_befriend_36 rfl 2 rfl ?_
        refine ww_iast C dX4_befriend_37 T_9 E (fun _ E => ?_)
        refine ww_bd E (fun dy10 E => ?_)
        refine ww_aload_n C dX4_befriend_38 rfl 0 rfl ?_
        have T_11 : gs S (gr S a0 12) = (1, 12) := hG.1 _ 4 T0 12 (by decide)
        refine ww_getr (ci := 4) (k0 := 12) C dX4_befriend_39 rfl rfl inm4 (by decide) T0 q193 rfl T_11 (by decide) ?_
        refine ww_iload_n C dX4_befriend_42 rfl 2 rfl ?_
        refine ww_iload_n C dX4_befriend_43 rfl 1 rfl ?_
        refine ww_iast C dX4_befriend_44 T_11 E (fun _ E => ?_)
        refine ww_bd E (fun dy12 E => ?_)
        exact ww_vret C HR HL dX4_befriend_45 E
section P_X4_clear
variable {p : Program} {l : Launch} {e : Env} {s : State} {m : MethodId} {args : Array Value} {below : List Frame} {meth : Method} {c : Code} {G : GG} {A : Nat → Prop} {ad : Nat → Nat} {S : ST} {N : Nat} {dy' : DY}
set_option maxHeartbeats 4000000 in
set_option maxRecDepth 100000 in
theorem B_X4_clear_40 (C : CX p s m args c cX4_clear 4 RX4 G A) (HR : meth.sig.returnType = (Option.none : Option Jvm.ClassFile.FieldType)) (HL : meth.locks = false) (hG : Good S) : ∀ k : Nat, ∀ (x0 : Nat) (x3 : Int32) (dy : DY), gs S x0 = (0, 4) → (F_X4_clear_40 S N k) x0 x3 dy = some dy' → WJ p l e (rmD (1)) s m args below meth c 4 G A 0 0 (MQ below (QV G ad A S dy') args s 0 0 A) ad 40 [(0, .ref (ad x0)), (3, .int x3)] [] S dy := by
  intro k
  induction k with
  | zero => exact fun _ _ _ _ E => nomatch (show none = some dy' from E)
  | succ k ih =>
    intro x0 x3 dy Tx0 E
    rw [F_X4_clear_40_s] at E
    refine ww_iload_n C dX4_clear_40 rfl 1 rfl ?_
    refine ww_bipush (v := 96) C dX4_clear_41 (by decide) ?_
    refine ww_icmp_ge (tgt := 59) C dX4_clear_43 (by decide) E (fun _ E => ?_) (fun _ E => ?_)
    · exact ww_vret C HR HL dX4_clear_59 E
    · refine ww_aload_n C dX4_clear_46 rfl 0 rfl ?_
      have T_1 : gs S (gr S x0 4) = (3, 96) := hG.1 _ 4 Tx0 4 (by decide)
      refine ww_getr (ci := 4) (k0 := 4) C dX4_clear_47 rfl rfl inm4 (by decide) Tx0 q165 rfl T_1 (by decide) ?_
      refine ww_iload_n C dX4_clear_50 rfl 1 rfl ?_
      refine ww_iconst (v := 0) C dX4_clear_51 (by decide) ?_
      refine ww_zast C dX4_clear_52 T_1 E (fun _ E => ?_)
      refine ww_bd E (fun dy2 E => ?_)
      refine ww_iinc (v := (x3 + (1 : Int32))) (lv' := [(3, .int (x3 + (1 : Int32))), (0, .ref (ad x0))]) C dX4_clear_53 1 rfl rfl (by decide) rfl ?_
      refine ww_goto (tgt := 40) C dX4_clear_56 (by decide) ?_
      refine ww_sub (lv' := [(0, .ref (ad x0)), (3, .int (x3 + (1 : Int32)))]) [1, 0] rfl ?_
      exact ih x0 (x3 + (1 : Int32)) dy2 Tx0 E
end P_X4_clear
set_option maxHeartbeats 4000000 in
set_option maxRecDepth 100000 in
theorem M_X4_clear (l : Launch) (G : GG) (ad : Nat → Nat) {S : ST} (N : Nat) (hG : Good S) (a0 : Nat) (a1 : Int32) (a2 : Int32) (dy : DY) (T0 : gs S a0 = (0, 4)) {dy' : DY} (E : F_X4_clear S N a0 a1 a2 dy = some dy') : MC l yX4_clear cX4_clear 4 (Option.none : Option Jvm.ClassFile.FieldType) (1) G ad [.ref (ad a0), .int a1, .int a2] S dy (fun A => QV G ad A S dy') := by
  rw [F_X4_clear_s] at E
  refine mc_of RX4 (by decide) rfl (Nat.le_of_ble_eq_true rfl) (fun p e s m args below meth c A C HR HL => ?_)
  refine ww_sub (lv' := [(0, .ref (ad a0)), (1, .int a1), (2, .int a2)]) [0, 1, 2] rfl ?_
  refine ww_aload_n C dX4_clear_0 rfl 0 rfl ?_
  refine ww_iconst (v := 0) C dX4_clear_1 (by decide) ?_
  refine ww_iload_n C dX4_clear_2 rfl 1 rfl ?_
  refine ww_bipush (v := 16) C dX4_clear_3 (by decide) ?_
  refine ww_mmin C dX4_clear_5 q695 q587 q119 q588 (Nat.le_of_ble_eq_true rfl) (Nat.le_of_ble_eq_true rfl) (Nat.le_of_ble_eq_true rfl) (Nat.zero_le _) (Nat.zero_le _) ?_
  refine ww_mmax C dX4_clear_8 q696 q590 q119 q591 (Nat.le_of_ble_eq_true rfl) (Nat.le_of_ble_eq_true rfl) (Nat.le_of_ble_eq_true rfl) (Nat.zero_le _) (Nat.zero_le _) ?_
  refine ww_puti (ci := 4) (k0 := 0) C dX4_clear_11 rfl rfl inm4 tyX4_ok nmX4 (by decide) T0 q150 rfl rfl rfl ?_
  refine ww_bd E (fun dy1 E => ?_)
  refine ww_aload_n C dX4_clear_14 rfl 0 rfl ?_
  refine ww_iconst (v := 0) C dX4_clear_15 (by decide) ?_
  refine ww_iload_n C dX4_clear_16 rfl 2 rfl ?_
  refine ww_bipush (v := 6) C dX4_clear_17 (by decide) ?_
  refine ww_mmin C dX4_clear_19 q695 q587 q119 q588 (Nat.le_of_ble_eq_true rfl) (Nat.le_of_ble_eq_true rfl) (Nat.le_of_ble_eq_true rfl) (Nat.zero_le _) (Nat.zero_le _) ?_
  refine ww_mmax C dX4_clear_22 q696 q590 q119 q591 (Nat.le_of_ble_eq_true rfl) (Nat.le_of_ble_eq_true rfl) (Nat.le_of_ble_eq_true rfl) (Nat.zero_le _) (Nat.zero_le _) ?_
  refine ww_puti (ci := 4) (k0 := 1) C dX4_clear_25 rfl rfl inm4 tyX4_ok nmX4 (by decide) T0 q154 rfl rfl rfl ?_
  refine ww_bd E (fun dy2 E => ?_)
  refine ww_aload_n C dX4_clear_28 rfl 0 rfl ?_
  refine ww_iconst (v := 0) C dX4_clear_29 (by decide) ?_
  refine ww_puti (ci := 4) (k0 := 2) C dX4_clear_30 rfl rfl inm4 tyX4_ok nmX4 (by decide) T0 q158 rfl rfl rfl ?_
  refine ww_bd E (fun dy3 E => ?_)
  refine ww_aload_n C dX4_clear_33 rfl 0 rfl ?_
  refine ww_iconst (v := 0) C dX4_clear_34 (by decide) ?_
  refine ww_puti (ci := 4) (k0 := 3) C dX4_clear_35 rfl rfl inm4 tyX4_ok nmX4 (by decide) T0 q161 rfl rfl rfl ?_
  refine ww_bd E (fun dy4 E => ?_)
  refine ww_iconst (v := 0) C dX4_clear_38 (by decide) ?_
  refine ww_istore_n (lv' := [(3, .int (0 : Int32)), (0, .ref (ad a0)), (1, .int a1), (2, .int a2)]) C dX4_clear_39 rfl (by decide) rfl ?_
  refine ww_sub (lv' := [(0, .ref (ad a0)), (3, .int (0 : Int32))]) [1, 0] rfl ?_
  exact (B_X4_clear_40 C HR HL hG N) a0 (0 : Int32) dy4 T0 E
section P_X4_copyFrom
variable {p : Program} {l : Launch} {e : Env} {s : State} {m : MethodId} {args : Array Value} {below : List Frame} {meth : Method} {c : Code} {G : GG} {A : Nat → Prop} {ad : Nat → Nat} {S : ST} {N : Nat} {dy' : DY}
end P_X4_copyFrom
set_option maxHeartbeats 4000000 in
set_option maxRecDepth 100000 in
theorem M_X4_copyFrom (l : Launch) (G : GG) (ad : Nat → Nat) {S : ST} (N : Nat) (hG : Good S) (a0 : Nat) (a1 : Nat) (dy : DY) (T0 : gs S a0 = (0, 4)) (T1 : gs S a1 = (0, 4)) {dy' : DY} (E : F_X4_copyFrom S N a0 a1 dy = some dy') : MC l yX4_copyFrom cX4_copyFrom 2 (Option.none : Option Jvm.ClassFile.FieldType) (1) G ad [.ref (ad a0), .ref (ad a1)] S dy (fun A => QV G ad A S dy') := by
  rw [F_X4_copyFrom_s] at E
  refine mc_of RX4 (by decide) rfl (Nat.le_of_ble_eq_true rfl) (fun p e s m args below meth c A C HR HL => ?_)
  refine ww_sub (lv' := [(0, .ref (ad a0)), (1, .ref (ad a1))]) [0, 1] rfl ?_
  refine ww_aload_n C dX4_copyFrom_0 rfl 0 rfl ?_
  refine ww_aload_n C dX4_copyFrom_1 rfl 1 rfl ?_
  refine ww_geti (ci := 4) (k0 := 0) C dX4_copyFrom_2 rfl rfl inm4 (by decide) T1 q150 rfl ?_
  refine ww_puti (ci := 4) (k0 := 0) C dX4_copyFrom_5 rfl rfl inm4 tyX4_ok nmX4 (by decide) T0 q150 rfl rfl rfl ?_
  refine ww_bd E (fun dy1 E => ?_)
  refine ww_aload_n C dX4_copyFrom_8 rfl 0 rfl ?_
  refine ww_aload_n C dX4_copyFrom_9 rfl 1 rfl ?_
  refine ww_geti (ci := 4) (k0 := 1) C dX4_copyFrom_10 rfl rfl inm4 (by decide) T1 q154 rfl ?_
  refine ww_puti (ci := 4) (k0 := 1) C dX4_copyFrom_13 rfl rfl inm4 tyX4_ok nmX4 (by decide) T0 q154 rfl rfl rfl ?_
  refine ww_bd E (fun dy2 E => ?_)
  refine ww_aload_n C dX4_copyFrom_16 rfl 0 rfl ?_
  refine ww_aload_n C dX4_copyFrom_17 rfl 1 rfl ?_
  refine ww_geti (ci := 4) (k0 := 2) C dX4_copyFrom_18 rfl rfl inm4 (by decide) T1 q158 rfl ?_
  refine ww_puti (ci := 4) (k0 := 2) C dX4_copyFrom_21 rfl rfl inm4 tyX4_ok nmX4 (by decide) T0 q158 rfl rfl rfl ?_
  refine ww_bd E (fun dy3 E => ?_)
  refine ww_aload_n C dX4_copyFrom_24 rfl 0 rfl ?_
  refine ww_aload_n C dX4_copyFrom_25 rfl 1 rfl ?_
  refine ww_geti (ci := 4) (k0 := 3) C dX4_copyFrom_26 rfl rfl inm4 (by decide) T1 q161 rfl ?_
  refine ww_puti (ci := 4) (k0 := 3) C dX4_copyFrom_29 rfl rfl inm4 tyX4_ok nmX4 (by decide) T0 q161 rfl rfl rfl ?_
  refine ww_bd E (fun dy4 E => ?_)
  refine ww_aload_n C dX4_copyFrom_32 rfl 1 rfl ?_
  have T_5 : gs S (gr S a1 4) = (3, 96) := hG.1 _ 4 T1 4 (by decide)
  refine ww_getr (ci := 4) (k0 := 4) C dX4_copyFrom_33 rfl rfl inm4 (by decide) T1 q165 rfl T_5 (by decide) ?_
  refine ww_iconst (v := 0) C dX4_copyFrom_36 (by decide) ?_
  refine ww_aload_n C dX4_copyFrom_37 rfl 0 rfl ?_
  have T_6 : gs S (gr S a0 4) = (3, 96) := hG.1 _ 4 T0 4 (by decide)
  refine ww_getr (ci := 4) (k0 := 4) C dX4_copyFrom_38 rfl rfl inm4 (by decide) T0 q165 rfl T_6 (by decide) ?_
  refine ww_iconst (v := 0) C dX4_copyFrom_41 (by decide) ?_
  refine ww_bipush (v := 96) C dX4_copyFrom_42 (by decide) ?_
  obtain ⟨g_8, E⟩ := gd_of E
  refine ww_copy (t := 3) C dX4_copyFrom_44 T_5 T_6 (by decide) (by decide) g_8.1 g_8.2 q788 q790 q789 q124 (Nat.le_of_ble_eq_true rfl) (Nat.le_of_ble_eq_true rfl) (Nat.le_of_ble_eq_true rfl) ?_
  refine ww_bd E (fun dy7 E => ?_)
  refine ww_aload_n C dX4_copyFrom_47 rfl 1 rfl ?_
  have T_9 : gs S (gr S a1 5) = (1, 12) := hG.1 _ 4 T1 5 (by decide)
  refine ww_getr (ci := 4) (k0 := 5) C dX4_copyFrom_48 rfl rfl inm4 (by decide) T1 q167 rfl T_9 (by decide) ?_
  refine ww_iconst (v := 0) C dX4_copyFrom_51 (by decide) ?_
  refine ww_aload_n C dX4_copyFrom_52 rfl 0 rfl ?_
  have T_10 : gs S (gr S a0 5) = (1, 12) := hG.1 _ 4 T0 5 (by decide)
  refine ww_getr (ci := 4) (k0 := 5) C dX4_copyFrom_53 rfl rfl inm4 (by decide) T0 q167 rfl T_10 (by decide) ?_
  refine ww_iconst (v := 0) C dX4_copyFrom_56 (by decide) ?_
  refine ww_bipush (v := 12) C dX4_copyFrom_57 (by decide) ?_
  obtain ⟨g_12, E⟩ := gd_of E
  refine ww_copy (t := 1) C dX4_copyFrom_59 T_9 T_10 (by decide) (by decide) g_12.1 g_12.2 q788 q790 q789 q124 (Nat.le_of_ble_eq_true rfl) (Nat.le_of_ble_eq_true rfl) (Nat.le_of_ble_eq_true rfl) ?_
  refine ww_bd E (fun dy11 E => ?_)
  refine ww_aload_n C dX4_copyFrom_62 rfl 1 rfl ?_
  have T_13 : gs S (gr S a1 6) = (1, 12) := hG.1 _ 4 T1 6 (by decide)
  refine ww_getr (ci := 4) (k0 := 6) C dX4_copyFrom_63 rfl rfl inm4 (by decide) T1 q170 rfl T_13 (by decide) ?_
  refine ww_iconst (v := 0) C dX4_copyFrom_66 (by decide) ?_
  refine ww_aload_n C dX4_copyFrom_67 rfl 0 rfl ?_
  have T_14 : gs S (gr S a0 6) = (1, 12) := hG.1 _ 4 T0 6 (by decide)
  refine ww_getr (ci := 4) (k0 := 6) C dX4_copyFrom_68 rfl rfl inm4 (by decide) T0 q170 rfl T_14 (by decide) ?_
  refine ww_iconst (v := 0) C dX4_copyFrom_71 (by decide) ?_
  refine ww_bipush (v := 12) C dX4_copyFrom_72 (by decide) ?_
  obtain ⟨g_16, E⟩ := gd_of E
  refine ww_copy (t := 1) C dX4_copyFrom_74 T_13 T_14 (by decide) (by decide) g_16.1 g_16.2 q788 q790 q789 q124 (Nat.le_of_ble_eq_true rfl) (Nat.le_of_ble_eq_true rfl) (Nat.le_of_ble_eq_true rfl) ?_
  refine ww_bd E (fun dy15 E => ?_)
  refine ww_aload_n C dX4_copyFrom_77 rfl 1 rfl ?_
  have T_17 : gs S (gr S a1 7) = (1, 12) := hG.1 _ 4 T1 7 (by decide)
  refine ww_getr (ci := 4) (k0 := 7) C dX4_copyFrom_78 rfl rfl inm4 (by decide) T1 q173 rfl T_17 (by decide) ?_
  refine ww_iconst (v := 0) C dX4_copyFrom_81 (by decide) ?_
  refine ww_aload_n C dX4_copyFrom_82 rfl 0 rfl ?_
  have T_18 : gs S (gr S a0 7) = (1, 12) := hG.1 _ 4 T0 7 (by decide)
  refine ww_getr (ci := 4) (k0 := 7) C dX4_copyFrom_83 rfl rfl inm4 (by decide) T0 q173 rfl T_18 (by decide) ?_
  refine ww_iconst (v := 0) C dX4_copyFrom_86 (by decide) ?_
  refine ww_bipush (v := 12) C dX4_copyFrom_87 (by decide) ?_
  obtain ⟨g_20, E⟩ := gd_of E
  refine ww_copy (t := 1) C dX4_copyFrom_89 T_17 T_18 (by decide) (by decide) g_20.1 g_20.2 q788 q790 q789 q124 (Nat.le_of_ble_eq_true rfl) (Nat.le_of_ble_eq_true rfl) (Nat.le_of_ble_eq_true rfl) ?_
  refine ww_bd E (fun dy19 E => ?_)
  refine ww_aload_n C dX4_copyFrom_92 rfl 1 rfl ?_
  have T_21 : gs S (gr S a1 8) = (1, 12) := hG.1 _ 4 T1 8 (by decide)
  refine ww_getr (ci := 4) (k0 := 8) C dX4_copyFrom_93 rfl rfl inm4 (by decide) T1 q176 rfl T_21 (by decide) ?_
  refine ww_iconst (v := 0) C dX4_copyFrom_96 (by decide) ?_
  refine ww_aload_n C dX4_copyFrom_97 rfl 0 rfl ?_
  have T_22 : gs S (gr S a0 8) = (1, 12) := hG.1 _ 4 T0 8 (by decide)
  refine ww_getr (ci := 4) (k0 := 8) C dX4_copyFrom_98 rfl rfl inm4 (by decide) T0 q176 rfl T_22 (by decide) ?_
  refine ww_iconst (v := 0) C dX4_copyFrom_101 (by decide) ?_
  refine ww_bipush (v := 12) C dX4_copyFrom_102 (by decide) ?_
  obtain ⟨g_24, E⟩ := gd_of E
  refine ww_copy (t := 1) C dX4_copyFrom_104 T_21 T_22 (by decide) (by decide) g_24.1 g_24.2 q788 q790 q789 q124 (Nat.le_of_ble_eq_true rfl) (Nat.le_of_ble_eq_true rfl) (Nat.le_of_ble_eq_true rfl) ?_
  refine ww_bd E (fun dy23 E => ?_)
  refine ww_aload_n C dX4_copyFrom_107 rfl 1 rfl ?_
  have T_25 : gs S (gr S a1 9) = (1, 12) := hG.1 _ 4 T1 9 (by decide)
  refine ww_getr (ci := 4) (k0 := 9) C dX4_copyFrom_108 rfl rfl inm4 (by decide) T1 q180 rfl T_25 (by decide) ?_
  refine ww_iconst (v := 0) C dX4_copyFrom_111 (by decide) ?_
  refine ww_aload_n C dX4_copyFrom_112 rfl 0 rfl ?_
  have T_26 : gs S (gr S a0 9) = (1, 12) := hG.1 _ 4 T0 9 (by decide)
  refine ww_getr (ci := 4) (k0 := 9) C dX4_copyFrom_113 rfl rfl inm4 (by decide) T0 q180 rfl T_26 (by decide) ?_
  refine ww_iconst (v := 0) C dX4_copyFrom_116 (by decide) ?_
  refine ww_bipush (v := 12) C dX4_copyFrom_117 (by decide) ?_
  obtain ⟨g_28, E⟩ := gd_of E
  refine ww_copy (t := 1) C dX4_copyFrom_119 T_25 T_26 (by decide) (by decide) g_28.1 g_28.2 q788 q790 q789 q124 (Nat.le_of_ble_eq_true rfl) (Nat.le_of_ble_eq_true rfl) (Nat.le_of_ble_eq_true rfl) ?_
  refine ww_bd E (fun dy27 E => ?_)
  refine ww_aload_n C dX4_copyFrom_122 rfl 1 rfl ?_
  have T_29 : gs S (gr S a1 10) = (1, 12) := hG.1 _ 4 T1 10 (by decide)
  refine ww_getr (ci := 4) (k0 := 10) C dX4_copyFrom_123 rfl rfl inm4 (by decide) T1 q185 rfl T_29 (by decide) ?_
  refine ww_iconst (v := 0) C dX4_copyFrom_126 (by decide) ?_
  refine ww_aload_n C dX4_copyFrom_127 rfl 0 rfl ?_
  have T_30 : gs S (gr S a0 10) = (1, 12) := hG.1 _ 4 T0 10 (by decide)
  refine ww_getr (ci := 4) (k0 := 10) C dX4_copyFrom_128 rfl rfl inm4 (by decide) T0 q185 rfl T_30 (by decide) ?_
  refine ww_iconst (v := 0) C dX4_copyFrom_131 (by decide) ?_
  refine ww_bipush (v := 12) C dX4_copyFrom_132 (by decide) ?_
  obtain ⟨g_32, E⟩ := gd_of E
  refine ww_copy (t := 1) C dX4_copyFrom_134 T_29 T_30 (by decide) (by decide) g_32.1 g_32.2 q788 q790 q789 q124 (Nat.le_of_ble_eq_true rfl) (Nat.le_of_ble_eq_true rfl) (Nat.le_of_ble_eq_true rfl) ?_
  refine ww_bd E (fun dy31 E => ?_)
  refine ww_aload_n C dX4_copyFrom_137 rfl 1 rfl ?_
  have T_33 : gs S (gr S a1 11) = (1, 12) := hG.1 _ 4 T1 11 (by decide)
  refine ww_getr (ci := 4) (k0 := 11) C dX4_copyFrom_138 rfl rfl inm4 (by decide) T1 q189 rfl T_33 (by decide) ?_
  refine ww_iconst (v := 0) C dX4_copyFrom_141 (by decide) ?_
  refine ww_aload_n C dX4_copyFrom_142 rfl 0 rfl ?_
  have T_34 : gs S (gr S a0 11) = (1, 12) := hG.1 _ 4 T0 11 (by decide)
  refine ww_getr (ci := 4) (k0 := 11) C dX4_copyFrom_143 rfl rfl inm4 (by decide) T0 q189 rfl T_34 (by decide) ?_
  refine ww_iconst (v := 0) C dX4_copyFrom_146 (by decide) ?_
  refine ww_bipush (v := 12) C dX4_copyFrom_147 (by decide) ?_
  obtain ⟨g_36, E⟩ := gd_of E
  refine ww_copy (t := 1) C dX4_copyFrom_149 T_33 T_34 (by decide) (by decide) g_36.1 g_36.2 q788 q790 q789 q124 (Nat.le_of_ble_eq_true rfl) (Nat.le_of_ble_eq_true rfl) (Nat.le_of_ble_eq_true rfl) ?_
  refine ww_bd E (fun dy35 E => ?_)
  refine ww_aload_n C dX4_copyFrom_152 rfl 1 rfl ?_
  have T_37 : gs S (gr S a1 12) = (1, 12) := hG.1 _ 4 T1 12 (by decide)
  refine ww_getr (ci := 4) (k0 := 12) C dX4_copyFrom_153 rfl rfl inm4 (by decide) T1 q193 rfl T_37 (by decide) ?_
  refine ww_iconst (v := 0) C dX4_copyFrom_156 (by decide) ?_
  refine ww_aload_n C dX4_copyFrom_157 rfl 0 rfl ?_
  have T_38 : gs S (gr S a0 12) = (1, 12) := hG.1 _ 4 T0 12 (by decide)
  refine ww_getr (ci := 4) (k0 := 12) C dX4_copyFrom_158 rfl rfl inm4 (by decide) T0 q193 rfl T_38 (by decide) ?_
  refine ww_iconst (v := 0) C dX4_copyFrom_161 (by decide) ?_
  refine ww_bipush (v := 12) C dX4_copyFrom_162 (by decide) ?_
  obtain ⟨g_40, E⟩ := gd_of E
  refine ww_copy (t := 1) C dX4_copyFrom_164 T_37 T_38 (by decide) (by decide) g_40.1 g_40.2 q788 q790 q789 q124 (Nat.le_of_ble_eq_true rfl) (Nat.le_of_ble_eq_true rfl) (Nat.le_of_ble_eq_true rfl) ?_
  refine ww_bd E (fun dy39 E => ?_)
  exact ww_vret C HR HL dX4_copyFrom_167 E
section P_X4_drop
variable {p : Program} {l : Launch} {e : Env} {s : State} {m : MethodId} {args : Array Value} {below : List Frame} {meth : Method} {c : Code} {G : GG} {A : Nat → Prop} {ad : Nat → Nat} {S : ST} {N : Nat} {dy' : DY}
set_option maxHeartbeats 4000000 in
set_option maxRecDepth 100000 in
theorem B_X4_drop_156 (C : CX p s m args c cX4_drop 3 RX4 G A) (HR : meth.sig.returnType = (Option.none : Option Jvm.ClassFile.FieldType)) (HL : meth.locks = false) (hG : Good S) : ∀ k : Nat, ∀ (x0 : Nat) (x1 : Int32) (x2 : Int32) (dy : DY), gs S x0 = (0, 4) → (F_X4_drop_156 S N k) x0 x1 x2 dy = some dy' → WJ p l e (rmD (3)) s m args below meth c 3 G A 0 0 (MQ below (QV G ad A S dy') args s 0 0 A) ad 156 [(0, .ref (ad x0)), (1, .int x1), (2, .int x2)] [] S dy := by
  intro k
  induction k with
  | zero => exact fun _ _ _ _ _ E => nomatch (show none = some dy' from E)
  | succ k ih =>
    intro x0 x1 x2 dy Tx0 E
    rw [F_X4_drop_156_s] at E
    refine ww_iload_n C dX4_drop_156 rfl 2 rfl ?_
    refine ww_aload_n C dX4_drop_157 rfl 0 rfl ?_
    refine ww_geti (ci := 4) (k0 := 3) C dX4_drop_158 rfl rfl inm4 (by decide) Tx0 q161 rfl ?_
    refine ww_icmp_ge (tgt := 190) C dX4_drop_161 (by decide) E (fun _ E => ?_) (fun _ E => ?_)
    · exact ww_vret C HR HL dX4_drop_190 E
    · refine ww_aload_n C dX4_drop_164 rfl 0 rfl ?_
      have T_1 : gs S (gr S x0 12) = (1, 12) := hG.1 _ 4 Tx0 12 (by decide)
      refine ww_getr (ci := 4) (k0 := 12) C dX4_drop_165 rfl rfl inm4 (by decide) Tx0 q193 rfl T_1 (by decide) ?_
      refine ww_iload_n C dX4_drop_168 rfl 2 rfl ?_
      refine ww_iald C dX4_drop_169 T_1 E (fun _ E => ?_)
      refine ww_iload_n C dX4_drop_170 rfl 1 rfl ?_
      refine ww_icmp_le (tgt := 184) C dX4_drop_171 (by decide) E (fun _ E => ?_) (fun _ E => ?_)
      · refine ww_iinc (v := (x2 + (1 : Int32))) (lv' := [(2, .int (x2 + (1 : Int32))), (0, .ref (ad x0)), (1, .int x1)]) C dX4_drop_184 2 rfl rfl (by decide) rfl ?_
        refine ww_goto (tgt := 156) C dX4_drop_187 (by decide) ?_
        refine ww_sub (lv' := [(0, .ref (ad x0)), (1, .int x1), (2, .int (x2 + (1 : Int32)))]) [1, 2, 0] rfl ?_
        exact ih x0 x1 (x2 + (1 : Int32)) dy Tx0 E
      · refine ww_aload_n C dX4_drop_174 rfl 0 rfl ?_
        have T_2 : gs S (gr S x0 12) = (1, 12) := hG.1 _ 4 Tx0 12 (by decide)
        refine ww_getr (ci := 4) (k0 := 12) C dX4_drop_175 rfl rfl inm4 (by decide) Tx0 q193 rfl T_2 (by decide) ?_
        refine ww_iload_n C dX4_drop_178 rfl 2 rfl ?_
        refine ww_dup2 C dX4_drop_179 rfl rfl ?_
        refine ww_iald C dX4_drop_180 T_2 E (fun _ E => ?_)
        refine ww_iconst (v := 1) C dX4_drop_181 (by decide) ?_
        refine ww_isub C dX4_drop_182 ?_
        refine ww_iast C dX4_drop_183 T_2 E (fun _ E => ?_)
        refine ww_bd E (fun dy3 E => ?_)
        refine ww_iinc (v := (x2 + (1 : Int32))) (lv' := [(2, .int (x2 + (1 : Int32))), (0, .ref (ad x0)), (1, .int x1)]) C dX4_drop_184 2 rfl rfl (by decide) rfl ?_
        refine ww_goto (tgt := 156) C dX4_drop_187 (by decide) ?_
        refine ww_sub (lv' := [(0, .ref (ad x0)), (1, .int x1), (2, .int (x2 + (1 : Int32)))]) [1, 2, 0] rfl ?_
        exact ih x0 x1 (x2 + (1 : Int32)) dy3 Tx0 E
set_option maxHeartbeats 4000000 in
set_option maxRecDepth 100000 in
theorem B_X4_drop_16 (C : CX p s m args c cX4_drop 3 RX4 G A) (HR : meth.sig.returnType = (Option.none : Option Jvm.ClassFile.FieldType)) (HL : meth.locks = false) (hG : Good S) : ∀ k : Nat, ∀ (x0 : Nat) (x1 : Int32) (x2 : Int32) (dy : DY), gs S x0 = (0, 4) → (F_X4_drop_16 S N k) x0 x1 x2 dy = some dy' → WJ p l e (rmD (3)) s m args below meth c 3 G A 0 0 (MQ below (QV G ad A S dy') args s 0 0 A) ad 16 [(0, .ref (ad x0)), (1, .int x1), (2, .int x2)] [] S dy := by
  intro k
  induction k with
  | zero => exact fun _ _ _ _ _ E => nomatch (show none = some dy' from E)
  | succ k ih =>
    intro x0 x1 x2 dy Tx0 E
    rw [F_X4_drop_16_s] at E
    refine ww_iload_n C dX4_drop_16 rfl 2 rfl ?_
    refine ww_iconst (v := 1) C dX4_drop_17 (by decide) ?_
    refine ww_iadd C dX4_drop_18 ?_
    refine ww_aload_n C dX4_drop_19 rfl 0 rfl ?_
    refine ww_geti (ci := 4) (k0 := 3) C dX4_drop_20 rfl rfl inm4 (by decide) Tx0 q161 rfl ?_
    refine ww_icmp_ge (tgt := 144) C dX4_drop_23 (by decide) E (fun _ E => ?_) (fun _ E => ?_)
    · refine ww_aload_n C dX4_drop_144 rfl 0 rfl ?_
      refine ww_dup C dX4_drop_145 rfl ?_
      refine ww_geti (ci := 4) (k0 := 3) C dX4_drop_146 rfl rfl inm4 (by decide) Tx0 q161 rfl ?_
      refine ww_iconst (v := 1) C dX4_drop_149 (by decide) ?_
      refine ww_isub C dX4_drop_150 ?_
      refine ww_puti (ci := 4) (k0 := 3) C dX4_drop_151 rfl rfl inm4 tyX4_ok nmX4 (by decide) Tx0 q161 rfl rfl rfl ?_
      refine ww_bd E (fun dy1 E => ?_)
      refine ww_iconst (v := 0) C dX4_drop_154 (by decide) ?_
      refine ww_istore_n (lv' := [(2, .int (0 : Int32)), (0, .ref (ad x0)), (1, .int x1)]) C dX4_drop_155 rfl (by decide) rfl ?_
      refine ww_sub (lv' := [(0, .ref (ad x0)), (1, .int x1), (2, .int (0 : Int32))]) [1, 2, 0] rfl ?_
      exact (B_X4_drop_156 C HR HL hG N) x0 x1 (0 : Int32) dy1 Tx0 E
    · refine ww_aload_n C dX4_drop_26 rfl 0 rfl ?_
      have T_2 : gs S (gr S x0 5) = (1, 12) := hG.1 _ 4 Tx0 5 (by decide)
      refine ww_getr (ci := 4) (k0 := 5) C dX4_drop_27 rfl rfl inm4 (by decide) Tx0 q167 rfl T_2 (by decide) ?_
      refine ww_iload_n C dX4_drop_30 rfl 2 rfl ?_
      refine ww_aload_n C dX4_drop_31 rfl 0 rfl ?_
      have T_3 : gs S (gr S x0 5) = (1, 12) := hG.1 _ 4 Tx0 5 (by decide)
      refine ww_getr (ci := 4) (k0 := 5) C dX4_drop_32 rfl rfl inm4 (by decide) Tx0 q167 rfl T_3 (by decide) ?_
      refine ww_iload_n C dX4_drop_35 rfl 2 rfl ?_
      refine ww_iconst (v := 1) C dX4_drop_36 (by decide) ?_
      refine ww_iadd C dX4_drop_37 ?_
      refine ww_iald C dX4_drop_38 T_3 E (fun _ E => ?_)
      refine ww_iast C dX4_drop_39 T_2 E (fun _ E => ?_)
      refine ww_bd E (fun dy4 E => ?_)
      refine ww_aload_n C dX4_drop_40 rfl 0 rfl ?_
      have T_5 : gs S (gr S x0 6) = (1, 12) := hG.1 _ 4 Tx0 6 (by decide)
      refine ww_getr (ci := 4) (k0 := 6) C dX4_drop_41 rfl rfl inm4 (by decide) Tx0 q170 rfl T_5 (by decide) ?_
      refine ww_iload_n C dX4_drop_44 rfl 2 rfl ?_
      refine ww_aload_n C dX4_drop_45 rfl 0 rfl ?_
      have T_6 : gs S (gr S x0 6) = (1, 12) := hG.1 _ 4 Tx0 6 (by decide)
      refine ww_getr (ci := 4) (k0 := 6) C dX4_drop_46 rfl rfl inm4 (by decide) Tx0 q170 rfl T_6 (by decide) ?_
      refine ww_iload_n C dX4_drop_49 rfl 2 rfl ?_
      refine ww_iconst (v := 1) C dX4_drop_50 (by decide) ?_
      refine ww_iadd C dX4_drop_51 ?_
      refine ww_iald C dX4_drop_52 T_6 E (fun _ E => ?_)
      refine ww_iast C dX4_drop_53 T_5 E (fun _ E => ?_)
      refine ww_bd E (fun dy7 E => ?_)
      refine ww_aload_n C dX4_drop_54 rfl 0 rfl ?_
      have T_8 : gs S (gr S x0 7) = (1, 12) := hG.1 _ 4 Tx0 7 (by decide)
      refine ww_getr (ci := 4) (k0 := 7) C dX4_drop_55 rfl rfl inm4 (by decide) Tx0 q173 rfl T_8 (by decide) ?_
      refine ww_iload_n C dX4_drop_58 rfl 2 rfl ?_
      refine ww_aload_n C dX4_drop_59 rfl 0 rfl ?_
      have T_9 : gs S (gr S x0 7) = (1, 12) := hG.1 _ 4 Tx0 7 (by decide)
      refine ww_getr (ci := 4) (k0 := 7) C dX4_drop_60 rfl rfl inm4 (by decide) Tx0 q173 rfl T_9 (by decide) ?_
      refine ww_iload_n C dX4_drop_63 rfl 2 rfl ?_
      refine ww_iconst (v := 1) C dX4_drop_64 (by decide) ?_
      refine ww_iadd C dX4_drop_65 ?_
      refine ww_iald C dX4_drop_66 T_9 E (fun _ E => ?_)
      refine ww_iast C dX4_drop_67 T_8 E (fun _ E => ?_)
      refine ww_bd E (fun dy10 E => ?_)
      refine ww_aload_n C dX4_drop_68 rfl 0 rfl ?_
      have T_11 : gs S (gr S x0 8) = (1, 12) := hG.1 _ 4 Tx0 8 (by decide)
      refine ww_getr (ci := 4) (k0 := 8) C dX4_drop_69 rfl rfl inm4 (by decide) Tx0 q176 rfl T_11 (by decide) ?_
      refine ww_iload_n C dX4_drop_72 rfl 2 rfl ?_
      refine ww_aload_n C dX4_drop_73 rfl 0 rfl ?_
      have T_12 : gs S (gr S x0 8) = (1, 12) := hG.1 _ 4 Tx0 8 (by decide)
      refine ww_getr (ci := 4) (k0 := 8) C dX4_drop_74 rfl rfl inm4 (by decide) Tx0 q176 rfl T_12 (by decide) ?_
      refine ww_iload_n C dX4_drop_77 rfl 2 rfl ?_
      refine ww_iconst (v := 1) C dX4_drop_78 (by decide) ?_
      refine ww_iadd C dX4_drop_79 ?_
      refine ww_iald C dX4_drop_80 T_12 E (fun _ E => ?_)
      refine ww_iast C dX4_drop_81 T_11 E (fun _ E => ?_)
      refine ww_bd E (fun dy13 E => ?_)
      refine ww_aload_n C dX4_drop_82 rfl 0 rfl ?_
      have T_14 : gs S (gr S x0 9) = (1, 12) := hG.1 _ 4 Tx0 9 (by decide)
      refine ww_getr (ci := 4) (k0 := 9) C dX4_drop_83 rfl rfl inm4 (by decide) Tx0 q180 rfl T_14 (by decide) ?_
      refine ww_iload_n C dX4_drop_86 rfl 2 rfl ?_
      refine ww_aload_n C dX4_drop_87 rfl 0 rfl ?_
      have T_15 : gs S (gr S x0 9) = (1, 12) := hG.1 _ 4 Tx0 9 (by decide)
      refine ww_getr (ci := 4) (k0 := 9) C dX4_drop_88 rfl rfl inm4 (by decide) Tx0 q180 rfl T_15 (by decide) ?_
      refine ww_iload_n C dX4_drop_91 rfl 2 rfl ?_
      refine ww_iconst (v := 1) C dX4_drop_92 (by decide) ?_
      refine ww_iadd C dX4_drop_93 ?_
      refine ww_iald C dX4_drop_94 T_15 E (fun _ E => ?_)
      refine ww_iast C dX4_drop_95 T_14 E (fun _ E => ?_)
      refine ww_bd E (fun dy16 E => ?_)
      refine ww_aload_n C dX4_drop_96 rfl 0 rfl ?_
      have T_17 : gs S (gr S x0 10) = (1, 12) := hG.1 _ 4 Tx0 10 (by decide)
      refine ww_getr (ci := 4) (k0 := 10) C dX4_drop_97 rfl rfl inm4 (by decide) Tx0 q185 rfl T_17 (by decide) ?_
      refine ww_iload_n C dX4_drop_100 rfl 2 rfl ?_
      refine ww_aload_n C dX4_drop_101 rfl 0 rfl ?_
      have T_18 : gs S (gr S x0 10) = (1, 12) := hG.1 _ 4 Tx0 10 (by decide)
      refine ww_getr (ci := 4) (k0 := 10) C dX4_drop_102 rfl rfl inm4 (by decide) Tx0 q185 rfl T_18 (by decide) ?_
      refine ww_iload_n C dX4_drop_105 rfl 2 rfl ?_
      refine ww_iconst (v := 1) C dX4_drop_106 (by decide) ?_
      refine ww_iadd C dX4_drop_107 ?_
      refine ww_iald C dX4_drop_108 T_18 E (fun _ E => ?_)
      refine ww_iast C dX4_drop_109 T_17 E (fun _ E => ?_)
      refine ww_bd E (fun dy19 E => ?_)
      refine ww_aload_n C dX4_drop_110 rfl 0 rfl ?_
      have T_20 : gs S (gr S x0 11) = (1, 12) := hG.1 _ 4 Tx0 11 (by decide)
      refine ww_getr (ci := 4) (k0 := 11) C dX4_drop_111 rfl rfl inm4 (by decide) Tx0 q189 rfl T_20 (by decide) ?_
      refine ww_iload_n C dX4_drop_114 rfl 2 rfl ?_
      refine ww_aload_n C dX4_drop_115 rfl 0 rfl ?_
      have T_21 : gs S (gr S x0 11) = (1, 12) := hG.1 _ 4 Tx0 11 (by decide)
      refine ww_getr (ci := 4) (k0 := 11) C dX4_drop_116 rfl rfl inm4 (by decide) Tx0 q189 rfl T_21 (by decide) ?_
      refine ww_iload_n C dX4_drop_119 rfl 2 rfl ?_
      refine ww_iconst (v := 1) C dX4_drop_120 (by decide) ?_
      refine ww_iadd C dX4_drop_121 ?_
      refine ww_iald C dX4_drop_122 T_21 E (fun _ E => ?_)
      refine ww_iast C dX4_drop_123 T_20 E (fun _ E => ?_)
      refine ww_bd E (fun dy22 E => ?_)
      refine ww_aload_n C dX4_drop_124 rfl 0 rfl ?_
      have T_23 : gs S (gr S x0 12) = (1, 12) := hG.1 _ 4 Tx0 12 (by decide)
      refine ww_getr (ci := 4) (k0 := 12) C dX4_drop_125 rfl rfl inm4 (by decide) Tx0 q193 rfl T_23 (by decide) ?_
      refine ww_iload_n C dX4_drop_128 rfl 2 rfl ?_
      refine ww_aload_n C dX4_drop_129 rfl 0 rfl ?_
      have T_24 : gs S (gr S x0 12) = (1, 12) := hG.1 _ 4 Tx0 12 (by decide)
      refine ww_getr (ci := 4) (k0 := 12) C dX4_drop_130 rfl rfl inm4 (by decide) Tx0 q193 rfl T_24 (by decide) ?_
      refine ww_iload_n C dX4_drop_133 rfl 2 rfl ?_
      refine ww_iconst (v := 1) C dX4_drop_134 (by decide) ?_
      refine ww_iadd C dX4_drop_135 ?_
      refine ww_iald C dX4_drop_136 T_24 E (fun _ E => ?_)
      refine ww_iast C dX4_drop_137 T_23 E (fun _ E => ?_)
      refine ww_bd E (fun dy25 E => ?_)
      refine ww_iinc (v := (x2 + (1 : Int32))) (lv' := [(2, .int (x2 + (1 : Int32))), (0, .ref (ad x0)), (1, .int x1)]) C dX4_drop_138 2 rfl rfl (by decide) rfl ?_
      refine ww_goto (tgt := 16) C dX4_drop_141 (by decide) ?_
      refine ww_sub (lv' := [(0, .ref (ad x0)), (1, .int x1), (2, .int (x2 + (1 : Int32)))]) [1, 2, 0] rfl ?_
      exact ih x0 x1 (x2 + (1 : Int32)) dy25 Tx0 E
end P_X4_drop
set_option maxHeartbeats 4000000 in
set_option maxRecDepth 100000 in
theorem M_X4_drop (l : Launch) (G : GG) (ad : Nat → Nat) {S : ST} (N : Nat) (hG : Good S) (a0 : Nat) (a1 : Int32) (dy : DY) (T0 : gs S a0 = (0, 4)) {dy' : DY} (E : F_X4_drop S N a0 a1 dy = some dy') : MC l yX4_drop cX4_drop 3 (Option.none : Option Jvm.ClassFile.FieldType) (3) G ad [.ref (ad a0), .int a1] S dy (fun A => QV G ad A S dy') := by
  rw [F_X4_drop_s] at E
  refine mc_of RX4 (by decide) rfl (Nat.le_of_ble_eq_true rfl) (fun p e s m args below meth c A C HR HL => ?_)
  refine ww_sub (lv' := [(0, .ref (ad a0)), (1, .int a1)]) [0, 1] rfl ?_
  refine ww_aload_n C dX4_drop_0 rfl 0 rfl ?_
  refine ww_iload_n C dX4_drop_1 rfl 1 rfl ?_
  obtain ⟨u1, e_2, E⟩ := bind_of E
  refine ww_callI C (runs_V (n := 1) (st := []) C [.int a1] (M_X4_has l G ad N hG a0 a1 dy T0 e_2) ⟨q764, q110, by decide⟩ q774 q762 q763 (ci := 4) rfl T0 rfl (Nat.le_of_ble_eq_true rfl) ⟨Nat.le_of_ble_eq_true rfl, Nat.le_of_ble_eq_true rfl⟩ ⟨Nat.zero_le _, Nat.zero_le _⟩ dX4_drop_2 rfl) ?_
  refine ww_if_ne (tgt := 9) C dX4_drop_5 (by decide) E (fun _ E => ?_) (fun _ E => ?_)
  · refine ww_aload_n C dX4_drop_9 rfl 0 rfl ?_
    refine ww_iload_n C dX4_drop_10 rfl 1 rfl ?_
    obtain ⟨u3, e_4, E⟩ := bind_of E
    refine ww_callV C (runs_V (n := 1) (st := []) C [.int a1] (M_X4_unfriend l G ad N hG a0 a1 u1.2 T0 e_4) ⟨q778, q110, by decide⟩ q775 q777 q8 (ci := 4) rfl T0 rfl (Nat.le_of_ble_eq_true rfl) ⟨Nat.le_of_ble_eq_true rfl, Nat.le_of_ble_eq_true rfl⟩ ⟨Nat.zero_le _, Nat.zero_le _⟩ dX4_drop_11 rfl) ?_
    refine ww_iload_n C dX4_drop_14 rfl 1 rfl ?_
    refine ww_istore_n (lv' := [(2, .int a1), (0, .ref (ad a0)), (1, .int a1)]) C dX4_drop_15 rfl (by decide) rfl ?_
    refine ww_sub (lv' := [(0, .ref (ad a0)), (1, .int a1), (2, .int a1)]) [1, 2, 0] rfl ?_
    exact (B_X4_drop_16 C HR HL hG N) a0 a1 a1 u3 T0 E
  · exact ww_vret C HR HL dX4_drop_8 E
section P_X4_isTaken
variable {p : Program} {l : Launch} {e : Env} {s : State} {m : MethodId} {args : Array Value} {below : List Frame} {meth : Method} {c : Code} {G : GG} {A : Nat → Prop} {ad : Nat → Nat} {S : ST} {N : Nat} {r : Int32} {dy' : DY}
set_option maxHeartbeats 4000000 in
set_option maxRecDepth 100000 in
theorem B_X4_isTaken_2 (C : CX p s m args c cX4_isTaken 4 RX4 G A) (HR : meth.sig.returnType = (Option.some Jvm.ClassFile.FieldType.boolean)) (HL : meth.locks = false) (hG : Good S) : ∀ k : Nat, ∀ (x0 : Nat) (x1 : Int32) (x2 : Int32) (x3 : Int32) (dy : DY), gs S x0 = (0, 4) → (F_X4_isTaken_2 S N k) x0 x1 x2 x3 dy = some (r, dy') → WJ p l e (rmD (3)) s m args below meth c 4 G A 0 0 (MQ below (QI G ad A S r dy') args s 0 0 A) ad 2 [(0, .ref (ad x0)), (1, .int x1), (2, .int x2), (3, .int x3)] [] S dy := by
  intro k
  induction k with
  | zero => exact fun _ _ _ _ _ _ E => nomatch (show none = some (r, dy') from E)
  | succ k ih =>
    intro x0 x1 x2 x3 dy Tx0 E
    rw [F_X4_isTaken_2_s] at E
    refine ww_iload_n C dX4_isTaken_2 rfl 3 rfl ?_
    refine ww_aload_n C dX4_isTaken_3 rfl 0 rfl ?_
    refine ww_geti (ci := 4) (k0 := 3) C dX4_isTaken_4 rfl rfl inm4 (by decide) Tx0 q161 rfl ?_
    refine ww_icmp_ge (tgt := 38) C dX4_isTaken_7 (by decide) E (fun _ E => ?_) (fun _ E => ?_)
    · refine ww_aload_n C dX4_isTaken_38 rfl 0 rfl ?_
      refine ww_iload_n C dX4_isTaken_39 rfl 1 rfl ?_
      refine ww_iload_n C dX4_isTaken_40 rfl 2 rfl ?_
      obtain ⟨u1, e_2, E⟩ := bind_of E
      refine ww_callI C (runs_V (n := 2) (st := []) C [.int x1, .int x2] (M_X4_isWall l G ad N hG x0 x1 x2 dy Tx0 e_2) ⟨q727, q110, by decide⟩ q724 q725 q726 (ci := 4) rfl Tx0 rfl (Nat.le_of_ble_eq_true rfl) ⟨Nat.le_of_ble_eq_true rfl, Nat.le_of_ble_eq_true rfl⟩ ⟨Nat.zero_le _, Nat.zero_le _⟩ dX4_isTaken_41 rfl) ?_
      obtain ⟨z_, E⟩ := gd_of E
      exact ww_zret C HR HL dX4_isTaken_44 z_ E
    · refine ww_aload_n C dX4_isTaken_10 rfl 0 rfl ?_
      have T_3 : gs S (gr S x0 5) = (1, 12) := hG.1 _ 4 Tx0 5 (by decide)
      refine ww_getr (ci := 4) (k0 := 5) C dX4_isTaken_11 rfl rfl inm4 (by decide) Tx0 q167 rfl T_3 (by decide) ?_
      refine ww_iload_n C dX4_isTaken_14 rfl 3 rfl ?_
      refine ww_iald C dX4_isTaken_15 T_3 E (fun _ E => ?_)
      refine ww_iload_n C dX4_isTaken_16 rfl 1 rfl ?_
      refine ww_icmp_ne (tgt := 32) C dX4_isTaken_17 (by decide) E (fun _ E => ?_) (fun _ E => ?_)
      · refine ww_iinc (v := (x3 + (1 : Int32))) (lv' := [(3, .int (x3 + (1 : Int32))), (0, .ref (ad x0)), (1, .int x1), (2, .int x2)]) C dX4_isTaken_32 3 rfl rfl (by decide) rfl ?_
        refine ww_goto (tgt := 2) C dX4_isTaken_35 (by decide) ?_
        refine ww_sub (lv' := [(0, .ref (ad x0)), (1, .int x1), (2, .int x2), (3, .int (x3 + (1 : Int32)))]) [1, 2, 3, 0] rfl ?_
        exact ih x0 x1 x2 (x3 + (1 : Int32)) dy Tx0 E
      · refine ww_aload_n C dX4_isTaken_20 rfl 0 rfl ?_
        have T_4 : gs S (gr S x0 6) = (1, 12) := hG.1 _ 4 Tx0 6 (by decide)
        refine ww_getr (ci := 4) (k0 := 6) C dX4_isTaken_21 rfl rfl inm4 (by decide) Tx0 q170 rfl T_4 (by decide) ?_
        refine ww_iload_n C dX4_isTaken_24 rfl 3 rfl ?_
        refine ww_iald C dX4_isTaken_25 T_4 E (fun _ E => ?_)
        refine ww_iload_n C dX4_isTaken_26 rfl 2 rfl ?_
        refine ww_icmp_ne (tgt := 32) C dX4_isTaken_27 (by decide) E (fun _ E => ?_) (fun _ E => ?_)
        · refine ww_iinc (v := (x3 + (1 : Int32))) (lv' := [(3, .int (x3 + (1 : Int32))), (0, .ref (ad x0)), (1, .int x1), (2, .int x2)]) C dX4_isTaken_32 3 rfl rfl (by decide) rfl ?_
          refine ww_goto (tgt := 2) C dX4_isTaken_35 (by decide) ?_
          refine ww_sub (lv' := [(0, .ref (ad x0)), (1, .int x1), (2, .int x2), (3, .int (x3 + (1 : Int32)))]) [1, 2, 3, 0] rfl ?_
          exact ih x0 x1 x2 (x3 + (1 : Int32)) dy Tx0 E
        · refine ww_iconst (v := 1) C dX4_isTaken_30 (by decide) ?_
          exact ww_zret C HR HL dX4_isTaken_31 (Or.inr rfl) E
end P_X4_isTaken
set_option maxHeartbeats 4000000 in
set_option maxRecDepth 100000 in
theorem M_X4_isTaken (l : Launch) (G : GG) (ad : Nat → Nat) {S : ST} (N : Nat) (hG : Good S) (a0 : Nat) (a1 : Int32) (a2 : Int32) (dy : DY) (T0 : gs S a0 = (0, 4)) {r : Int32} {dy' : DY} (E : F_X4_isTaken S N a0 a1 a2 dy = some (r, dy')) : MC l yX4_isTaken cX4_isTaken 4 (Option.some Jvm.ClassFile.FieldType.boolean) (3) G ad [.ref (ad a0), .int a1, .int a2] S dy (fun A => QI G ad A S r dy') := by
  rw [F_X4_isTaken_s] at E
  refine mc_of RX4 (by decide) rfl (Nat.le_of_ble_eq_true rfl) (fun p e s m args below meth c A C HR HL => ?_)
  refine ww_sub (lv' := [(0, .ref (ad a0)), (1, .int a1), (2, .int a2)]) [0, 1, 2] rfl ?_
  refine ww_iconst (v := 0) C dX4_isTaken_0 (by decide) ?_
  refine ww_istore_n (lv' := [(3, .int (0 : Int32)), (0, .ref (ad a0)), (1, .int a1), (2, .int a2)]) C dX4_isTaken_1 rfl (by decide) rfl ?_
  refine ww_sub (lv' := [(0, .ref (ad a0)), (1, .int a1), (2, .int a2), (3, .int (0 : Int32))]) [1, 2, 3, 0] rfl ?_
  exact (B_X4_isTaken_2 C HR HL hG N) a0 a1 a2 (0 : Int32) dy T0 E
section P_X4_keepFirst
variable {p : Program} {l : Launch} {e : Env} {s : State} {m : MethodId} {args : Array Value} {below : List Frame} {meth : Method} {c : Code} {G : GG} {A : Nat → Prop} {ad : Nat → Nat} {S : ST} {N : Nat} {dy' : DY}
end P_X4_keepFirst
set_option maxHeartbeats 4000000 in
set_option maxRecDepth 100000 in
theorem M_X4_keepFirst (l : Launch) (G : GG) (ad : Nat → Nat) {S : ST} (N : Nat) (hG : Good S) (a0 : Nat) (a1 : Int32) (a2 : Int32) (dy : DY) (T0 : gs S a0 = (0, 4)) {dy' : DY} (E : F_X4_keepFirst S N a0 a1 a2 dy = some dy') : MC l yX4_keepFirst cX4_keepFirst 3 (Option.none : Option Jvm.ClassFile.FieldType) (1) G ad [.ref (ad a0), .int a1, .int a2] S dy (fun A => QV G ad A S dy') := by
  rw [F_X4_keepFirst_s] at E
  refine mc_of RX4 (by decide) rfl (Nat.le_of_ble_eq_true rfl) (fun p e s m args below meth c A C HR HL => ?_)
  refine ww_sub (lv' := [(0, .ref (ad a0)), (1, .int a1), (2, .int a2)]) [0, 1, 2] rfl ?_
  refine ww_aload_n C dX4_keepFirst_0 rfl 0 rfl ?_
  refine ww_iconst (v := 0) C dX4_keepFirst_1 (by decide) ?_
  refine ww_iload_n C dX4_keepFirst_2 rfl 1 rfl ?_
  refine ww_iload_n C dX4_keepFirst_3 rfl 2 rfl ?_
  refine ww_bipush (v := 12) C dX4_keepFirst_4 (by decide) ?_
  refine ww_mmin C dX4_keepFirst_6 q695 q587 q119 q588 (Nat.le_of_ble_eq_true rfl) (Nat.le_of_ble_eq_true rfl) (Nat.le_of_ble_eq_true rfl) (Nat.zero_le _) (Nat.zero_le _) ?_
  refine ww_mmin C dX4_keepFirst_9 q695 q587 q119 q588 (Nat.le_of_ble_eq_true rfl) (Nat.le_of_ble_eq_true rfl) (Nat.le_of_ble_eq_true rfl) (Nat.zero_le _) (Nat.zero_le _) ?_
  refine ww_mmax C dX4_keepFirst_12 q696 q590 q119 q591 (Nat.le_of_ble_eq_true rfl) (Nat.le_of_ble_eq_true rfl) (Nat.le_of_ble_eq_true rfl) (Nat.zero_le _) (Nat.zero_le _) ?_
  refine ww_puti (ci := 4) (k0 := 3) C dX4_keepFirst_15 rfl rfl inm4 tyX4_ok nmX4 (by decide) T0 q161 rfl rfl rfl ?_
  refine ww_bd E (fun dy1 E => ?_)
  exact ww_vret C HR HL dX4_keepFirst_18 E
section P_X4_setWall
variable {p : Program} {l : Launch} {e : Env} {s : State} {m : MethodId} {args : Array Value} {below : List Frame} {meth : Method} {c : Code} {G : GG} {A : Nat → Prop} {ad : Nat → Nat} {S : ST} {N : Nat} {dy' : DY}
set_option maxHeartbeats 4000000 in
set_option maxRecDepth 100000 in
theorem B_X4_setWall_50 (C : CX p s m args c cX4_setWall 4 RX4 G A) (HR : meth.sig.returnType = (Option.none : Option Jvm.ClassFile.FieldType)) (HL : meth.locks = false) (hG : Good S) : ∀ (y0 : Nat) (y1 : Int32) (y2 : Int32) (dy : DY), gs S y0 = (0, 4) → F_X4_setWall_50 S N y0 y1 y2 dy = some dy' → WJ p l e (rmD (2)) s m args below meth c 4 G A 0 0 (MQ below (QV G ad A S dy') args s 0 0 A) ad 50 [] [.int y2, .int y1, .ref (ad y0)] S dy := by
  intro y0 y1 y2 dy Ty0 E
  rw [F_X4_setWall_50_s] at E
  refine ww_iadd C dX4_setWall_50 ?_
  refine ww_puti (ci := 4) (k0 := 2) C dX4_setWall_51 rfl rfl inm4 tyX4_ok nmX4 (by decide) Ty0 q158 rfl rfl rfl ?_
  refine ww_bd E (fun dy1 E => ?_)
  exact ww_vret C HR HL dX4_setWall_54 E
end P_X4_setWall
set_option maxHeartbeats 4000000 in
set_option maxRecDepth 100000 in
theorem M_X4_setWall (l : Launch) (G : GG) (ad : Nat → Nat) {S : ST} (N : Nat) (hG : Good S) (a0 : Nat) (a1 : Int32) (a2 : Int32) (a3 : Int32) (dy : DY) (T0 : gs S a0 = (0, 4)) {dy' : DY} (E : F_X4_setWall S N a0 a1 a2 a3 dy = some dy') : MC l yX4_setWall cX4_setWall 4 (Option.none : Option Jvm.ClassFile.FieldType) (2) G ad [.ref (ad a0), .int a1, .int a2, .int a3] S dy (fun A => QV G ad A S dy') := by
  rw [F_X4_setWall_s] at E
  refine mc_of RX4 (by decide) rfl (Nat.le_of_ble_eq_true rfl) (fun p e s m args below meth c A C HR HL => ?_)
  refine ww_sub (lv' := [(0, .ref (ad a0)), (1, .int a1), (2, .int a2), (3, .int a3)]) [0, 1, 2, 3] rfl ?_
  refine ww_aload_n C dX4_setWall_0 rfl 0 rfl ?_
  refine ww_iload_n C dX4_setWall_1 rfl 1 rfl ?_
  refine ww_iload_n C dX4_setWall_2 rfl 2 rfl ?_
  obtain ⟨u1, e_2, E⟩ := bind_of E
  refine ww_callI C (runs_V (n := 2) (st := []) C [.int a1, .int a2] (M_X4_isInside l G ad N hG a0 a1 a2 dy T0 e_2) ⟨q731, q110, by decide⟩ q728 q729 q730 (ci := 4) rfl T0 rfl (Nat.le_of_ble_eq_true rfl) ⟨Nat.le_of_ble_eq_true rfl, Nat.le_of_ble_eq_true rfl⟩ ⟨Nat.zero_le _, Nat.zero_le _⟩ dX4_setWall_3 rfl) ?_
  refine ww_if_eq (tgt := 54) C dX4_setWall_6 (by decide) E (fun _ E => ?_) (fun _ E => ?_)
  · exact ww_vret C HR HL dX4_setWall_54 E
  · refine ww_aload_n C dX4_setWall_9 rfl 0 rfl ?_
    have T_3 : gs S (gr S a0 4) = (3, 96) := hG.1 _ 4 T0 4 (by decide)
    refine ww_getr (ci := 4) (k0 := 4) C dX4_setWall_10 rfl rfl inm4 (by decide) T0 q165 rfl T_3 (by decide) ?_
    refine ww_iload_n C dX4_setWall_13 rfl 1 rfl ?_
    refine ww_bipush (v := 6) C dX4_setWall_14 (by decide) ?_
    refine ww_imul C dX4_setWall_16 ?_
    refine ww_iload_n C dX4_setWall_17 rfl 2 rfl ?_
    refine ww_iadd C dX4_setWall_18 ?_
    refine ww_zald C dX4_setWall_19 T_3 E (fun _ E => ?_)
    refine ww_iload_n C dX4_setWall_20 rfl 3 rfl ?_
    refine ww_icmp_eq (tgt := 54) C dX4_setWall_21 (by decide) E (fun _ E => ?_) (fun _ E => ?_)
    · exact ww_vret C HR HL dX4_setWall_54 E
    · refine ww_aload_n C dX4_setWall_24 rfl 0 rfl ?_
      have T_4 : gs S (gr S a0 4) = (3, 96) := hG.1 _ 4 T0 4 (by decide)
      refine ww_getr (ci := 4) (k0 := 4) C dX4_setWall_25 rfl rfl inm4 (by decide) T0 q165 rfl T_4 (by decide) ?_
      refine ww_iload_n C dX4_setWall_28 rfl 1 rfl ?_
      refine ww_bipush (v := 6) C dX4_setWall_29 (by decide) ?_
      refine ww_imul C dX4_setWall_31 ?_
      refine ww_iload_n C dX4_setWall_32 rfl 2 rfl ?_
      refine ww_iadd C dX4_setWall_33 ?_
      refine ww_iload_n C dX4_setWall_34 rfl 3 rfl ?_
      refine ww_zast C dX4_setWall_35 T_4 E (fun _ E => ?_)
      refine ww_bd E (fun dy5 E => ?_)
      refine ww_aload_n C dX4_setWall_36 rfl 0 rfl ?_
      refine ww_dup C dX4_setWall_37 rfl ?_
      refine ww_geti (ci := 4) (k0 := 2) C dX4_setWall_38 rfl rfl inm4 (by decide) T0 q158 rfl ?_
      refine ww_iload_n C dX4_setWall_41 rfl 3 rfl ?_
      refine ww_if_eq (tgt := 49) C dX4_setWall_42 (by decide) E (fun _ E => ?_) (fun _ E => ?_)
      · refine ww_iconst (v := (-1)) C dX4_setWall_49 (by decide) ?_
        refine ww_sub (lv' := []) [] rfl ?_
        exact (B_X4_setWall_50 C HR HL hG) a0 (gi dy5 a0 2) (-1 : Int32) dy5 T0 E
      · refine ww_iconst (v := 1) C dX4_setWall_45 (by decide) ?_
        refine ww_goto (tgt := 50) C dX4_setWall_46 (by decide) ?_
        refine ww_sub (lv' := []) [] rfl ?_
        exact (B_X4_setWall_50 C HR HL hG) a0 (gi dy5 a0 2) (1 : Int32) dy5 T0 E
