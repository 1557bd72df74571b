noncomputable def F_X8_copyFrom (S : ST) (N : Nat) (a0 : Nat) (a1 : Nat) (dy : DY) : Option DY := bd (si dy a0 2 (gi dy a1 2)) fun dy1 => bd (si dy1 a0 3 (gi dy1 a1 3)) fun dy2 => bd (si dy2 a0 4 (gi dy2 a1 4)) fun dy3 => bd (si dy3 a0 5 (gi dy3 a1 5)) fun dy4 => bd (si dy4 a0 6 (gi dy4 a1 6)) fun dy5 => bd (si dy5 a0 7 (gi dy5 a1 7)) fun dy6 => if ic (0 : Int32) (48 : Int32) 48 ∧ ic (0 : Int32) (48 : Int32) 48 then bd (cpi dy6 (gr S a1 9) (gr S a0 9) (0 : Int32).toNatClampNeg (0 : Int32).toNatClampNeg (48 : Int32).toNatClampNeg) fun dy9 => if ic (0 : Int32) (48 : Int32) 48 ∧ ic (0 : Int32) (48 : Int32) 48 then bd (cpi dy9 (gr S a1 10) (gr S a0 10) (0 : Int32).toNatClampNeg (0 : Int32).toNatClampNeg (48 : Int32).toNatClampNeg) fun dy13 => if ic (0 : Int32) (12 : Int32) 12 ∧ ic (0 : Int32) (12 : Int32) 12 then bd (cpi dy13 (gr S a1 11) (gr S a0 11) (0 : Int32).toNatClampNeg (0 : Int32).toNatClampNeg (12 : Int32).toNatClampNeg) fun dy17 => if ic (0 : Int32) (12 : Int32) 12 ∧ ic (0 : Int32) (12 : Int32) 12 then bd (cpi dy17 (gr S a1 12) (gr S a0 12) (0 : Int32).toNatClampNeg (0 : Int32).toNatClampNeg (12 : Int32).toNatClampNeg) fun dy21 => if ic (0 : Int32) (12 : Int32) 12 ∧ ic (0 : Int32) (12 : Int32) 12 then bd (cpi dy21 (gr S a1 13) (gr S a0 13) (0 : Int32).toNatClampNeg (0 : Int32).toNatClampNeg (12 : Int32).toNatClampNeg) fun dy25 => if ic (0 : Int32) (12 : Int32) 12 ∧ ic (0 : Int32) (12 : Int32) 12 then bd (cpi dy25 (gr S a1 14) (gr S a0 14) (0 : Int32).toNatClampNeg (0 : Int32).toNatClampNeg (12 : Int32).toNatClampNeg) fun dy29 => if ic (0 : Int32) (12 : Int32) 12 ∧ ic (0 : Int32) (12 : Int32) 12 then bd (cpi dy29 (gr S a1 15) (gr S a0 15) (0 : Int32).toNatClampNeg (0 : Int32).toNatClampNeg (12 : Int32).toNatClampNeg) fun dy33 => if ic (0 : Int32) (12 : Int32) 12 ∧ ic (0 : Int32) (12 : Int32) 12 then bd (cpi dy33 (gr S a1 16) (gr S a0 16) (0 : Int32).toNatClampNeg (0 : Int32).toNatClampNeg (12 : Int32).toNatClampNeg) fun dy37 => if ic (0 : Int32) (12 : Int32) 12 ∧ ic (0 : Int32) (12 : Int32) 12 then bd (cpi dy37 (gr S a1 17) (gr S a0 17) (0 : Int32).toNatClampNeg (0 : Int32).toNatClampNeg (12 : Int32).toNatClampNeg) fun dy41 => if ic (0 : Int32) (75 : Int32) 75 ∧ ic (0 : Int32) (75 : Int32) 75 then bd (cpi dy41 (gr S a1 19) (gr S a0 19) (0 : Int32).toNatClampNeg (0 : Int32).toNatClampNeg (75 : Int32).toNatClampNeg) fun dy45 => some dy45 else none else none else none else none else none else none else none else none else none else none
theorem F_X8_copyFrom_s (S : ST) (N : Nat) (a0 : Nat) (a1 : Nat) (dy : DY) : F_X8_copyFrom S N a0 a1 dy = (bd (si dy a0 2 (gi dy a1 2)) fun dy1 => bd (si dy1 a0 3 (gi dy1 a1 3)) fun dy2 => bd (si dy2 a0 4 (gi dy2 a1 4)) fun dy3 => bd (si dy3 a0 5 (gi dy3 a1 5)) fun dy4 => bd (si dy4 a0 6 (gi dy4 a1 6)) fun dy5 => bd (si dy5 a0 7 (gi dy5 a1 7)) fun dy6 => if ic (0 : Int32) (48 : Int32) 48 ∧ ic (0 : Int32) (48 : Int32) 48 then bd (cpi dy6 (gr S a1 9) (gr S a0 9) (0 : Int32).toNatClampNeg (0 : Int32).toNatClampNeg (48 : Int32).toNatClampNeg) fun dy9 => if ic (0 : Int32) (48 : Int32) 48 ∧ ic (0 : Int32) (48 : Int32) 48 then bd (cpi dy9 (gr S a1 10) (gr S a0 10) (0 : Int32).toNatClampNeg (0 : Int32).toNatClampNeg (48 : Int32).toNatClampNeg) fun dy13 => if ic (0 : Int32) (12 : Int32) 12 ∧ ic (0 : Int32) (12 : Int32) 12 then bd (cpi dy13 (gr S a1 11) (gr S a0 11) (0 : Int32).toNatClampNeg (0 : Int32).toNatClampNeg (12 : Int32).toNatClampNeg) fun dy17 => if ic (0 : Int32) (12 : Int32) 12 ∧ ic (0 : Int32) (12 : Int32) 12 then bd (cpi dy17 (gr S a1 12) (gr S a0 12) (0 : Int32).toNatClampNeg (0 : Int32).toNatClampNeg (12 : Int32).toNatClampNeg) fun dy21 => if ic (0 : Int32) (12 : Int32) 12 ∧ ic (0 : Int32) (12 : Int32) 12 then bd (cpi dy21 (gr S a1 13) (gr S a0 13) (0 : Int32).toNatClampNeg (0 : Int32).toNatClampNeg (12 : Int32).toNatClampNeg) fun dy25 => if ic (0 : Int32) (12 : Int32) 12 ∧ ic (0 : Int32) (12 : Int32) 12 then bd (cpi dy25 (gr S a1 14) (gr S a0 14) (0 : Int32).toNatClampNeg (0 : Int32).toNatClampNeg (12 : Int32).toNatClampNeg) fun dy29 => if ic (0 : Int32) (12 : Int32) 12 ∧ ic (0 : Int32) (12 : Int32) 12 then bd (cpi dy29 (gr S a1 15) (gr S a0 15) (0 : Int32).toNatClampNeg (0 : Int32).toNatClampNeg (12 : Int32).toNatClampNeg) fun dy33 => if ic (0 : Int32) (12 : Int32) 12 ∧ ic (0 : Int32) (12 : Int32) 12 then bd (cpi dy33 (gr S a1 16) (gr S a0 16) (0 : Int32).toNatClampNeg (0 : Int32).toNatClampNeg (12 : Int32).toNatClampNeg) fun dy37 => if ic (0 : Int32) (12 : Int32) 12 ∧ ic (0 : Int32) (12 : Int32) 12 then bd (cpi dy37 (gr S a1 17) (gr S a0 17) (0 : Int32).toNatClampNeg (0 : Int32).toNatClampNeg (12 : Int32).toNatClampNeg) fun dy41 => if ic (0 : Int32) (75 : Int32) 75 ∧ ic (0 : Int32) (75 : Int32) 75 then bd (cpi dy41 (gr S a1 19) (gr S a0 19) (0 : Int32).toNatClampNeg (0 : Int32).toNatClampNeg (75 : Int32).toNatClampNeg) fun dy45 => some dy45 else none else none else none else none else none else none else none else none else none else none) := rfl
noncomputable def F_X8_pastOf (S : ST) (N : Nat) (a0 : Nat) (a1 : Int32) (dy : DY) : Option (Int32 × DY) := if ib a1 12 then (if (gi dy (gr S (gr S a0 0) 9) a1.toNatClampNeg) ≤ 0 then some ((0 : Int32), dy) else (if (4 : Int32) ≤ (gi dy (gr S (gr S a0 0) 9) a1.toNatClampNeg) then some ((0 : Int32), dy) else some (((gi dy (gr S (gr S a0 0) 9) a1.toNatClampNeg) * (12 : Int32)), dy))) else none
theorem F_X8_pastOf_s (S : ST) (N : Nat) (a0 : Nat) (a1 : Int32) (dy : DY) : F_X8_pastOf S N a0 a1 dy = (if ib a1 12 then (if (gi dy (gr S (gr S a0 0) 9) a1.toNatClampNeg) ≤ 0 then some ((0 : Int32), dy) else (if (4 : Int32) ≤ (gi dy (gr S (gr S a0 0) 9) a1.toNatClampNeg) then some ((0 : Int32), dy) else some (((gi dy (gr S (gr S a0 0) 9) a1.toNatClampNeg) * (12 : Int32)), dy))) else none) := rfl
noncomputable def F_X8_stepsToWall_104 (S : ST) (N : Nat) (x3 : Int32) (x6 : Int32) (dy : DY) : Option (Int32 × DY) := (if x3 = 0 then some ((1000 : Int32), dy) else some (x6, dy))
theorem F_X8_stepsToWall_104_s (S : ST) (N : Nat) (x3 : Int32) (x6 : Int32) (dy : DY) : F_X8_stepsToWall_104 S N x3 x6 dy = (if x3 = 0 then some ((1000 : Int32), dy) else some (x6, dy)) := rfl
noncomputable def F_X8_stepsToWall_23 (S : ST) (N : Nat) : Nat → Nat → Int32 → Int32 → Int32 → Int32 → Int32 → DY → Option (Int32 × DY) := fun k => Nat.rec (motive := fun _ => Nat → Int32 → Int32 → Int32 → Int32 → Int32 → DY → Option (Int32 × DY)) (fun _ _ _ _ _ _ _ => none) (fun _ ih x0 x2 x3 x4 x5 x6 dy => (if (16 : Int32) < x6 then (F_X8_stepsToWall_104 S N) x3 x6 dy else (if x4 < 0 then (F_X8_stepsToWall_104 S N) x3 x6 dy else (if (gi dy (gr S x0 0) 0) ≤ x4 then (F_X8_stepsToWall_104 S N) x3 x6 dy else (if x5 < 0 then (F_X8_stepsToWall_104 S N) x3 x6 dy else (if (gi dy (gr S x0 0) 1) ≤ x5 then (F_X8_stepsToWall_104 S N) x3 x6 dy else if ib ((x4 * (6 : Int32)) + x5) 96 then (if (nr 3 (gi dy (gr S (gr S x0 0) 4) ((x4 * (6 : Int32)) + x5).toNatClampNeg)) = 0 then ih x0 x2 x3 (x4 + x2) (x5 + x3) (x6 + (1 : Int32)) dy else some (x6, dy)) else none)))))) k
theorem F_X8_stepsToWall_23_s (S : ST) (N : Nat) (k : Nat) (x0 : Nat) (x2 : Int32) (x3 : Int32) (x4 : Int32) (x5 : Int32) (x6 : Int32) (dy : DY) : F_X8_stepsToWall_23 S N (k + 1) x0 x2 x3 x4 x5 x6 dy = (if (16 : Int32) < x6 then (F_X8_stepsToWall_104 S N) x3 x6 dy else (if x4 < 0 then (F_X8_stepsToWall_104 S N) x3 x6 dy else (if (gi dy (gr S x0 0) 0) ≤ x4 then (F_X8_stepsToWall_104 S N) x3 x6 dy else (if x5 < 0 then (F_X8_stepsToWall_104 S N) x3 x6 dy else (if (gi dy (gr S x0 0) 1) ≤ x5 then (F_X8_stepsToWall_104 S N) x3 x6 dy else if ib ((x4 * (6 : Int32)) + x5) 96 then (if (nr 3 (gi dy (gr S (gr S x0 0) 4) ((x4 * (6 : Int32)) + x5).toNatClampNeg)) = 0 then (F_X8_stepsToWall_23 S N k) x0 x2 x3 (x4 + x2) (x5 + x3) (x6 + (1 : Int32)) dy else some (x6, dy)) else none))))) := rfl
noncomputable def F_X8_stepsToWall (S : ST) (N : Nat) (a0 : Nat) (a1 : Int32) (a2 : Int32) (a3 : Int32) (dy : DY) : Option (Int32 × DY) := if ib a1 48 then if ib a1 48 then (F_X8_stepsToWall_23 S N N) a0 a2 a3 ((gi dy (gr S a0 9) a1.toNatClampNeg) + a2) ((gi dy (gr S a0 10) a1.toNatClampNeg) + a3) (1 : Int32) dy else none else none
theorem F_X8_stepsToWall_s (S : ST) (N : Nat) (a0 : Nat) (a1 : Int32) (a2 : Int32) (a3 : Int32) (dy : DY) : F_X8_stepsToWall S N a0 a1 a2 a3 dy = (if ib a1 48 then if ib a1 48 then (F_X8_stepsToWall_23 S N N) a0 a2 a3 ((gi dy (gr S a0 9) a1.toNatClampNeg) + a2) ((gi dy (gr S a0 10) a1.toNatClampNeg) + a3) (1 : Int32) dy else none else none) := rfl
noncomputable def F_X8_freeSteps_24 (S : ST) (N : Nat) : Nat → Nat → Int32 → Int32 → Int32 → Int32 → Int32 → Int32 → DY → Option (Int32 × DY) := fun k => Nat.rec (motive := fun _ => Nat → Int32 → Int32 → Int32 → Int32 → Int32 → Int32 → DY → Option (Int32 × DY)) (fun _ _ _ _ _ _ _ _ => none) (fun _ ih x0 x1 x2 x3 x4 x5 x6 dy => (if (gi dy (gr S x0 0) 3) ≤ x6 then some ((if (x4 - (1 : Int32)) < (9 : Int32) then (x4 - (1 : Int32)) else (9 : Int32)), dy) else (if x6 = x1 then ih x0 x1 x2 x3 x4 x5 (x6 + (1 : Int32)) dy else if ib (x5 + x6) 48 then (if (gi dy (gr S x0 9) (x5 + x6).toNatClampNeg) = (-1 : Int32) then ih x0 x1 x2 x3 x4 x5 (x6 + (1 : Int32)) dy else if ib (x5 + x6) 48 then if ib x1 48 then if ib (x5 + x6) 48 then if ib x1 48 then (if (((gi dy (gr S x0 9) (x5 + x6).toNatClampNeg) - (gi dy (gr S x0 9) x1.toNatClampNeg)) * x3) = (((gi dy (gr S x0 10) (x5 + x6).toNatClampNeg) - (gi dy (gr S x0 10) x1.toNatClampNeg)) * x2) then (if ((((gi dy (gr S x0 9) (x5 + x6).toNatClampNeg) - (gi dy (gr S x0 9) x1.toNatClampNeg)) * x2) + (((gi dy (gr S x0 10) (x5 + x6).toNatClampNeg) - (gi dy (gr S x0 10) x1.toNatClampNeg)) * x3)) ≤ 0 then ih x0 x1 x2 x3 x4 x5 (x6 + (1 : Int32)) dy else (if x4 ≤ ((((gi dy (gr S x0 9) (x5 + x6).toNatClampNeg) - (gi dy (gr S x0 9) x1.toNatClampNeg)) * x2) + (((gi dy (gr S x0 10) (x5 + x6).toNatClampNeg) - (gi dy (gr S x0 10) x1.toNatClampNeg)) * x3)) then ih x0 x1 x2 x3 x4 x5 (x6 + (1 : Int32)) dy else bd (si dy x0 8 x6) fun dy7 => ih x0 x1 x2 x3 ((((gi dy (gr S x0 9) (x5 + x6).toNatClampNeg) - (gi dy (gr S x0 9) x1.toNatClampNeg)) * x2) + (((gi dy (gr S x0 10) (x5 + x6).toNatClampNeg) - (gi dy (gr S x0 10) x1.toNatClampNeg)) * x3)) x5 (x6 + (1 : Int32)) dy7)) else ih x0 x1 x2 x3 x4 x5 (x6 + (1 : Int32)) dy) else none else none else none else none) else none))) k
theorem F_X8_freeSteps_24_s (S : ST) (N : Nat) (k : Nat) (x0 : Nat) (x1 : Int32) (x2 : Int32) (x3 : Int32) (x4 : Int32) (x5 : Int32) (x6 : Int32) (dy : DY) : F_X8_freeSteps_24 S N (k + 1) x0 x1 x2 x3 x4 x5 x6 dy = (if (gi dy (gr S x0 0) 3) ≤ x6 then some ((if (x4 - (1 : Int32)) < (9 : Int32) then (x4 - (1 : Int32)) else (9 : Int32)), dy) else (if x6 = x1 then (F_X8_freeSteps_24 S N k) x0 x1 x2 x3 x4 x5 (x6 + (1 : Int32)) dy else if ib (x5 + x6) 48 then (if (gi dy (gr S x0 9) (x5 + x6).toNatClampNeg) = (-1 : Int32) then (F_X8_freeSteps_24 S N k) x0 x1 x2 x3 x4 x5 (x6 + (1 : Int32)) dy else if ib (x5 + x6) 48 then if ib x1 48 then if ib (x5 + x6) 48 then if ib x1 48 then (if (((gi dy (gr S x0 9) (x5 + x6).toNatClampNeg) - (gi dy (gr S x0 9) x1.toNatClampNeg)) * x3) = (((gi dy (gr S x0 10) (x5 + x6).toNatClampNeg) - (gi dy (gr S x0 10) x1.toNatClampNeg)) * x2) then (if ((((gi dy (gr S x0 9) (x5 + x6).toNatClampNeg) - (gi dy (gr S x0 9) x1.toNatClampNeg)) * x2) + (((gi dy (gr S x0 10) (x5 + x6).toNatClampNeg) - (gi dy (gr S x0 10) x1.toNatClampNeg)) * x3)) ≤ 0 then (F_X8_freeSteps_24 S N k) x0 x1 x2 x3 x4 x5 (x6 + (1 : Int32)) dy else (if x4 ≤ ((((gi dy (gr S x0 9) (x5 + x6).toNatClampNeg) - (gi dy (gr S x0 9) x1.toNatClampNeg)) * x2) + (((gi dy (gr S x0 10) (x5 + x6).toNatClampNeg) - (gi dy (gr S x0 10) x1.toNatClampNeg)) * x3)) then (F_X8_freeSteps_24 S N k) x0 x1 x2 x3 x4 x5 (x6 + (1 : Int32)) dy else bd (si dy x0 8 x6) fun dy7 => (F_X8_freeSteps_24 S N k) x0 x1 x2 x3 ((((gi dy (gr S x0 9) (x5 + x6).toNatClampNeg) - (gi dy (gr S x0 9) x1.toNatClampNeg)) * x2) + (((gi dy (gr S x0 10) (x5 + x6).toNatClampNeg) - (gi dy (gr S x0 10) x1.toNatClampNeg)) * x3)) x5 (x6 + (1 : Int32)) dy7)) else (F_X8_freeSteps_24 S N k) x0 x1 x2 x3 x4 x5 (x6 + (1 : Int32)) dy) else none else none else none else none) else none)) := rfl
noncomputable def F_X8_freeSteps (S : ST) (N : Nat) (a0 : Nat) (a1 : Int32) (a2 : Int32) (a3 : Int32) (dy : DY) : Option (Int32 × DY) := (F_X8_stepsToWall S N a0 a1 a2 a3 dy).bind fun u1 => (F_X8_pastOf S N a0 a1 u1.2).bind fun u3 => bd (si u3.2 a0 8 (-1 : Int32)) fun dy5 => (F_X8_freeSteps_24 S N N) a0 a1 a2 a3 u1.1 u3.1 (0 : Int32) dy5
theorem F_X8_freeSteps_s (S : ST) (N : Nat) (a0 : Nat) (a1 : Int32) (a2 : Int32) (a3 : Int32) (dy : DY) : F_X8_freeSteps S N a0 a1 a2 a3 dy = ((F_X8_stepsToWall S N a0 a1 a2 a3 dy).bind fun u1 => (F_X8_pastOf S N a0 a1 u1.2).bind fun u3 => bd (si u3.2 a0 8 (-1 : Int32)) fun dy5 => (F_X8_freeSteps_24 S N N) a0 a1 a2 a3 u1.1 u3.1 (0 : Int32) dy5) := rfl
noncomputable def F_X8_lookAround_32 (S : ST) (N : Nat) : Nat → Nat → Int32 → Int32 → Int32 → DY → Option DY := fun k => Nat.rec (motive := fun _ => Nat → Int32 → Int32 → Int32 → DY → Option DY) (fun _ _ _ _ _ => none) (fun _ ih x0 x1 x2 x3 dy => (if (gi dy (gr S x0 0) 3) ≤ x3 then some dy else (if x3 = x1 then ih x0 x1 x2 (x3 + (1 : Int32)) dy else if ib (x2 + x3) 48 then (if (gi dy (gr S x0 9) (x2 + x3).toNatClampNeg) = (-1 : Int32) then ih x0 x1 x2 (x3 + (1 : Int32)) dy else if ib (x2 + x3) 48 then if ib x1 48 then if ib (x2 + x3) 48 then if ib x1 48 then if ib (2 : Int32) 11 then if ib (2 : Int32) 11 then bd (si dy (gr S x0 18) (2 : Int32).toNatClampNeg (if ((if 0 ≤ ((gi dy (gr S x0 9) (x2 + x3).toNatClampNeg) - (gi dy (gr S x0 9) x1.toNatClampNeg)) then ((gi dy (gr S x0 9) (x2 + x3).toNatClampNeg) - (gi dy (gr S x0 9) x1.toNatClampNeg)) else 0 - ((gi dy (gr S x0 9) (x2 + x3).toNatClampNeg) - (gi dy (gr S x0 9) x1.toNatClampNeg))) + (if 0 ≤ ((gi dy (gr S x0 10) (x2 + x3).toNatClampNeg) - (gi dy (gr S x0 10) x1.toNatClampNeg)) then ((gi dy (gr S x0 10) (x2 + x3).toNatClampNeg) - (gi dy (gr S x0 10) x1.toNatClampNeg)) else 0 - ((gi dy (gr S x0 10) (x2 + x3).toNatClampNeg) - (gi dy (gr S x0 10) x1.toNatClampNeg)))) < (gi dy (gr S x0 18) (2 : Int32).toNatClampNeg) then ((if 0 ≤ ((gi dy (gr S x0 9) (x2 + x3).toNatClampNeg) - (gi dy (gr S x0 9) x1.toNatClampNeg)) then ((gi dy (gr S x0 9) (x2 + x3).toNatClampNeg) - (gi dy (gr S x0 9) x1.toNatClampNeg)) else 0 - ((gi dy (gr S x0 9) (x2 + x3).toNatClampNeg) - (gi dy (gr S x0 9) x1.toNatClampNeg))) + (if 0 ≤ ((gi dy (gr S x0 10) (x2 + x3).toNatClampNeg) - (gi dy (gr S x0 10) x1.toNatClampNeg)) then ((gi dy (gr S x0 10) (x2 + x3).toNatClampNeg) - (gi dy (gr S x0 10) x1.toNatClampNeg)) else 0 - ((gi dy (gr S x0 10) (x2 + x3).toNatClampNeg) - (gi dy (gr S x0 10) x1.toNatClampNeg)))) else (gi dy (gr S x0 18) (2 : Int32).toNatClampNeg))) fun dy9 => (if (2 : Int32) < ((if 0 ≤ ((gi dy (gr S x0 9) (x2 + x3).toNatClampNeg) - (gi dy (gr S x0 9) x1.toNatClampNeg)) then ((gi dy (gr S x0 9) (x2 + x3).toNatClampNeg) - (gi dy (gr S x0 9) x1.toNatClampNeg)) else 0 - ((gi dy (gr S x0 9) (x2 + x3).toNatClampNeg) - (gi dy (gr S x0 9) x1.toNatClampNeg))) + (if 0 ≤ ((gi dy (gr S x0 10) (x2 + x3).toNatClampNeg) - (gi dy (gr S x0 10) x1.toNatClampNeg)) then ((gi dy (gr S x0 10) (x2 + x3).toNatClampNeg) - (gi dy (gr S x0 10) x1.toNatClampNeg)) else 0 - ((gi dy (gr S x0 10) (x2 + x3).toNatClampNeg) - (gi dy (gr S x0 10) x1.toNatClampNeg)))) then if ib x1 12 then (if x3 = (gi dy9 (gr S (gr S x0 0) 12) x1.toNatClampNeg) then if ib (10 : Int32) 11 then bd (si dy9 (gr S x0 18) (10 : Int32).toNatClampNeg (1 : Int32)) fun dy13 => ih x0 x1 x2 (x3 + (1 : Int32)) dy13 else none else ih x0 x1 x2 (x3 + (1 : Int32)) dy9) else none else if ib (7 : Int32) 11 then if ib (7 : Int32) 11 then bd (si dy9 (gr S x0 18) (7 : Int32).toNatClampNeg ((gi dy9 (gr S x0 18) (7 : Int32).toNatClampNeg) + (1 : Int32))) fun dy15 => ih x0 x1 x2 (x3 + (1 : Int32)) dy15 else none else none) else none else none else none else none else none else none) else none))) k
theorem F_X8_lookAround_32_s (S : ST) (N : Nat) (k : Nat) (x0 : Nat) (x1 : Int32) (x2 : Int32) (x3 : Int32) (dy : DY) : F_X8_lookAround_32 S N (k + 1) x0 x1 x2 x3 dy = (if (gi dy (gr S x0 0) 3) ≤ x3 then some dy else (if x3 = x1 then (F_X8_lookAround_32 S N k) x0 x1 x2 (x3 + (1 : Int32)) dy else if ib (x2 + x3) 48 then (if (gi dy (gr S x0 9) (x2 + x3).toNatClampNeg) = (-1 : Int32) then (F_X8_lookAround_32 S N k) x0 x1 x2 (x3 + (1 : Int32)) dy else if ib (x2 + x3) 48 then if ib x1 48 then if ib (x2 + x3) 48 then if ib x1 48 then if ib (2 : Int32) 11 then if ib (2 : Int32) 11 then bd (si dy (gr S x0 18) (2 : Int32).toNatClampNeg (if ((if 0 ≤ ((gi dy (gr S x0 9) (x2 + x3).toNatClampNeg) - (gi dy (gr S x0 9) x1.toNatClampNeg)) then ((gi dy (gr S x0 9) (x2 + x3).toNatClampNeg) - (gi dy (gr S x0 9) x1.toNatClampNeg)) else 0 - ((gi dy (gr S x0 9) (x2 + x3).toNatClampNeg) - (gi dy (gr S x0 9) x1.toNatClampNeg))) + (if 0 ≤ ((gi dy (gr S x0 10) (x2 + x3).toNatClampNeg) - (gi dy (gr S x0 10) x1.toNatClampNeg)) then ((gi dy (gr S x0 10) (x2 + x3).toNatClampNeg) - (gi dy (gr S x0 10) x1.toNatClampNeg)) else 0 - ((gi dy (gr S x0 10) (x2 + x3).toNatClampNeg) - (gi dy (gr S x0 10) x1.toNatClampNeg)))) < (gi dy (gr S x0 18) (2 : Int32).toNatClampNeg) then ((if 0 ≤ ((gi dy (gr S x0 9) (x2 + x3).toNatClampNeg) - (gi dy (gr S x0 9) x1.toNatClampNeg)) then ((gi dy (gr S x0 9) (x2 + x3).toNatClampNeg) - (gi dy (gr S x0 9) x1.toNatClampNeg)) else 0 - ((gi dy (gr S x0 9) (x2 + x3).toNatClampNeg) - (gi dy (gr S x0 9) x1.toNatClampNeg))) + (if 0 ≤ ((gi dy (gr S x0 10) (x2 + x3).toNatClampNeg) - (gi dy (gr S x0 10) x1.toNatClampNeg)) then ((gi dy (gr S x0 10) (x2 + x3).toNatClampNeg) - (gi dy (gr S x0 10) x1.toNatClampNeg)) else 0 - ((gi dy (gr S x0 10) (x2 + x3).toNatClampNeg) - (gi dy (gr S x0 10) x1.toNatClampNeg)))) else (gi dy (gr S x0 18) (2 : Int32).toNatClampNeg))) fun dy9 => (if (2 : Int32) < ((if 0 ≤ ((gi dy (gr S x0 9) (x2 + x3).toNatClampNeg) - (gi dy (gr S x0 9) x1.toNatClampNeg)) then ((gi dy (gr S x0 9) (x2 + x3).toNatClampNeg) - (gi dy (gr S x0 9) x1.toNatClampNeg)) else 0 - ((gi dy (gr S x0 9) (x2 + x3).toNatClampNeg) - (gi dy (gr S x0 9) x1.toNatClampNeg))) + (if 0 ≤ ((gi dy (gr S x0 10) (x2 + x3).toNatClampNeg) - (gi dy (gr S x0 10) x1.toNatClampNeg)) then ((gi dy (gr S x0 10) (x2 + x3).toNatClampNeg) - (gi dy (gr S x0 10) x1.toNatClampNeg)) else 0 - ((gi dy (gr S x0 10) (x2 + x3).toNatClampNeg) - (gi dy (gr S x0 10) x1.toNatClampNeg)))) then if ib x1 12 then (if x3 = (gi dy9 (gr S (gr S x0 0) 12) x1.toNatClampNeg) then if ib (10 : Int32) 11 then bd (si dy9 (gr S x0 18) (10 : Int32).toNatClampNeg (1 : Int32)) fun dy13 => (F_X8_lookAround_32 S N k) x0 x1 x2 (x3 + (1 : Int32)) dy13 else none else (F_X8_lookAround_32 S N k) x0 x1 x2 (x3 + (1 : Int32)) dy9) else none else if ib (7 : Int32) 11 then if ib (7 : Int32) 11 then bd (si dy9 (gr S x0 18) (7 : Int32).toNatClampNeg ((gi dy9 (gr S x0 18) (7 : Int32).toNatClampNeg) + (1 : Int32))) fun dy15 => (F_X8_lookAround_32 S N k) x0 x1 x2 (x3 + (1 : Int32)) dy15 else none else none) else none else none else none else none else none else none) else none)) := rfl
noncomputable def F_X8_lookAround (S : ST) (N : Nat) (a0 : Nat) (a1 : Int32) (dy : DY) : Option DY := (F_X8_pastOf S N a0 a1 dy).bind fun u1 => if ib (2 : Int32) 11 then bd (si u1.2 (gr S a0 18) (2 : Int32).toNatClampNeg (99 : Int32)) fun dy4 => if ib (7 : Int32) 11 then bd (si dy4 (gr S a0 18) (7 : Int32).toNatClampNeg (0 : Int32)) fun dy6 => if ib (10 : Int32) 11 then bd (si dy6 (gr S a0 18) (10 : Int32).toNatClampNeg (0 : Int32)) fun dy8 => (F_X8_lookAround_32 S N N) a0 a1 u1.1 (0 : Int32) dy8 else none else none else none
theorem F_X8_lookAround_s (S : ST) (N : Nat) (a0 : Nat) (a1 : Int32) (dy : DY) : F_X8_lookAround S N a0 a1 dy = ((F_X8_pastOf S N a0 a1 dy).bind fun u1 => if ib (2 : Int32) 11 then bd (si u1.2 (gr S a0 18) (2 : Int32).toNatClampNeg (99 : Int32)) fun dy4 => if ib (7 : Int32) 11 then bd (si dy4 (gr S a0 18) (7 : Int32).toNatClampNeg (0 : Int32)) fun dy6 => if ib (10 : Int32) 11 then bd (si dy6 (gr S a0 18) (10 : Int32).toNatClampNeg (0 : Int32)) fun dy8 => (F_X8_lookAround_32 S N N) a0 a1 u1.1 (0 : Int32) dy8 else none else none else none) := rfl
noncomputable def F_X8_soon_13 (S : ST) (N : Nat) (x0 : Int32) (x1 : Int32) (x2 : Int32) (y0 : Int32) (dy : DY) : Option (Int32 × DY) := (if y0 ≤ 0 then some ((99 : Int32), dy) else if y0 = 0 then none else some ((if (((x0 * x1) * x2) / y0) < (99 : Int32) then (((x0 * x1) * x2) / y0) else (99 : Int32)), dy))
theorem F_X8_soon_13_s (S : ST) (N : Nat) (x0 : Int32) (x1 : Int32) (x2 : Int32) (y0 : Int32) (dy : DY) : F_X8_soon_13 S N x0 x1 x2 y0 dy = (if y0 ≤ 0 then some ((99 : Int32), dy) else if y0 = 0 then none else some ((if (((x0 * x1) * x2) / y0) < (99 : Int32) then (((x0 * x1) * x2) / y0) else (99 : Int32)), dy)) := rfl
noncomputable def F_X8_soon (S : ST) (N : Nat) (a0 : Int32) (a1 : Int32) (a2 : Int32) (a3 : Int32) (dy : DY) : Option (Int32 × DY) := (if a3 = 0 then (F_X8_soon_13 S N) a0 a1 a2 (a2 - a1) dy else (F_X8_soon_13 S N) a0 a1 a2 (a1 + a2) dy)
theorem F_X8_soon_s (S : ST) (N : Nat) (a0 : Int32) (a1 : Int32) (a2 : Int32) (a3 : Int32) (dy : DY) : F_X8_soon S N a0 a1 a2 a3 dy = (if a3 = 0 then (F_X8_soon_13 S N) a0 a1 a2 (a2 - a1) dy else (F_X8_soon_13 S N) a0 a1 a2 (a1 + a2) dy) := rfl
noncomputable def F_X8_look_134 (S : ST) (N : Nat) (x0 : Nat) (x1 : Int32) (x2 : Int32) (y0 : Nat) (y1 : Int32) (y2 : Int32) (dy : DY) : Option DY := if ib y1 11 then bd (si dy y0 y1.toNatClampNeg y2) fun dy1 => (F_X8_freeSteps S N x0 x1 (0 : Int32) x2 dy1).bind fun u3 => if ib (3 : Int32) 11 then bd (si u3.2 (gr S x0 18) (3 : Int32).toNatClampNeg u3.1) fun dy5 => (F_X8_freeSteps S N x0 x1 (0 : Int32) (-x2) dy5).bind fun u7 => if ib (4 : Int32) 11 then bd (si u7.2 (gr S x0 18) (4 : Int32).toNatClampNeg u7.1) fun dy9 => if ib x1 12 then if ib (5 : Int32) 11 then bd (si dy9 (gr S x0 18) (5 : Int32).toNatClampNeg (gi dy9 (gr S x0 15) x1.toNatClampNeg)) fun dy12 => if ib x1 12 then if ib (6 : Int32) 11 then bd (si dy12 (gr S x0 18) (6 : Int32).toNatClampNeg (gi dy12 (gr S (gr S x0 0) 10) x1.toNatClampNeg)) fun dy16 => (F_X8_lookAround S N x0 x1 dy16).bind fun u17 => some u17 else none else none else none else none else none else none else none
theorem F_X8_look_134_s (S : ST) (N : Nat) (x0 : Nat) (x1 : Int32) (x2 : Int32) (y0 : Nat) (y1 : Int32) (y2 : Int32) (dy : DY) : F_X8_look_134 S N x0 x1 x2 y0 y1 y2 dy = (if ib y1 11 then bd (si dy y0 y1.toNatClampNeg y2) fun dy1 => (F_X8_freeSteps S N x0 x1 (0 : Int32) x2 dy1).bind fun u3 => if ib (3 : Int32) 11 then bd (si u3.2 (gr S x0 18) (3 : Int32).toNatClampNeg u3.1) fun dy5 => (F_X8_freeSteps S N x0 x1 (0 : Int32) (-x2) dy5).bind fun u7 => if ib (4 : Int32) 11 then bd (si u7.2 (gr S x0 18) (4 : Int32).toNatClampNeg u7.1) fun dy9 => if ib x1 12 then if ib (5 : Int32) 11 then bd (si dy9 (gr S x0 18) (5 : Int32).toNatClampNeg (gi dy9 (gr S x0 15) x1.toNatClampNeg)) fun dy12 => if ib x1 12 then if ib (6 : Int32) 11 then bd (si dy12 (gr S x0 18) (6 : Int32).toNatClampNeg (gi dy12 (gr S (gr S x0 0) 10) x1.toNatClampNeg)) fun dy16 => (F_X8_lookAround S N x0 x1 dy16).bind fun u17 => some u17 else none else none else none else none else none else none else none) := rfl
noncomputable def F_X8_look_88 (S : ST) (N : Nat) (x0 : Nat) (x1 : Int32) (x2 : Int32) (x3 : Int32) (x4 : Int32) (y0 : Nat) (y1 : Int32) (y2 : Int32) (dy : DY) : Option DY := if ib y1 11 then bd (si dy y0 y1.toNatClampNeg y2) fun dy1 => (if (gi dy1 x0 8) = (-1 : Int32) then (F_X8_look_134 S N) x0 x1 x2 (gr S x0 18) (1 : Int32) (99 : Int32) dy1 else if ib x1 12 then if ib (gi dy1 x0 8) 12 then (F_X8_soon S N x3 (gi dy1 (gr S (gr S x0 0) 8) x1.toNatClampNeg) (gi dy1 (gr S (gr S x0 0) 8) (gi dy1 x0 8).toNatClampNeg) x4 dy1).bind fun u7 => (F_X8_look_134 S N) x0 x1 x2 (gr S x0 18) (1 : Int32) u7.1 u7.2 else none else none) else none
theorem F_X8_look_88_s (S : ST) (N : Nat) (x0 : Nat) (x1 : Int32) (x2 : Int32) (x3 : Int32) (x4 : Int32) (y0 : Nat) (y1 : Int32) (y2 : Int32) (dy : DY) : F_X8_look_88 S N x0 x1 x2 x3 x4 y0 y1 y2 dy = (if ib y1 11 then bd (si dy y0 y1.toNatClampNeg y2) fun dy1 => (if (gi dy1 x0 8) = (-1 : Int32) then (F_X8_look_134 S N) x0 x1 x2 (gr S x0 18) (1 : Int32) (99 : Int32) dy1 else if ib x1 12 then if ib (gi dy1 x0 8) 12 then (F_X8_soon S N x3 (gi dy1 (gr S (gr S x0 0) 8) x1.toNatClampNeg) (gi dy1 (gr S (gr S x0 0) 8) (gi dy1 x0 8).toNatClampNeg) x4 dy1).bind fun u7 => (F_X8_look_134 S N) x0 x1 x2 (gr S x0 18) (1 : Int32) u7.1 u7.2 else none else none) else none) := rfl
noncomputable def F_X8_look_71 (S : ST) (N : Nat) (x0 : Nat) (x1 : Int32) (x2 : Int32) (x3 : Int32) (x4 : Int32) (y0 : Nat) (y1 : Int32) (y2 : Int32) (dy : DY) : Option DY := if ib y1 11 then bd (si dy y0 y1.toNatClampNeg y2) fun dy1 => (if x4 = 0 then (F_X8_look_88 S N) x0 x1 x2 x3 x4 (gr S x0 18) (9 : Int32) (0 : Int32) dy1 else (F_X8_look_88 S N) x0 x1 x2 x3 x4 (gr S x0 18) (9 : Int32) (1 : Int32) dy1) else none
theorem F_X8_look_71_s (S : ST) (N : Nat) (x0 : Nat) (x1 : Int32) (x2 : Int32) (x3 : Int32) (x4 : Int32) (y0 : Nat) (y1 : Int32) (y2 : Int32) (dy : DY) : F_X8_look_71 S N x0 x1 x2 x3 x4 y0 y1 y2 dy = (if ib y1 11 then bd (si dy y0 y1.toNatClampNeg y2) fun dy1 => (if x4 = 0 then (F_X8_look_88 S N) x0 x1 x2 x3 x4 (gr S x0 18) (9 : Int32) (0 : Int32) dy1 else (F_X8_look_88 S N) x0 x1 x2 x3 x4 (gr S x0 18) (9 : Int32) (1 : Int32) dy1) else none) := rfl
noncomputable def F_X8_look_47 (S : ST) (N : Nat) (x0 : Nat) (x1 : Int32) (x2 : Int32) (x3 : Int32) (y0 : Int32) (dy : DY) : Option DY := if ib (0 : Int32) 11 then bd (si dy (gr S x0 18) (0 : Int32).toNatClampNeg x3) fun dy2 => (if x3 = 0 then (F_X8_look_71 S N) x0 x1 x2 x3 y0 (gr S x0 18) (8 : Int32) (1 : Int32) dy2 else (F_X8_look_71 S N) x0 x1 x2 x3 y0 (gr S x0 18) (8 : Int32) (0 : Int32) dy2) else none
theorem F_X8_look_47_s (S : ST) (N : Nat) (x0 : Nat) (x1 : Int32) (x2 : Int32) (x3 : Int32) (y0 : Int32) (dy : DY) : F_X8_look_47 S N x0 x1 x2 x3 y0 dy = (if ib (0 : Int32) 11 then bd (si dy (gr S x0 18) (0 : Int32).toNatClampNeg x3) fun dy2 => (if x3 = 0 then (F_X8_look_71 S N) x0 x1 x2 x3 y0 (gr S x0 18) (8 : Int32) (1 : Int32) dy2 else (F_X8_look_71 S N) x0 x1 x2 x3 y0 (gr S x0 18) (8 : Int32) (0 : Int32) dy2) else none) := rfl
noncomputable def F_X8_look (S : ST) (N : Nat) (a0 : Nat) (a1 : Int32) (dy : DY) : Option DY := if ib a1 12 then (F_X8_freeSteps S N a0 a1 (gi dy (gr S (gr S a0 0) 7) a1.toNatClampNeg) (0 : Int32) dy).bind fun u3 => (if (gi u3.2 a0 8) = (-1 : Int32) then (F_X8_look_47 S N) a0 a1 (gi dy (gr S (gr S a0 0) 7) a1.toNatClampNeg) u3.1 (0 : Int32) u3.2 else if ib (gi u3.2 a0 8) 12 then (if (gi u3.2 (gr S (gr S a0 0) 7) (gi u3.2 a0 8).toNatClampNeg) = (gi dy (gr S (gr S a0 0) 7) a1.toNatClampNeg) then (F_X8_look_47 S N) a0 a1 (gi dy (gr S (gr S a0 0) 7) a1.toNatClampNeg) u3.1 (0 : Int32) u3.2 else (F_X8_look_47 S N) a0 a1 (gi dy (gr S (gr S a0 0) 7) a1.toNatClampNeg) u3.1 (1 : Int32) u3.2) else none) else none
theorem F_X8_look_s (S : ST) (N : Nat) (a0 : Nat) (a1 : Int32) (dy : DY) : F_X8_look S N a0 a1 dy = (if ib a1 12 then (F_X8_freeSteps S N a0 a1 (gi dy (gr S (gr S a0 0) 7) a1.toNatClampNeg) (0 : Int32) dy).bind fun u3 => (if (gi u3.2 a0 8) = (-1 : Int32) then (F_X8_look_47 S N) a0 a1 (gi dy (gr S (gr S a0 0) 7) a1.toNatClampNeg) u3.1 (0 : Int32) u3.2 else if ib (gi u3.2 a0 8) 12 then (if (gi u3.2 (gr S (gr S a0 0) 7) (gi u3.2 a0 8).toNatClampNeg) = (gi dy (gr S (gr S a0 0) 7) a1.toNatClampNeg) then (F_X8_look_47 S N) a0 a1 (gi dy (gr S (gr S a0 0) 7) a1.toNatClampNeg) u3.1 (0 : Int32) u3.2 else (F_X8_look_47 S N) a0 a1 (gi dy (gr S (gr S a0 0) 7) a1.toNatClampNeg) u3.1 (1 : Int32) u3.2) else none) else none) := rfl
noncomputable def F_X8_deed (S : ST) (N : Nat) (a0 : Nat) (a1 : Int32) (dy : DY) : Option (Int32 × DY) := if ib a1 12 then if ib a1 48 then (if (gi dy (gr S a0 9) a1.toNatClampNeg) = (-1 : Int32) then some ((5 : Int32), dy) else (if (gi dy (gr S (gr S a0 0) 8) a1.toNatClampNeg) < (1 : Int32) then some ((5 : Int32), dy) else if (gi dy (gr S (gr S a0 0) 8) a1.toNatClampNeg) = 0 then none else (if ((gi dy a0 2) - (gi dy a0 2) / (gi dy (gr S (gr S a0 0) 8) a1.toNatClampNeg) * (gi dy (gr S (gr S a0 0) 8) a1.toNatClampNeg)) = 0 then (F_X8_look S N a0 a1 dy).bind fun u4 => (F_X2_deedFor S N 11 (gr S a0 1) (gr S a0 18) u4).bind fun u8 => some (u8.1, u8.2) else some ((5 : Int32), dy)))) else none else none
theorem F_X8_deed_s (S : ST) (N : Nat) (a0 : Nat) (a1 : Int32) (dy : DY) : F_X8_deed S N a0 a1 dy = (if ib a1 12 then if ib a1 48 then (if (gi dy (gr S a0 9) a1.toNatClampNeg) = (-1 : Int32) then some ((5 : Int32), dy) else (if (gi dy (gr S (gr S a0 0) 8) a1.toNatClampNeg) < (1 : Int32) then some ((5 : Int32), dy) else if (gi dy (gr S (gr S a0 0) 8) a1.toNatClampNeg) = 0 then none else (if ((gi dy a0 2) - (gi dy a0 2) / (gi dy (gr S (gr S a0 0) 8) a1.toNatClampNeg) * (gi dy (gr S (gr S a0 0) 8) a1.toNatClampNeg)) = 0 then (F_X8_look S N a0 a1 dy).bind fun u4 => (F_X2_deedFor S N 11 (gr S a0 1) (gr S a0 18) u4).bind fun u8 => some (u8.1, u8.2) else some ((5 : Int32), dy)))) else none else none) := rfl
noncomputable def F_X8_danced_56 (S : ST) (N : Nat) (x0 : Nat) (x3 : Int32) (x4 : Int32) (y0 : Int32) (dy : DY) : Option (Int32 × DY) := (if y0 = 0 then some ((0 : Int32), dy) else if ib x3 48 then if ib x4 48 then (if (gi dy (gr S x0 10) x3.toNatClampNeg) = (gi dy (gr S x0 10) x4.toNatClampNeg) then if ib x3 48 then if ib x4 48 then (if (2 : Int32) < (if 0 ≤ ((gi dy (gr S x0 9) x3.toNatClampNeg) - (gi dy (gr S x0 9) x4.toNatClampNeg)) then ((gi dy (gr S x0 9) x3.toNatClampNeg) - (gi dy (gr S x0 9) x4.toNatClampNeg)) else 0 - ((gi dy (gr S x0 9) x3.toNatClampNeg) - (gi dy (gr S x0 9) x4.toNatClampNeg))) then some ((0 : Int32), dy) else some ((1 : Int32), dy)) else none else none else some ((0 : Int32), dy)) else none else none)
theorem F_X8_danced_56_s (S : ST) (N : Nat) (x0 : Nat) (x3 : Int32) (x4 : Int32) (y0 : Int32) (dy : DY) : F_X8_danced_56 S N x0 x3 x4 y0 dy = (if y0 = 0 then some ((0 : Int32), dy) else if ib x3 48 then if ib x4 48 then (if (gi dy (gr S x0 10) x3.toNatClampNeg) = (gi dy (gr S x0 10) x4.toNatClampNeg) then if ib x3 48 then if ib x4 48 then (if (2 : Int32) < (if 0 ≤ ((gi dy (gr S x0 9) x3.toNatClampNeg) - (gi dy (gr S x0 9) x4.toNatClampNeg)) then ((gi dy (gr S x0 9) x3.toNatClampNeg) - (gi dy (gr S x0 9) x4.toNatClampNeg)) else 0 - ((gi dy (gr S x0 9) x3.toNatClampNeg) - (gi dy (gr S x0 9) x4.toNatClampNeg))) then some ((0 : Int32), dy) else some ((1 : Int32), dy)) else none else none else some ((0 : Int32), dy)) else none else none) := rfl
noncomputable def F_X8_danced (S : ST) (N : Nat) (a0 : Nat) (a1 : Int32) (a2 : Int32) (dy : DY) : Option (Int32 × DY) := if ib a1 48 then (if (gi dy (gr S a0 10) a1.toNatClampNeg) = (-1 : Int32) then (F_X8_danced_56 S N) a0 ((12 : Int32) + a1) ((12 : Int32) + a2) (0 : Int32) dy else if ib a1 48 then if ib a2 48 then (if (gi dy (gr S a0 10) a1.toNatClampNeg) = (gi dy (gr S a0 10) a2.toNatClampNeg) then if ib a1 48 then if ib ((12 : Int32) + a1) 48 then (if (gi dy (gr S a0 10) a1.toNatClampNeg) = (gi dy (gr S a0 10) ((12 : Int32) + a1).toNatClampNeg) then (F_X8_danced_56 S N) a0 ((12 : Int32) + a1) ((12 : Int32) + a2) (0 : Int32) dy else (F_X8_danced_56 S N) a0 ((12 : Int32) + a1) ((12 : Int32) + a2) (1 : Int32) dy) else none else none else (F_X8_danced_56 S N) a0 ((12 : Int32) + a1) ((12 : Int32) + a2) (0 : Int32) dy) else none else none) else none
theorem F_X8_danced_s (S : ST) (N : Nat) (a0 : Nat) (a1 : Int32) (a2 : Int32) (dy : DY) : F_X8_danced S N a0 a1 a2 dy = (if ib a1 48 then (if (gi dy (gr S a0 10) a1.toNatClampNeg) = (-1 : Int32) then (F_X8_danced_56 S N) a0 ((12 : Int32) + a1) ((12 : Int32) + a2) (0 : Int32) dy else if ib a1 48 then if ib a2 48 then (if (gi dy (gr S a0 10) a1.toNatClampNeg) = (gi dy (gr S a0 10) a2.toNatClampNeg) then if ib a1 48 then if ib ((12 : Int32) + a1) 48 then (if (gi dy (gr S a0 10) a1.toNatClampNeg) = (gi dy (gr S a0 10) ((12 : Int32) + a1).toNatClampNeg) then (F_X8_danced_56 S N) a0 ((12 : Int32) + a1) ((12 : Int32) + a2) (0 : Int32) dy else (F_X8_danced_56 S N) a0 ((12 : Int32) + a1) ((12 : Int32) + a2) (1 : Int32) dy) else none else none else (F_X8_danced_56 S N) a0 ((12 : Int32) + a1) ((12 : Int32) + a2) (0 : Int32) dy) else none else none) else none) := rfl
noncomputable def F_X8_dancesNow_19 (S : ST) (N : Nat) (K4 : Nat → Int32 → Int32 → DY → Option (Int32 × DY)) : Nat → Nat → Int32 → Int32 → Int32 → DY → Option (Int32 × DY) := fun k => Nat.rec (motive := fun _ => Nat → Int32 → Int32 → Int32 → DY → Option (Int32 × DY)) (fun _ _ _ _ _ => none) (fun _ ih x0 x1 x2 x3 dy => (if (gi dy (gr S x0 0) 3) ≤ x3 then K4 x0 x1 (x2 + (1 : Int32)) dy else if ib x2 12 then if ib x3 12 then (if (gi dy (gr S (gr S x0 0) 7) x2.toNatClampNeg) = (gi dy (gr S (gr S x0 0) 7) x3.toNatClampNeg) then ih x0 x1 x2 (x3 + (1 : Int32)) dy else (F_X8_danced S N x0 x2 x3 dy).bind fun u6 => (if u6.1 = 0 then ih x0 x1 x2 (x3 + (1 : Int32)) u6.2 else ih x0 (x1 + (1 : Int32)) x2 (x3 + (1 : Int32)) u6.2)) else none else none)) k
theorem F_X8_dancesNow_19_s (S : ST) (N : Nat) (K4 : Nat → Int32 → Int32 → DY → Option (Int32 × DY)) (k : Nat) (x0 : Nat) (x1 : Int32) (x2 : Int32) (x3 : Int32) (dy : DY) : F_X8_dancesNow_19 S N K4 (k + 1) x0 x1 x2 x3 dy = (if (gi dy (gr S x0 0) 3) ≤ x3 then K4 x0 x1 (x2 + (1 : Int32)) dy else if ib x2 12 then if ib x3 12 then (if (gi dy (gr S (gr S x0 0) 7) x2.toNatClampNeg) = (gi dy (gr S (gr S x0 0) 7) x3.toNatClampNeg) then (F_X8_dancesNow_19 S N K4 k) x0 x1 x2 (x3 + (1 : Int32)) dy else (F_X8_danced S N x0 x2 x3 dy).bind fun u6 => (if u6.1 = 0 then (F_X8_dancesNow_19 S N K4 k) x0 x1 x2 (x3 + (1 : Int32)) u6.2 else (F_X8_dancesNow_19 S N K4 k) x0 (x1 + (1 : Int32)) x2 (x3 + (1 : Int32)) u6.2)) else none else none) := rfl
noncomputable def F_X8_dancesNow_4 (S : ST) (N : Nat) : Nat → Nat → Int32 → Int32 → DY → Option (Int32 × DY) := fun k => Nat.rec (motive := fun _ => Nat → Int32 → Int32 → DY → Option (Int32 × DY)) (fun _ _ _ _ => none) (fun _ ih x0 x1 x2 dy => (if (gi dy (gr S x0 0) 3) ≤ x2 then some (x1, dy) else (F_X8_dancesNow_19 S N ih N) x0 x1 x2 (x2 + (1 : Int32)) dy)) k
theorem F_X8_dancesNow_4_s (S : ST) (N : Nat) (k : Nat) (x0 : Nat) (x1 : Int32) (x2 : Int32) (dy : DY) : F_X8_dancesNow_4 S N (k + 1) x0 x1 x2 dy = (if (gi dy (gr S x0 0) 3) ≤ x2 then some (x1, dy) else (F_X8_dancesNow_19 S N (F_X8_dancesNow_4 S N k) N) x0 x1 x2 (x2 + (1 : Int32)) dy) := rfl
noncomputable def F_X8_dancesNow (S : ST) (N : Nat) (a0 : Nat) (dy : DY) : Option (Int32 × DY) := (F_X8_dancesNow_4 S N N) a0 (0 : Int32) (0 : Int32) dy
theorem F_X8_dancesNow_s (S : ST) (N : Nat) (a0 : Nat) (dy : DY) : F_X8_dancesNow S N a0 dy = ((F_X8_dancesNow_4 S N N) a0 (0 : Int32) (0 : Int32) dy) := rfl
noncomputable def F_X8_arrive (S : ST) (N : Nat) (a0 : Nat) (a1 : Int32) (dy : DY) : Option DY := if ib a1 48 then bd (si dy (gr S a0 9) a1.toNatClampNeg (-1 : Int32)) fun dy2 => if ib a1 48 then bd (si dy2 (gr S a0 10) a1.toNatClampNeg (-1 : Int32)) fun dy4 => if ib a1 12 then bd (si dy4 (gr S a0 11) a1.toNatClampNeg (gi dy4 a0 2)) fun dy6 => bd (si dy6 a0 5 ((gi dy6 a0 5) + (1 : Int32))) fun dy7 => some dy7 else none else none else none
theorem F_X8_arrive_s (S : ST) (N : Nat) (a0 : Nat) (a1 : Int32) (dy : DY) : F_X8_arrive S N a0 a1 dy = (if ib a1 48 then bd (si dy (gr S a0 9) a1.toNatClampNeg (-1 : Int32)) fun dy2 => if ib a1 48 then bd (si dy2 (gr S a0 10) a1.toNatClampNeg (-1 : Int32)) fun dy4 => if ib a1 12 then bd (si dy4 (gr S a0 11) a1.toNatClampNeg (gi dy4 a0 2)) fun dy6 => bd (si dy6 a0 5 ((gi dy6 a0 5) + (1 : Int32))) fun dy7 => some dy7 else none else none else none) := rfl
noncomputable def F_X8_isThere (S : ST) (N : Nat) (a0 : Nat) (a1 : Int32) (dy : DY) : Option (Int32 × DY) := (F_X4_has S N (gr S a0 0) a1 dy).bind fun u2 => (if u2.1 = 0 then some ((0 : Int32), u2.2) else if ib a1 48 then (if (gi u2.2 (gr S a0 9) a1.toNatClampNeg) = (-1 : Int32) then some ((0 : Int32), u2.2) else some ((1 : Int32), u2.2)) else none)
theorem F_X8_isThere_s (S : ST) (N : Nat) (a0 : Nat) (a1 : Int32) (dy : DY) : F_X8_isThere S N a0 a1 dy = ((F_X4_has S N (gr S a0 0) a1 dy).bind fun u2 => (if u2.1 = 0 then some ((0 : Int32), u2.2) else if ib a1 48 then (if (gi u2.2 (gr S a0 9) a1.toNatClampNeg) = (-1 : Int32) then some ((0 : Int32), u2.2) else some ((1 : Int32), u2.2)) else none)) := rfl
noncomputable def F_X8_passDoor_57 (S : ST) (N : Nat) (x0 : Nat) (x3 : Int32) (dy : DY) : Option DY := if ib (x3 + (4 : Int32)) 75 then if ib (x3 + (4 : Int32)) 75 then bd (si dy (gr S x0 19) (x3 + (4 : Int32)).toNatClampNeg ((gi dy (gr S x0 19) (x3 + (4 : Int32)).toNatClampNeg) + (1 : Int32))) fun dy2 => if ib (x3 + (2 : Int32)) 75 then if ib (x3 + (2 : Int32)) 75 then bd (si dy2 (gr S x0 19) (x3 + (2 : Int32)).toNatClampNeg ((gi dy2 (gr S x0 19) (x3 + (2 : Int32)).toNatClampNeg) + (1 : Int32))) fun dy4 => if ib (x3 + (1 : Int32)) 75 then if ib (x3 + (4 : Int32)) 75 then if ib (x3 + (1 : Int32)) 75 then bd (si dy4 (gr S x0 19) (x3 + (1 : Int32)).toNatClampNeg (if (gi dy4 (gr S x0 19) (x3 + (1 : Int32)).toNatClampNeg) < (gi dy4 (gr S x0 19) (x3 + (4 : Int32)).toNatClampNeg) then (gi dy4 (gr S x0 19) (x3 + (4 : Int32)).toNatClampNeg) else (gi dy4 (gr S x0 19) (x3 + (1 : Int32)).toNatClampNeg))) fun dy8 => some dy8 else none else none else none else none else none else none else none
theorem F_X8_passDoor_57_s (S : ST) (N : Nat) (x0 : Nat) (x3 : Int32) (dy : DY) : F_X8_passDoor_57 S N x0 x3 dy = (if ib (x3 + (4 : Int32)) 75 then if ib (x3 + (4 : Int32)) 75 then bd (si dy (gr S x0 19) (x3 + (4 : Int32)).toNatClampNeg ((gi dy (gr S x0 19) (x3 + (4 : Int32)).toNatClampNeg) + (1 : Int32))) fun dy2 => if ib (x3 + (2 : Int32)) 75 then if ib (x3 + (2 : Int32)) 75 then bd (si dy2 (gr S x0 19) (x3 + (2 : Int32)).toNatClampNeg ((gi dy2 (gr S x0 19) (x3 + (2 : Int32)).toNatClampNeg) + (1 : Int32))) fun dy4 => if ib (x3 + (1 : Int32)) 75 then if ib (x3 + (4 : Int32)) 75 then if ib (x3 + (1 : Int32)) 75 then bd (si dy4 (gr S x0 19) (x3 + (1 : Int32)).toNatClampNeg (if (gi dy4 (gr S x0 19) (x3 + (1 : Int32)).toNatClampNeg) < (gi dy4 (gr S x0 19) (x3 + (4 : Int32)).toNatClampNeg) then (gi dy4 (gr S x0 19) (x3 + (4 : Int32)).toNatClampNeg) else (gi dy4 (gr S x0 19) (x3 + (1 : Int32)).toNatClampNeg))) fun dy8 => some dy8 else none else none else none else none else none else none else none) := rfl
noncomputable def F_X8_passDoor (S : ST) (N : Nat) (a0 : Nat) (a1 : Int32) (a2 : Int32) (dy : DY) : Option DY := (if a1 < 0 then some dy else (if a1 < (15 : Int32) then if ib ((a1 * (5 : Int32)) + (3 : Int32)) 75 then (if (gi dy (gr S a0 19) ((a1 * (5 : Int32)) + (3 : Int32)).toNatClampNeg) = a2 then (F_X8_passDoor_57 S N) a0 (a1 * (5 : Int32)) dy else if ib ((a1 * (5 : Int32)) + (3 : Int32)) 75 then bd (si dy (gr S a0 19) ((a1 * (5 : Int32)) + (3 : Int32)).toNatClampNeg a2) fun dy3 => if ib ((a1 * (5 : Int32)) + (4 : Int32)) 75 then bd (si dy3 (gr S a0 19) ((a1 * (5 : Int32)) + (4 : Int32)).toNatClampNeg (0 : Int32)) fun dy5 => if ib ((a1 * (5 : Int32)) + (0 : Int32)) 75 then if ib ((a1 * (5 : Int32)) + (0 : Int32)) 75 then bd (si dy5 (gr S a0 19) ((a1 * (5 : Int32)) + (0 : Int32)).toNatClampNeg ((gi dy5 (gr S a0 19) ((a1 * (5 : Int32)) + (0 : Int32)).toNatClampNeg) + (1 : Int32))) fun dy7 => (F_X8_passDoor_57 S N) a0 (a1 * (5 : Int32)) dy7 else none else none else none else none) else none else some dy))
theorem F_X8_passDoor_s (S : ST) (N : Nat) (a0 : Nat) (a1 : Int32) (a2 : Int32) (dy : DY) : F_X8_passDoor S N a0 a1 a2 dy = (if a1 < 0 then some dy else (if a1 < (15 : Int32) then if ib ((a1 * (5 : Int32)) + (3 : Int32)) 75 then (if (gi dy (gr S a0 19) ((a1 * (5 : Int32)) + (3 : Int32)).toNatClampNeg) = a2 then (F_X8_passDoor_57 S N) a0 (a1 * (5 : Int32)) dy else if ib ((a1 * (5 : Int32)) + (3 : Int32)) 75 then bd (si dy (gr S a0 19) ((a1 * (5 : Int32)) + (3 : Int32)).toNatClampNeg a2) fun dy3 => if ib ((a1 * (5 : Int32)) + (4 : Int32)) 75 then bd (si dy3 (gr S a0 19) ((a1 * (5 : Int32)) + (4 : Int32)).toNatClampNeg (0 : Int32)) fun dy5 => if ib ((a1 * (5 : Int32)) + (0 : Int32)) 75 then if ib ((a1 * (5 : Int32)) + (0 : Int32)) 75 then bd (si dy5 (gr S a0 19) ((a1 * (5 : Int32)) + (0 : Int32)).toNatClampNeg ((gi dy5 (gr S a0 19) ((a1 * (5 : Int32)) + (0 : Int32)).toNatClampNeg) + (1 : Int32))) fun dy7 => (F_X8_passDoor_57 S N) a0 (a1 * (5 : Int32)) dy7 else none else none else none else none) else none else some dy)) := rfl
noncomputable def F_X8_whoIsOn_2 (S : ST) (N : Nat) : Nat → Nat → Int32 → Int32 → Int32 → DY → Option (Int32 × DY) := fun k => Nat.rec (motive := fun _ => Nat → Int32 → Int32 → Int32 → DY → Option (Int32 × DY)) (fun _ _ _ _ _ => none) (fun _ ih x0 x1 x2 x3 dy => (if (gi dy (gr S x0 0) 3) ≤ x3 then some ((-1 : Int32), dy) else if ib x3 48 then (if (gi dy (gr S x0 9) x3.toNatClampNeg) = x1 then if ib x3 48 then (if (gi dy (gr S x0 10) x3.toNatClampNeg) = x2 then (if x1 = (-1 : Int32) then ih x0 x1 x2 (x3 + (1 : Int32)) dy else some (x3, dy)) else ih x0 x1 x2 (x3 + (1 : Int32)) dy) else none else ih x0 x1 x2 (x3 + (1 : Int32)) dy) else none)) k
theorem F_X8_whoIsOn_2_s (S : ST) (N : Nat) (k : Nat) (x0 : Nat) (x1 : Int32) (x2 : Int32) (x3 : Int32) (dy : DY) : F_X8_whoIsOn_2 S N (k + 1) x0 x1 x2 x3 dy = (if (gi dy (gr S x0 0) 3) ≤ x3 then some ((-1 : Int32), dy) else if ib x3 48 then (if (gi dy (gr S x0 9) x3.toNatClampNeg) = x1 then if ib x3 48 then (if (gi dy (gr S x0 10) x3.toNatClampNeg) = x2 then (if x1 = (-1 : Int32) then (F_X8_whoIsOn_2 S N k) x0 x1 x2 (x3 + (1 : Int32)) dy else some (x3, dy)) else (F_X8_whoIsOn_2 S N k) x0 x1 x2 (x3 + (1 : Int32)) dy) else none else (F_X8_whoIsOn_2 S N k) x0 x1 x2 (x3 + (1 : Int32)) dy) else none) := rfl
noncomputable def F_X8_whoIsOn (S : ST) (N : Nat) (a0 : Nat) (a1 : Int32) (a2 : Int32) (dy : DY) : Option (Int32 × DY) := (F_X8_whoIsOn_2 S N N) a0 a1 a2 (0 : Int32) dy
theorem F_X8_whoIsOn_s (S : ST) (N : Nat) (a0 : Nat) (a1 : Int32) (a2 : Int32) (dy : DY) : F_X8_whoIsOn S N a0 a1 a2 dy = ((F_X8_whoIsOn_2 S N N) a0 a1 a2 (0 : Int32) dy) := rfl
noncomputable def F_X8_goes_201 (S : ST) (N : Nat) (x0 : Nat) (x1 : Int32) (dy : DY) : Option (Int32 × DY) := if ib x1 12 then if ib x1 12 then bd (si dy (gr S x0 14) x1.toNatClampNeg ((gi dy (gr S x0 14) x1.toNatClampNeg) + (1 : Int32))) fun dy2 => some ((0 : Int32), dy2) else none else none
theorem F_X8_goes_201_s (S : ST) (N : Nat) (x0 : Nat) (x1 : Int32) (dy : DY) : F_X8_goes_201 S N x0 x1 dy = (if ib x1 12 then if ib x1 12 then bd (si dy (gr S x0 14) x1.toNatClampNeg ((gi dy (gr S x0 14) x1.toNatClampNeg) + (1 : Int32))) fun dy2 => some ((0 : Int32), dy2) else none else none) := rfl
noncomputable def F_X8_goes_247 (S : ST) (N : Nat) (x0 : Nat) (x1 : Int32) (x5 : Int32) (x7 : Int32) (dy : DY) : Option (Int32 × DY) := if ib x1 48 then bd (si dy (gr S x0 9) x1.toNatClampNeg x5) fun dy2 => if ib x1 48 then bd (si dy2 (gr S x0 10) x1.toNatClampNeg x7) fun dy4 => some ((1 : Int32), dy4) else none else none
theorem F_X8_goes_247_s (S : ST) (N : Nat) (x0 : Nat) (x1 : Int32) (x5 : Int32) (x7 : Int32) (dy : DY) : F_X8_goes_247 S N x0 x1 x5 x7 dy = (if ib x1 48 then bd (si dy (gr S x0 9) x1.toNatClampNeg x5) fun dy2 => if ib x1 48 then bd (si dy2 (gr S x0 10) x1.toNatClampNeg x7) fun dy4 => some ((1 : Int32), dy4) else none else none) := rfl
noncomputable def F_X8_goes_170 (S : ST) (N : Nat) (x0 : Nat) (x1 : Int32) (x2 : Int32) (x4 : Int32) (x5 : Int32) (x7 : Int32) (x8 : Int32) (dy : DY) : Option (Int32 × DY) := (if x8 = 0 then (F_X4_isWall S N (gr S x0 0) x5 x7 dy).bind fun u2 => (if u2.1 = 0 then (F_X8_whoIsOn S N x0 x5 x7 u2.2).bind fun u4 => (if u4.1 = (-1 : Int32) then (if x4 = 0 then if ib x1 12 then if ib x1 12 then bd (si u4.2 (gr S x0 13) x1.toNatClampNeg ((gi u4.2 (gr S x0 13) x1.toNatClampNeg) + (1 : Int32))) fun dy7 => (F_X8_goes_247 S N) x0 x1 x5 x7 dy7 else none else none else if ib x1 48 then (F_X8_passDoor S N x0 (if (gi u4.2 (gr S x0 9) x1.toNatClampNeg) < x5 then (gi u4.2 (gr S x0 9) x1.toNatClampNeg) else x5) x2 u4.2).bind fun u9 => (F_X8_goes_247 S N) x0 x1 x5 x7 u9 else none) else (F_X8_goes_201 S N) x0 x1 u4.2) else (F_X8_goes_201 S N) x0 x1 u2.2) else (F_X8_goes_201 S N) x0 x1 dy)
theorem F_X8_goes_170_s (S : ST) (N : Nat) (x0 : Nat) (x1 : Int32) (x2 : Int32) (x4 : Int32) (x5 : Int32) (x7 : Int32) (x8 : Int32) (dy : DY) : F_X8_goes_170 S N x0 x1 x2 x4 x5 x7 x8 dy = (if x8 = 0 then (F_X4_isWall S N (gr S x0 0) x5 x7 dy).bind fun u2 => (if u2.1 = 0 then (F_X8_whoIsOn S N x0 x5 x7 u2.2).bind fun u4 => (if u4.1 = (-1 : Int32) then (if x4 = 0 then if ib x1 12 then if ib x1 12 then bd (si u4.2 (gr S x0 13) x1.toNatClampNeg ((gi u4.2 (gr S x0 13) x1.toNatClampNeg) + (1 : Int32))) fun dy7 => (F_X8_goes_247 S N) x0 x1 x5 x7 dy7 else none else none else if ib x1 48 then (F_X8_passDoor S N x0 (if (gi u4.2 (gr S x0 9) x1.toNatClampNeg) < x5 then (gi u4.2 (gr S x0 9) x1.toNatClampNeg) else x5) x2 u4.2).bind fun u9 => (F_X8_goes_247 S N) x0 x1 x5 x7 u9 else none) else (F_X8_goes_201 S N) x0 x1 u4.2) else (F_X8_goes_201 S N) x0 x1 u2.2) else (F_X8_goes_201 S N) x0 x1 dy) := rfl
noncomputable def F_X8_goes_151 (S : ST) (N : Nat) (x0 : Nat) (x1 : Int32) (x2 : Int32) (x4 : Int32) (x5 : Int32) (x7 : Int32) (y0 : Int32) (dy : DY) : Option (Int32 × DY) := (if x4 = 0 then (F_X8_goes_170 S N) x0 x1 x2 x4 x5 x7 y0 dy else (if y0 = 0 then (F_X8_goes_170 S N) x0 x1 x2 x4 x5 x7 y0 dy else (F_X8_arrive S N x0 x1 dy).bind fun u1 => some ((1 : Int32), u1)))
theorem F_X8_goes_151_s (S : ST) (N : Nat) (x0 : Nat) (x1 : Int32) (x2 : Int32) (x4 : Int32) (x5 : Int32) (x7 : Int32) (y0 : Int32) (dy : DY) : F_X8_goes_151 S N x0 x1 x2 x4 x5 x7 y0 dy = (if x4 = 0 then (F_X8_goes_170 S N) x0 x1 x2 x4 x5 x7 y0 dy else (if y0 = 0 then (F_X8_goes_170 S N) x0 x1 x2 x4 x5 x7 y0 dy else (F_X8_arrive S N x0 x1 dy).bind fun u1 => some ((1 : Int32), u1))) := rfl
noncomputable def F_X8_goes_130 (S : ST) (N : Nat) (x0 : Nat) (x1 : Int32) (x2 : Int32) (x4 : Int32) (x5 : Int32) (y0 : Int32) (dy : DY) : Option (Int32 × DY) := (F_X4_isInside S N (gr S x0 0) x5 y0 dy).bind fun u2 => (if u2.1 = 0 then (F_X8_goes_151 S N) x0 x1 x2 x4 x5 y0 (1 : Int32) u2.2 else (F_X8_goes_151 S N) x0 x1 x2 x4 x5 y0 (0 : Int32) u2.2)
theorem F_X8_goes_130_s (S : ST) (N : Nat) (x0 : Nat) (x1 : Int32) (x2 : Int32) (x4 : Int32) (x5 : Int32) (y0 : Int32) (dy : DY) : F_X8_goes_130 S N x0 x1 x2 x4 x5 y0 dy = ((F_X4_isInside S N (gr S x0 0) x5 y0 dy).bind fun u2 => (if u2.1 = 0 then (F_X8_goes_151 S N) x0 x1 x2 x4 x5 y0 (1 : Int32) u2.2 else (F_X8_goes_151 S N) x0 x1 x2 x4 x5 y0 (0 : Int32) u2.2)) := rfl
noncomputable def F_X8_goes_105 (S : ST) (N : Nat) (x0 : Nat) (x1 : Int32) (x2 : Int32) (x4 : Int32) (x5 : Int32) (y0 : Int32) (dy : DY) : Option (Int32 × DY) := (if x4 = 0 then if ib x1 48 then (F_X8_goes_130 S N) x0 x1 x2 x4 x5 ((gi dy (gr S x0 10) x1.toNatClampNeg) + y0) dy else none else if ib x1 48 then (F_X8_goes_130 S N) x0 x1 x2 x4 x5 (gi dy (gr S x0 10) x1.toNatClampNeg) dy else none)
theorem F_X8_goes_105_s (S : ST) (N : Nat) (x0 : Nat) (x1 : Int32) (x2 : Int32) (x4 : Int32) (x5 : Int32) (y0 : Int32) (dy : DY) : F_X8_goes_105 S N x0 x1 x2 x4 x5 y0 dy = (if x4 = 0 then if ib x1 48 then (F_X8_goes_130 S N) x0 x1 x2 x4 x5 ((gi dy (gr S x0 10) x1.toNatClampNeg) + y0) dy else none else if ib x1 48 then (F_X8_goes_130 S N) x0 x1 x2 x4 x5 (gi dy (gr S x0 10) x1.toNatClampNeg) dy else none) := rfl
noncomputable def F_X8_goes_92 (S : ST) (N : Nat) (x0 : Nat) (x1 : Int32) (x2 : Int32) (x3 : Int32) (x4 : Int32) (y0 : Int32) (dy : DY) : Option (Int32 × DY) := (if x3 = (1 : Int32) then (F_X8_goes_105 S N) x0 x1 x2 x4 y0 x2 dy else (F_X8_goes_105 S N) x0 x1 x2 x4 y0 (-x2) dy)
theorem F_X8_goes_92_s (S : ST) (N : Nat) (x0 : Nat) (x1 : Int32) (x2 : Int32) (x3 : Int32) (x4 : Int32) (y0 : Int32) (dy : DY) : F_X8_goes_92 S N x0 x1 x2 x3 x4 y0 dy = (if x3 = (1 : Int32) then (F_X8_goes_105 S N) x0 x1 x2 x4 y0 x2 dy else (F_X8_goes_105 S N) x0 x1 x2 x4 y0 (-x2) dy) := rfl
noncomputable def F_X8_goes_68 (S : ST) (N : Nat) (x0 : Nat) (x1 : Int32) (x2 : Int32) (x3 : Int32) (y0 : Int32) (dy : DY) : Option (Int32 × DY) := (if y0 = 0 then if ib x1 48 then (F_X8_goes_92 S N) x0 x1 x2 x3 y0 (gi dy (gr S x0 9) x1.toNatClampNeg) dy else none else if ib x1 48 then (F_X8_goes_92 S N) x0 x1 x2 x3 y0 ((gi dy (gr S x0 9) x1.toNatClampNeg) + x2) dy else none)
theorem F_X8_goes_68_s (S : ST) (N : Nat) (x0 : Nat) (x1 : Int32) (x2 : Int32) (x3 : Int32) (y0 : Int32) (dy : DY) : F_X8_goes_68 S N x0 x1 x2 x3 y0 dy = (if y0 = 0 then if ib x1 48 then (F_X8_goes_92 S N) x0 x1 x2 x3 y0 (gi dy (gr S x0 9) x1.toNatClampNeg) dy else none else if ib x1 48 then (F_X8_goes_92 S N) x0 x1 x2 x3 y0 ((gi dy (gr S x0 9) x1.toNatClampNeg) + x2) dy else none) := rfl
noncomputable def F_X8_goes_58 (S : ST) (N : Nat) (x0 : Nat) (x1 : Int32) (x2 : Int32) (y0 : Int32) (dy : DY) : Option (Int32 × DY) := (if y0 = 0 then (F_X8_goes_68 S N) x0 x1 x2 y0 (1 : Int32) dy else (F_X8_goes_68 S N) x0 x1 x2 y0 (0 : Int32) dy)
theorem F_X8_goes_58_s (S : ST) (N : Nat) (x0 : Nat) (x1 : Int32) (x2 : Int32) (y0 : Int32) (dy : DY) : F_X8_goes_58 S N x0 x1 x2 y0 dy = (if y0 = 0 then (F_X8_goes_68 S N) x0 x1 x2 y0 (1 : Int32) dy else (F_X8_goes_68 S N) x0 x1 x2 y0 (0 : Int32) dy) := rfl
noncomputable def F_X8_goes (S : ST) (N : Nat) (a0 : Nat) (a1 : Int32) (dy : DY) : Option (Int32 × DY) := (F_X8_isThere S N a0 a1 dy).bind fun u1 => (if u1.1 = 0 then some ((0 : Int32), u1.2) else if ib a1 12 then (if (gi u1.2 (gr S a0 16) a1.toNatClampNeg) = (5 : Int32) then some ((0 : Int32), u1.2) else if ib a1 12 then if ib a1 12 then (if (gi u1.2 (gr S a0 16) a1.toNatClampNeg) = (3 : Int32) then if ib a1 12 then (F_X8_goes_58 S N) a0 a1 (gi u1.2 (gr S (gr S a0 0) 7) a1.toNatClampNeg) (gi u1.2 (gr S (gr S a0 0) 11) a1.toNatClampNeg) u1.2 else none else if ib a1 12 then (F_X8_goes_58 S N) a0 a1 (gi u1.2 (gr S (gr S a0 0) 7) a1.toNatClampNeg) (gi u1.2 (gr S a0 16) a1.toNatClampNeg) u1.2 else none) else none else none) else none)
theorem F_X8_goes_s (S : ST) (N : Nat) (a0 : Nat) (a1 : Int32) (dy : DY) : F_X8_goes S N a0 a1 dy = ((F_X8_isThere S N a0 a1 dy).bind fun u1 => (if u1.1 = 0 then some ((0 : Int32), u1.2) else if ib a1 12 then (if (gi u1.2 (gr S a0 16) a1.toNatClampNeg) = (5 : Int32) then some ((0 : Int32), u1.2) else if ib a1 12 then if ib a1 12 then (if (gi u1.2 (gr S a0 16) a1.toNatClampNeg) = (3 : Int32) then if ib a1 12 then (F_X8_goes_58 S N) a0 a1 (gi u1.2 (gr S (gr S a0 0) 7) a1.toNatClampNeg) (gi u1.2 (gr S (gr S a0 0) 11) a1.toNatClampNeg) u1.2 else none else if ib a1 12 then (F_X8_goes_58 S N) a0 a1 (gi u1.2 (gr S (gr S a0 0) 7) a1.toNatClampNeg) (gi u1.2 (gr S a0 16) a1.toNatClampNeg) u1.2 else none) else none else none) else none)) := rfl
noncomputable def F_X8_move_138 (S : ST) (N : Nat) (x0 : Nat) (x1 : Int32) (y0 : Nat) (y1 : Int32) (dy : DY) : Option (Int32 × DY) := bd (si dy y0 7 y1) fun dy1 => bd (si dy1 x0 2 ((gi dy1 x0 2) + (1 : Int32))) fun dy2 => some (x1, dy2)
theorem F_X8_move_138_s (S : ST) (N : Nat) (x0 : Nat) (x1 : Int32) (y0 : Nat) (y1 : Int32) (dy : DY) : F_X8_move_138 S N x0 x1 y0 y1 dy = (bd (si dy y0 7 y1) fun dy1 => bd (si dy1 x0 2 ((gi dy1 x0 2) + (1 : Int32))) fun dy2 => some (x1, dy2)) := rfl
noncomputable def F_X8_move_36 (S : ST) (N : Nat) : Nat → Nat → Int32 → Int32 → DY → Option (Int32 × DY) := fun k => Nat.rec (motive := fun _ => Nat → Int32 → Int32 → DY → Option (Int32 × DY)) (fun _ _ _ _ => none) (fun _ ih x0 x1 x2 dy => (if (gi dy (gr S x0 0) 3) ≤ x2 then (F_X8_dancesNow S N x0 dy).bind fun u2 => bd (si u2.2 x0 6 ((gi dy x0 6) + u2.1)) fun dy4 => (if x1 ≤ 0 then (F_X8_move_138 S N) x0 x1 x0 ((gi dy4 x0 7) + (1 : Int32)) dy4 else (F_X8_move_138 S N) x0 x1 x0 (0 : Int32) dy4) else if ib x2 12 then (F_X8_goes S N x0 (gi dy (gr S x0 17) x2.toNatClampNeg) dy).bind fun u6 => (if u6.1 = 0 then if ib (gi dy (gr S x0 17) x2.toNatClampNeg) 12 then if ib (gi dy (gr S x0 17) x2.toNatClampNeg) 12 then bd (si u6.2 (gr S x0 15) (gi dy (gr S x0 17) x2.toNatClampNeg).toNatClampNeg (if ((gi u6.2 (gr S x0 15) (gi dy (gr S x0 17) x2.toNatClampNeg).toNatClampNeg) + (1 : Int32)) < (99 : Int32) then ((gi u6.2 (gr S x0 15) (gi dy (gr S x0 17) x2.toNatClampNeg).toNatClampNeg) + (1 : Int32)) else (99 : Int32))) fun dy10 => ih x0 x1 (x2 + (1 : Int32)) dy10 else none else none else if ib (gi dy (gr S x0 17) x2.toNatClampNeg) 12 then if ib (gi dy (gr S x0 17) x2.toNatClampNeg) 12 then bd (si u6.2 (gr S x0 12) (gi dy (gr S x0 17) x2.toNatClampNeg).toNatClampNeg ((gi u6.2 (gr S x0 12) (gi dy (gr S x0 17) x2.toNatClampNeg).toNatClampNeg) + (1 : Int32))) fun dy12 => if ib (gi dy (gr S x0 17) x2.toNatClampNeg) 12 then bd (si dy12 (gr S x0 15) (gi dy (gr S x0 17) x2.toNatClampNeg).toNatClampNeg (0 : Int32)) fun dy14 => ih x0 (x1 + (1 : Int32)) (x2 + (1 : Int32)) dy14 else none else none else none) else none)) k
theorem F_X8_move_36_s (S : ST) (N : Nat) (k : Nat) (x0 : Nat) (x1 : Int32) (x2 : Int32) (dy : DY) : F_X8_move_36 S N (k + 1) x0 x1 x2 dy = (if (gi dy (gr S x0 0) 3) ≤ x2 then (F_X8_dancesNow S N x0 dy).bind fun u2 => bd (si u2.2 x0 6 ((gi dy x0 6) + u2.1)) fun dy4 => (if x1 ≤ 0 then (F_X8_move_138 S N) x0 x1 x0 ((gi dy4 x0 7) + (1 : Int32)) dy4 else (F_X8_move_138 S N) x0 x1 x0 (0 : Int32) dy4) else if ib x2 12 then (F_X8_goes S N x0 (gi dy (gr S x0 17) x2.toNatClampNeg) dy).bind fun u6 => (if u6.1 = 0 then if ib (gi dy (gr S x0 17) x2.toNatClampNeg) 12 then if ib (gi dy (gr S x0 17) x2.toNatClampNeg) 12 then bd (si u6.2 (gr S x0 15) (gi dy (gr S x0 17) x2.toNatClampNeg).toNatClampNeg (if ((gi u6.2 (gr S x0 15) (gi dy (gr S x0 17) x2.toNatClampNeg).toNatClampNeg) + (1 : Int32)) < (99 : Int32) then ((gi u6.2 (gr S x0 15) (gi dy (gr S x0 17) x2.toNatClampNeg).toNatClampNeg) + (1 : Int32)) else (99 : Int32))) fun dy10 => (F_X8_move_36 S N k) x0 x1 (x2 + (1 : Int32)) dy10 else none else none else if ib (gi dy (gr S x0 17) x2.toNatClampNeg) 12 then if ib (gi dy (gr S x0 17) x2.toNatClampNeg) 12 then bd (si u6.2 (gr S x0 12) (gi dy (gr S x0 17) x2.toNatClampNeg).toNatClampNeg ((gi u6.2 (gr S x0 12) (gi dy (gr S x0 17) x2.toNatClampNeg).toNatClampNeg) + (1 : Int32))) fun dy12 => if ib (gi dy (gr S x0 17) x2.toNatClampNeg) 12 then bd (si dy12 (gr S x0 15) (gi dy (gr S x0 17) x2.toNatClampNeg).toNatClampNeg (0 : Int32)) fun dy14 => (F_X8_move_36 S N k) x0 (x1 + (1 : Int32)) (x2 + (1 : Int32)) dy14 else none else none else none) else none) := rfl
noncomputable def F_X8_move (S : ST) (N : Nat) (a0 : Nat) (dy : DY) : Option (Int32 × DY) := if ic (0 : Int32) (36 : Int32) 48 ∧ ic (12 : Int32) (36 : Int32) 48 then bd (cpi dy (gr S a0 9) (gr S a0 9) (0 : Int32).toNatClampNeg (12 : Int32).toNatClampNeg (36 : Int32).toNatClampNeg) fun dy3 => if ic (0 : Int32) (36 : Int32) 48 ∧ ic (12 : Int32) (36 : Int32) 48 then bd (cpi dy3 (gr S a0 10) (gr S a0 10) (0 : Int32).toNatClampNeg (12 : Int32).toNatClampNeg (36 : Int32).toNatClampNeg) fun dy7 => (F_X8_move_36 S N N) a0 (0 : Int32) (0 : Int32) dy7 else none else none
theorem F_X8_move_s (S : ST) (N : Nat) (a0 : Nat) (dy : DY) : F_X8_move S N a0 dy = (if ic (0 : Int32) (36 : Int32) 48 ∧ ic (12 : Int32) (36 : Int32) 48 then bd (cpi dy (gr S a0 9) (gr S a0 9) (0 : Int32).toNatClampNeg (12 : Int32).toNatClampNeg (36 : Int32).toNatClampNeg) fun dy3 => if ic (0 : Int32) (36 : Int32) 48 ∧ ic (12 : Int32) (36 : Int32) 48 then bd (cpi dy3 (gr S a0 10) (gr S a0 10) (0 : Int32).toNatClampNeg (12 : Int32).toNatClampNeg (36 : Int32).toNatClampNeg) fun dy7 => (F_X8_move_36 S N N) a0 (0 : Int32) (0 : Int32) dy7 else none else none) := rfl
noncomputable def F_X8_needsLot (S : ST) (N : Nat) (a0 : Nat) (a1 : Int32) (dy : DY) : Option (Int32 × DY) := if ib a1 12 then (if (gi dy (gr S a0 16) a1.toNatClampNeg) = (4 : Int32) then some ((1 : Int32), dy) else if ib a1 12 then (if (gi dy (gr S a0 16) a1.toNatClampNeg) = (3 : Int32) then if ib a1 12 then (if (gi dy (gr S (gr S a0 0) 11) a1.toNatClampNeg) = 0 then some ((1 : Int32), dy) else some ((0 : Int32), dy)) else none else some ((0 : Int32), dy)) else none) else none
theorem F_X8_needsLot_s (S : ST) (N : Nat) (a0 : Nat) (a1 : Int32) (dy : DY) : F_X8_needsLot S N a0 a1 dy = (if ib a1 12 then (if (gi dy (gr S a0 16) a1.toNatClampNeg) = (4 : Int32) then some ((1 : Int32), dy) else if ib a1 12 then (if (gi dy (gr S a0 16) a1.toNatClampNeg) = (3 : Int32) then if ib a1 12 then (if (gi dy (gr S (gr S a0 0) 11) a1.toNatClampNeg) = 0 then some ((1 : Int32), dy) else some ((0 : Int32), dy)) else none else some ((0 : Int32), dy)) else none) else none) := rfl
noncomputable def F_X8_sortByHaste_11 (S : ST) (N : Nat) (K5 : Nat → Int32 → Int32 → DY → Option DY) : Nat → Nat → Int32 → Int32 → Int32 → DY → Option DY := fun k => Nat.rec (motive := fun _ => Nat → Int32 → Int32 → Int32 → DY → Option DY) (fun _ _ _ _ _ => none) (fun _ ih x0 x1 x2 x3 dy => (if (gi dy (gr S x0 0) 3) ≤ x3 then K5 x0 x1 (x2 + (-1 : Int32)) dy else (if (12 : Int32) ≤ x1 then K5 x0 x1 (x2 + (-1 : Int32)) dy else if ib x3 12 then (if (gi dy (gr S (gr S x0 0) 10) x3.toNatClampNeg) = x2 then if ib x1 12 then bd (si dy (gr S x0 17) x1.toNatClampNeg x3) fun dy5 => ih x0 (x1 + (1 : Int32)) x2 (x3 + (1 : Int32)) dy5 else none else ih x0 x1 x2 (x3 + (1 : Int32)) dy) else none))) k
theorem F_X8_sortByHaste_11_s (S : ST) (N : Nat) (K5 : Nat → Int32 → Int32 → DY → Option DY) (k : Nat) (x0 : Nat) (x1 : Int32) (x2 : Int32) (x3 : Int32) (dy : DY) : F_X8_sortByHaste_11 S N K5 (k + 1) x0 x1 x2 x3 dy = (if (gi dy (gr S x0 0) 3) ≤ x3 then K5 x0 x1 (x2 + (-1 : Int32)) dy else (if (12 : Int32) ≤ x1 then K5 x0 x1 (x2 + (-1 : Int32)) dy else if ib x3 12 then (if (gi dy (gr S (gr S x0 0) 10) x3.toNatClampNeg) = x2 then if ib x1 12 then bd (si dy (gr S x0 17) x1.toNatClampNeg x3) fun dy5 => (F_X8_sortByHaste_11 S N K5 k) x0 (x1 + (1 : Int32)) x2 (x3 + (1 : Int32)) dy5 else none else (F_X8_sortByHaste_11 S N K5 k) x0 x1 x2 (x3 + (1 : Int32)) dy) else none)) := rfl
noncomputable def F_X8_sortByHaste_5 (S : ST) (N : Nat) : Nat → Nat → Int32 → Int32 → DY → Option DY := fun k => Nat.rec (motive := fun _ => Nat → Int32 → Int32 → DY → Option DY) (fun _ _ _ _ => none) (fun _ ih x0 x1 x2 dy => (if x2 < 0 then some dy else (F_X8_sortByHaste_11 S N ih N) x0 x1 x2 (0 : Int32) dy)) k
theorem F_X8_sortByHaste_5_s (S : ST) (N : Nat) (k : Nat) (x0 : Nat) (x1 : Int32) (x2 : Int32) (dy : DY) : F_X8_sortByHaste_5 S N (k + 1) x0 x1 x2 dy = (if x2 < 0 then some dy else (F_X8_sortByHaste_11 S N (F_X8_sortByHaste_5 S N k) N) x0 x1 x2 (0 : Int32) dy) := rfl
noncomputable def F_X8_sortByHaste (S : ST) (N : Nat) (a0 : Nat) (dy : DY) : Option DY := (F_X8_sortByHaste_5 S N N) a0 (0 : Int32) (9 : Int32) dy
theorem F_X8_sortByHaste_s (S : ST) (N : Nat) (a0 : Nat) (dy : DY) : F_X8_sortByHaste S N a0 dy = ((F_X8_sortByHaste_5 S N N) a0 (0 : Int32) (9 : Int32) dy) := rfl
noncomputable def F_X8_begin_32 (S : ST) (N : Nat) : Nat → Nat → Int32 → DY → Option DY := fun k => Nat.rec (motive := fun _ => Nat → Int32 → DY → Option DY) (fun _ _ _ => none) (fun _ ih x0 x2 dy => (if (4 : Int32) ≤ x2 then (F_J7_fill_53178 S N 12 (gr S x0 11) (-1 : Int32) dy).bind fun u2 => (F_J7_fill_53178 S N 12 (gr S x0 12) (0 : Int32) u2).bind fun u5 => (F_J7_fill_53178 S N 12 (gr S x0 13) (0 : Int32) u5).bind fun u8 => (F_J7_fill_53178 S N 12 (gr S x0 14) (0 : Int32) u8).bind fun u11 => (F_J7_fill_53178 S N 12 (gr S x0 15) (0 : Int32) u11).bind fun u14 => (F_J7_fill_53178 S N 75 (gr S x0 19) (0 : Int32) u14).bind fun u17 => (F_X8_sortByHaste S N x0 u17).bind fun u19 => some u19 else if ic (0 : Int32) (12 : Int32) 12 ∧ ic (x2 * (12 : Int32)) (12 : Int32) 48 then bd (cpi dy (gr S (gr S x0 0) 5) (gr S x0 9) (0 : Int32).toNatClampNeg (x2 * (12 : Int32)).toNatClampNeg (12 : Int32).toNatClampNeg) fun dy24 => if ic (0 : Int32) (12 : Int32) 12 ∧ ic (x2 * (12 : Int32)) (12 : Int32) 48 then bd (cpi dy24 (gr S (gr S x0 0) 6) (gr S x0 10) (0 : Int32).toNatClampNeg (x2 * (12 : Int32)).toNatClampNeg (12 : Int32).toNatClampNeg) fun dy29 => ih x0 (x2 + (1 : Int32)) dy29 else none else none)) k
theorem F_X8_begin_32_s (S : ST) (N : Nat) (k : Nat) (x0 : Nat) (x2 : Int32) (dy : DY) : F_X8_begin_32 S N (k + 1) x0 x2 dy = (if (4 : Int32) ≤ x2 then (F_J7_fill_53178 S N 12 (gr S x0 11) (-1 : Int32) dy).bind fun u2 => (F_J7_fill_53178 S N 12 (gr S x0 12) (0 : Int32) u2).bind fun u5 => (F_J7_fill_53178 S N 12 (gr S x0 13) (0 : Int32) u5).bind fun u8 => (F_J7_fill_53178 S N 12 (gr S x0 14) (0 : Int32) u8).bind fun u11 => (F_J7_fill_53178 S N 12 (gr S x0 15) (0 : Int32) u11).bind fun u14 => (F_J7_fill_53178 S N 75 (gr S x0 19) (0 : Int32) u14).bind fun u17 => (F_X8_sortByHaste S N x0 u17).bind fun u19 => some u19 else if ic (0 : Int32) (12 : Int32) 12 ∧ ic (x2 * (12 : Int32)) (12 : Int32) 48 then bd (cpi dy (gr S (gr S x0 0) 5) (gr S x0 9) (0 : Int32).toNatClampNeg (x2 * (12 : Int32)).toNatClampNeg (12 : Int32).toNatClampNeg) fun dy24 => if ic (0 : Int32) (12 : Int32) 12 ∧ ic (x2 * (12 : Int32)) (12 : Int32) 48 then bd (cpi dy24 (gr S (gr S x0 0) 6) (gr S x0 10) (0 : Int32).toNatClampNeg (x2 * (12 : Int32)).toNatClampNeg (12 : Int32).toNatClampNeg) fun dy29 => (F_X8_begin_32 S N k) x0 (x2 + (1 : Int32)) dy29 else none else none) := rfl
noncomputable def F_X8_begin (S : ST) (N : Nat) (a0 : Nat) (a1 : Int32) (dy : DY) : Option DY := bd (si dy a0 3 a1) fun dy1 => bd (si dy1 a0 2 (0 : Int32)) fun dy2 => bd (si dy2 a0 4 (0 : Int32)) fun dy3 => bd (si dy3 a0 5 (0 : Int32)) fun dy4 => bd (si dy4 a0 6 (0 : Int32)) fun dy5 => bd (si dy5 a0 7 (0 : Int32)) fun dy6 => (F_X8_begin_32 S N N) a0 (0 : Int32) dy6
theorem F_X8_begin_s (S : ST) (N : Nat) (a0 : Nat) (a1 : Int32) (dy : DY) : F_X8_begin S N a0 a1 dy = (bd (si dy a0 3 a1) fun dy1 => bd (si dy1 a0 2 (0 : Int32)) fun dy2 => bd (si dy2 a0 4 (0 : Int32)) fun dy3 => bd (si dy3 a0 5 (0 : Int32)) fun dy4 => bd (si dy4 a0 6 (0 : Int32)) fun dy5 => bd (si dy5 a0 7 (0 : Int32)) fun dy6 => (F_X8_begin_32 S N N) a0 (0 : Int32) dy6) := rfl
noncomputable def F_X8_doorOf_24 (S : ST) (N : Nat) (x0 : Nat) (x1 : Int32) (x2 : Int32) (y0 : Int32) (dy : DY) : Option (Int32 × DY) := (if y0 = 0 then some ((-1 : Int32), dy) else if ib ((x1 * (5 : Int32)) + x2) 75 then some ((gi dy (gr S x0 19) ((x1 * (5 : Int32)) + x2).toNatClampNeg), dy) else none)
theorem F_X8_doorOf_24_s (S : ST) (N : Nat) (x0 : Nat) (x1 : Int32) (x2 : Int32) (y0 : Int32) (dy : DY) : F_X8_doorOf_24 S N x0 x1 x2 y0 dy = (if y0 = 0 then some ((-1 : Int32), dy) else if ib ((x1 * (5 : Int32)) + x2) 75 then some ((gi dy (gr S x0 19) ((x1 * (5 : Int32)) + x2).toNatClampNeg), dy) else none) := rfl
noncomputable def F_X8_doorOf (S : ST) (N : Nat) (a0 : Nat) (a1 : Int32) (a2 : Int32) (dy : DY) : Option (Int32 × DY) := (if a1 < 0 then (F_X8_doorOf_24 S N) a0 a1 a2 (0 : Int32) dy else (if (15 : Int32) ≤ a1 then (F_X8_doorOf_24 S N) a0 a1 a2 (0 : Int32) dy else (if a2 < 0 then (F_X8_doorOf_24 S N) a0 a1 a2 (0 : Int32) dy else (if (2 : Int32) < a2 then (F_X8_doorOf_24 S N) a0 a1 a2 (0 : Int32) dy else (F_X8_doorOf_24 S N) a0 a1 a2 (1 : Int32) dy))))
theorem F_X8_doorOf_s (S : ST) (N : Nat) (a0 : Nat) (a1 : Int32) (a2 : Int32) (dy : DY) : F_X8_doorOf S N a0 a1 a2 dy = (if a1 < 0 then (F_X8_doorOf_24 S N) a0 a1 a2 (0 : Int32) dy else (if (15 : Int32) ≤ a1 then (F_X8_doorOf_24 S N) a0 a1 a2 (0 : Int32) dy else (if a2 < 0 then (F_X8_doorOf_24 S N) a0 a1 a2 (0 : Int32) dy else (if (2 : Int32) < a2 then (F_X8_doorOf_24 S N) a0 a1 a2 (0 : Int32) dy else (F_X8_doorOf_24 S N) a0 a1 a2 (1 : Int32) dy)))) := rfl
noncomputable def F_X8_draw (S : ST) (N : Nat) (a0 : Nat) (dy : DY) : Option (Int32 × DY) := bd (si dy a0 3 (((gi dy a0 3) * (1103515245 : Int32)) + (12345 : Int32))) fun dy1 => bd (si dy1 a0 4 ((gi dy1 a0 4) + (1 : Int32))) fun dy2 => (if (((gi dy2 a0 3) >>> ((16 : Int32) &&& 31)) &&& (1 : Int32)) = 0 then some ((1 : Int32), dy2) else some ((0 : Int32), dy2))
theorem F_X8_draw_s (S : ST) (N : Nat) (a0 : Nat) (dy : DY) : F_X8_draw S N a0 dy = (bd (si dy a0 3 (((gi dy a0 3) * (1103515245 : Int32)) + (12345 : Int32))) fun dy1 => bd (si dy1 a0 4 ((gi dy1 a0 4) + (1 : Int32))) fun dy2 => (if (((gi dy2 a0 3) >>> ((16 : Int32) &&& 31)) &&& (1 : Int32)) = 0 then some ((1 : Int32), dy2) else some ((0 : Int32), dy2))) := rfl
noncomputable def F_X8_wayOfRow_52 (S : ST) (N : Nat) (K4 : Nat → Int32 → Int32 → Int32 → DY → Option (Int32 × DY)) (x0 : Nat) (x1 : Int32) (x3 : Int32) (dy : DY) : Option (Int32 × DY) := if ib x3 12 then K4 x0 x1 (gi dy (gr S (gr S x0 0) 7) x3.toNatClampNeg) (x3 + (1 : Int32)) dy else none
theorem F_X8_wayOfRow_52_s (S : ST) (N : Nat) (K4 : Nat → Int32 → Int32 → Int32 → DY → Option (Int32 × DY)) (x0 : Nat) (x1 : Int32) (x3 : Int32) (dy : DY) : F_X8_wayOfRow_52 S N K4 x0 x1 x3 dy = (if ib x3 12 then K4 x0 x1 (gi dy (gr S (gr S x0 0) 7) x3.toNatClampNeg) (x3 + (1 : Int32)) dy else none) := rfl
noncomputable def F_X8_wayOfRow_4 (S : ST) (N : Nat) : Nat → Nat → Int32 → Int32 → Int32 → DY → Option (Int32 × DY) := fun k => Nat.rec (motive := fun _ => Nat → Int32 → Int32 → Int32 → DY → Option (Int32 × DY)) (fun _ _ _ _ _ => none) (fun _ ih x0 x1 x2 x3 dy => (if (gi dy (gr S x0 0) 3) ≤ x3 then some (x2, dy) else if ib x3 48 then (if (gi dy (gr S x0 9) x3.toNatClampNeg) = (-1 : Int32) then ih x0 x1 x2 (x3 + (1 : Int32)) dy else if ib x3 48 then (if (gi dy (gr S x0 10) x3.toNatClampNeg) = x1 then (if x2 = 0 then (F_X8_wayOfRow_52 S N ih) x0 x1 x3 dy else if ib x3 12 then (if x2 = (gi dy (gr S (gr S x0 0) 7) x3.toNatClampNeg) then (F_X8_wayOfRow_52 S N ih) x0 x1 x3 dy else ih x0 x1 (2 : Int32) (x3 + (1 : Int32)) dy) else none) else ih x0 x1 x2 (x3 + (1 : Int32)) dy) else none) else none)) k
theorem F_X8_wayOfRow_4_s (S : ST) (N : Nat) (k : Nat) (x0 : Nat) (x1 : Int32) (x2 : Int32) (x3 : Int32) (dy : DY) : F_X8_wayOfRow_4 S N (k + 1) x0 x1 x2 x3 dy = (if (gi dy (gr S x0 0) 3) ≤ x3 then some (x2, dy) else if ib x3 48 then (if (gi dy (gr S x0 9) x3.toNatClampNeg) = (-1 : Int32) then (F_X8_wayOfRow_4 S N k) x0 x1 x2 (x3 + (1 : Int32)) dy else if ib x3 48 then (if (gi dy (gr S x0 10) x3.toNatClampNeg) = x1 then (if x2 = 0 then (F_X8_wayOfRow_52 S N (F_X8_wayOfRow_4 S N k)) x0 x1 x3 dy else if ib x3 12 then (if x2 = (gi dy (gr S (gr S x0 0) 7) x3.toNatClampNeg) then (F_X8_wayOfRow_52 S N (F_X8_wayOfRow_4 S N k)) x0 x1 x3 dy else (F_X8_wayOfRow_4 S N k) x0 x1 (2 : Int32) (x3 + (1 : Int32)) dy) else none) else (F_X8_wayOfRow_4 S N k) x0 x1 x2 (x3 + (1 : Int32)) dy) else none) else none) := rfl
noncomputable def F_X8_wayOfRow (S : ST) (N : Nat) (a0 : Nat) (a1 : Int32) (dy : DY) : Option (Int32 × DY) := (F_X8_wayOfRow_4 S N N) a0 a1 (0 : Int32) (0 : Int32) dy
theorem F_X8_wayOfRow_s (S : ST) (N : Nat) (a0 : Nat) (a1 : Int32) (dy : DY) : F_X8_wayOfRow S N a0 a1 dy = ((F_X8_wayOfRow_4 S N N) a0 a1 (0 : Int32) (0 : Int32) dy) := rfl
noncomputable def F_X8_lanes_6 (S : ST) (N : Nat) : Nat → Nat → Int32 → Int32 → Int32 → DY → Option (Int32 × DY) := fun k => Nat.rec (motive := fun _ => Nat → Int32 → Int32 → Int32 → DY → Option (Int32 × DY)) (fun _ _ _ _ _ => none) (fun _ ih x0 x1 x2 x3 dy => (if (gi dy (gr S x0 0) 1) ≤ x3 then some (x1, dy) else (F_X8_wayOfRow S N x0 x3 dy).bind fun u2 => (if u2.1 = 0 then ih x0 x1 x2 (x3 + (1 : Int32)) u2.2 else (if u2.1 = (2 : Int32) then ih x0 x1 x2 (x3 + (1 : Int32)) u2.2 else (if u2.1 = x2 then ih x0 x1 x2 (x3 + (1 : Int32)) u2.2 else ih x0 (x1 + (1 : Int32)) u2.1 (x3 + (1 : Int32)) u2.2))))) k
theorem F_X8_lanes_6_s (S : ST) (N : Nat) (k : Nat) (x0 : Nat) (x1 : Int32) (x2 : Int32) (x3 : Int32) (dy : DY) : F_X8_lanes_6 S N (k + 1) x0 x1 x2 x3 dy = (if (gi dy (gr S x0 0) 1) ≤ x3 then some (x1, dy) else (F_X8_wayOfRow S N x0 x3 dy).bind fun u2 => (if u2.1 = 0 then (F_X8_lanes_6 S N k) x0 x1 x2 (x3 + (1 : Int32)) u2.2 else (if u2.1 = (2 : Int32) then (F_X8_lanes_6 S N k) x0 x1 x2 (x3 + (1 : Int32)) u2.2 else (if u2.1 = x2 then (F_X8_lanes_6 S N k) x0 x1 x2 (x3 + (1 : Int32)) u2.2 else (F_X8_lanes_6 S N k) x0 (x1 + (1 : Int32)) u2.1 (x3 + (1 : Int32)) u2.2)))) := rfl
noncomputable def F_X8_lanes (S : ST) (N : Nat) (a0 : Nat) (dy : DY) : Option (Int32 × DY) := (F_X8_lanes_6 S N N) a0 (0 : Int32) (0 : Int32) (0 : Int32) dy
theorem F_X8_lanes_s (S : ST) (N : Nat) (a0 : Nat) (dy : DY) : F_X8_lanes S N a0 dy = ((F_X8_lanes_6 S N N) a0 (0 : Int32) (0 : Int32) (0 : Int32) dy) := rfl
noncomputable def F_X8_mixedRows_4 (S : ST) (N : Nat) : Nat → Nat → Int32 → Int32 → DY → Option (Int32 × DY) := fun k => Nat.rec (motive := fun _ => Nat → Int32 → Int32 → DY → Option (Int32 × DY)) (fun _ _ _ _ => none) (fun _ ih x0 x1 x2 dy => (if (gi dy (gr S x0 0) 1) ≤ x2 then some (x1, dy) else (F_X8_wayOfRow S N x0 x2 dy).bind fun u2 => (if u2.1 = (2 : Int32) then ih x0 (x1 + (1 : Int32)) (x2 + (1 : Int32)) u2.2 else ih x0 (x1 + (0 : Int32)) (x2 + (1 : Int32)) u2.2))) k
theorem F_X8_mixedRows_4_s (S : ST) (N : Nat) (k : Nat) (x0 : Nat) (x1 : Int32) (x2 : Int32) (dy : DY) : F_X8_mixedRows_4 S N (k + 1) x0 x1 x2 dy = (if (gi dy (gr S x0 0) 1) ≤ x2 then some (x1, dy) else (F_X8_wayOfRow S N x0 x2 dy).bind fun u2 => (if u2.1 = (2 : Int32) then (F_X8_mixedRows_4 S N k) x0 (x1 + (1 : Int32)) (x2 + (1 : Int32)) u2.2 else (F_X8_mixedRows_4 S N k) x0 (x1 + (0 : Int32)) (x2 + (1 : Int32)) u2.2)) := rfl
noncomputable def F_X8_mixedRows (S : ST) (N : Nat) (a0 : Nat) (dy : DY) : Option (Int32 × DY) := (F_X8_mixedRows_4 S N N) a0 (0 : Int32) (0 : Int32) dy
theorem F_X8_mixedRows_s (S : ST) (N : Nat) (a0 : Nat) (dy : DY) : F_X8_mixedRows S N a0 dy = ((F_X8_mixedRows_4 S N N) a0 (0 : Int32) (0 : Int32) dy) := rfl
noncomputable def F_X8_mostArrivals_86 (S : ST) (N : Nat) (K4 : Nat → Int32 → Int32 → DY → Option (Int32 × DY)) (x0 : Nat) (x1 : Int32) (x2 : Int32) (x4 : Int32) (dy : DY) : Option (Int32 × DY) := K4 x0 (if x1 < x4 then x4 else x1) (x2 + (1 : Int32)) dy
theorem F_X8_mostArrivals_86_s (S : ST) (N : Nat) (K4 : Nat → Int32 → Int32 → DY → Option (Int32 × DY)) (x0 : Nat) (x1 : Int32) (x2 : Int32) (x4 : Int32) (dy : DY) : F_X8_mostArrivals_86 S N K4 x0 x1 x2 x4 dy = (K4 x0 (if x1 < x4 then x4 else x1) (x2 + (1 : Int32)) dy) := rfl
noncomputable def F_X8_mostArrivals_28 (S : ST) (N : Nat) (K4 : Nat → Int32 → Int32 → DY → Option (Int32 × DY)) : Nat → Nat → Int32 → Int32 → Int32 → Int32 → Int32 → DY → Option (Int32 × DY) := fun k => Nat.rec (motive := fun _ => Nat → Int32 → Int32 → Int32 → Int32 → Int32 → DY → Option (Int32 × DY)) (fun _ _ _ _ _ _ _ => none) (fun _ ih x0 x1 x2 x3 x4 x5 dy => (if (gi dy (gr S x0 0) 3) ≤ x5 then (F_X8_mostArrivals_86 S N K4) x0 x1 x2 x4 dy else (if x3 = (-1 : Int32) then (F_X8_mostArrivals_86 S N K4) x0 x1 x2 x4 dy else if ib x5 12 then (if (gi dy (gr S x0 11) x5.toNatClampNeg) < x3 then ih x0 x1 x2 x3 (x4 + (0 : Int32)) (x5 + (1 : Int32)) dy else if ib x5 12 then (if (x3 + (10 : Int32)) ≤ (gi dy (gr S x0 11) x5.toNatClampNeg) then ih x0 x1 x2 x3 (x4 + (0 : Int32)) (x5 + (1 : Int32)) dy else ih x0 x1 x2 x3 (x4 + (1 : Int32)) (x5 + (1 : Int32)) dy) else none) else none))) k
theorem F_X8_mostArrivals_28_s (S : ST) (N : Nat) (K4 : Nat → Int32 → Int32 → DY → Option (Int32 × DY)) (k : Nat) (x0 : Nat) (x1 : Int32) (x2 : Int32) (x3 : Int32) (x4 : Int32) (x5 : Int32) (dy : DY) : F_X8_mostArrivals_28 S N K4 (k + 1) x0 x1 x2 x3 x4 x5 dy = (if (gi dy (gr S x0 0) 3) ≤ x5 then (F_X8_mostArrivals_86 S N K4) x0 x1 x2 x4 dy else (if x3 = (-1 : Int32) then (F_X8_mostArrivals_86 S N K4) x0 x1 x2 x4 dy else if ib x5 12 then (if (gi dy (gr S x0 11) x5.toNatClampNeg) < x3 then (F_X8_mostArrivals_28 S N K4 k) x0 x1 x2 x3 (x4 + (0 : Int32)) (x5 + (1 : Int32)) dy else if ib x5 12 then (if (x3 + (10 : Int32)) ≤ (gi dy (gr S x0 11) x5.toNatClampNeg) then (F_X8_mostArrivals_28 S N K4 k) x0 x1 x2 x3 (x4 + (0 : Int32)) (x5 + (1 : Int32)) dy else (F_X8_mostArrivals_28 S N K4 k) x0 x1 x2 x3 (x4 + (1 : Int32)) (x5 + (1 : Int32)) dy) else none) else none)) := rfl
noncomputable def F_X8_mostArrivals_4 (S : ST) (N : Nat) : Nat → Nat → Int32 → Int32 → DY → Option (Int32 × DY) := fun k => Nat.rec (motive := fun _ => Nat → Int32 → Int32 → DY → Option (Int32 × DY)) (fun _ _ _ _ => none) (fun _ ih x0 x1 x2 dy => (if (gi dy (gr S x0 0) 3) ≤ x2 then some (x1, dy) else if ib x2 12 then (F_X8_mostArrivals_28 S N ih N) x0 x1 x2 (gi dy (gr S x0 11) x2.toNatClampNeg) (0 : Int32) (0 : Int32) dy else none)) k
theorem F_X8_mostArrivals_4_s (S : ST) (N : Nat) (k : Nat) (x0 : Nat) (x1 : Int32) (x2 : Int32) (dy : DY) : F_X8_mostArrivals_4 S N (k + 1) x0 x1 x2 dy = (if (gi dy (gr S x0 0) 3) ≤ x2 then some (x1, dy) else if ib x2 12 then (F_X8_mostArrivals_28 S N (F_X8_mostArrivals_4 S N k) N) x0 x1 x2 (gi dy (gr S x0 11) x2.toNatClampNeg) (0 : Int32) (0 : Int32) dy else none) := rfl
noncomputable def F_X8_mostArrivals (S : ST) (N : Nat) (a0 : Nat) (dy : DY) : Option (Int32 × DY) := (F_X8_mostArrivals_4 S N N) a0 (0 : Int32) (0 : Int32) dy
theorem F_X8_mostArrivals_s (S : ST) (N : Nat) (a0 : Nat) (dy : DY) : F_X8_mostArrivals S N a0 dy = ((F_X8_mostArrivals_4 S N N) a0 (0 : Int32) (0 : Int32) dy) := rfl
noncomputable def F_X8_pass_49 (S : ST) (N : Nat) (K2 : Nat → Int32 → DY → Option (Int32 × DY)) (x0 : Nat) (x1 : Int32) (y0 : Nat) (y1 : Int32) (y2 : Int32) (dy : DY) : Option (Int32 × DY) := if ib y1 12 then bd (si dy y0 y1.toNatClampNeg y2) fun dy1 => K2 x0 (x1 + (1 : Int32)) dy1 else none
theorem F_X8_pass_49_s (S : ST) (N : Nat) (K2 : Nat → Int32 → DY → Option (Int32 × DY)) (x0 : Nat) (x1 : Int32) (y0 : Nat) (y1 : Int32) (y2 : Int32) (dy : DY) : F_X8_pass_49 S N K2 x0 x1 y0 y1 y2 dy = (if ib y1 12 then bd (si dy y0 y1.toNatClampNeg y2) fun dy1 => K2 x0 (x1 + (1 : Int32)) dy1 else none) := rfl
noncomputable def F_X8_pass_2 (S : ST) (N : Nat) : Nat → Nat → Int32 → DY → Option (Int32 × DY) := fun k => Nat.rec (motive := fun _ => Nat → Int32 → DY → Option (Int32 × DY)) (fun _ _ _ => none) (fun _ ih x0 x1 dy => (if (gi dy (gr S x0 0) 3) ≤ x1 then (F_X8_move S N x0 dy).bind fun u2 => some (u2.1, u2.2) else (F_X8_deed S N x0 x1 dy).bind fun u5 => if ib x1 12 then bd (si u5.2 (gr S x0 16) x1.toNatClampNeg u5.1) fun dy7 => (F_X8_needsLot S N x0 x1 dy7).bind fun u8 => (if u8.1 = 0 then ih x0 (x1 + (1 : Int32)) u8.2 else (F_X8_draw S N x0 u8.2).bind fun u11 => (if u11.1 = 0 then (F_X8_pass_49 S N ih) x0 x1 (gr S x0 16) x1 (2 : Int32) u11.2 else (F_X8_pass_49 S N ih) x0 x1 (gr S x0 16) x1 (1 : Int32) u11.2)) else none)) k
theorem F_X8_pass_2_s (S : ST) (N : Nat) (k : Nat) (x0 : Nat) (x1 : Int32) (dy : DY) : F_X8_pass_2 S N (k + 1) x0 x1 dy = (if (gi dy (gr S x0 0) 3) ≤ x1 then (F_X8_move S N x0 dy).bind fun u2 => some (u2.1, u2.2) else (F_X8_deed S N x0 x1 dy).bind fun u5 => if ib x1 12 then bd (si u5.2 (gr S x0 16) x1.toNatClampNeg u5.1) fun dy7 => (F_X8_needsLot S N x0 x1 dy7).bind fun u8 => (if u8.1 = 0 then (F_X8_pass_2 S N k) x0 (x1 + (1 : Int32)) u8.2 else (F_X8_draw S N x0 u8.2).bind fun u11 => (if u11.1 = 0 then (F_X8_pass_49 S N (F_X8_pass_2 S N k)) x0 x1 (gr S x0 16) x1 (2 : Int32) u11.2 else (F_X8_pass_49 S N (F_X8_pass_2 S N k)) x0 x1 (gr S x0 16) x1 (1 : Int32) u11.2)) else none) := rfl
noncomputable def F_X8_pass (S : ST) (N : Nat) (a0 : Nat) (dy : DY) : Option (Int32 × DY) := (F_X8_pass_2 S N N) a0 (0 : Int32) dy
theorem F_X8_pass_s (S : ST) (N : Nat) (a0 : Nat) (dy : DY) : F_X8_pass S N a0 dy = ((F_X8_pass_2 S N N) a0 (0 : Int32) dy) := rfl
noncomputable def F_X8_touches (S : ST) (N : Nat) (a0 : Nat) (a1 : Int32) (a2 : Int32) (dy : DY) : Option (Int32 × DY) := (F_X8_isThere S N a0 a1 dy).bind fun u1 => (if u1.1 = 0 then some ((0 : Int32), u1.2) else (F_X8_isThere S N a0 a2 u1.2).bind fun u3 => (if u3.1 = 0 then some ((0 : Int32), u3.2) else if ib a1 48 then if ib a2 48 then if ib a1 48 then if ib a2 48 then (if ((if 0 ≤ ((gi u3.2 (gr S a0 9) a1.toNatClampNeg) - (gi u3.2 (gr S a0 9) a2.toNatClampNeg)) then ((gi u3.2 (gr S a0 9) a1.toNatClampNeg) - (gi u3.2 (gr S a0 9) a2.toNatClampNeg)) else 0 - ((gi u3.2 (gr S a0 9) a1.toNatClampNeg) - (gi u3.2 (gr S a0 9) a2.toNatClampNeg))) + (if 0 ≤ ((gi u3.2 (gr S a0 10) a1.toNatClampNeg) - (gi u3.2 (gr S a0 10) a2.toNatClampNeg)) then ((gi u3.2 (gr S a0 10) a1.toNatClampNeg) - (gi u3.2 (gr S a0 10) a2.toNatClampNeg)) else 0 - ((gi u3.2 (gr S a0 10) a1.toNatClampNeg) - (gi u3.2 (gr S a0 10) a2.toNatClampNeg)))) = (1 : Int32) then some ((1 : Int32), u3.2) else some ((0 : Int32), u3.2)) else none else none else none else none))
theorem F_X8_touches_s (S : ST) (N : Nat) (a0 : Nat) (a1 : Int32) (a2 : Int32) (dy : DY) : F_X8_touches S N a0 a1 a2 dy = ((F_X8_isThere S N a0 a1 dy).bind fun u1 => (if u1.1 = 0 then some ((0 : Int32), u1.2) else (F_X8_isThere S N a0 a2 u1.2).bind fun u3 => (if u3.1 = 0 then some ((0 : Int32), u3.2) else if ib a1 48 then if ib a2 48 then if ib a1 48 then if ib a2 48 then (if ((if 0 ≤ ((gi u3.2 (gr S a0 9) a1.toNatClampNeg) - (gi u3.2 (gr S a0 9) a2.toNatClampNeg)) then ((gi u3.2 (gr S a0 9) a1.toNatClampNeg) - (gi u3.2 (gr S a0 9) a2.toNatClampNeg)) else 0 - ((gi u3.2 (gr S a0 9) a1.toNatClampNeg) - (gi u3.2 (gr S a0 9) a2.toNatClampNeg))) + (if 0 ≤ ((gi u3.2 (gr S a0 10) a1.toNatClampNeg) - (gi u3.2 (gr S a0 10) a2.toNatClampNeg)) then ((gi u3.2 (gr S a0 10) a1.toNatClampNeg) - (gi u3.2 (gr S a0 10) a2.toNatClampNeg)) else 0 - ((gi u3.2 (gr S a0 10) a1.toNatClampNeg) - (gi u3.2 (gr S a0 10) a2.toNatClampNeg)))) = (1 : Int32) then some ((1 : Int32), u3.2) else some ((0 : Int32), u3.2)) else none else none else none else none))) := rfl
theorem dX8_copyFrom_0 : decode cX8_copyFrom 0 = .ok (.aload_n 0, 1) := by decide +kernel
theorem dX8_copyFrom_1 : decode cX8_copyFrom 1 = .ok (.aload_n 1, 1) := by decide +kernel
theorem dX8_copyFrom_2 : decode cX8_copyFrom 2 = .ok (.getfield 57, 3) := by decide +kernel
theorem dX8_copyFrom_5 : decode cX8_copyFrom 5 = .ok (.putfield 57, 3) := by decide +kernel
theorem dX8_copyFrom_8 : decode cX8_copyFrom 8 = .ok (.aload_n 0, 1) := by decide +kernel
theorem dX8_copyFrom_9 : decode cX8_copyFrom 9 = .ok (.aload_n 1, 1) := by decide +kernel
theorem dX8_copyFrom_10 : decode cX8_copyFrom 10 = .ok (.getfield 53, 3) := by decide +kernel
theorem dX8_copyFrom_13 : decode cX8_copyFrom 13 = .ok (.putfield 53, 3) := by decide +kernel
theorem dX8_copyFrom_16 : decode cX8_copyFrom 16 = .ok (.aload_n 0, 1) := by decide +kernel
theorem dX8_copyFrom_17 : decode cX8_copyFrom 17 = .ok (.aload_n 1, 1) := by decide +kernel
theorem dX8_copyFrom_18 : decode cX8_copyFrom 18 = .ok (.getfield 60, 3) := by decide +kernel
theorem dX8_copyFrom_21 : decode cX8_copyFrom 21 = .ok (.putfield 60, 3) := by decide +kernel
theorem dX8_copyFrom_24 : decode cX8_copyFrom 24 = .ok (.aload_n 0, 1) := by decide +kernel
theorem dX8_copyFrom_25 : decode cX8_copyFrom 25 = .ok (.aload_n 1, 1) := by decide +kernel
theorem dX8_copyFrom_26 : decode cX8_copyFrom 26 = .ok (.getfield 63, 3) := by decide +kernel
theorem dX8_copyFrom_29 : decode cX8_copyFrom 29 = .ok (.putfield 63, 3) := by decide +kernel
theorem dX8_copyFrom_32 : decode cX8_copyFrom 32 = .ok (.aload_n 0, 1) := by decide +kernel
theorem dX8_copyFrom_33 : decode cX8_copyFrom 33 = .ok (.aload_n 1, 1) := by decide +kernel
theorem dX8_copyFrom_34 : decode cX8_copyFrom 34 = .ok (.getfield 66, 3) := by decide +kernel
theorem dX8_copyFrom_37 : decode cX8_copyFrom 37 = .ok (.putfield 66, 3) := by decide +kernel
theorem dX8_copyFrom_40 : decode cX8_copyFrom 40 = .ok (.aload_n 0, 1) := by decide +kernel
theorem dX8_copyFrom_41 : decode cX8_copyFrom 41 = .ok (.aload_n 1, 1) := by decide +kernel
theorem dX8_copyFrom_42 : decode cX8_copyFrom 42 = .ok (.getfield 69, 3) := by decide +kernel
theorem dX8_copyFrom_45 : decode cX8_copyFrom 45 = .ok (.putfield 69, 3) := by decide +kernel
theorem dX8_copyFrom_48 : decode cX8_copyFrom 48 = .ok (.aload_n 1, 1) := by decide +kernel
theorem dX8_copyFrom_49 : decode cX8_copyFrom 49 = .ok (.getfield 11, 3) := by decide +kernel
theorem dX8_copyFrom_52 : decode cX8_copyFrom 52 = .ok (.iconst 0, 1) := by decide +kernel
theorem dX8_copyFrom_53 : decode cX8_copyFrom 53 = .ok (.aload_n 0, 1) := by decide +kernel
theorem dX8_copyFrom_54 : decode cX8_copyFrom 54 = .ok (.getfield 11, 3) := by decide +kernel
theorem dX8_copyFrom_57 : decode cX8_copyFrom 57 = .ok (.iconst 0, 1) := by decide +kernel
theorem dX8_copyFrom_58 : decode cX8_copyFrom 58 = .ok (.bipush 48, 2) := by decide +kernel
theorem dX8_copyFrom_60 : decode cX8_copyFrom 60 = .ok (.invokestatic 75, 3) := by decide +kernel
theorem dX8_copyFrom_63 : decode cX8_copyFrom 63 = .ok (.aload_n 1, 1) := by decide +kernel
theorem dX8_copyFrom_64 : decode cX8_copyFrom 64 = .ok (.getfield 15, 3) := by decide +kernel
theorem dX8_copyFrom_67 : decode cX8_copyFrom 67 = .ok (.iconst 0, 1) := by decide +kernel
theorem dX8_copyFrom_68 : decode cX8_copyFrom 68 = .ok (.aload_n 0, 1) := by decide +kernel
theorem dX8_copyFrom_69 : decode cX8_copyFrom 69 = .ok (.getfield 15, 3) := by decide +kernel
theorem dX8_copyFrom_72 : decode cX8_copyFrom 72 = .ok (.iconst 0, 1) := by decide +kernel
theorem dX8_copyFrom_73 : decode cX8_copyFrom 73 = .ok (.bipush 48, 2) := by decide +kernel
theorem dX8_copyFrom_75 : decode cX8_copyFrom 75 = .ok (.invokestatic 75, 3) := by decide +kernel
theorem dX8_copyFrom_78 : decode cX8_copyFrom 78 = .ok (.aload_n 1, 1) := by decide +kernel
theorem dX8_copyFrom_79 : decode cX8_copyFrom 79 = .ok (.getfield 18, 3) := by decide +kernel
theorem dX8_copyFrom_82 : decode cX8_copyFrom 82 = .ok (.iconst 0, 1) := by decide +kernel
theorem dX8_copyFrom_83 : decode cX8_copyFrom 83 = .ok (.aload_n 0, 1) := by decide +kernel
theorem dX8_copyFrom_84 : decode cX8_copyFrom 84 = .ok (.getfield 18, 3) := by decide +kernel
theorem dX8_copyFrom_87 : decode cX8_copyFrom 87 = .ok (.iconst 0, 1) := by decide +kernel
theorem dX8_copyFrom_88 : decode cX8_copyFrom 88 = .ok (.bipush 12, 2) := by decide +kernel
theorem dX8_copyFrom_90 : decode cX8_copyFrom 90 = .ok (.invokestatic 75, 3) := by decide +kernel
theorem dX8_copyFrom_93 : decode cX8_copyFrom 93 = .ok (.aload_n 1, 1) := by decide +kernel
theorem dX8_copyFrom_94 : decode cX8_copyFrom 94 = .ok (.getfield 21, 3) := by decide +kernel
theorem dX8_copyFrom_97 : decode cX8_copyFrom 97 = .ok (.iconst 0, 1) := by decide +kernel
theorem dX8_copyFrom_98 : decode cX8_copyFrom 98 = .ok (.aload_n 0, 1) := by decide +kernel
theorem dX8_copyFrom_99 : decode cX8_copyFrom 99 = .ok (.getfield 21, 3) := by decide +kernel
theorem dX8_copyFrom_102 : decode cX8_copyFrom 102 = .ok (.iconst 0, 1) := by decide +kernel
theorem dX8_copyFrom_103 : decode cX8_copyFrom 103 = .ok (.bipush 12, 2) := by decide +kernel
theorem dX8_copyFrom_105 : decode cX8_copyFrom 105 = .ok (.invokestatic 75, 3) := by decide +kernel
theorem dX8_copyFrom_108 : decode cX8_copyFrom 108 = .ok (.aload_n 1, 1) := by decide +kernel
theorem dX8_copyFrom_109 : decode cX8_copyFrom 109 = .ok (.getfield 24, 3) := by decide +kernel
theorem dX8_copyFrom_112 : decode cX8_copyFrom 112 = .ok (.iconst 0, 1) := by decide +kernel
theorem dX8_copyFrom_113 : decode cX8_copyFrom 113 = .ok (.aload_n 0, 1) := by decide +kernel
theorem dX8_copyFrom_114 : decode cX8_copyFrom 114 = .ok (.getfield 24, 3) := by decide +kernel
theorem dX8_copyFrom_117 : decode cX8_copyFrom 117 = .ok (.iconst 0, 1) := by decide +kernel
theorem dX8_copyFrom_118 : decode cX8_copyFrom 118 = .ok (.bipush 12, 2) := by decide +kernel
theorem dX8_copyFrom_120 : decode cX8_copyFrom 120 = .ok (.invokestatic 75, 3) := by decide +kernel
theorem dX8_copyFrom_123 : decode cX8_copyFrom 123 = .ok (.aload_n 1, 1) := by decide +kernel
theorem dX8_copyFrom_124 : decode cX8_copyFrom 124 = .ok (.getfield 27, 3) := by decide +kernel
theorem dX8_copyFrom_127 : decode cX8_copyFrom 127 = .ok (.iconst 0, 1) := by decide +kernel
theorem dX8_copyFrom_128 : decode cX8_copyFrom 128 = .ok (.aload_n 0, 1) := by decide +kernel
theorem dX8_copyFrom_129 : decode cX8_copyFrom 129 = .ok (.getfield 27, 3) := by decide +kernel
theorem dX8_copyFrom_132 : decode cX8_copyFrom 132 = .ok (.iconst 0, 1) := by decide +kernel
theorem dX8_copyFrom_133 : decode cX8_copyFrom 133 = .ok (.bipush 12, 2) := by decide +kernel
theorem dX8_copyFrom_135 : decode cX8_copyFrom 135 = .ok (.invokestatic 75, 3) := by decide +kernel
theorem dX8_copyFrom_138 : decode cX8_copyFrom 138 = .ok (.aload_n 1, 1) := by decide +kernel
theorem dX8_copyFrom_139 : decode cX8_copyFrom 139 = .ok (.getfield 30, 3) := by decide +kernel
theorem dX8_copyFrom_142 : decode cX8_copyFrom 142 = .ok (.iconst 0, 1) := by decide +kernel
theorem dX8_copyFrom_143 : decode cX8_copyFrom 143 = .ok (.aload_n 0, 1) := by decide +kernel
theorem dX8_copyFrom_144 : decode cX8_copyFrom 144 = .ok (.getfield 30, 3) := by decide +kernel
theorem dX8_copyFrom_147 : decode cX8_copyFrom 147 = .ok (.iconst 0, 1) := by decide +kernel
theorem dX8_copyFrom_148 : decode cX8_copyFrom 148 = .ok (.bipush 12, 2) := by decide +kernel
theorem dX8_copyFrom_150 : decode cX8_copyFrom 150 = .ok (.invokestatic 75, 3) := by decide +kernel
theorem dX8_copyFrom_153 : decode cX8_copyFrom 153 = .ok (.aload_n 1, 1) := by decide +kernel
theorem dX8_copyFrom_154 : decode cX8_copyFrom 154 = .ok (.getfield 33, 3) := by decide +kernel
theorem dX8_copyFrom_157 : decode cX8_copyFrom 157 = .ok (.iconst 0, 1) := by decide +kernel
theorem dX8_copyFrom_158 : decode cX8_copyFrom 158 = .ok (.aload_n 0, 1) := by decide +kernel
theorem dX8_copyFrom_159 : decode cX8_copyFrom 159 = .ok (.getfield 33, 3) := by decide +kernel
theorem dX8_copyFrom_162 : decode cX8_copyFrom 162 = .ok (.iconst 0, 1) := by decide +kernel
theorem dX8_copyFrom_163 : decode cX8_copyFrom 163 = .ok (.bipush 12, 2) := by decide +kernel
theorem dX8_copyFrom_165 : decode cX8_copyFrom 165 = .ok (.invokestatic 75, 3) := by decide +kernel
theorem dX8_copyFrom_168 : decode cX8_copyFrom 168 = .ok (.aload_n 1, 1) := by decide +kernel
theorem dX8_copyFrom_169 : decode cX8_copyFrom 169 = .ok (.getfield 36, 3) := by decide +kernel
theorem dX8_copyFrom_172 : decode cX8_copyFrom 172 = .ok (.iconst 0, 1) := by decide +kernel
theorem dX8_copyFrom_173 : decode cX8_copyFrom 173 = .ok (.aload_n 0, 1) := by decide +kernel
theorem dX8_copyFrom_174 : decode cX8_copyFrom 174 = .ok (.getfield 36, 3) := by decide +kernel
theorem dX8_copyFrom_177 : decode cX8_copyFrom 177 = .ok (.iconst 0, 1) := by decide +kernel
theorem dX8_copyFrom_178 : decode cX8_copyFrom 178 = .ok (.bipush 12, 2) := by decide +kernel
theorem dX8_copyFrom_180 : decode cX8_copyFrom 180 = .ok (.invokestatic 75, 3) := by decide +kernel
theorem dX8_copyFrom_183 : decode cX8_copyFrom 183 = .ok (.aload_n 1, 1) := by decide +kernel
theorem dX8_copyFrom_184 : decode cX8_copyFrom 184 = .ok (.getfield 42, 3) := by decide +kernel
theorem dX8_copyFrom_187 : decode cX8_copyFrom 187 = .ok (.iconst 0, 1) := by decide +kernel
theorem dX8_copyFrom_188 : decode cX8_copyFrom 188 = .ok (.aload_n 0, 1) := by decide +kernel
theorem dX8_copyFrom_189 : decode cX8_copyFrom 189 = .ok (.getfield 42, 3) := by decide +kernel
theorem dX8_copyFrom_192 : decode cX8_copyFrom 192 = .ok (.iconst 0, 1) := by decide +kernel
theorem dX8_copyFrom_193 : decode cX8_copyFrom 193 = .ok (.bipush 75, 2) := by decide +kernel
theorem dX8_copyFrom_195 : decode cX8_copyFrom 195 = .ok (.invokestatic 75, 3) := by decide +kernel
theorem dX8_copyFrom_198 : decode cX8_copyFrom 198 = .ok (.return_, 1) := by decide +kernel
theorem dX8_pastOf_0 : decode cX8_pastOf 0 = .ok (.aload_n 0, 1) := by decide +kernel
theorem dX8_pastOf_1 : decode cX8_pastOf 1 = .ok (.getfield 45, 3) := by decide +kernel
theorem dX8_pastOf_4 : decode cX8_pastOf 4 = .ok (.getfield 122, 3) := by decide +kernel
theorem dX8_pastOf_7 : decode cX8_pastOf 7 = .ok (.iload_n 1, 1) := by decide +kernel
theorem dX8_pastOf_8 : decode cX8_pastOf 8 = .ok (.iaload, 1) := by decide +kernel
theorem dX8_pastOf_9 : decode cX8_pastOf 9 = .ok (.istore_n 2, 1) := by decide +kernel
theorem dX8_pastOf_10 : decode cX8_pastOf 10 = .ok (.iload_n 2, 1) := by decide +kernel
theorem dX8_pastOf_11 : decode cX8_pastOf 11 = .ok (.ifCond .le 15, 3) := by decide +kernel
theorem dX8_pastOf_14 : decode cX8_pastOf 14 = .ok (.iload_n 2, 1) := by decide +kernel
theorem dX8_pastOf_15 : decode cX8_pastOf 15 = .ok (.iconst 4, 1) := by decide +kernel
theorem dX8_pastOf_16 : decode cX8_pastOf 16 = .ok (.if_icmp .ge 10, 3) := by decide +kernel
theorem dX8_pastOf_19 : decode cX8_pastOf 19 = .ok (.iload_n 2, 1) := by decide +kernel
theorem dX8_pastOf_20 : decode cX8_pastOf 20 = .ok (.bipush 12, 2) := by decide +kernel
theorem dX8_pastOf_22 : decode cX8_pastOf 22 = .ok (.imul, 1) := by decide +kernel
theorem dX8_pastOf_23 : decode cX8_pastOf 23 = .ok (.goto 4, 3) := by decide +kernel
theorem dX8_pastOf_26 : decode cX8_pastOf 26 = .ok (.iconst 0, 1) := by decide +kernel
theorem dX8_pastOf_27 : decode cX8_pastOf 27 = .ok (.ireturn, 1) := by decide +kernel
theorem dX8_stepsToWall_0 : decode cX8_stepsToWall 0 = .ok (.aload_n 0, 1) := by decide +kernel
theorem dX8_stepsToWall_1 : decode cX8_stepsToWall 1 = .ok (.getfield 11, 3) := by decide +kernel
theorem dX8_stepsToWall_4 : decode cX8_stepsToWall 4 = .ok (.iload_n 1, 1) := by decide +kernel
theorem dX8_stepsToWall_5 : decode cX8_stepsToWall 5 = .ok (.iaload, 1) := by decide +kernel
theorem dX8_stepsToWall_6 : decode cX8_stepsToWall 6 = .ok (.iload_n 2, 1) := by decide +kernel
theorem dX8_stepsToWall_7 : decode cX8_stepsToWall 7 = .ok (.iadd, 1) := by decide +kernel
theorem dX8_stepsToWall_8 : decode cX8_stepsToWall 8 = .ok (.istore 4, 2) := by decide +kernel
theorem dX8_stepsToWall_10 : decode cX8_stepsToWall 10 = .ok (.aload_n 0, 1) := by decide +kernel
theorem dX8_stepsToWall_11 : decode cX8_stepsToWall 11 = .ok (.getfield 15, 3) := by decide +kernel
theorem dX8_stepsToWall_14 : decode cX8_stepsToWall 14 = .ok (.iload_n 1, 1) := by decide +kernel
theorem dX8_stepsToWall_15 : decode cX8_stepsToWall 15 = .ok (.iaload, 1) := by decide +kernel
theorem dX8_stepsToWall_16 : decode cX8_stepsToWall 16 = .ok (.iload_n 3, 1) := by decide +kernel
theorem dX8_stepsToWall_17 : decode cX8_stepsToWall 17 = .ok (.iadd, 1) := by decide +kernel
theorem dX8_stepsToWall_18 : decode cX8_stepsToWall 18 = .ok (.istore 5, 2) := by decide +kernel
theorem dX8_stepsToWall_20 : decode cX8_stepsToWall 20 = .ok (.iconst 1, 1) := by decide +kernel
theorem dX8_stepsToWall_21 : decode cX8_stepsToWall 21 = .ok (.istore 6, 2) := by decide +kernel
theorem dX8_stepsToWall_23 : decode cX8_stepsToWall 23 = .ok (.iload 6, 2) := by decide +kernel
theorem dX8_stepsToWall_25 : decode cX8_stepsToWall 25 = .ok (.bipush 16, 2) := by decide +kernel
theorem dX8_stepsToWall_27 : decode cX8_stepsToWall 27 = .ok (.if_icmp .gt 77, 3) := by decide +kernel
theorem dX8_stepsToWall_30 : decode cX8_stepsToWall 30 = .ok (.iload 4, 2) := by decide +kernel
theorem dX8_stepsToWall_32 : decode cX8_stepsToWall 32 = .ok (.ifCond .lt 72, 3) := by decide +kernel
theorem dX8_stepsToWall_35 : decode cX8_stepsToWall 35 = .ok (.iload 4, 2) := by decide +kernel
theorem dX8_stepsToWall_37 : decode cX8_stepsToWall 37 = .ok (.aload_n 0, 1) := by decide +kernel
theorem dX8_stepsToWall_38 : decode cX8_stepsToWall 38 = .ok (.getfield 45, 3) := by decide +kernel
theorem dX8_stepsToWall_41 : decode cX8_stepsToWall 41 = .ok (.getfield 138, 3) := by decide +kernel
theorem dX8_stepsToWall_44 : decode cX8_stepsToWall 44 = .ok (.if_icmp .ge 60, 3) := by decide +kernel
theorem dX8_stepsToWall_47 : decode cX8_stepsToWall 47 = .ok (.iload 5, 2) := by decide +kernel
theorem dX8_stepsToWall_49 : decode cX8_stepsToWall 49 = .ok (.ifCond .lt 55, 3) := by decide +kernel
theorem dX8_stepsToWall_52 : decode cX8_stepsToWall 52 = .ok (.iload 5, 2) := by decide +kernel
theorem dX8_stepsToWall_54 : decode cX8_stepsToWall 54 = .ok (.aload_n 0, 1) := by decide +kernel
theorem dX8_stepsToWall_55 : decode cX8_stepsToWall 55 = .ok (.getfield 45, 3) := by decide +kernel
theorem dX8_stepsToWall_58 : decode cX8_stepsToWall 58 = .ok (.getfield 141, 3) := by decide +kernel
theorem dX8_stepsToWall_61 : decode cX8_stepsToWall 61 = .ok (.if_icmp .ge 43, 3) := by decide +kernel
theorem dX8_stepsToWall_64 : decode cX8_stepsToWall 64 = .ok (.aload_n 0, 1) := by decide +kernel
theorem dX8_stepsToWall_65 : decode cX8_stepsToWall 65 = .ok (.getfield 45, 3) := by decide +kernel
theorem dX8_stepsToWall_68 : decode cX8_stepsToWall 68 = .ok (.getfield 144, 3) := by decide +kernel
theorem dX8_stepsToWall_71 : decode cX8_stepsToWall 71 = .ok (.iload 4, 2) := by decide +kernel
theorem dX8_stepsToWall_73 : decode cX8_stepsToWall 73 = .ok (.bipush 6, 2) := by decide +kernel
theorem dX8_stepsToWall_75 : decode cX8_stepsToWall 75 = .ok (.imul, 1) := by decide +kernel
theorem dX8_stepsToWall_76 : decode cX8_stepsToWall 76 = .ok (.iload 5, 2) := by decide +kernel
theorem dX8_stepsToWall_78 : decode cX8_stepsToWall 78 = .ok (.iadd, 1) := by decide +kernel
theorem dX8_stepsToWall_79 : decode cX8_stepsToWall 79 = .ok (.baload, 1) := by decide +kernel
theorem dX8_stepsToWall_80 : decode cX8_stepsToWall 80 = .ok (.ifCond .eq 6, 3) := by decide +kernel
theorem dX8_stepsToWall_83 : decode cX8_stepsToWall 83 = .ok (.iload 6, 2) := by decide +kernel
theorem dX8_stepsToWall_85 : decode cX8_stepsToWall 85 = .ok (.ireturn, 1) := by decide +kernel
theorem dX8_stepsToWall_86 : decode cX8_stepsToWall 86 = .ok (.iload 4, 2) := by decide +kernel
theorem dX8_stepsToWall_88 : decode cX8_stepsToWall 88 = .ok (.iload_n 2, 1) := by decide +kernel
theorem dX8_stepsToWall_89 : decode cX8_stepsToWall 89 = .ok (.iadd, 1) := by decide +kernel
theorem dX8_stepsToWall_90 : decode cX8_stepsToWall 90 = .ok (.istore 4, 2) := by decide +kernel
theorem dX8_stepsToWall_92 : decode cX8_stepsToWall 92 = .ok (.iload 5, 2) := by decide +kernel
theorem dX8_stepsToWall_94 : decode cX8_stepsToWall 94 = .ok (.iload_n 3, 1) := by decide +kernel
theorem dX8_stepsToWall_95 : decode cX8_stepsToWall 95 = .ok (.iadd, 1) := by decide +kernel
theorem dX8_stepsToWall_96 : decode cX8_stepsToWall 96 = .ok (.istore 5, 2) := by decide +kernel
theorem dX8_stepsToWall_98 : decode cX8_stepsToWall 98 = .ok (.iinc 6 1, 3) := by decide +kernel
theorem dX8_stepsToWall_101 : decode cX8_stepsToWall 101 = .ok (.goto (-78), 3) := by decide +kernel
theorem dX8_stepsToWall_104 : decode cX8_stepsToWall 104 = .ok (.iload_n 3, 1) := by decide +kernel
theorem dX8_stepsToWall_105 : decode cX8_stepsToWall 105 = .ok (.ifCond .ne 9, 3) := by decide +kernel
theorem dX8_stepsToWall_108 : decode cX8_stepsToWall 108 = .ok (.sipush 1000, 3) := by decide +kernel
theorem dX8_stepsToWall_111 : decode cX8_stepsToWall 111 = .ok (.goto 5, 3) := by decide +kernel
theorem dX8_stepsToWall_114 : decode cX8_stepsToWall 114 = .ok (.iload 6, 2) := by decide +kernel
theorem dX8_stepsToWall_116 : decode cX8_stepsToWall 116 = .ok (.ireturn, 1) := by decide +kernel
theorem dX8_freeSteps_0 : decode cX8_freeSteps 0 = .ok (.aload_n 0, 1) := by decide +kernel
theorem dX8_freeSteps_1 : decode cX8_freeSteps 1 = .ok (.iload_n 1, 1) := by decide +kernel
theorem dX8_freeSteps_2 : decode cX8_freeSteps 2 = .ok (.iload_n 2, 1) := by decide +kernel
theorem dX8_freeSteps_3 : decode cX8_freeSteps 3 = .ok (.iload_n 3, 1) := by decide +kernel
theorem dX8_freeSteps_4 : decode cX8_freeSteps 4 = .ok (.invokevirtual 125, 3) := by decide +kernel
theorem dX8_freeSteps_7 : decode cX8_freeSteps 7 = .ok (.istore 4, 2) := by decide +kernel
theorem dX8_freeSteps_9 : decode cX8_freeSteps 9 = .ok (.aload_n 0, 1) := by decide +kernel
theorem dX8_freeSteps_10 : decode cX8_freeSteps 10 = .ok (.iload_n 1, 1) := by decide +kernel
theorem dX8_freeSteps_11 : decode cX8_freeSteps 11 = .ok (.invokevirtual 128, 3) := by decide +kernel
theorem dX8_freeSteps_14 : decode cX8_freeSteps 14 = .ok (.istore 5, 2) := by decide +kernel
theorem dX8_freeSteps_16 : decode cX8_freeSteps 16 = .ok (.aload_n 0, 1) := by decide +kernel
theorem dX8_freeSteps_17 : decode cX8_freeSteps 17 = .ok (.iconst (-1), 1) := by decide +kernel
theorem dX8_freeSteps_18 : decode cX8_freeSteps 18 = .ok (.putfield 108, 3) := by decide +kernel
theorem dX8_freeSteps_21 : decode cX8_freeSteps 21 = .ok (.iconst 0, 1) := by decide +kernel
theorem dX8_freeSteps_22 : decode cX8_freeSteps 22 = .ok (.istore 6, 2) := by decide +kernel
theorem dX8_freeSteps_24 : decode cX8_freeSteps 24 = .ok (.iload 6, 2) := by decide +kernel
theorem dX8_freeSteps_26 : decode cX8_freeSteps 26 = .ok (.aload_n 0, 1) := by decide +kernel
theorem dX8_freeSteps_27 : decode cX8_freeSteps 27 = .ok (.getfield 45, 3) := by decide +kernel
theorem dX8_freeSteps_30 : decode cX8_freeSteps 30 = .ok (.getfield 91, 3) := by decide +kernel
theorem dX8_freeSteps_33 : decode cX8_freeSteps 33 = .ok (.if_icmp .ge 114, 3) := by decide +kernel
theorem dX8_freeSteps_36 : decode cX8_freeSteps 36 = .ok (.iload 6, 2) := by decide +kernel
theorem dX8_freeSteps_38 : decode cX8_freeSteps 38 = .ok (.iload_n 1, 1) := by decide +kernel
theorem dX8_freeSteps_39 : decode cX8_freeSteps 39 = .ok (.if_icmp .eq 102, 3) := by decide +kernel
theorem dX8_freeSteps_42 : decode cX8_freeSteps 42 = .ok (.aload_n 0, 1) := by decide +kernel
theorem dX8_freeSteps_43 : decode cX8_freeSteps 43 = .ok (.getfield 11, 3) := by decide +kernel
theorem dX8_freeSteps_46 : decode cX8_freeSteps 46 = .ok (.iload 5, 2) := by decide +kernel
theorem dX8_freeSteps_48 : decode cX8_freeSteps 48 = .ok (.iload 6, 2) := by decide +kernel
theorem dX8_freeSteps_50 : decode cX8_freeSteps 50 = .ok (.iadd, 1) := by decide +kernel
theorem dX8_freeSteps_51 : decode cX8_freeSteps 51 = .ok (.iaload, 1) := by decide +kernel
theorem dX8_freeSteps_52 : decode cX8_freeSteps 52 = .ok (.iconst (-1), 1) := by decide +kernel
theorem dX8_freeSteps_53 : decode cX8_freeSteps 53 = .ok (.if_icmp .ne 6, 3) := by decide +kernel
theorem dX8_freeSteps_56 : decode cX8_freeSteps 56 = .ok (.goto 85, 3) := by decide +kernel
theorem dX8_freeSteps_59 : decode cX8_freeSteps 59 = .ok (.aload_n 0, 1) := by decide +kernel
theorem dX8_freeSteps_60 : decode cX8_freeSteps 60 = .ok (.getfield 11, 3) := by decide +kernel
theorem dX8_freeSteps_63 : decode cX8_freeSteps 63 = .ok (.iload 5, 2) := by decide +kernel
theorem dX8_freeSteps_65 : decode cX8_freeSteps 65 = .ok (.iload 6, 2) := by decide +kernel
theorem dX8_freeSteps_67 : decode cX8_freeSteps 67 = .ok (.iadd, 1) := by decide +kernel
theorem dX8_freeSteps_68 : decode cX8_freeSteps 68 = .ok (.iaload, 1) := by decide +kernel
theorem dX8_freeSteps_69 : decode cX8_freeSteps 69 = .ok (.aload_n 0, 1) := by decide +kernel
theorem dX8_freeSteps_70 : decode cX8_freeSteps 70 = .ok (.getfield 11, 3) := by decide +kernel
theorem dX8_freeSteps_73 : decode cX8_freeSteps 73 = .ok (.iload_n 1, 1) := by decide +kernel
theorem dX8_freeSteps_74 : decode cX8_freeSteps 74 = .ok (.iaload, 1) := by decide +kernel
theorem dX8_freeSteps_75 : decode cX8_freeSteps 75 = .ok (.isub, 1) := by decide +kernel
theorem dX8_freeSteps_76 : decode cX8_freeSteps 76 = .ok (.istore 7, 2) := by decide +kernel
theorem dX8_freeSteps_78 : decode cX8_freeSteps 78 = .ok (.aload_n 0, 1) := by decide +kernel
theorem dX8_freeSteps_79 : decode cX8_freeSteps 79 = .ok (.getfield 15, 3) := by decide +kernel
theorem dX8_freeSteps_82 : decode cX8_freeSteps 82 = .ok (.iload 5, 2) := by decide +kernel
theorem dX8_freeSteps_84 : decode cX8_freeSteps 84 = .ok (.iload 6, 2) := by decide +kernel
theorem dX8_freeSteps_86 : decode cX8_freeSteps 86 = .ok (.iadd, 1) := by decide +kernel
theorem dX8_freeSteps_87 : decode cX8_freeSteps 87 = .ok (.iaload, 1) := by decide +kernel
theorem dX8_freeSteps_88 : decode cX8_freeSteps 88 = .ok (.aload_n 0, 1) := by decide +kernel
theorem dX8_freeSteps_89 : decode cX8_freeSteps 89 = .ok (.getfield 15, 3) := by decide +kernel
theorem dX8_freeSteps_92 : decode cX8_freeSteps 92 = .ok (.iload_n 1, 1) := by decide +kernel
theorem dX8_freeSteps_93 : decode cX8_freeSteps 93 = .ok (.iaload, 1) := by decide +kernel
theorem dX8_freeSteps_94 : decode cX8_freeSteps 94 = .ok (.isub, 1) := by decide +kernel
theorem dX8_freeSteps_95 : decode cX8_freeSteps 95 = .ok (.istore 8, 2) := by decide +kernel
theorem dX8_freeSteps_97 : decode cX8_freeSteps 97 = .ok (.iload 7, 2) := by decide +kernel
theorem dX8_freeSteps_99 : decode cX8_freeSteps 99 = .ok (.iload_n 2, 1) := by decide +kernel
theorem dX8_freeSteps_100 : decode cX8_freeSteps 100 = .ok (.imul, 1) := by decide +kernel
theorem dX8_freeSteps_101 : decode cX8_freeSteps 101 = .ok (.iload 8, 2) := by decide +kernel
theorem dX8_freeSteps_103 : decode cX8_freeSteps 103 = .ok (.iload_n 3, 1) := by decide +kernel
theorem dX8_freeSteps_104 : decode cX8_freeSteps 104 = .ok (.imul, 1) := by decide +kernel
theorem dX8_freeSteps_105 : decode cX8_freeSteps 105 = .ok (.iadd, 1) := by decide +kernel
theorem dX8_freeSteps_106 : decode cX8_freeSteps 106 = .ok (.istore 9, 2) := by decide +kernel
theorem dX8_freeSteps_108 : decode cX8_freeSteps 108 = .ok (.iload 7, 2) := by decide +kernel
theorem dX8_freeSteps_110 : decode cX8_freeSteps 110 = .ok (.iload_n 3, 1) := by decide +kernel
theorem dX8_freeSteps_111 : decode cX8_freeSteps 111 = .ok (.imul, 1) := by decide +kernel
theorem dX8_freeSteps_112 : decode cX8_freeSteps 112 = .ok (.iload 8, 2) := by decide +kernel
theorem dX8_freeSteps_114 : decode cX8_freeSteps 114 = .ok (.iload_n 2, 1) := by decide +kernel
theorem dX8_freeSteps_115 : decode cX8_freeSteps 115 = .ok (.imul, 1) := by decide +kernel
theorem dX8_freeSteps_116 : decode cX8_freeSteps 116 = .ok (.if_icmp .ne 25, 3) := by decide +kernel
theorem dX8_freeSteps_119 : decode cX8_freeSteps 119 = .ok (.iload 9, 2) := by decide +kernel
theorem dX8_freeSteps_121 : decode cX8_freeSteps 121 = .ok (.ifCond .le 20, 3) := by decide +kernel
theorem dX8_freeSteps_124 : decode cX8_freeSteps 124 = .ok (.iload 9, 2) := by decide +kernel
theorem dX8_freeSteps_126 : decode cX8_freeSteps 126 = .ok (.iload 4, 2) := by decide +kernel
theorem dX8_freeSteps_128 : decode cX8_freeSteps 128 = .ok (.if_icmp .ge 13, 3) := by decide +kernel
theorem dX8_freeSteps_131 : decode cX8_freeSteps 131 = .ok (.iload 9, 2) := by decide +kernel
theorem dX8_freeSteps_133 : decode cX8_freeSteps 133 = .ok (.istore 4, 2) := by decide +kernel
theorem dX8_freeSteps_135 : decode cX8_freeSteps 135 = .ok (.aload_n 0, 1) := by decide +kernel
theorem dX8_freeSteps_136 : decode cX8_freeSteps 136 = .ok (.iload 6, 2) := by decide +kernel
theorem dX8_freeSteps_138 : decode cX8_freeSteps 138 = .ok (.putfield 108, 3) := by decide +kernel
theorem dX8_freeSteps_141 : decode cX8_freeSteps 141 = .ok (.iinc 6 1, 3) := by decide +kernel
theorem dX8_freeSteps_144 : decode cX8_freeSteps 144 = .ok (.goto (-120), 3) := by decide +kernel
theorem dX8_freeSteps_147 : decode cX8_freeSteps 147 = .ok (.bipush 9, 2) := by decide +kernel
theorem dX8_freeSteps_149 : decode cX8_freeSteps 149 = .ok (.iload 4, 2) := by decide +kernel
theorem dX8_freeSteps_151 : decode cX8_freeSteps 151 = .ok (.iconst 1, 1) := by decide +kernel
theorem dX8_freeSteps_152 : decode cX8_freeSteps 152 = .ok (.isub, 1) := by decide +kernel
theorem dX8_freeSteps_153 : decode cX8_freeSteps 153 = .ok (.invokestatic 132, 3) := by decide +kernel
theorem dX8_freeSteps_156 : decode cX8_freeSteps 156 = .ok (.ireturn, 1) := by decide +kernel
theorem dX8_lookAround_0 : decode cX8_lookAround 0 = .ok (.aload_n 0, 1) := by decide +kernel
theorem dX8_lookAround_1 : decode cX8_lookAround 1 = .ok (.iload_n 1, 1) := by decide +kernel
theorem dX8_lookAround_2 : decode cX8_lookAround 2 = .ok (.invokevirtual 128, 3) := by decide +kernel
theorem dX8_lookAround_5 : decode cX8_lookAround 5 = .ok (.istore_n 2, 1) := by decide +kernel
theorem dX8_lookAround_6 : decode cX8_lookAround 6 = .ok (.aload_n 0, 1) := by decide +kernel
theorem dX8_lookAround_7 : decode cX8_lookAround 7 = .ok (.getfield 39, 3) := by decide +kernel
theorem dX8_lookAround_10 : decode cX8_lookAround 10 = .ok (.iconst 2, 1) := by decide +kernel
theorem dX8_lookAround_11 : decode cX8_lookAround 11 = .ok (.bipush 99, 2) := by decide +kernel
theorem dX8_lookAround_13 : decode cX8_lookAround 13 = .ok (.iastore, 1) := by decide +kernel
theorem dX8_lookAround_14 : decode cX8_lookAround 14 = .ok (.aload_n 0, 1) := by decide +kernel
theorem dX8_lookAround_15 : decode cX8_lookAround 15 = .ok (.getfield 39, 3) := by decide +kernel
theorem dX8_lookAround_18 : decode cX8_lookAround 18 = .ok (.bipush 7, 2) := by decide +kernel
theorem dX8_lookAround_20 : decode cX8_lookAround 20 = .ok (.iconst 0, 1) := by decide +kernel
theorem dX8_lookAround_21 : decode cX8_lookAround 21 = .ok (.iastore, 1) := by decide +kernel
theorem dX8_lookAround_22 : decode cX8_lookAround 22 = .ok (.aload_n 0, 1) := by decide +kernel
theorem dX8_lookAround_23 : decode cX8_lookAround 23 = .ok (.getfield 39, 3) := by decide +kernel
theorem dX8_lookAround_26 : decode cX8_lookAround 26 = .ok (.bipush 10, 2) := by decide +kernel
theorem dX8_lookAround_28 : decode cX8_lookAround 28 = .ok (.iconst 0, 1) := by decide +kernel
theorem dX8_lookAround_29 : decode cX8_lookAround 29 = .ok (.iastore, 1) := by decide +kernel
theorem dX8_lookAround_30 : decode cX8_lookAround 30 = .ok (.iconst 0, 1) := by decide +kernel
theorem dX8_lookAround_31 : decode cX8_lookAround 31 = .ok (.istore_n 3, 1) := by decide +kernel
theorem dX8_lookAround_32 : decode cX8_lookAround 32 = .ok (.iload_n 3, 1) := by decide +kernel
theorem dX8_lookAround_33 : decode cX8_lookAround 33 = .ok (.aload_n 0, 1) := by decide +kernel
theorem dX8_lookAround_34 : decode cX8_lookAround 34 = .ok (.getfield 45, 3) := by decide +kernel
theorem dX8_lookAround_37 : decode cX8_lookAround 37 = .ok (.getfield 91, 3) := by decide +kernel
theorem dX8_lookAround_40 : decode cX8_lookAround 40 = .ok (.if_icmp .ge 126, 3) := by decide +kernel
theorem dX8_lookAround_43 : decode cX8_lookAround 43 = .ok (.iload_n 3, 1) := by decide +kernel
theorem dX8_lookAround_44 : decode cX8_lookAround 44 = .ok (.iload_n 1, 1) := by decide +kernel
theorem dX8_lookAround_45 : decode cX8_lookAround 45 = .ok (.if_icmp .eq 115, 3) := by decide +kernel
theorem dX8_lookAround_48 : decode cX8_lookAround 48 = .ok (.aload_n 0, 1) := by decide +kernel
theorem dX8_lookAround_49 : decode cX8_lookAround 49 = .ok (.getfield 11, 3) := by decide +kernel
theorem dX8_lookAround_52 : decode cX8_lookAround 52 = .ok (.iload_n 2, 1) := by decide +kernel
theorem dX8_lookAround_53 : decode cX8_lookAround 53 = .ok (.iload_n 3, 1) := by decide +kernel
theorem dX8_lookAround_54 : decode cX8_lookAround 54 = .ok (.iadd, 1) := by decide +kernel
theorem dX8_lookAround_55 : decode cX8_lookAround 55 = .ok (.iaload, 1) := by decide +kernel
theorem dX8_lookAround_56 : decode cX8_lookAround 56 = .ok (.iconst (-1), 1) := by decide +kernel
theorem dX8_lookAround_57 : decode cX8_lookAround 57 = .ok (.if_icmp .ne 6, 3) := by decide +kernel
theorem dX8_lookAround_60 : decode cX8_lookAround 60 = .ok (.goto 100, 3) := by decide +kernel
theorem dX8_lookAround_63 : decode cX8_lookAround 63 = .ok (.aload_n 0, 1) := by decide +kernel
theorem dX8_lookAround_64 : decode cX8_lookAround 64 = .ok (.getfield 11, 3) := by decide +kernel
theorem dX8_lookAround_67 : decode cX8_lookAround 67 = .ok (.iload_n 2, 1) := by decide +kernel
theorem dX8_lookAround_68 : decode cX8_lookAround 68 = .ok (.iload_n 3, 1) := by decide +kernel
theorem dX8_lookAround_69 : decode cX8_lookAround 69 = .ok (.iadd, 1) := by decide +kernel
theorem dX8_lookAround_70 : decode cX8_lookAround 70 = .ok (.iaload, 1) := by decide +kernel
theorem dX8_lookAround_71 : decode cX8_lookAround 71 = .ok (.aload_n 0, 1) := by decide +kernel
theorem dX8_lookAround_72 : decode cX8_lookAround 72 = .ok (.getfield 11, 3) := by decide +kernel
theorem dX8_lookAround_75 : decode cX8_lookAround 75 = .ok (.iload_n 1, 1) := by decide +kernel
theorem dX8_lookAround_76 : decode cX8_lookAround 76 = .ok (.iaload, 1) := by decide +kernel
theorem dX8_lookAround_77 : decode cX8_lookAround 77 = .ok (.isub, 1) := by decide +kernel
theorem dX8_lookAround_78 : decode cX8_lookAround 78 = .ok (.invokestatic 148, 3) := by decide +kernel
theorem dX8_lookAround_81 : decode cX8_lookAround 81 = .ok (.aload_n 0, 1) := by decide +kernel
theorem dX8_lookAround_82 : decode cX8_lookAround 82 = .ok (.getfield 15, 3) := by decide +kernel
theorem dX8_lookAround_85 : decode cX8_lookAround 85 = .ok (.iload_n 2, 1) := by decide +kernel
theorem dX8_lookAround_86 : decode cX8_lookAround 86 = .ok (.iload_n 3, 1) := by decide +kernel
theorem dX8_lookAround_87 : decode cX8_lookAround 87 = .ok (.iadd, 1) := by decide +kernel
theorem dX8_lookAround_88 : decode cX8_lookAround 88 = .ok (.iaload, 1) := by decide +kernel
theorem dX8_lookAround_89 : decode cX8_lookAround 89 = .ok (.aload_n 0, 1) := by decide +kernel
theorem dX8_lookAround_90 : decode cX8_lookAround 90 = .ok (.getfield 15, 3) := by decide +kernel
theorem dX8_lookAround_93 : decode cX8_lookAround 93 = .ok (.iload_n 1, 1) := by decide +kernel
theorem dX8_lookAround_94 : decode cX8_lookAround 94 = .ok (.iaload, 1) := by decide +kernel
theorem dX8_lookAround_95 : decode cX8_lookAround 95 = .ok (.isub, 1) := by decide +kernel
theorem dX8_lookAround_96 : decode cX8_lookAround 96 = .ok (.invokestatic 148, 3) := by decide +kernel
theorem dX8_lookAround_99 : decode cX8_lookAround 99 = .ok (.iadd, 1) := by decide +kernel
theorem dX8_lookAround_100 : decode cX8_lookAround 100 = .ok (.istore 4, 2) := by decide +kernel
theorem dX8_lookAround_102 : decode cX8_lookAround 102 = .ok (.aload_n 0, 1) := by decide +kernel
theorem dX8_lookAround_103 : decode cX8_lookAround 103 = .ok (.getfield 39, 3) := by decide +kernel
theorem dX8_lookAround_106 : decode cX8_lookAround 106 = .ok (.iconst 2, 1) := by decide +kernel
theorem dX8_lookAround_107 : decode cX8_lookAround 107 = .ok (.aload_n 0, 1) := by decide +kernel
theorem dX8_lookAround_108 : decode cX8_lookAround 108 = .ok (.getfield 39, 3) := by decide +kernel
theorem dX8_lookAround_111 : decode cX8_lookAround 111 = .ok (.iconst 2, 1) := by decide +kernel
theorem dX8_lookAround_112 : decode cX8_lookAround 112 = .ok (.iaload, 1) := by decide +kernel
theorem dX8_lookAround_113 : decode cX8_lookAround 113 = .ok (.iload 4, 2) := by decide +kernel
theorem dX8_lookAround_115 : decode cX8_lookAround 115 = .ok (.invokestatic 132, 3) := by decide +kernel
theorem dX8_lookAround_118 : decode cX8_lookAround 118 = .ok (.iastore, 1) := by decide +kernel
theorem dX8_lookAround_119 : decode cX8_lookAround 119 = .ok (.iload 4, 2) := by decide +kernel
theorem dX8_lookAround_121 : decode cX8_lookAround 121 = .ok (.iconst 2, 1) := by decide +kernel
theorem dX8_lookAround_122 : decode cX8_lookAround 122 = .ok (.if_icmp .gt 17, 3) := by decide +kernel
theorem dX8_lookAround_125 : decode cX8_lookAround 125 = .ok (.aload_n 0, 1) := by decide +kernel
theorem dX8_lookAround_126 : decode cX8_lookAround 126 = .ok (.getfield 39, 3) := by decide +kernel
theorem dX8_lookAround_129 : decode cX8_lookAround 129 = .ok (.bipush 7, 2) := by decide +kernel
theorem dX8_lookAround_131 : decode cX8_lookAround 131 = .ok (.dup2, 1) := by decide +kernel
theorem dX8_lookAround_132 : decode cX8_lookAround 132 = .ok (.iaload, 1) := by decide +kernel
theorem dX8_lookAround_133 : decode cX8_lookAround 133 = .ok (.iconst 1, 1) := by decide +kernel
theorem dX8_lookAround_134 : decode cX8_lookAround 134 = .ok (.iadd, 1) := by decide +kernel
theorem dX8_lookAround_135 : decode cX8_lookAround 135 = .ok (.iastore, 1) := by decide +kernel
theorem dX8_lookAround_136 : decode cX8_lookAround 136 = .ok (.goto 24, 3) := by decide +kernel
theorem dX8_lookAround_139 : decode cX8_lookAround 139 = .ok (.iload_n 3, 1) := by decide +kernel
theorem dX8_lookAround_140 : decode cX8_lookAround 140 = .ok (.aload_n 0, 1) := by decide +kernel
theorem dX8_lookAround_141 : decode cX8_lookAround 141 = .ok (.getfield 45, 3) := by decide +kernel
theorem dX8_lookAround_144 : decode cX8_lookAround 144 = .ok (.getfield 151, 3) := by decide +kernel
theorem dX8_lookAround_147 : decode cX8_lookAround 147 = .ok (.iload_n 1, 1) := by decide +kernel
theorem dX8_lookAround_148 : decode cX8_lookAround 148 = .ok (.iaload, 1) := by decide +kernel
theorem dX8_lookAround_149 : decode cX8_lookAround 149 = .ok (.if_icmp .ne 11, 3) := by decide +kernel
theorem dX8_lookAround_152 : decode cX8_lookAround 152 = .ok (.aload_n 0, 1) := by decide +kernel
theorem dX8_lookAround_153 : decode cX8_lookAround 153 = .ok (.getfield 39, 3) := by decide +kernel
theorem dX8_lookAround_156 : decode cX8_lookAround 156 = .ok (.bipush 10, 2) := by decide +kernel
theorem dX8_lookAround_158 : decode cX8_lookAround 158 = .ok (.iconst 1, 1) := by decide +kernel
theorem dX8_lookAround_159 : decode cX8_lookAround 159 = .ok (.iastore, 1) := by decide +kernel
theorem dX8_lookAround_160 : decode cX8_lookAround 160 = .ok (.iinc 3 1, 3) := by decide +kernel
theorem dX8_lookAround_163 : decode cX8_lookAround 163 = .ok (.goto (-131), 3) := by decide +kernel
theorem dX8_lookAround_166 : decode cX8_lookAround 166 = .ok (.return_, 1) := by decide +kernel
theorem dX8_soon_0 : decode cX8_soon 0 = .ok (.iload_n 3, 1) := by decide +kernel
theorem dX8_soon_1 : decode cX8_soon 1 = .ok (.ifCond .eq 9, 3) := by decide +kernel
theorem dX8_soon_4 : decode cX8_soon 4 = .ok (.iload_n 1, 1) := by decide +kernel
theorem dX8_soon_5 : decode cX8_soon 5 = .ok (.iload_n 2, 1) := by decide +kernel
theorem dX8_soon_6 : decode cX8_soon 6 = .ok (.iadd, 1) := by decide +kernel
theorem dX8_soon_7 : decode cX8_soon 7 = .ok (.goto 6, 3) := by decide +kernel
theorem dX8_soon_10 : decode cX8_soon 10 = .ok (.iload_n 2, 1) := by decide +kernel
theorem dX8_soon_11 : decode cX8_soon 11 = .ok (.iload_n 1, 1) := by decide +kernel
theorem dX8_soon_12 : decode cX8_soon 12 = .ok (.isub, 1) := by decide +kernel
theorem dX8_soon_13 : decode cX8_soon 13 = .ok (.istore 4, 2) := by decide +kernel
theorem dX8_soon_15 : decode cX8_soon 15 = .ok (.iload 4, 2) := by decide +kernel
theorem dX8_soon_17 : decode cX8_soon 17 = .ok (.ifCond .le 19, 3) := by decide +kernel
theorem dX8_soon_20 : decode cX8_soon 20 = .ok (.bipush 99, 2) := by decide +kernel
theorem dX8_soon_22 : decode cX8_soon 22 = .ok (.iload_n 0, 1) := by decide +kernel
theorem dX8_soon_23 : decode cX8_soon 23 = .ok (.iload_n 1, 1) := by decide +kernel
theorem dX8_soon_24 : decode cX8_soon 24 = .ok (.imul, 1) := by decide +kernel
theorem dX8_soon_25 : decode cX8_soon 25 = .ok (.iload_n 2, 1) := by decide +kernel
theorem dX8_soon_26 : decode cX8_soon 26 = .ok (.imul, 1) := by decide +kernel
theorem dX8_soon_27 : decode cX8_soon 27 = .ok (.iload 4, 2) := by decide +kernel
theorem dX8_soon_29 : decode cX8_soon 29 = .ok (.idiv, 1) := by decide +kernel
theorem dX8_soon_30 : decode cX8_soon 30 = .ok (.invokestatic 132, 3) := by decide +kernel
theorem dX8_soon_33 : decode cX8_soon 33 = .ok (.goto 5, 3) := by decide +kernel
theorem dX8_soon_36 : decode cX8_soon 36 = .ok (.bipush 99, 2) := by decide +kernel
theorem dX8_soon_38 : decode cX8_soon 38 = .ok (.ireturn, 1) := by decide +kernel
theorem dX8_look_0 : decode cX8_look 0 = .ok (.aload_n 0, 1) := by decide +kernel
theorem dX8_look_1 : decode cX8_look 1 = .ok (.getfield 45, 3) := by decide +kernel
theorem dX8_look_4 : decode cX8_look 4 = .ok (.getfield 101, 3) := by decide +kernel
theorem dX8_look_7 : decode cX8_look 7 = .ok (.iload_n 1, 1) := by decide +kernel
theorem dX8_look_8 : decode cX8_look 8 = .ok (.iaload, 1) := by decide +kernel
theorem dX8_look_9 : decode cX8_look 9 = .ok (.istore_n 2, 1) := by decide +kernel
theorem dX8_look_10 : decode cX8_look 10 = .ok (.aload_n 0, 1) := by decide +kernel
theorem dX8_look_11 : decode cX8_look 11 = .ok (.iload_n 1, 1) := by decide +kernel
theorem dX8_look_12 : decode cX8_look 12 = .ok (.iload_n 2, 1) := by decide +kernel
theorem dX8_look_13 : decode cX8_look 13 = .ok (.iconst 0, 1) := by decide +kernel
theorem dX8_look_14 : decode cX8_look 14 = .ok (.invokevirtual 104, 3) := by decide +kernel
theorem dX8_look_17 : decode cX8_look 17 = .ok (.istore_n 3, 1) := by decide +kernel
theorem dX8_look_18 : decode cX8_look 18 = .ok (.aload_n 0, 1) := by decide +kernel
theorem dX8_look_19 : decode cX8_look 19 = .ok (.getfield 108, 3) := by decide +kernel
theorem dX8_look_22 : decode cX8_look 22 = .ok (.iconst (-1), 1) := by decide +kernel
theorem dX8_look_23 : decode cX8_look 23 = .ok (.if_icmp .eq 23, 3) := by decide +kernel
theorem dX8_look_26 : decode cX8_look 26 = .ok (.aload_n 0, 1) := by decide +kernel
theorem dX8_look_27 : decode cX8_look 27 = .ok (.getfield 45, 3) := by decide +kernel
theorem dX8_look_30 : decode cX8_look 30 = .ok (.getfield 101, 3) := by decide +kernel
theorem dX8_look_33 : decode cX8_look 33 = .ok (.aload_n 0, 1) := by decide +kernel
theorem dX8_look_34 : decode cX8_look 34 = .ok (.getfield 108, 3) := by decide +kernel
theorem dX8_look_37 : decode cX8_look 37 = .ok (.iaload, 1) := by decide +kernel
theorem dX8_look_38 : decode cX8_look 38 = .ok (.iload_n 2, 1) := by decide +kernel
theorem dX8_look_39 : decode cX8_look 39 = .ok (.if_icmp .eq 7, 3) := by decide +kernel
theorem dX8_look_42 : decode cX8_look 42 = .ok (.iconst 1, 1) := by decide +kernel
theorem dX8_look_43 : decode cX8_look 43 = .ok (.goto 4, 3) := by decide +kernel
theorem dX8_look_46 : decode cX8_look 46 = .ok (.iconst 0, 1) := by decide +kernel
theorem dX8_look_47 : decode cX8_look 47 = .ok (.istore 4, 2) := by decide +kernel
theorem dX8_look_49 : decode cX8_look 49 = .ok (.aload_n 0, 1) := by decide +kernel
theorem dX8_look_50 : decode cX8_look 50 = .ok (.getfield 39, 3) := by decide +kernel
theorem dX8_look_53 : decode cX8_look 53 = .ok (.iconst 0, 1) := by decide +kernel
theorem dX8_look_54 : decode cX8_look 54 = .ok (.iload_n 3, 1) := by decide +kernel
theorem dX8_look_55 : decode cX8_look 55 = .ok (.iastore, 1) := by decide +kernel
theorem dX8_look_56 : decode cX8_look 56 = .ok (.aload_n 0, 1) := by decide +kernel
theorem dX8_look_57 : decode cX8_look 57 = .ok (.getfield 39, 3) := by decide +kernel
theorem dX8_look_60 : decode cX8_look 60 = .ok (.bipush 8, 2) := by decide +kernel
theorem dX8_look_62 : decode cX8_look 62 = .ok (.iload_n 3, 1) := by decide +kernel
theorem dX8_look_63 : decode cX8_look 63 = .ok (.ifCond .ne 7, 3) := by decide +kernel
theorem dX8_look_66 : decode cX8_look 66 = .ok (.iconst 1, 1) := by decide +kernel
theorem dX8_look_67 : decode cX8_look 67 = .ok (.goto 4, 3) := by decide +kernel
theorem dX8_look_70 : decode cX8_look 70 = .ok (.iconst 0, 1) := by decide +kernel
theorem dX8_look_71 : decode cX8_look 71 = .ok (.iastore, 1) := by decide +kernel
theorem dX8_look_72 : decode cX8_look 72 = .ok (.aload_n 0, 1) := by decide +kernel
theorem dX8_look_73 : decode cX8_look 73 = .ok (.getfield 39, 3) := by decide +kernel
theorem dX8_look_76 : decode cX8_look 76 = .ok (.bipush 9, 2) := by decide +kernel
theorem dX8_look_78 : decode cX8_look 78 = .ok (.iload 4, 2) := by decide +kernel
theorem dX8_look_80 : decode cX8_look 80 = .ok (.ifCond .eq 7, 3) := by decide +kernel
theorem dX8_look_83 : decode cX8_look 83 = .ok (.iconst 1, 1) := by decide +kernel
theorem dX8_look_84 : decode cX8_look 84 = .ok (.goto 4, 3) := by decide +kernel
theorem dX8_look_87 : decode cX8_look 87 = .ok (.iconst 0, 1) := by decide +kernel
theorem dX8_look_88 : decode cX8_look 88 = .ok (.iastore, 1) := by decide +kernel
theorem dX8_look_89 : decode cX8_look 89 = .ok (.aload_n 0, 1) := by decide +kernel
theorem dX8_look_90 : decode cX8_look 90 = .ok (.getfield 39, 3) := by decide +kernel
theorem dX8_look_93 : decode cX8_look 93 = .ok (.iconst 1, 1) := by decide +kernel
theorem dX8_look_94 : decode cX8_look 94 = .ok (.aload_n 0, 1) := by decide +kernel
theorem dX8_look_95 : decode cX8_look 95 = .ok (.getfield 108, 3) := by decide +kernel
theorem dX8_look_98 : decode cX8_look 98 = .ok (.iconst (-1), 1) := by decide +kernel
theorem dX8_look_99 : decode cX8_look 99 = .ok (.if_icmp .ne 8, 3) := by decide +kernel
theorem dX8_look_102 : decode cX8_look 102 = .ok (.bipush 99, 2) := by decide +kernel
theorem dX8_look_104 : decode cX8_look 104 = .ok (.goto 30, 3) := by decide +kernel
theorem dX8_look_107 : decode cX8_look 107 = .ok (.iload_n 3, 1) := by decide +kernel
theorem dX8_look_108 : decode cX8_look 108 = .ok (.aload_n 0, 1) := by decide +kernel
theorem dX8_look_109 : decode cX8_look 109 = .ok (.getfield 45, 3) := by decide +kernel
theorem dX8_look_112 : decode cX8_look 112 = .ok (.getfield 111, 3) := by decide +kernel
theorem dX8_look_115 : decode cX8_look 115 = .ok (.iload_n 1, 1) := by decide +kernel
theorem dX8_look_116 : decode cX8_look 116 = .ok (.iaload, 1) := by decide +kernel
theorem dX8_look_117 : decode cX8_look 117 = .ok (.aload_n 0, 1) := by decide +kernel
theorem dX8_look_118 : decode cX8_look 118 = .ok (.getfield 45, 3) := by decide +kernel
theorem dX8_look_121 : decode cX8_look 121 = .ok (.getfield 111, 3) := by decide +kernel
theorem dX8_look_124 : decode cX8_look 124 = .ok (.aload_n 0, 1) := by decide +kernel
theorem dX8_look_125 : decode cX8_look 125 = .ok (.getfield 108, 3) := by decide +kernel
theorem dX8_look_128 : decode cX8_look 128 = .ok (.iaload, 1) := by decide +kernel
theorem dX8_look_129 : decode cX8_look 129 = .ok (.iload 4, 2) := by decide +kernel
theorem dX8_look_131 : decode cX8_look 131 = .ok (.invokestatic 114, 3) := by decide +kernel
theorem dX8_look_134 : decode cX8_look 134 = .ok (.iastore, 1) := by decide +kernel
theorem dX8_look_135 : decode cX8_look 135 = .ok (.aload_n 0, 1) := by decide +kernel
theorem dX8_look_136 : decode cX8_look 136 = .ok (.getfield 39, 3) := by decide +kernel
theorem dX8_look_139 : decode cX8_look 139 = .ok (.iconst 3, 1) := by decide +kernel
theorem dX8_look_140 : decode cX8_look 140 = .ok (.aload_n 0, 1) := by decide +kernel
theorem dX8_look_141 : decode cX8_look 141 = .ok (.iload_n 1, 1) := by decide +kernel
theorem dX8_look_142 : decode cX8_look 142 = .ok (.iconst 0, 1) := by decide +kernel
theorem dX8_look_143 : decode cX8_look 143 = .ok (.iload_n 2, 1) := by decide +kernel
theorem dX8_look_144 : decode cX8_look 144 = .ok (.invokevirtual 104, 3) := by decide +kernel
theorem dX8_look_147 : decode cX8_look 147 = .ok (.iastore, 1) := by decide +kernel
theorem dX8_look_148 : decode cX8_look 148 = .ok (.aload_n 0, 1) := by decide +kernel
theorem dX8_look_149 : decode cX8_look 149 = .ok (.getfield 39, 3) := by decide +kernel
theorem dX8_look_152 : decode cX8_look 152 = .ok (.iconst 4, 1) := by decide +kernel
theorem dX8_look_153 : decode cX8_look 153 = .ok (.aload_n 0, 1) := by decide +kernel
theorem dX8_look_154 : decode cX8_look 154 = .ok (.iload_n 1, 1) := by decide +kernel
theorem dX8_look_155 : decode cX8_look 155 = .ok (.iconst 0, 1) := by decide +kernel
theorem dX8_look_156 : decode cX8_look 156 = .ok (.iload_n 2, 1) := by decide +kernel
theorem dX8_look_157 : decode cX8_look 157 = .ok (.ineg, 1) := by decide +kernel
theorem dX8_look_158 : decode cX8_look 158 = .ok (.invokevirtual 104, 3) := by decide +kernel
theorem dX8_look_161 : decode cX8_look 161 = .ok (.iastore, 1) := by decide +kernel
theorem dX8_look_162 : decode cX8_look 162 = .ok (.aload_n 0, 1) := by decide +kernel
theorem dX8_look_163 : decode cX8_look 163 = .ok (.getfield 39, 3) := by decide +kernel
theorem dX8_look_166 : decode cX8_look 166 = .ok (.iconst 5, 1) := by decide +kernel
theorem dX8_look_167 : decode cX8_look 167 = .ok (.aload_n 0, 1) := by decide +kernel
theorem dX8_look_168 : decode cX8_look 168 = .ok (.getfield 30, 3) := by decide +kernel
theorem dX8_look_171 : decode cX8_look 171 = .ok (.iload_n 1, 1) := by decide +kernel
theorem dX8_look_172 : decode cX8_look 172 = .ok (.iaload, 1) := by decide +kernel
theorem dX8_look_173 : decode cX8_look 173 = .ok (.iastore, 1) := by decide +kernel
theorem dX8_look_174 : decode cX8_look 174 = .ok (.aload_n 0, 1) := by decide +kernel
theorem dX8_look_175 : decode cX8_look 175 = .ok (.getfield 39, 3) := by decide +kernel
theorem dX8_look_178 : decode cX8_look 178 = .ok (.bipush 6, 2) := by decide +kernel
theorem dX8_look_180 : decode cX8_look 180 = .ok (.aload_n 0, 1) := by decide +kernel
theorem dX8_look_181 : decode cX8_look 181 = .ok (.getfield 45, 3) := by decide +kernel
theorem dX8_look_184 : decode cX8_look 184 = .ok (.getfield 94, 3) := by decide +kernel
theorem dX8_look_187 : decode cX8_look 187 = .ok (.iload_n 1, 1) := by decide +kernel
theorem dX8_look_188 : decode cX8_look 188 = .ok (.iaload, 1) := by decide +kernel
theorem dX8_look_189 : decode cX8_look 189 = .ok (.iastore, 1) := by decide +kernel
theorem dX8_look_190 : decode cX8_look 190 = .ok (.aload_n 0, 1) := by decide +kernel
theorem dX8_look_191 : decode cX8_look 191 = .ok (.iload_n 1, 1) := by decide +kernel
theorem dX8_look_192 : decode cX8_look 192 = .ok (.invokevirtual 118, 3) := by decide +kernel
theorem dX8_look_195 : decode cX8_look 195 = .ok (.return_, 1) := by decide +kernel
theorem dX8_deed_0 : decode cX8_deed 0 = .ok (.aload_n 0, 1) := by decide +kernel
theorem dX8_deed_1 : decode cX8_deed 1 = .ok (.getfield 45, 3) := by decide +kernel
theorem dX8_deed_4 : decode cX8_deed 4 = .ok (.getfield 111, 3) := by decide +kernel
theorem dX8_deed_7 : decode cX8_deed 7 = .ok (.iload_n 1, 1) := by decide +kernel
theorem dX8_deed_8 : decode cX8_deed 8 = .ok (.iaload, 1) := by decide +kernel
theorem dX8_deed_9 : decode cX8_deed 9 = .ok (.istore_n 2, 1) := by decide +kernel
theorem dX8_deed_10 : decode cX8_deed 10 = .ok (.aload_n 0, 1) := by decide +kernel
theorem dX8_deed_11 : decode cX8_deed 11 = .ok (.getfield 11, 3) := by decide +kernel
theorem dX8_deed_14 : decode cX8_deed 14 = .ok (.iload_n 1, 1) := by decide +kernel
theorem dX8_deed_15 : decode cX8_deed 15 = .ok (.iaload, 1) := by decide +kernel
theorem dX8_deed_16 : decode cX8_deed 16 = .ok (.iconst (-1), 1) := by decide +kernel
theorem dX8_deed_17 : decode cX8_deed 17 = .ok (.if_icmp .eq 17, 3) := by decide +kernel
theorem dX8_deed_20 : decode cX8_deed 20 = .ok (.iload_n 2, 1) := by decide +kernel
theorem dX8_deed_21 : decode cX8_deed 21 = .ok (.iconst 1, 1) := by decide +kernel
theorem dX8_deed_22 : decode cX8_deed 22 = .ok (.if_icmp .lt 12, 3) := by decide +kernel
theorem dX8_deed_25 : decode cX8_deed 25 = .ok (.aload_n 0, 1) := by decide +kernel
theorem dX8_deed_26 : decode cX8_deed 26 = .ok (.getfield 57, 3) := by decide +kernel
theorem dX8_deed_29 : decode cX8_deed 29 = .ok (.iload_n 2, 1) := by decide +kernel
theorem dX8_deed_30 : decode cX8_deed 30 = .ok (.irem, 1) := by decide +kernel
theorem dX8_deed_31 : decode cX8_deed 31 = .ok (.ifCond .eq 5, 3) := by decide +kernel
theorem dX8_deed_34 : decode cX8_deed 34 = .ok (.iconst 5, 1) := by decide +kernel
theorem dX8_deed_35 : decode cX8_deed 35 = .ok (.ireturn, 1) := by decide +kernel
theorem dX8_deed_36 : decode cX8_deed 36 = .ok (.aload_n 0, 1) := by decide +kernel
theorem dX8_deed_37 : decode cX8_deed 37 = .ok (.iload_n 1, 1) := by decide +kernel
theorem dX8_deed_38 : decode cX8_deed 38 = .ok (.invokevirtual 154, 3) := by decide +kernel
theorem dX8_deed_41 : decode cX8_deed 41 = .ok (.aload_n 0, 1) := by decide +kernel
theorem dX8_deed_42 : decode cX8_deed 42 = .ok (.getfield 49, 3) := by decide +kernel
theorem dX8_deed_45 : decode cX8_deed 45 = .ok (.aload_n 0, 1) := by decide +kernel
theorem dX8_deed_46 : decode cX8_deed 46 = .ok (.getfield 39, 3) := by decide +kernel
theorem dX8_deed_49 : decode cX8_deed 49 = .ok (.invokevirtual 157, 3) := by decide +kernel
theorem dX8_deed_52 : decode cX8_deed 52 = .ok (.ireturn, 1) := by decide +kernel
theorem dX8_danced_0 : decode cX8_danced 0 = .ok (.bipush 12, 2) := by decide +kernel
theorem dX8_danced_2 : decode cX8_danced 2 = .ok (.iload_n 1, 1) := by decide +kernel
theorem dX8_danced_3 : decode cX8_danced 3 = .ok (.iadd, 1) := by decide +kernel
theorem dX8_danced_4 : decode cX8_danced 4 = .ok (.istore_n 3, 1) := by decide +kernel
theorem dX8_danced_5 : decode cX8_danced 5 = .ok (.bipush 12, 2) := by decide +kernel
theorem dX8_danced_7 : decode cX8_danced 7 = .ok (.iload_n 2, 1) := by decide +kernel
theorem dX8_danced_8 : decode cX8_danced 8 = .ok (.iadd, 1) := by decide +kernel
theorem dX8_danced_9 : decode cX8_danced 9 = .ok (.istore 4, 2) := by decide +kernel
theorem dX8_danced_11 : decode cX8_danced 11 = .ok (.aload_n 0, 1) := by decide +kernel
theorem dX8_danced_12 : decode cX8_danced 12 = .ok (.getfield 15, 3) := by decide +kernel
theorem dX8_danced_15 : decode cX8_danced 15 = .ok (.iload_n 1, 1) := by decide +kernel
theorem dX8_danced_16 : decode cX8_danced 16 = .ok (.iaload, 1) := by decide +kernel
theorem dX8_danced_17 : decode cX8_danced 17 = .ok (.iconst (-1), 1) := by decide +kernel
theorem dX8_danced_18 : decode cX8_danced 18 = .ok (.if_icmp .eq 37, 3) := by decide +kernel
theorem dX8_danced_21 : decode cX8_danced 21 = .ok (.aload_n 0, 1) := by decide +kernel
theorem dX8_danced_22 : decode cX8_danced 22 = .ok (.getfield 15, 3) := by decide +kernel
theorem dX8_danced_25 : decode cX8_danced 25 = .ok (.iload_n 1, 1) := by decide +kernel
theorem dX8_danced_26 : decode cX8_danced 26 = .ok (.iaload, 1) := by decide +kernel
theorem dX8_danced_27 : decode cX8_danced 27 = .ok (.aload_n 0, 1) := by decide +kernel
theorem dX8_danced_28 : decode cX8_danced 28 = .ok (.getfield 15, 3) := by decide +kernel
theorem dX8_danced_31 : decode cX8_danced 31 = .ok (.iload_n 2, 1) := by decide +kernel
theorem dX8_danced_32 : decode cX8_danced 32 = .ok (.iaload, 1) := by decide +kernel
theorem dX8_danced_33 : decode cX8_danced 33 = .ok (.if_icmp .ne 22, 3) := by decide +kernel
theorem dX8_danced_36 : decode cX8_danced 36 = .ok (.aload_n 0, 1) := by decide +kernel
theorem dX8_danced_37 : decode cX8_danced 37 = .ok (.getfield 15, 3) := by decide +kernel
theorem dX8_danced_40 : decode cX8_danced 40 = .ok (.iload_n 1, 1) := by decide +kernel
theorem dX8_danced_41 : decode cX8_danced 41 = .ok (.iaload, 1) := by decide +kernel
theorem dX8_danced_42 : decode cX8_danced 42 = .ok (.aload_n 0, 1) := by decide +kernel
theorem dX8_danced_43 : decode cX8_danced 43 = .ok (.getfield 15, 3) := by decide +kernel
theorem dX8_danced_46 : decode cX8_danced 46 = .ok (.iload_n 3, 1) := by decide +kernel
theorem dX8_danced_47 : decode cX8_danced 47 = .ok (.iaload, 1) := by decide +kernel
theorem dX8_danced_48 : decode cX8_danced 48 = .ok (.if_icmp .eq 7, 3) := by decide +kernel
theorem dX8_danced_51 : decode cX8_danced 51 = .ok (.iconst 1, 1) := by decide +kernel
theorem dX8_danced_52 : decode cX8_danced 52 = .ok (.goto 4, 3) := by decide +kernel
theorem dX8_danced_55 : decode cX8_danced 55 = .ok (.iconst 0, 1) := by decide +kernel
theorem dX8_danced_56 : decode cX8_danced 56 = .ok (.istore 5, 2) := by decide +kernel
theorem dX8_danced_58 : decode cX8_danced 58 = .ok (.iload 5, 2) := by decide +kernel
theorem dX8_danced_60 : decode cX8_danced 60 = .ok (.ifCond .eq 44, 3) := by decide +kernel
theorem dX8_danced_63 : decode cX8_danced 63 = .ok (.aload_n 0, 1) := by decide +kernel
theorem dX8_danced_64 : decode cX8_danced 64 = .ok (.getfield 15, 3) := by decide +kernel
theorem dX8_danced_67 : decode cX8_danced 67 = .ok (.iload_n 3, 1) := by decide +kernel
theorem dX8_danced_68 : decode cX8_danced 68 = .ok (.iaload, 1) := by decide +kernel
theorem dX8_danced_69 : decode cX8_danced 69 = .ok (.aload_n 0, 1) := by decide +kernel
theorem dX8_danced_70 : decode cX8_danced 70 = .ok (.getfield 15, 3) := by decide +kernel
theorem dX8_danced_73 : decode cX8_danced 73 = .ok (.iload 4, 2) := by decide +kernel
theorem dX8_danced_75 : decode cX8_danced 75 = .ok (.iaload, 1) := by decide +kernel
theorem dX8_danced_76 : decode cX8_danced 76 = .ok (.if_icmp .ne 28, 3) := by decide +kernel
theorem dX8_danced_79 : decode cX8_danced 79 = .ok (.aload_n 0, 1) := by decide +kernel
theorem dX8_danced_80 : decode cX8_danced 80 = .ok (.getfield 11, 3) := by decide +kernel
theorem dX8_danced_83 : decode cX8_danced 83 = .ok (.iload_n 3, 1) := by decide +kernel
theorem dX8_danced_84 : decode cX8_danced 84 = .ok (.iaload, 1) := by decide +kernel
theorem dX8_danced_85 : decode cX8_danced 85 = .ok (.aload_n 0, 1) := by decide +kernel
theorem dX8_danced_86 : decode cX8_danced 86 = .ok (.getfield 11, 3) := by decide +kernel
theorem dX8_danced_89 : decode cX8_danced 89 = .ok (.iload 4, 2) := by decide +kernel
theorem dX8_danced_91 : decode cX8_danced 91 = .ok (.iaload, 1) := by decide +kernel
theorem dX8_danced_92 : decode cX8_danced 92 = .ok (.isub, 1) := by decide +kernel
theorem dX8_danced_93 : decode cX8_danced 93 = .ok (.invokestatic 148, 3) := by decide +kernel
theorem dX8_danced_96 : decode cX8_danced 96 = .ok (.iconst 2, 1) := by decide +kernel
theorem dX8_danced_97 : decode cX8_danced 97 = .ok (.if_icmp .gt 7, 3) := by decide +kernel
theorem dX8_danced_100 : decode cX8_danced 100 = .ok (.iconst 1, 1) := by decide +kernel
theorem dX8_danced_101 : decode cX8_danced 101 = .ok (.goto 4, 3) := by decide +kernel
theorem dX8_danced_104 : decode cX8_danced 104 = .ok (.iconst 0, 1) := by decide +kernel
theorem dX8_danced_105 : decode cX8_danced 105 = .ok (.ireturn, 1) := by decide +kernel
theorem dX8_dancesNow_0 : decode cX8_dancesNow 0 = .ok (.iconst 0, 1) := by decide +kernel
theorem dX8_dancesNow_1 : decode cX8_dancesNow 1 = .ok (.istore_n 1, 1) := by decide +kernel
theorem dX8_dancesNow_2 : decode cX8_dancesNow 2 = .ok (.iconst 0, 1) := by decide +kernel
theorem dX8_dancesNow_3 : decode cX8_dancesNow 3 = .ok (.istore_n 2, 1) := by decide +kernel
theorem dX8_dancesNow_4 : decode cX8_dancesNow 4 = .ok (.iload_n 2, 1) := by decide +kernel
theorem dX8_dancesNow_5 : decode cX8_dancesNow 5 = .ok (.aload_n 0, 1) := by decide +kernel
theorem dX8_dancesNow_6 : decode cX8_dancesNow 6 = .ok (.getfield 45, 3) := by decide +kernel
theorem dX8_dancesNow_9 : decode cX8_dancesNow 9 = .ok (.getfield 91, 3) := by decide +kernel
theorem dX8_dancesNow_12 : decode cX8_dancesNow 12 = .ok (.if_icmp .ge 63, 3) := by decide +kernel
theorem dX8_dancesNow_15 : decode cX8_dancesNow 15 = .ok (.iload_n 2, 1) := by decide +kernel
theorem dX8_dancesNow_16 : decode cX8_dancesNow 16 = .ok (.iconst 1, 1) := by decide +kernel
theorem dX8_dancesNow_17 : decode cX8_dancesNow 17 = .ok (.iadd, 1) := by decide +kernel
theorem dX8_dancesNow_18 : decode cX8_dancesNow 18 = .ok (.istore_n 3, 1) := by decide +kernel
theorem dX8_dancesNow_19 : decode cX8_dancesNow 19 = .ok (.iload_n 3, 1) := by decide +kernel
theorem dX8_dancesNow_20 : decode cX8_dancesNow 20 = .ok (.aload_n 0, 1) := by decide +kernel
theorem dX8_dancesNow_21 : decode cX8_dancesNow 21 = .ok (.getfield 45, 3) := by decide +kernel
theorem dX8_dancesNow_24 : decode cX8_dancesNow 24 = .ok (.getfield 91, 3) := by decide +kernel
theorem dX8_dancesNow_27 : decode cX8_dancesNow 27 = .ok (.if_icmp .ge 42, 3) := by decide +kernel
theorem dX8_dancesNow_30 : decode cX8_dancesNow 30 = .ok (.aload_n 0, 1) := by decide +kernel
theorem dX8_dancesNow_31 : decode cX8_dancesNow 31 = .ok (.getfield 45, 3) := by decide +kernel
theorem dX8_dancesNow_34 : decode cX8_dancesNow 34 = .ok (.getfield 101, 3) := by decide +kernel
theorem dX8_dancesNow_37 : decode cX8_dancesNow 37 = .ok (.iload_n 2, 1) := by decide +kernel
theorem dX8_dancesNow_38 : decode cX8_dancesNow 38 = .ok (.iaload, 1) := by decide +kernel
theorem dX8_dancesNow_39 : decode cX8_dancesNow 39 = .ok (.aload_n 0, 1) := by decide +kernel
theorem dX8_dancesNow_40 : decode cX8_dancesNow 40 = .ok (.getfield 45, 3) := by decide +kernel
theorem dX8_dancesNow_43 : decode cX8_dancesNow 43 = .ok (.getfield 101, 3) := by decide +kernel
theorem dX8_dancesNow_46 : decode cX8_dancesNow 46 = .ok (.iload_n 3, 1) := by decide +kernel
theorem dX8_dancesNow_47 : decode cX8_dancesNow 47 = .ok (.iaload, 1) := by decide +kernel
theorem dX8_dancesNow_48 : decode cX8_dancesNow 48 = .ok (.if_icmp .eq 15, 3) := by decide +kernel
theorem dX8_dancesNow_51 : decode cX8_dancesNow 51 = .ok (.aload_n 0, 1) := by decide +kernel
theorem dX8_dancesNow_52 : decode cX8_dancesNow 52 = .ok (.iload_n 2, 1) := by decide +kernel
theorem dX8_dancesNow_53 : decode cX8_dancesNow 53 = .ok (.iload_n 3, 1) := by decide +kernel
theorem dX8_dancesNow_54 : decode cX8_dancesNow 54 = .ok (.invokevirtual 210, 3) := by decide +kernel
theorem dX8_dancesNow_57 : decode cX8_dancesNow 57 = .ok (.ifCond .eq 6, 3) := by decide +kernel
theorem dX8_dancesNow_60 : decode cX8_dancesNow 60 = .ok (.iinc 1 1, 3) := by decide +kernel
theorem dX8_dancesNow_63 : decode cX8_dancesNow 63 = .ok (.iinc 3 1, 3) := by decide +kernel
theorem dX8_dancesNow_66 : decode cX8_dancesNow 66 = .ok (.goto (-47), 3) := by decide +kernel
theorem dX8_dancesNow_69 : decode cX8_dancesNow 69 = .ok (.iinc 2 1, 3) := by decide +kernel
theorem dX8_dancesNow_72 : decode cX8_dancesNow 72 = .ok (.goto (-68), 3) := by decide +kernel
theorem dX8_dancesNow_75 : decode cX8_dancesNow 75 = .ok (.iload_n 1, 1) := by decide +kernel
theorem dX8_dancesNow_76 : decode cX8_dancesNow 76 = .ok (.ireturn, 1) := by decide +kernel
theorem dX8_arrive_0 : decode cX8_arrive 0 = .ok (.aload_n 0, 1) := by decide +kernel
theorem dX8_arrive_1 : decode cX8_arrive 1 = .ok (.getfield 11, 3) := by decide +kernel
theorem dX8_arrive_4 : decode cX8_arrive 4 = .ok (.iload_n 1, 1) := by decide +kernel
theorem dX8_arrive_5 : decode cX8_arrive 5 = .ok (.iconst (-1), 1) := by decide +kernel
theorem dX8_arrive_6 : decode cX8_arrive 6 = .ok (.iastore, 1) := by decide +kernel
theorem dX8_arrive_7 : decode cX8_arrive 7 = .ok (.aload_n 0, 1) := by decide +kernel
theorem dX8_arrive_8 : decode cX8_arrive 8 = .ok (.getfield 15, 3) := by decide +kernel
theorem dX8_arrive_11 : decode cX8_arrive 11 = .ok (.iload_n 1, 1) := by decide +kernel
theorem dX8_arrive_12 : decode cX8_arrive 12 = .ok (.iconst (-1), 1) := by decide +kernel
theorem dX8_arrive_13 : decode cX8_arrive 13 = .ok (.iastore, 1) := by decide +kernel
theorem dX8_arrive_14 : decode cX8_arrive 14 = .ok (.aload_n 0, 1) := by decide +kernel
theorem dX8_arrive_15 : decode cX8_arrive 15 = .ok (.getfield 18, 3) := by decide +kernel
theorem dX8_arrive_18 : decode cX8_arrive 18 = .ok (.iload_n 1, 1) := by decide +kernel
theorem dX8_arrive_19 : decode cX8_arrive 19 = .ok (.aload_n 0, 1) := by decide +kernel
theorem dX8_arrive_20 : decode cX8_arrive 20 = .ok (.getfield 57, 3) := by decide +kernel
theorem dX8_arrive_23 : decode cX8_arrive 23 = .ok (.iastore, 1) := by decide +kernel
theorem dX8_arrive_24 : decode cX8_arrive 24 = .ok (.aload_n 0, 1) := by decide +kernel
theorem dX8_arrive_25 : decode cX8_arrive 25 = .ok (.dup, 1) := by decide +kernel
theorem dX8_arrive_26 : decode cX8_arrive 26 = .ok (.getfield 63, 3) := by decide +kernel
theorem dX8_arrive_29 : decode cX8_arrive 29 = .ok (.iconst 1, 1) := by decide +kernel
theorem dX8_arrive_30 : decode cX8_arrive 30 = .ok (.iadd, 1) := by decide +kernel
theorem dX8_arrive_31 : decode cX8_arrive 31 = .ok (.putfield 63, 3) := by decide +kernel
theorem dX8_arrive_34 : decode cX8_arrive 34 = .ok (.return_, 1) := by decide +kernel
theorem dX8_isThere_0 : decode cX8_isThere 0 = .ok (.aload_n 0, 1) := by decide +kernel
theorem dX8_isThere_1 : decode cX8_isThere 1 = .ok (.getfield 45, 3) := by decide +kernel
theorem dX8_isThere_4 : decode cX8_isThere 4 = .ok (.iload_n 1, 1) := by decide +kernel
theorem dX8_isThere_5 : decode cX8_isThere 5 = .ok (.invokevirtual 97, 3) := by decide +kernel
theorem dX8_isThere_8 : decode cX8_isThere 8 = .ok (.ifCond .eq 17, 3) := by decide +kernel
theorem dX8_isThere_11 : decode cX8_isThere 11 = .ok (.aload_n 0, 1) := by decide +kernel
theorem dX8_isThere_12 : decode cX8_isThere 12 = .ok (.getfield 11, 3) := by decide +kernel
theorem dX8_isThere_15 : decode cX8_isThere 15 = .ok (.iload_n 1, 1) := by decide +kernel
theorem dX8_isThere_16 : decode cX8_isThere 16 = .ok (.iaload, 1) := by decide +kernel
theorem dX8_isThere_17 : decode cX8_isThere 17 = .ok (.iconst (-1), 1) := by decide +kernel
theorem dX8_isThere_18 : decode cX8_isThere 18 = .ok (.if_icmp .eq 7, 3) := by decide +kernel
theorem dX8_isThere_21 : decode cX8_isThere 21 = .ok (.iconst 1, 1) := by decide +kernel
theorem dX8_isThere_22 : decode cX8_isThere 22 = .ok (.goto 4, 3) := by decide +kernel
theorem dX8_isThere_25 : decode cX8_isThere 25 = .ok (.iconst 0, 1) := by decide +kernel
theorem dX8_isThere_26 : decode cX8_isThere 26 = .ok (.ireturn, 1) := by decide +kernel
theorem dX8_passDoor_0 : decode cX8_passDoor 0 = .ok (.iload_n 1, 1) := by decide +kernel
theorem dX8_passDoor_1 : decode cX8_passDoor 1 = .ok (.ifCond .lt 9, 3) := by decide +kernel
theorem dX8_passDoor_4 : decode cX8_passDoor 4 = .ok (.iload_n 1, 1) := by decide +kernel
theorem dX8_passDoor_5 : decode cX8_passDoor 5 = .ok (.bipush 15, 2) := by decide +kernel
theorem dX8_passDoor_7 : decode cX8_passDoor 7 = .ok (.if_icmp .lt 4, 3) := by decide +kernel
theorem dX8_passDoor_10 : decode cX8_passDoor 10 = .ok (.return_, 1) := by decide +kernel
theorem dX8_passDoor_11 : decode cX8_passDoor 11 = .ok (.iload_n 1, 1) := by decide +kernel
theorem dX8_passDoor_12 : decode cX8_passDoor 12 = .ok (.iconst 5, 1) := by decide +kernel
theorem dX8_passDoor_13 : decode cX8_passDoor 13 = .ok (.imul, 1) := by decide +kernel
theorem dX8_passDoor_14 : decode cX8_passDoor 14 = .ok (.istore_n 3, 1) := by decide +kernel
theorem dX8_passDoor_15 : decode cX8_passDoor 15 = .ok (.aload_n 0, 1) := by decide +kernel
theorem dX8_passDoor_16 : decode cX8_passDoor 16 = .ok (.getfield 42, 3) := by decide +kernel
theorem dX8_passDoor_19 : decode cX8_passDoor 19 = .ok (.iload_n 3, 1) := by decide +kernel
theorem dX8_passDoor_20 : decode cX8_passDoor 20 = .ok (.iconst 3, 1) := by decide +kernel
theorem dX8_passDoor_21 : decode cX8_passDoor 21 = .ok (.iadd, 1) := by decide +kernel
theorem dX8_passDoor_22 : decode cX8_passDoor 22 = .ok (.iaload, 1) := by decide +kernel
theorem dX8_passDoor_23 : decode cX8_passDoor 23 = .ok (.iload_n 2, 1) := by decide +kernel
theorem dX8_passDoor_24 : decode cX8_passDoor 24 = .ok (.if_icmp .eq 33, 3) := by decide +kernel
theorem dX8_passDoor_27 : decode cX8_passDoor 27 = .ok (.aload_n 0, 1) := by decide +kernel
theorem dX8_passDoor_28 : decode cX8_passDoor 28 = .ok (.getfield 42, 3) := by decide +kernel
theorem dX8_passDoor_31 : decode cX8_passDoor 31 = .ok (.iload_n 3, 1) := by decide +kernel
theorem dX8_passDoor_32 : decode cX8_passDoor 32 = .ok (.iconst 3, 1) := by decide +kernel
theorem dX8_passDoor_33 : decode cX8_passDoor 33 = .ok (.iadd, 1) := by decide +kernel
theorem dX8_passDoor_34 : decode cX8_passDoor 34 = .ok (.iload_n 2, 1) := by decide +kernel
theorem dX8_passDoor_35 : decode cX8_passDoor 35 = .ok (.iastore, 1) := by decide +kernel
theorem dX8_passDoor_36 : decode cX8_passDoor 36 = .ok (.aload_n 0, 1) := by decide +kernel
theorem dX8_passDoor_37 : decode cX8_passDoor 37 = .ok (.getfield 42, 3) := by decide +kernel
theorem dX8_passDoor_40 : decode cX8_passDoor 40 = .ok (.iload_n 3, 1) := by decide +kernel
theorem dX8_passDoor_41 : decode cX8_passDoor 41 = .ok (.iconst 4, 1) := by decide +kernel
theorem dX8_passDoor_42 : decode cX8_passDoor 42 = .ok (.iadd, 1) := by decide +kernel
theorem dX8_passDoor_43 : decode cX8_passDoor 43 = .ok (.iconst 0, 1) := by decide +kernel
theorem dX8_passDoor_44 : decode cX8_passDoor 44 = .ok (.iastore, 1) := by decide +kernel
theorem dX8_passDoor_45 : decode cX8_passDoor 45 = .ok (.aload_n 0, 1) := by decide +kernel
theorem dX8_passDoor_46 : decode cX8_passDoor 46 = .ok (.getfield 42, 3) := by decide +kernel
theorem dX8_passDoor_49 : decode cX8_passDoor 49 = .ok (.iload_n 3, 1) := by decide +kernel
theorem dX8_passDoor_50 : decode cX8_passDoor 50 = .ok (.iconst 0, 1) := by decide +kernel
theorem dX8_passDoor_51 : decode cX8_passDoor 51 = .ok (.iadd, 1) := by decide +kernel
theorem dX8_passDoor_52 : decode cX8_passDoor 52 = .ok (.dup2, 1) := by decide +kernel
theorem dX8_passDoor_53 : decode cX8_passDoor 53 = .ok (.iaload, 1) := by decide +kernel
theorem dX8_passDoor_54 : decode cX8_passDoor 54 = .ok (.iconst 1, 1) := by decide +kernel
theorem dX8_passDoor_55 : decode cX8_passDoor 55 = .ok (.iadd, 1) := by decide +kernel
theorem dX8_passDoor_56 : decode cX8_passDoor 56 = .ok (.iastore, 1) := by decide +kernel
theorem dX8_passDoor_57 : decode cX8_passDoor 57 = .ok (.aload_n 0, 1) := by decide +kernel
theorem dX8_passDoor_58 : decode cX8_passDoor 58 = .ok (.getfield 42, 3) := by decide +kernel
theorem dX8_passDoor_61 : decode cX8_passDoor 61 = .ok (.iload_n 3, 1) := by decide +kernel
theorem dX8_passDoor_62 : decode cX8_passDoor 62 = .ok (.iconst 4, 1) := by decide +kernel
theorem dX8_passDoor_63 : decode cX8_passDoor 63 = .ok (.iadd, 1) := by decide +kernel
theorem dX8_passDoor_64 : decode cX8_passDoor 64 = .ok (.dup2, 1) := by decide +kernel
theorem dX8_passDoor_65 : decode cX8_passDoor 65 = .ok (.iaload, 1) := by decide +kernel
theorem dX8_passDoor_66 : decode cX8_passDoor 66 = .ok (.iconst 1, 1) := by decide +kernel
theorem dX8_passDoor_67 : decode cX8_passDoor 67 = .ok (.iadd, 1) := by decide +kernel
theorem dX8_passDoor_68 : decode cX8_passDoor 68 = .ok (.iastore, 1) := by decide +kernel
theorem dX8_passDoor_69 : decode cX8_passDoor 69 = .ok (.aload_n 0, 1) := by decide +kernel
theorem dX8_passDoor_70 : decode cX8_passDoor 70 = .ok (.getfield 42, 3) := by decide +kernel
theorem dX8_passDoor_73 : decode cX8_passDoor 73 = .ok (.iload_n 3, 1) := by decide +kernel
theorem dX8_passDoor_74 : decode cX8_passDoor 74 = .ok (.iconst 2, 1) := by decide +kernel
theorem dX8_passDoor_75 : decode cX8_passDoor 75 = .ok (.iadd, 1) := by decide +kernel
theorem dX8_passDoor_76 : decode cX8_passDoor 76 = .ok (.dup2, 1) := by decide +kernel
theorem dX8_passDoor_77 : decode cX8_passDoor 77 = .ok (.iaload, 1) := by decide +kernel
theorem dX8_passDoor_78 : decode cX8_passDoor 78 = .ok (.iconst 1, 1) := by decide +kernel
theorem dX8_passDoor_79 : decode cX8_passDoor 79 = .ok (.iadd, 1) := by decide +kernel
theorem dX8_passDoor_80 : decode cX8_passDoor 80 = .ok (.iastore, 1) := by decide +kernel
theorem dX8_passDoor_81 : decode cX8_passDoor 81 = .ok (.aload_n 0, 1) := by decide +kernel
theorem dX8_passDoor_82 : decode cX8_passDoor 82 = .ok (.getfield 42, 3) := by decide +kernel
theorem dX8_passDoor_85 : decode cX8_passDoor 85 = .ok (.iload_n 3, 1) := by decide +kernel
theorem dX8_passDoor_86 : decode cX8_passDoor 86 = .ok (.iconst 1, 1) := by decide +kernel
theorem dX8_passDoor_87 : decode cX8_passDoor 87 = .ok (.iadd, 1) := by decide +kernel
theorem dX8_passDoor_88 : decode cX8_passDoor 88 = .ok (.aload_n 0, 1) := by decide +kernel
theorem dX8_passDoor_89 : decode cX8_passDoor 89 = .ok (.getfield 42, 3) := by decide +kernel
theorem dX8_passDoor_92 : decode cX8_passDoor 92 = .ok (.iload_n 3, 1) := by decide +kernel
theorem dX8_passDoor_93 : decode cX8_passDoor 93 = .ok (.iconst 1, 1) := by decide +kernel
theorem dX8_passDoor_94 : decode cX8_passDoor 94 = .ok (.iadd, 1) := by decide +kernel
theorem dX8_passDoor_95 : decode cX8_passDoor 95 = .ok (.iaload, 1) := by decide +kernel
theorem dX8_passDoor_96 : decode cX8_passDoor 96 = .ok (.aload_n 0, 1) := by decide +kernel
theorem dX8_passDoor_97 : decode cX8_passDoor 97 = .ok (.getfield 42, 3) := by decide +kernel
theorem dX8_passDoor_100 : decode cX8_passDoor 100 = .ok (.iload_n 3, 1) := by decide +kernel
theorem dX8_passDoor_101 : decode cX8_passDoor 101 = .ok (.iconst 4, 1) := by decide +kernel
theorem dX8_passDoor_102 : decode cX8_passDoor 102 = .ok (.iadd, 1) := by decide +kernel
theorem dX8_passDoor_103 : decode cX8_passDoor 103 = .ok (.iaload, 1) := by decide +kernel
theorem dX8_passDoor_104 : decode cX8_passDoor 104 = .ok (.invokestatic 207, 3) := by decide +kernel
theorem dX8_passDoor_107 : decode cX8_passDoor 107 = .ok (.iastore, 1) := by decide +kernel
theorem dX8_passDoor_108 : decode cX8_passDoor 108 = .ok (.return_, 1) := by decide +kernel
theorem dX8_whoIsOn_0 : decode cX8_whoIsOn 0 = .ok (.iconst 0, 1) := by decide +kernel
theorem dX8_whoIsOn_1 : decode cX8_whoIsOn 1 = .ok (.istore_n 3, 1) := by decide +kernel
theorem dX8_whoIsOn_2 : decode cX8_whoIsOn 2 = .ok (.iload_n 3, 1) := by decide +kernel
theorem dX8_whoIsOn_3 : decode cX8_whoIsOn 3 = .ok (.aload_n 0, 1) := by decide +kernel
theorem dX8_whoIsOn_4 : decode cX8_whoIsOn 4 = .ok (.getfield 45, 3) := by decide +kernel
theorem dX8_whoIsOn_7 : decode cX8_whoIsOn 7 = .ok (.getfield 91, 3) := by decide +kernel
theorem dX8_whoIsOn_10 : decode cX8_whoIsOn 10 = .ok (.if_icmp .ge 36, 3) := by decide +kernel
theorem dX8_whoIsOn_13 : decode cX8_whoIsOn 13 = .ok (.aload_n 0, 1) := by decide +kernel
theorem dX8_whoIsOn_14 : decode cX8_whoIsOn 14 = .ok (.getfield 11, 3) := by decide +kernel
theorem dX8_whoIsOn_17 : decode cX8_whoIsOn 17 = .ok (.iload_n 3, 1) := by decide +kernel
theorem dX8_whoIsOn_18 : decode cX8_whoIsOn 18 = .ok (.iaload, 1) := by decide +kernel
theorem dX8_whoIsOn_19 : decode cX8_whoIsOn 19 = .ok (.iload_n 1, 1) := by decide +kernel
theorem dX8_whoIsOn_20 : decode cX8_whoIsOn 20 = .ok (.if_icmp .ne 20, 3) := by decide +kernel
theorem dX8_whoIsOn_23 : decode cX8_whoIsOn 23 = .ok (.aload_n 0, 1) := by decide +kernel
theorem dX8_whoIsOn_24 : decode cX8_whoIsOn 24 = .ok (.getfield 15, 3) := by decide +kernel
theorem dX8_whoIsOn_27 : decode cX8_whoIsOn 27 = .ok (.iload_n 3, 1) := by decide +kernel
theorem dX8_whoIsOn_28 : decode cX8_whoIsOn 28 = .ok (.iaload, 1) := by decide +kernel
theorem dX8_whoIsOn_29 : decode cX8_whoIsOn 29 = .ok (.iload_n 2, 1) := by decide +kernel
theorem dX8_whoIsOn_30 : decode cX8_whoIsOn 30 = .ok (.if_icmp .ne 10, 3) := by decide +kernel
theorem dX8_whoIsOn_33 : decode cX8_whoIsOn 33 = .ok (.iload_n 1, 1) := by decide +kernel
theorem dX8_whoIsOn_34 : decode cX8_whoIsOn 34 = .ok (.iconst (-1), 1) := by decide +kernel
theorem dX8_whoIsOn_35 : decode cX8_whoIsOn 35 = .ok (.if_icmp .eq 5, 3) := by decide +kernel
theorem dX8_whoIsOn_38 : decode cX8_whoIsOn 38 = .ok (.iload_n 3, 1) := by decide +kernel
theorem dX8_whoIsOn_39 : decode cX8_whoIsOn 39 = .ok (.ireturn, 1) := by decide +kernel
theorem dX8_whoIsOn_40 : decode cX8_whoIsOn 40 = .ok (.iinc 3 1, 3) := by decide +kernel
theorem dX8_whoIsOn_43 : decode cX8_whoIsOn 43 = .ok (.goto (-41), 3) := by decide +kernel
theorem dX8_whoIsOn_46 : decode cX8_whoIsOn 46 = .ok (.iconst (-1), 1) := by decide +kernel
theorem dX8_whoIsOn_47 : decode cX8_whoIsOn 47 = .ok (.ireturn, 1) := by decide +kernel
theorem dX8_goes_0 : decode cX8_goes 0 = .ok (.aload_n 0, 1) := by decide +kernel
theorem dX8_goes_1 : decode cX8_goes 1 = .ok (.iload_n 1, 1) := by decide +kernel
theorem dX8_goes_2 : decode cX8_goes 2 = .ok (.invokevirtual 187, 3) := by decide +kernel
theorem dX8_goes_5 : decode cX8_goes 5 = .ok (.ifCond .eq 13, 3) := by decide +kernel
theorem dX8_goes_8 : decode cX8_goes 8 = .ok (.aload_n 0, 1) := by decide +kernel
theorem dX8_goes_9 : decode cX8_goes 9 = .ok (.getfield 33, 3) := by decide +kernel
theorem dX8_goes_12 : decode cX8_goes 12 = .ok (.iload_n 1, 1) := by decide +kernel
theorem dX8_goes_13 : decode cX8_goes 13 = .ok (.iaload, 1) := by decide +kernel
theorem dX8_goes_14 : decode cX8_goes 14 = .ok (.iconst 5, 1) := by decide +kernel
theorem dX8_goes_15 : decode cX8_goes 15 = .ok (.if_icmp .ne 5, 3) := by decide +kernel
theorem dX8_goes_18 : decode cX8_goes 18 = .ok (.iconst 0, 1) := by decide +kernel
theorem dX8_goes_19 : decode cX8_goes 19 = .ok (.ireturn, 1) := by decide +kernel
theorem dX8_goes_20 : decode cX8_goes 20 = .ok (.aload_n 0, 1) := by decide +kernel
theorem dX8_goes_21 : decode cX8_goes 21 = .ok (.getfield 45, 3) := by decide +kernel
theorem dX8_goes_24 : decode cX8_goes 24 = .ok (.getfield 101, 3) := by decide +kernel
theorem dX8_goes_27 : decode cX8_goes 27 = .ok (.iload_n 1, 1) := by decide +kernel
theorem dX8_goes_28 : decode cX8_goes 28 = .ok (.iaload, 1) := by decide +kernel
theorem dX8_goes_29 : decode cX8_goes 29 = .ok (.istore_n 2, 1) := by decide +kernel
theorem dX8_goes_30 : decode cX8_goes 30 = .ok (.aload_n 0, 1) := by decide +kernel
theorem dX8_goes_31 : decode cX8_goes 31 = .ok (.getfield 33, 3) := by decide +kernel
theorem dX8_goes_34 : decode cX8_goes 34 = .ok (.iload_n 1, 1) := by decide +kernel
theorem dX8_goes_35 : decode cX8_goes 35 = .ok (.iaload, 1) := by decide +kernel
theorem dX8_goes_36 : decode cX8_goes 36 = .ok (.iconst 3, 1) := by decide +kernel
theorem dX8_goes_37 : decode cX8_goes 37 = .ok (.if_icmp .ne 15, 3) := by decide +kernel
theorem dX8_goes_40 : decode cX8_goes 40 = .ok (.aload_n 0, 1) := by decide +kernel
theorem dX8_goes_41 : decode cX8_goes 41 = .ok (.getfield 45, 3) := by decide +kernel
theorem dX8_goes_44 : decode cX8_goes 44 = .ok (.getfield 177, 3) := by decide +kernel
theorem dX8_goes_47 : decode cX8_goes 47 = .ok (.iload_n 1, 1) := by decide +kernel
theorem dX8_goes_48 : decode cX8_goes 48 = .ok (.iaload, 1) := by decide +kernel
theorem dX8_goes_49 : decode cX8_goes 49 = .ok (.goto 9, 3) := by decide +kernel
theorem dX8_goes_52 : decode cX8_goes 52 = .ok (.aload_n 0, 1) := by decide +kernel
theorem dX8_goes_53 : decode cX8_goes 53 = .ok (.getfield 33, 3) := by decide +kernel
theorem dX8_goes_56 : decode cX8_goes 56 = .ok (.iload_n 1, 1) := by decide +kernel
theorem dX8_goes_57 : decode cX8_goes 57 = .ok (.iaload, 1) := by decide +kernel
theorem dX8_goes_58 : decode cX8_goes 58 = .ok (.istore_n 3, 1) := by decide +kernel
theorem dX8_goes_59 : decode cX8_goes 59 = .ok (.iload_n 3, 1) := by decide +kernel
theorem dX8_goes_60 : decode cX8_goes 60 = .ok (.ifCond .ne 7, 3) := by decide +kernel
theorem dX8_goes_63 : decode cX8_goes 63 = .ok (.iconst 1, 1) := by decide +kernel
theorem dX8_goes_64 : decode cX8_goes 64 = .ok (.goto 4, 3) := by decide +kernel
theorem dX8_goes_67 : decode cX8_goes 67 = .ok (.iconst 0, 1) := by decide +kernel
theorem dX8_goes_68 : decode cX8_goes 68 = .ok (.istore 4, 2) := by decide +kernel
theorem dX8_goes_70 : decode cX8_goes 70 = .ok (.iload 4, 2) := by decide +kernel
theorem dX8_goes_72 : decode cX8_goes 72 = .ok (.ifCond .eq 14, 3) := by decide +kernel
theorem dX8_goes_75 : decode cX8_goes 75 = .ok (.aload_n 0, 1) := by decide +kernel
theorem dX8_goes_76 : decode cX8_goes 76 = .ok (.getfield 11, 3) := by decide +kernel
theorem dX8_goes_79 : decode cX8_goes 79 = .ok (.iload_n 1, 1) := by decide +kernel
theorem dX8_goes_80 : decode cX8_goes 80 = .ok (.iaload, 1) := by decide +kernel
theorem dX8_goes_81 : decode cX8_goes 81 = .ok (.iload_n 2, 1) := by decide +kernel
theorem dX8_goes_82 : decode cX8_goes 82 = .ok (.iadd, 1) := by decide +kernel
theorem dX8_goes_83 : decode cX8_goes 83 = .ok (.goto 9, 3) := by decide +kernel
theorem dX8_goes_86 : decode cX8_goes 86 = .ok (.aload_n 0, 1) := by decide +kernel
theorem dX8_goes_87 : decode cX8_goes 87 = .ok (.getfield 11, 3) := by decide +kernel
theorem dX8_goes_90 : decode cX8_goes 90 = .ok (.iload_n 1, 1) := by decide +kernel
theorem dX8_goes_91 : decode cX8_goes 91 = .ok (.iaload, 1) := by decide +kernel
theorem dX8_goes_92 : decode cX8_goes 92 = .ok (.istore 5, 2) := by decide +kernel
theorem dX8_goes_94 : decode cX8_goes 94 = .ok (.iload_n 3, 1) := by decide +kernel
theorem dX8_goes_95 : decode cX8_goes 95 = .ok (.iconst 1, 1) := by decide +kernel
theorem dX8_goes_96 : decode cX8_goes 96 = .ok (.if_icmp .ne 7, 3) := by decide +kernel
theorem dX8_goes_99 : decode cX8_goes 99 = .ok (.iload_n 2, 1) := by decide +kernel
theorem dX8_goes_100 : decode cX8_goes 100 = .ok (.goto 5, 3) := by decide +kernel
theorem dX8_goes_103 : decode cX8_goes 103 = .ok (.iload_n 2, 1) := by decide +kernel
theorem dX8_goes_104 : decode cX8_goes 104 = .ok (.ineg, 1) := by decide +kernel
theorem dX8_goes_105 : decode cX8_goes 105 = .ok (.istore 6, 2) := by decide +kernel
theorem dX8_goes_107 : decode cX8_goes 107 = .ok (.iload 4, 2) := by decide +kernel
theorem dX8_goes_109 : decode cX8_goes 109 = .ok (.ifCond .eq 12, 3) := by decide +kernel
theorem dX8_goes_112 : decode cX8_goes 112 = .ok (.aload_n 0, 1) := by decide +kernel
theorem dX8_goes_113 : decode cX8_goes 113 = .ok (.getfield 15, 3) := by decide +kernel
theorem dX8_goes_116 : decode cX8_goes 116 = .ok (.iload_n 1, 1) := by decide +kernel
theorem dX8_goes_117 : decode cX8_goes 117 = .ok (.iaload, 1) := by decide +kernel
theorem dX8_goes_118 : decode cX8_goes 118 = .ok (.goto 12, 3) := by decide +kernel
theorem dX8_goes_121 : decode cX8_goes 121 = .ok (.aload_n 0, 1) := by decide +kernel
theorem dX8_goes_122 : decode cX8_goes 122 = .ok (.getfield 15, 3) := by decide +kernel
theorem dX8_goes_125 : decode cX8_goes 125 = .ok (.iload_n 1, 1) := by decide +kernel
theorem dX8_goes_126 : decode cX8_goes 126 = .ok (.iaload, 1) := by decide +kernel
theorem dX8_goes_127 : decode cX8_goes 127 = .ok (.iload 6, 2) := by decide +kernel
theorem dX8_goes_129 : decode cX8_goes 129 = .ok (.iadd, 1) := by decide +kernel
theorem dX8_goes_130 : decode cX8_goes 130 = .ok (.istore 7, 2) := by decide +kernel
theorem dX8_goes_132 : decode cX8_goes 132 = .ok (.aload_n 0, 1) := by decide +kernel
theorem dX8_goes_133 : decode cX8_goes 133 = .ok (.getfield 45, 3) := by decide +kernel
theorem dX8_goes_136 : decode cX8_goes 136 = .ok (.iload 5, 2) := by decide +kernel
theorem dX8_goes_138 : decode cX8_goes 138 = .ok (.iload 7, 2) := by decide +kernel
theorem dX8_goes_140 : decode cX8_goes 140 = .ok (.invokevirtual 190, 3) := by decide +kernel
theorem dX8_goes_143 : decode cX8_goes 143 = .ok (.ifCond .ne 7, 3) := by decide +kernel
theorem dX8_goes_146 : decode cX8_goes 146 = .ok (.iconst 1, 1) := by decide +kernel
theorem dX8_goes_147 : decode cX8_goes 147 = .ok (.goto 4, 3) := by decide +kernel
theorem dX8_goes_150 : decode cX8_goes 150 = .ok (.iconst 0, 1) := by decide +kernel
theorem dX8_goes_151 : decode cX8_goes 151 = .ok (.istore 8, 2) := by decide +kernel
theorem dX8_goes_153 : decode cX8_goes 153 = .ok (.iload 4, 2) := by decide +kernel
theorem dX8_goes_155 : decode cX8_goes 155 = .ok (.ifCond .eq 15, 3) := by decide +kernel
theorem dX8_goes_158 : decode cX8_goes 158 = .ok (.iload 8, 2) := by decide +kernel
theorem dX8_goes_160 : decode cX8_goes 160 = .ok (.ifCond .eq 10, 3) := by decide +kernel
theorem dX8_goes_163 : decode cX8_goes 163 = .ok (.aload_n 0, 1) := by decide +kernel
theorem dX8_goes_164 : decode cX8_goes 164 = .ok (.iload_n 1, 1) := by decide +kernel
theorem dX8_goes_165 : decode cX8_goes 165 = .ok (.invokevirtual 194, 3) := by decide +kernel
theorem dX8_goes_168 : decode cX8_goes 168 = .ok (.iconst 1, 1) := by decide +kernel
theorem dX8_goes_169 : decode cX8_goes 169 = .ok (.ireturn, 1) := by decide +kernel
theorem dX8_goes_170 : decode cX8_goes 170 = .ok (.iload 8, 2) := by decide +kernel
theorem dX8_goes_172 : decode cX8_goes 172 = .ok (.ifCond .ne 29, 3) := by decide +kernel
theorem dX8_goes_175 : decode cX8_goes 175 = .ok (.aload_n 0, 1) := by decide +kernel
theorem dX8_goes_176 : decode cX8_goes 176 = .ok (.getfield 45, 3) := by decide +kernel
theorem dX8_goes_179 : decode cX8_goes 179 = .ok (.iload 5, 2) := by decide +kernel
theorem dX8_goes_181 : decode cX8_goes 181 = .ok (.iload 7, 2) := by decide +kernel
theorem dX8_goes_183 : decode cX8_goes 183 = .ok (.invokevirtual 197, 3) := by decide +kernel
theorem dX8_goes_186 : decode cX8_goes 186 = .ok (.ifCond .ne 15, 3) := by decide +kernel
theorem dX8_goes_189 : decode cX8_goes 189 = .ok (.aload_n 0, 1) := by decide +kernel
theorem dX8_goes_190 : decode cX8_goes 190 = .ok (.iload 5, 2) := by decide +kernel
theorem dX8_goes_192 : decode cX8_goes 192 = .ok (.iload 7, 2) := by decide +kernel
theorem dX8_goes_194 : decode cX8_goes 194 = .ok (.invokevirtual 200, 3) := by decide +kernel
theorem dX8_goes_197 : decode cX8_goes 197 = .ok (.iconst (-1), 1) := by decide +kernel
theorem dX8_goes_198 : decode cX8_goes 198 = .ok (.if_icmp .eq 15, 3) := by decide +kernel
theorem dX8_goes_201 : decode cX8_goes 201 = .ok (.aload_n 0, 1) := by decide +kernel
theorem dX8_goes_202 : decode cX8_goes 202 = .ok (.getfield 27, 3) := by decide +kernel
theorem dX8_goes_205 : decode cX8_goes 205 = .ok (.iload_n 1, 1) := by decide +kernel
theorem dX8_goes_206 : decode cX8_goes 206 = .ok (.dup2, 1) := by decide +kernel
theorem dX8_goes_207 : decode cX8_goes 207 = .ok (.iaload, 1) := by decide +kernel
theorem dX8_goes_208 : decode cX8_goes 208 = .ok (.iconst 1, 1) := by decide +kernel
theorem dX8_goes_209 : decode cX8_goes 209 = .ok (.iadd, 1) := by decide +kernel
theorem dX8_goes_210 : decode cX8_goes 210 = .ok (.iastore, 1) := by decide +kernel
theorem dX8_goes_211 : decode cX8_goes 211 = .ok (.iconst 0, 1) := by decide +kernel
theorem dX8_goes_212 : decode cX8_goes 212 = .ok (.ireturn, 1) := by decide +kernel
theorem dX8_goes_213 : decode cX8_goes 213 = .ok (.iload 4, 2) := by decide +kernel
theorem dX8_goes_215 : decode cX8_goes 215 = .ok (.ifCond .eq 22, 3) := by decide +kernel
theorem dX8_goes_218 : decode cX8_goes 218 = .ok (.aload_n 0, 1) := by decide +kernel
theorem dX8_goes_219 : decode cX8_goes 219 = .ok (.iload 5, 2) := by decide +kernel
theorem dX8_goes_221 : decode cX8_goes 221 = .ok (.aload_n 0, 1) := by decide +kernel
theorem dX8_goes_222 : decode cX8_goes 222 = .ok (.getfield 11, 3) := by decide +kernel
theorem dX8_goes_225 : decode cX8_goes 225 = .ok (.iload_n 1, 1) := by decide +kernel
theorem dX8_goes_226 : decode cX8_goes 226 = .ok (.iaload, 1) := by decide +kernel
theorem dX8_goes_227 : decode cX8_goes 227 = .ok (.invokestatic 132, 3) := by decide +kernel
theorem dX8_goes_230 : decode cX8_goes 230 = .ok (.iload_n 2, 1) := by decide +kernel
theorem dX8_goes_231 : decode cX8_goes 231 = .ok (.invokevirtual 203, 3) := by decide +kernel
theorem dX8_goes_234 : decode cX8_goes 234 = .ok (.goto 13, 3) := by decide +kernel
theorem dX8_goes_237 : decode cX8_goes 237 = .ok (.aload_n 0, 1) := by decide +kernel
theorem dX8_goes_238 : decode cX8_goes 238 = .ok (.getfield 24, 3) := by decide +kernel
theorem dX8_goes_241 : decode cX8_goes 241 = .ok (.iload_n 1, 1) := by decide +kernel
theorem dX8_goes_242 : decode cX8_goes 242 = .ok (.dup2, 1) := by decide +kernel
theorem dX8_goes_243 : decode cX8_goes 243 = .ok (.iaload, 1) := by decide +kernel
theorem dX8_goes_244 : decode cX8_goes 244 = .ok (.iconst 1, 1) := by decide +kernel
theorem dX8_goes_245 : decode cX8_goes 245 = .ok (.iadd, 1) := by decide +kernel
theorem dX8_goes_246 : decode cX8_goes 246 = .ok (.iastore, 1) := by decide +kernel
theorem dX8_goes_247 : decode cX8_goes 247 = .ok (.aload_n 0, 1) := by decide +kernel
theorem dX8_goes_248 : decode cX8_goes 248 = .ok (.getfield 11, 3) := by decide +kernel
theorem dX8_goes_251 : decode cX8_goes 251 = .ok (.iload_n 1, 1) := by decide +kernel
theorem dX8_goes_252 : decode cX8_goes 252 = .ok (.iload 5, 2) := by decide +kernel
theorem dX8_goes_254 : decode cX8_goes 254 = .ok (.iastore, 1) := by decide +kernel
theorem dX8_goes_255 : decode cX8_goes 255 = .ok (.aload_n 0, 1) := by decide +kernel
theorem dX8_goes_256 : decode cX8_goes 256 = .ok (.getfield 15, 3) := by decide +kernel
theorem dX8_goes_259 : decode cX8_goes 259 = .ok (.iload_n 1, 1) := by decide +kernel
theorem dX8_goes_260 : decode cX8_goes 260 = .ok (.iload 7, 2) := by decide +kernel
theorem dX8_goes_262 : decode cX8_goes 262 = .ok (.iastore, 1) := by decide +kernel
theorem dX8_goes_263 : decode cX8_goes 263 = .ok (.iconst 1, 1) := by decide +kernel
theorem dX8_goes_264 : decode cX8_goes 264 = .ok (.ireturn, 1) := by decide +kernel
theorem dX8_move_0 : decode cX8_move 0 = .ok (.aload_n 0, 1) := by decide +kernel
theorem dX8_move_1 : decode cX8_move 1 = .ok (.getfield 11, 3) := by decide +kernel
theorem dX8_move_4 : decode cX8_move 4 = .ok (.iconst 0, 1) := by decide +kernel
theorem dX8_move_5 : decode cX8_move 5 = .ok (.aload_n 0, 1) := by decide +kernel
theorem dX8_move_6 : decode cX8_move 6 = .ok (.getfield 11, 3) := by decide +kernel
theorem dX8_move_9 : decode cX8_move 9 = .ok (.bipush 12, 2) := by decide +kernel
theorem dX8_move_11 : decode cX8_move 11 = .ok (.bipush 36, 2) := by decide +kernel
theorem dX8_move_13 : decode cX8_move 13 = .ok (.invokestatic 75, 3) := by decide +kernel
theorem dX8_move_16 : decode cX8_move 16 = .ok (.aload_n 0, 1) := by decide +kernel
theorem dX8_move_17 : decode cX8_move 17 = .ok (.getfield 15, 3) := by decide +kernel
theorem dX8_move_20 : decode cX8_move 20 = .ok (.iconst 0, 1) := by decide +kernel
theorem dX8_move_21 : decode cX8_move 21 = .ok (.aload_n 0, 1) := by decide +kernel
theorem dX8_move_22 : decode cX8_move 22 = .ok (.getfield 15, 3) := by decide +kernel
theorem dX8_move_25 : decode cX8_move 25 = .ok (.bipush 12, 2) := by decide +kernel
theorem dX8_move_27 : decode cX8_move 27 = .ok (.bipush 36, 2) := by decide +kernel
theorem dX8_move_29 : decode cX8_move 29 = .ok (.invokestatic 75, 3) := by decide +kernel
theorem dX8_move_32 : decode cX8_move 32 = .ok (.iconst 0, 1) := by decide +kernel
theorem dX8_move_33 : decode cX8_move 33 = .ok (.istore_n 1, 1) := by decide +kernel
theorem dX8_move_34 : decode cX8_move 34 = .ok (.iconst 0, 1) := by decide +kernel
theorem dX8_move_35 : decode cX8_move 35 = .ok (.istore_n 2, 1) := by decide +kernel
theorem dX8_move_36 : decode cX8_move 36 = .ok (.iload_n 2, 1) := by decide +kernel
theorem dX8_move_37 : decode cX8_move 37 = .ok (.aload_n 0, 1) := by decide +kernel
theorem dX8_move_38 : decode cX8_move 38 = .ok (.getfield 45, 3) := by decide +kernel
theorem dX8_move_41 : decode cX8_move 41 = .ok (.getfield 91, 3) := by decide +kernel
theorem dX8_move_44 : decode cX8_move 44 = .ok (.if_icmp .ge 66, 3) := by decide +kernel
theorem dX8_move_47 : decode cX8_move 47 = .ok (.aload_n 0, 1) := by decide +kernel
theorem dX8_move_48 : decode cX8_move 48 = .ok (.getfield 36, 3) := by decide +kernel
theorem dX8_move_51 : decode cX8_move 51 = .ok (.iload_n 2, 1) := by decide +kernel
theorem dX8_move_52 : decode cX8_move 52 = .ok (.iaload, 1) := by decide +kernel
theorem dX8_move_53 : decode cX8_move 53 = .ok (.istore_n 3, 1) := by decide +kernel
theorem dX8_move_54 : decode cX8_move 54 = .ok (.aload_n 0, 1) := by decide +kernel
theorem dX8_move_55 : decode cX8_move 55 = .ok (.iload_n 3, 1) := by decide +kernel
theorem dX8_move_56 : decode cX8_move 56 = .ok (.invokevirtual 181, 3) := by decide +kernel
theorem dX8_move_59 : decode cX8_move 59 = .ok (.ifCond .eq 26, 3) := by decide +kernel
theorem dX8_move_62 : decode cX8_move 62 = .ok (.iinc 1 1, 3) := by decide +kernel
theorem dX8_move_65 : decode cX8_move 65 = .ok (.aload_n 0, 1) := by decide +kernel
theorem dX8_move_66 : decode cX8_move 66 = .ok (.getfield 21, 3) := by decide +kernel
theorem dX8_move_69 : decode cX8_move 69 = .ok (.iload_n 3, 1) := by decide +kernel
theorem dX8_move_70 : decode cX8_move 70 = .ok (.dup2, 1) := by decide +kernel
theorem dX8_move_71 : decode cX8_move 71 = .ok (.iaload, 1) := by decide +kernel
theorem dX8_move_72 : decode cX8_move 72 = .ok (.iconst 1, 1) := by decide +kernel
theorem dX8_move_73 : decode cX8_move 73 = .ok (.iadd, 1) := by decide +kernel
theorem dX8_move_74 : decode cX8_move 74 = .ok (.iastore, 1) := by decide +kernel
theorem dX8_move_75 : decode cX8_move 75 = .ok (.aload_n 0, 1) := by decide +kernel
theorem dX8_move_76 : decode cX8_move 76 = .ok (.getfield 30, 3) := by decide +kernel
theorem dX8_move_79 : decode cX8_move 79 = .ok (.iload_n 3, 1) := by decide +kernel
theorem dX8_move_80 : decode cX8_move 80 = .ok (.iconst 0, 1) := by decide +kernel
theorem dX8_move_81 : decode cX8_move 81 = .ok (.iastore, 1) := by decide +kernel
theorem dX8_move_82 : decode cX8_move 82 = .ok (.goto 22, 3) := by decide +kernel
theorem dX8_move_85 : decode cX8_move 85 = .ok (.aload_n 0, 1) := by decide +kernel
theorem dX8_move_86 : decode cX8_move 86 = .ok (.getfield 30, 3) := by decide +kernel
theorem dX8_move_89 : decode cX8_move 89 = .ok (.iload_n 3, 1) := by decide +kernel
theorem dX8_move_90 : decode cX8_move 90 = .ok (.bipush 99, 2) := by decide +kernel
theorem dX8_move_92 : decode cX8_move 92 = .ok (.aload_n 0, 1) := by decide +kernel
theorem dX8_move_93 : decode cX8_move 93 = .ok (.getfield 30, 3) := by decide +kernel
theorem dX8_move_96 : decode cX8_move 96 = .ok (.iload_n 3, 1) := by decide +kernel
theorem dX8_move_97 : decode cX8_move 97 = .ok (.iaload, 1) := by decide +kernel
theorem dX8_move_98 : decode cX8_move 98 = .ok (.iconst 1, 1) := by decide +kernel
theorem dX8_move_99 : decode cX8_move 99 = .ok (.iadd, 1) := by decide +kernel
theorem dX8_move_100 : decode cX8_move 100 = .ok (.invokestatic 132, 3) := by decide +kernel
theorem dX8_move_103 : decode cX8_move 103 = .ok (.iastore, 1) := by decide +kernel
theorem dX8_move_104 : decode cX8_move 104 = .ok (.iinc 2 1, 3) := by decide +kernel
theorem dX8_move_107 : decode cX8_move 107 = .ok (.goto (-71), 3) := by decide +kernel
theorem dX8_move_110 : decode cX8_move 110 = .ok (.aload_n 0, 1) := by decide +kernel
theorem dX8_move_111 : decode cX8_move 111 = .ok (.dup, 1) := by decide +kernel
theorem dX8_move_112 : decode cX8_move 112 = .ok (.getfield 66, 3) := by decide +kernel
theorem dX8_move_115 : decode cX8_move 115 = .ok (.aload_n 0, 1) := by decide +kernel
theorem dX8_move_116 : decode cX8_move 116 = .ok (.invokevirtual 184, 3) := by decide +kernel
theorem dX8_move_119 : decode cX8_move 119 = .ok (.iadd, 1) := by decide +kernel
theorem dX8_move_120 : decode cX8_move 120 = .ok (.putfield 66, 3) := by decide +kernel
theorem dX8_move_123 : decode cX8_move 123 = .ok (.aload_n 0, 1) := by decide +kernel
theorem dX8_move_124 : decode cX8_move 124 = .ok (.iload_n 1, 1) := by decide +kernel
theorem dX8_move_125 : decode cX8_move 125 = .ok (.ifCond .le 7, 3) := by decide +kernel
theorem dX8_move_128 : decode cX8_move 128 = .ok (.iconst 0, 1) := by decide +kernel
theorem dX8_move_129 : decode cX8_move 129 = .ok (.goto 9, 3) := by decide +kernel
theorem dX8_move_132 : decode cX8_move 132 = .ok (.aload_n 0, 1) := by decide +kernel
theorem dX8_move_133 : decode cX8_move 133 = .ok (.getfield 69, 3) := by decide +kernel
theorem dX8_move_136 : decode cX8_move 136 = .ok (.iconst 1, 1) := by decide +kernel
theorem dX8_move_137 : decode cX8_move 137 = .ok (.iadd, 1) := by decide +kernel
theorem dX8_move_138 : decode cX8_move 138 = .ok (.putfield 69, 3) := by decide +kernel
theorem dX8_move_141 : decode cX8_move 141 = .ok (.aload_n 0, 1) := by decide +kernel
theorem dX8_move_142 : decode cX8_move 142 = .ok (.dup, 1) := by decide +kernel
theorem dX8_move_143 : decode cX8_move 143 = .ok (.getfield 57, 3) := by decide +kernel
theorem dX8_move_146 : decode cX8_move 146 = .ok (.iconst 1, 1) := by decide +kernel
theorem dX8_move_147 : decode cX8_move 147 = .ok (.iadd, 1) := by decide +kernel
theorem dX8_move_148 : decode cX8_move 148 = .ok (.putfield 57, 3) := by decide +kernel
theorem dX8_move_151 : decode cX8_move 151 = .ok (.iload_n 1, 1) := by decide +kernel
theorem dX8_move_152 : decode cX8_move 152 = .ok (.ireturn, 1) := by decide +kernel
theorem dX8_needsLot_0 : decode cX8_needsLot 0 = .ok (.aload_n 0, 1) := by decide +kernel
theorem dX8_needsLot_1 : decode cX8_needsLot 1 = .ok (.getfield 33, 3) := by decide +kernel
theorem dX8_needsLot_4 : decode cX8_needsLot 4 = .ok (.iload_n 1, 1) := by decide +kernel
theorem dX8_needsLot_5 : decode cX8_needsLot 5 = .ok (.iaload, 1) := by decide +kernel
theorem dX8_needsLot_6 : decode cX8_needsLot 6 = .ok (.iconst 4, 1) := by decide +kernel
theorem dX8_needsLot_7 : decode cX8_needsLot 7 = .ok (.if_icmp .eq 25, 3) := by decide +kernel
theorem dX8_needsLot_10 : decode cX8_needsLot 10 = .ok (.aload_n 0, 1) := by decide +kernel
theorem dX8_needsLot_11 : decode cX8_needsLot 11 = .ok (.getfield 33, 3) := by decide +kernel
theorem dX8_needsLot_14 : decode cX8_needsLot 14 = .ok (.iload_n 1, 1) := by decide +kernel
theorem dX8_needsLot_15 : decode cX8_needsLot 15 = .ok (.iaload, 1) := by decide +kernel
theorem dX8_needsLot_16 : decode cX8_needsLot 16 = .ok (.iconst 3, 1) := by decide +kernel
theorem dX8_needsLot_17 : decode cX8_needsLot 17 = .ok (.if_icmp .ne 19, 3) := by decide +kernel
theorem dX8_needsLot_20 : decode cX8_needsLot 20 = .ok (.aload_n 0, 1) := by decide +kernel
theorem dX8_needsLot_21 : decode cX8_needsLot 21 = .ok (.getfield 45, 3) := by decide +kernel
theorem dX8_needsLot_24 : decode cX8_needsLot 24 = .ok (.getfield 177, 3) := by decide +kernel
theorem dX8_needsLot_27 : decode cX8_needsLot 27 = .ok (.iload_n 1, 1) := by decide +kernel
theorem dX8_needsLot_28 : decode cX8_needsLot 28 = .ok (.iaload, 1) := by decide +kernel
theorem dX8_needsLot_29 : decode cX8_needsLot 29 = .ok (.ifCond .ne 7, 3) := by decide +kernel
theorem dX8_needsLot_32 : decode cX8_needsLot 32 = .ok (.iconst 1, 1) := by decide +kernel
theorem dX8_needsLot_33 : decode cX8_needsLot 33 = .ok (.goto 4, 3) := by decide +kernel
theorem dX8_needsLot_36 : decode cX8_needsLot 36 = .ok (.iconst 0, 1) := by decide +kernel
theorem dX8_needsLot_37 : decode cX8_needsLot 37 = .ok (.ireturn, 1) := by decide +kernel
theorem dX8_sortByHaste_0 : decode cX8_sortByHaste 0 = .ok (.iconst 0, 1) := by decide +kernel
theorem dX8_sortByHaste_1 : decode cX8_sortByHaste 1 = .ok (.istore_n 1, 1) := by decide +kernel
theorem dX8_sortByHaste_2 : decode cX8_sortByHaste 2 = .ok (.bipush 9, 2) := by decide +kernel
theorem dX8_sortByHaste_4 : decode cX8_sortByHaste 4 = .ok (.istore_n 2, 1) := by decide +kernel
theorem dX8_sortByHaste_5 : decode cX8_sortByHaste 5 = .ok (.iload_n 2, 1) := by decide +kernel
theorem dX8_sortByHaste_6 : decode cX8_sortByHaste 6 = .ok (.ifCond .lt 57, 3) := by decide +kernel
theorem dX8_sortByHaste_9 : decode cX8_sortByHaste 9 = .ok (.iconst 0, 1) := by decide +kernel
theorem dX8_sortByHaste_10 : decode cX8_sortByHaste 10 = .ok (.istore_n 3, 1) := by decide +kernel
theorem dX8_sortByHaste_11 : decode cX8_sortByHaste 11 = .ok (.iload_n 3, 1) := by decide +kernel
theorem dX8_sortByHaste_12 : decode cX8_sortByHaste 12 = .ok (.aload_n 0, 1) := by decide +kernel
theorem dX8_sortByHaste_13 : decode cX8_sortByHaste 13 = .ok (.getfield 45, 3) := by decide +kernel
theorem dX8_sortByHaste_16 : decode cX8_sortByHaste 16 = .ok (.getfield 91, 3) := by decide +kernel
theorem dX8_sortByHaste_19 : decode cX8_sortByHaste 19 = .ok (.if_icmp .ge 38, 3) := by decide +kernel
theorem dX8_sortByHaste_22 : decode cX8_sortByHaste 22 = .ok (.iload_n 1, 1) := by decide +kernel
theorem dX8_sortByHaste_23 : decode cX8_sortByHaste 23 = .ok (.bipush 12, 2) := by decide +kernel
theorem dX8_sortByHaste_25 : decode cX8_sortByHaste 25 = .ok (.if_icmp .ge 32, 3) := by decide +kernel
theorem dX8_sortByHaste_28 : decode cX8_sortByHaste 28 = .ok (.aload_n 0, 1) := by decide +kernel
theorem dX8_sortByHaste_29 : decode cX8_sortByHaste 29 = .ok (.getfield 45, 3) := by decide +kernel
theorem dX8_sortByHaste_32 : decode cX8_sortByHaste 32 = .ok (.getfield 94, 3) := by decide +kernel
theorem dX8_sortByHaste_35 : decode cX8_sortByHaste 35 = .ok (.iload_n 3, 1) := by decide +kernel
theorem dX8_sortByHaste_36 : decode cX8_sortByHaste 36 = .ok (.iaload, 1) := by decide +kernel
theorem dX8_sortByHaste_37 : decode cX8_sortByHaste 37 = .ok (.iload_n 2, 1) := by decide +kernel
theorem dX8_sortByHaste_38 : decode cX8_sortByHaste 38 = .ok (.if_icmp .ne 13, 3) := by decide +kernel
theorem dX8_sortByHaste_41 : decode cX8_sortByHaste 41 = .ok (.aload_n 0, 1) := by decide +kernel
theorem dX8_sortByHaste_42 : decode cX8_sortByHaste 42 = .ok (.getfield 36, 3) := by decide +kernel
theorem dX8_sortByHaste_45 : decode cX8_sortByHaste 45 = .ok (.iload_n 1, 1) := by decide +kernel
theorem dX8_sortByHaste_46 : decode cX8_sortByHaste 46 = .ok (.iload_n 3, 1) := by decide +kernel
theorem dX8_sortByHaste_47 : decode cX8_sortByHaste 47 = .ok (.iastore, 1) := by decide +kernel
theorem dX8_sortByHaste_48 : decode cX8_sortByHaste 48 = .ok (.iinc 1 1, 3) := by decide +kernel
theorem dX8_sortByHaste_51 : decode cX8_sortByHaste 51 = .ok (.iinc 3 1, 3) := by decide +kernel
theorem dX8_sortByHaste_54 : decode cX8_sortByHaste 54 = .ok (.goto (-43), 3) := by decide +kernel
theorem dX8_sortByHaste_57 : decode cX8_sortByHaste 57 = .ok (.iinc 2 (-1), 3) := by decide +kernel
theorem dX8_sortByHaste_60 : decode cX8_sortByHaste 60 = .ok (.goto (-55), 3) := by decide +kernel
theorem dX8_sortByHaste_63 : decode cX8_sortByHaste 63 = .ok (.return_, 1) := by decide +kernel
theorem dX8_begin_0 : decode cX8_begin 0 = .ok (.aload_n 0, 1) := by decide +kernel
theorem dX8_begin_1 : decode cX8_begin 1 = .ok (.iload_n 1, 1) := by decide +kernel
theorem dX8_begin_2 : decode cX8_begin 2 = .ok (.putfield 53, 3) := by decide +kernel
theorem dX8_begin_5 : decode cX8_begin 5 = .ok (.aload_n 0, 1) := by decide +kernel
theorem dX8_begin_6 : decode cX8_begin 6 = .ok (.iconst 0, 1) := by decide +kernel
theorem dX8_begin_7 : decode cX8_begin 7 = .ok (.putfield 57, 3) := by decide +kernel
theorem dX8_begin_10 : decode cX8_begin 10 = .ok (.aload_n 0, 1) := by decide +kernel
theorem dX8_begin_11 : decode cX8_begin 11 = .ok (.iconst 0, 1) := by decide +kernel
theorem dX8_begin_12 : decode cX8_begin 12 = .ok (.putfield 60, 3) := by decide +kernel
theorem dX8_begin_15 : decode cX8_begin 15 = .ok (.aload_n 0, 1) := by decide +kernel
theorem dX8_begin_16 : decode cX8_begin 16 = .ok (.iconst 0, 1) := by decide +kernel
theorem dX8_begin_17 : decode cX8_begin 17 = .ok (.putfield 63, 3) := by decide +kernel
theorem dX8_begin_20 : decode cX8_begin 20 = .ok (.aload_n 0, 1) := by decide +kernel
theorem dX8_begin_21 : decode cX8_begin 21 = .ok (.iconst 0, 1) := by decide +kernel
theorem dX8_begin_22 : decode cX8_begin 22 = .ok (.putfield 66, 3) := by decide +kernel
theorem dX8_begin_25 : decode cX8_begin 25 = .ok (.aload_n 0, 1) := by decide +kernel
theorem dX8_begin_26 : decode cX8_begin 26 = .ok (.iconst 0, 1) := by decide +kernel
theorem dX8_begin_27 : decode cX8_begin 27 = .ok (.putfield 69, 3) := by decide +kernel
theorem dX8_begin_30 : decode cX8_begin 30 = .ok (.iconst 0, 1) := by decide +kernel
theorem dX8_begin_31 : decode cX8_begin 31 = .ok (.istore_n 2, 1) := by decide +kernel
theorem dX8_begin_32 : decode cX8_begin 32 = .ok (.iload_n 2, 1) := by decide +kernel
theorem dX8_begin_33 : decode cX8_begin 33 = .ok (.iconst 4, 1) := by decide +kernel
theorem dX8_begin_34 : decode cX8_begin 34 = .ok (.if_icmp .ge 51, 3) := by decide +kernel
theorem dX8_begin_37 : decode cX8_begin 37 = .ok (.aload_n 0, 1) := by decide +kernel
theorem dX8_begin_38 : decode cX8_begin 38 = .ok (.getfield 45, 3) := by decide +kernel
theorem dX8_begin_41 : decode cX8_begin 41 = .ok (.getfield 72, 3) := by decide +kernel
theorem dX8_begin_44 : decode cX8_begin 44 = .ok (.iconst 0, 1) := by decide +kernel
theorem dX8_begin_45 : decode cX8_begin 45 = .ok (.aload_n 0, 1) := by decide +kernel
theorem dX8_begin_46 : decode cX8_begin 46 = .ok (.getfield 11, 3) := by decide +kernel
theorem dX8_begin_49 : decode cX8_begin 49 = .ok (.iload_n 2, 1) := by decide +kernel
theorem dX8_begin_50 : decode cX8_begin 50 = .ok (.bipush 12, 2) := by decide +kernel
theorem dX8_begin_52 : decode cX8_begin 52 = .ok (.imul, 1) := by decide +kernel
theorem dX8_begin_53 : decode cX8_begin 53 = .ok (.bipush 12, 2) := by decide +kernel
theorem dX8_begin_55 : decode cX8_begin 55 = .ok (.invokestatic 75, 3) := by decide +kernel
theorem dX8_begin_58 : decode cX8_begin 58 = .ok (.aload_n 0, 1) := by decide +kernel
theorem dX8_begin_59 : decode cX8_begin 59 = .ok (.getfield 45, 3) := by decide +kernel
theorem dX8_begin_62 : decode cX8_begin 62 = .ok (.getfield 81, 3) := by decide +kernel
theorem dX8_begin_65 : decode cX8_begin 65 = .ok (.iconst 0, 1) := by decide +kernel
theorem dX8_begin_66 : decode cX8_begin 66 = .ok (.aload_n 0, 1) := by decide +kernel
theorem dX8_begin_67 : decode cX8_begin 67 = .ok (.getfield 15, 3) := by decide +kernel
theorem dX8_begin_70 : decode cX8_begin 70 = .ok (.iload_n 2, 1) := by decide +kernel
theorem dX8_begin_71 : decode cX8_begin 71 = .ok (.bipush 12, 2) := by decide +kernel
theorem dX8_begin_73 : decode cX8_begin 73 = .ok (.imul, 1) := by decide +kernel
theorem dX8_begin_74 : decode cX8_begin 74 = .ok (.bipush 12, 2) := by decide +kernel
theorem dX8_begin_76 : decode cX8_begin 76 = .ok (.invokestatic 75, 3) := by decide +kernel
theorem dX8_begin_79 : decode cX8_begin 79 = .ok (.iinc 2 1, 3) := by decide +kernel
theorem dX8_begin_82 : decode cX8_begin 82 = .ok (.goto (-50), 3) := by decide +kernel
theorem dX8_begin_85 : decode cX8_begin 85 = .ok (.aload_n 0, 1) := by decide +kernel
theorem dX8_begin_86 : decode cX8_begin 86 = .ok (.getfield 18, 3) := by decide +kernel
theorem dX8_begin_89 : decode cX8_begin 89 = .ok (.iconst (-1), 1) := by decide +kernel
theorem dX8_begin_90 : decode cX8_begin 90 = .ok (.invokestatic 82, 3) := by decide +kernel
theorem dX8_begin_93 : decode cX8_begin 93 = .ok (.aload_n 0, 1) := by decide +kernel
theorem dX8_begin_94 : decode cX8_begin 94 = .ok (.getfield 21, 3) := by decide +kernel
theorem dX8_begin_97 : decode cX8_begin 97 = .ok (.iconst 0, 1) := by decide +kernel
theorem dX8_begin_98 : decode cX8_begin 98 = .ok (.invokestatic 82, 3) := by decide +kernel
theorem dX8_begin_101 : decode cX8_begin 101 = .ok (.aload_n 0, 1) := by decide +kernel
theorem dX8_begin_102 : decode cX8_begin 102 = .ok (.getfield 24, 3) := by decide +kernel
theorem dX8_begin_105 : decode cX8_begin 105 = .ok (.iconst 0, 1) := by decide +kernel
theorem dX8_begin_106 : decode cX8_begin 106 = .ok (.invokestatic 82, 3) := by decide +kernel
theorem dX8_begin_109 : decode cX8_begin 109 = .ok (.aload_n 0, 1) := by decide +kernel
theorem dX8_begin_110 : decode cX8_begin 110 = .ok (.getfield 27, 3) := by decide +kernel
theorem dX8_begin_113 : decode cX8_begin 113 = .ok (.iconst 0, 1) := by decide +kernel
theorem dX8_begin_114 : decode cX8_begin 114 = .ok (.invokestatic 82, 3) := by decide +kernel
theorem dX8_begin_117 : decode cX8_begin 117 = .ok (.aload_n 0, 1) := by decide +kernel
theorem dX8_begin_118 : decode cX8_begin 118 = .ok (.getfield 30, 3) := by decide +kernel
theorem dX8_begin_121 : decode cX8_begin 121 = .ok (.iconst 0, 1) := by decide +kernel
theorem dX8_begin_122 : decode cX8_begin 122 = .ok (.invokestatic 82, 3) := by decide +kernel
theorem dX8_begin_125 : decode cX8_begin 125 = .ok (.aload_n 0, 1) := by decide +kernel
theorem dX8_begin_126 : decode cX8_begin 126 = .ok (.getfield 42, 3) := by decide +kernel
theorem dX8_begin_129 : decode cX8_begin 129 = .ok (.iconst 0, 1) := by decide +kernel
theorem dX8_begin_130 : decode cX8_begin 130 = .ok (.invokestatic 82, 3) := by decide +kernel
theorem dX8_begin_133 : decode cX8_begin 133 = .ok (.aload_n 0, 1) := by decide +kernel
theorem dX8_begin_134 : decode cX8_begin 134 = .ok (.invokevirtual 88, 3) := by decide +kernel
theorem dX8_begin_137 : decode cX8_begin 137 = .ok (.return_, 1) := by decide +kernel
theorem dX8_doorOf_0 : decode cX8_doorOf 0 = .ok (.iload_n 1, 1) := by decide +kernel
theorem dX8_doorOf_1 : decode cX8_doorOf 1 = .ok (.ifCond .lt 22, 3) := by decide +kernel
theorem dX8_doorOf_4 : decode cX8_doorOf 4 = .ok (.iload_n 1, 1) := by decide +kernel
theorem dX8_doorOf_5 : decode cX8_doorOf 5 = .ok (.bipush 15, 2) := by decide +kernel
theorem dX8_doorOf_7 : decode cX8_doorOf 7 = .ok (.if_icmp .ge 16, 3) := by decide +kernel
theorem dX8_doorOf_10 : decode cX8_doorOf 10 = .ok (.iload_n 2, 1) := by decide +kernel
theorem dX8_doorOf_11 : decode cX8_doorOf 11 = .ok (.ifCond .lt 12, 3) := by decide +kernel
theorem dX8_doorOf_14 : decode cX8_doorOf 14 = .ok (.iload_n 2, 1) := by decide +kernel
theorem dX8_doorOf_15 : decode cX8_doorOf 15 = .ok (.iconst 2, 1) := by decide +kernel
theorem dX8_doorOf_16 : decode cX8_doorOf 16 = .ok (.if_icmp .gt 7, 3) := by decide +kernel
theorem dX8_doorOf_19 : decode cX8_doorOf 19 = .ok (.iconst 1, 1) := by decide +kernel
theorem dX8_doorOf_20 : decode cX8_doorOf 20 = .ok (.goto 4, 3) := by decide +kernel
theorem dX8_doorOf_23 : decode cX8_doorOf 23 = .ok (.iconst 0, 1) := by decide +kernel
theorem dX8_doorOf_24 : decode cX8_doorOf 24 = .ok (.istore_n 3, 1) := by decide +kernel
theorem dX8_doorOf_25 : decode cX8_doorOf 25 = .ok (.iload_n 3, 1) := by decide +kernel
theorem dX8_doorOf_26 : decode cX8_doorOf 26 = .ok (.ifCond .eq 16, 3) := by decide +kernel
theorem dX8_doorOf_29 : decode cX8_doorOf 29 = .ok (.aload_n 0, 1) := by decide +kernel
theorem dX8_doorOf_30 : decode cX8_doorOf 30 = .ok (.getfield 42, 3) := by decide +kernel
theorem dX8_doorOf_33 : decode cX8_doorOf 33 = .ok (.iload_n 1, 1) := by decide +kernel
theorem dX8_doorOf_34 : decode cX8_doorOf 34 = .ok (.iconst 5, 1) := by decide +kernel
theorem dX8_doorOf_35 : decode cX8_doorOf 35 = .ok (.imul, 1) := by decide +kernel
theorem dX8_doorOf_36 : decode cX8_doorOf 36 = .ok (.iload_n 2, 1) := by decide +kernel
theorem dX8_doorOf_37 : decode cX8_doorOf 37 = .ok (.iadd, 1) := by decide +kernel
theorem dX8_doorOf_38 : decode cX8_doorOf 38 = .ok (.iaload, 1) := by decide +kernel
theorem dX8_doorOf_39 : decode cX8_doorOf 39 = .ok (.goto 4, 3) := by decide +kernel
theorem dX8_doorOf_42 : decode cX8_doorOf 42 = .ok (.iconst (-1), 1) := by decide +kernel
theorem dX8_doorOf_43 : decode cX8_doorOf 43 = .ok (.ireturn, 1) := by decide +kernel
theorem dX8_draw_0 : decode cX8_draw 0 = .ok (.aload_n 0, 1) := by decide +kernel
theorem dX8_draw_1 : decode cX8_draw 1 = .ok (.aload_n 0, 1) := by decide +kernel
theorem dX8_draw_2 : decode cX8_draw 2 = .ok (.getfield 53, 3) := by decide +kernel
theorem dX8_draw_5 : decode cX8_draw 5 = .ok (.ldc 180, 2) := by decide +kernel
theorem dX8_draw_7 : decode cX8_draw 7 = .ok (.imul, 1) := by decide +kernel
theorem dX8_draw_8 : decode cX8_draw 8 = .ok (.sipush 12345, 3) := by decide +kernel
theorem dX8_draw_11 : decode cX8_draw 11 = .ok (.iadd, 1) := by decide +kernel
theorem dX8_draw_12 : decode cX8_draw 12 = .ok (.putfield 53, 3) := by decide +kernel
theorem dX8_draw_15 : decode cX8_draw 15 = .ok (.aload_n 0, 1) := by decide +kernel
theorem dX8_draw_16 : decode cX8_draw 16 = .ok (.dup, 1) := by decide +kernel
theorem dX8_draw_17 : decode cX8_draw 17 = .ok (.getfield 60, 3) := by decide +kernel
theorem dX8_draw_20 : decode cX8_draw 20 = .ok (.iconst 1, 1) := by decide +kernel
theorem dX8_draw_21 : decode cX8_draw 21 = .ok (.iadd, 1) := by decide +kernel
theorem dX8_draw_22 : decode cX8_draw 22 = .ok (.putfield 60, 3) := by decide +kernel
theorem dX8_draw_25 : decode cX8_draw 25 = .ok (.aload_n 0, 1) := by decide +kernel
theorem dX8_draw_26 : decode cX8_draw 26 = .ok (.getfield 53, 3) := by decide +kernel
theorem dX8_draw_29 : decode cX8_draw 29 = .ok (.bipush 16, 2) := by decide +kernel
theorem dX8_draw_31 : decode cX8_draw 31 = .ok (.ishr, 1) := by decide +kernel
theorem dX8_draw_32 : decode cX8_draw 32 = .ok (.iconst 1, 1) := by decide +kernel
theorem dX8_draw_33 : decode cX8_draw 33 = .ok (.iand, 1) := by decide +kernel
theorem dX8_draw_34 : decode cX8_draw 34 = .ok (.ifCond .ne 7, 3) := by decide +kernel
theorem dX8_draw_37 : decode cX8_draw 37 = .ok (.iconst 1, 1) := by decide +kernel
theorem dX8_draw_38 : decode cX8_draw 38 = .ok (.goto 4, 3) := by decide +kernel
theorem dX8_draw_41 : decode cX8_draw 41 = .ok (.iconst 0, 1) := by decide +kernel
theorem dX8_draw_42 : decode cX8_draw 42 = .ok (.ireturn, 1) := by decide +kernel
theorem dX8_wayOfRow_0 : decode cX8_wayOfRow 0 = .ok (.iconst 0, 1) := by decide +kernel
theorem dX8_wayOfRow_1 : decode cX8_wayOfRow 1 = .ok (.istore_n 2, 1) := by decide +kernel
theorem dX8_wayOfRow_2 : decode cX8_wayOfRow 2 = .ok (.iconst 0, 1) := by decide +kernel
theorem dX8_wayOfRow_3 : decode cX8_wayOfRow 3 = .ok (.istore_n 3, 1) := by decide +kernel
theorem dX8_wayOfRow_4 : decode cX8_wayOfRow 4 = .ok (.iload_n 3, 1) := by decide +kernel
theorem dX8_wayOfRow_5 : decode cX8_wayOfRow 5 = .ok (.aload_n 0, 1) := by decide +kernel
theorem dX8_wayOfRow_6 : decode cX8_wayOfRow 6 = .ok (.getfield 45, 3) := by decide +kernel
theorem dX8_wayOfRow_9 : decode cX8_wayOfRow 9 = .ok (.getfield 91, 3) := by decide +kernel
theorem dX8_wayOfRow_12 : decode cX8_wayOfRow 12 = .ok (.if_icmp .ge 60, 3) := by decide +kernel
theorem dX8_wayOfRow_15 : decode cX8_wayOfRow 15 = .ok (.aload_n 0, 1) := by decide +kernel
theorem dX8_wayOfRow_16 : decode cX8_wayOfRow 16 = .ok (.getfield 11, 3) := by decide +kernel
theorem dX8_wayOfRow_19 : decode cX8_wayOfRow 19 = .ok (.iload_n 3, 1) := by decide +kernel
theorem dX8_wayOfRow_20 : decode cX8_wayOfRow 20 = .ok (.iaload, 1) := by decide +kernel
theorem dX8_wayOfRow_21 : decode cX8_wayOfRow 21 = .ok (.iconst (-1), 1) := by decide +kernel
theorem dX8_wayOfRow_22 : decode cX8_wayOfRow 22 = .ok (.if_icmp .eq 44, 3) := by decide +kernel
theorem dX8_wayOfRow_25 : decode cX8_wayOfRow 25 = .ok (.aload_n 0, 1) := by decide +kernel
theorem dX8_wayOfRow_26 : decode cX8_wayOfRow 26 = .ok (.getfield 15, 3) := by decide +kernel
theorem dX8_wayOfRow_29 : decode cX8_wayOfRow 29 = .ok (.iload_n 3, 1) := by decide +kernel
theorem dX8_wayOfRow_30 : decode cX8_wayOfRow 30 = .ok (.iaload, 1) := by decide +kernel
theorem dX8_wayOfRow_31 : decode cX8_wayOfRow 31 = .ok (.iload_n 1, 1) := by decide +kernel
theorem dX8_wayOfRow_32 : decode cX8_wayOfRow 32 = .ok (.if_icmp .ne 34, 3) := by decide +kernel
theorem dX8_wayOfRow_35 : decode cX8_wayOfRow 35 = .ok (.iload_n 2, 1) := by decide +kernel
theorem dX8_wayOfRow_36 : decode cX8_wayOfRow 36 = .ok (.ifCond .eq 16, 3) := by decide +kernel
theorem dX8_wayOfRow_39 : decode cX8_wayOfRow 39 = .ok (.iload_n 2, 1) := by decide +kernel
theorem dX8_wayOfRow_40 : decode cX8_wayOfRow 40 = .ok (.aload_n 0, 1) := by decide +kernel
theorem dX8_wayOfRow_41 : decode cX8_wayOfRow 41 = .ok (.getfield 45, 3) := by decide +kernel
theorem dX8_wayOfRow_44 : decode cX8_wayOfRow 44 = .ok (.getfield 101, 3) := by decide +kernel
theorem dX8_wayOfRow_47 : decode cX8_wayOfRow 47 = .ok (.iload_n 3, 1) := by decide +kernel
theorem dX8_wayOfRow_48 : decode cX8_wayOfRow 48 = .ok (.iaload, 1) := by decide +kernel
theorem dX8_wayOfRow_49 : decode cX8_wayOfRow 49 = .ok (.if_icmp .ne 15, 3) := by decide +kernel
theorem dX8_wayOfRow_52 : decode cX8_wayOfRow 52 = .ok (.aload_n 0, 1) := by decide +kernel
theorem dX8_wayOfRow_53 : decode cX8_wayOfRow 53 = .ok (.getfield 45, 3) := by decide +kernel
theorem dX8_wayOfRow_56 : decode cX8_wayOfRow 56 = .ok (.getfield 101, 3) := by decide +kernel
theorem dX8_wayOfRow_59 : decode cX8_wayOfRow 59 = .ok (.iload_n 3, 1) := by decide +kernel
theorem dX8_wayOfRow_60 : decode cX8_wayOfRow 60 = .ok (.iaload, 1) := by decide +kernel
theorem dX8_wayOfRow_61 : decode cX8_wayOfRow 61 = .ok (.goto 4, 3) := by decide +kernel
theorem dX8_wayOfRow_64 : decode cX8_wayOfRow 64 = .ok (.iconst 2, 1) := by decide +kernel
theorem dX8_wayOfRow_65 : decode cX8_wayOfRow 65 = .ok (.istore_n 2, 1) := by decide +kernel
theorem dX8_wayOfRow_66 : decode cX8_wayOfRow 66 = .ok (.iinc 3 1, 3) := by decide +kernel
theorem dX8_wayOfRow_69 : decode cX8_wayOfRow 69 = .ok (.goto (-65), 3) := by decide +kernel
theorem dX8_wayOfRow_72 : decode cX8_wayOfRow 72 = .ok (.iload_n 2, 1) := by decide +kernel
theorem dX8_wayOfRow_73 : decode cX8_wayOfRow 73 = .ok (.ireturn, 1) := by decide +kernel
theorem dX8_lanes_0 : decode cX8_lanes 0 = .ok (.iconst 0, 1) := by decide +kernel
theorem dX8_lanes_1 : decode cX8_lanes 1 = .ok (.istore_n 1, 1) := by decide +kernel
theorem dX8_lanes_2 : decode cX8_lanes 2 = .ok (.iconst 0, 1) := by decide +kernel
theorem dX8_lanes_3 : decode cX8_lanes 3 = .ok (.istore_n 2, 1) := by decide +kernel
theorem dX8_lanes_4 : decode cX8_lanes 4 = .ok (.iconst 0, 1) := by decide +kernel
theorem dX8_lanes_5 : decode cX8_lanes 5 = .ok (.istore_n 3, 1) := by decide +kernel
theorem dX8_lanes_6 : decode cX8_lanes 6 = .ok (.iload_n 3, 1) := by decide +kernel
theorem dX8_lanes_7 : decode cX8_lanes 7 = .ok (.aload_n 0, 1) := by decide +kernel
theorem dX8_lanes_8 : decode cX8_lanes 8 = .ok (.getfield 45, 3) := by decide +kernel
theorem dX8_lanes_11 : decode cX8_lanes 11 = .ok (.getfield 141, 3) := by decide +kernel
theorem dX8_lanes_14 : decode cX8_lanes 14 = .ok (.if_icmp .ge 39, 3) := by decide +kernel
theorem dX8_lanes_17 : decode cX8_lanes 17 = .ok (.aload_n 0, 1) := by decide +kernel
theorem dX8_lanes_18 : decode cX8_lanes 18 = .ok (.iload_n 3, 1) := by decide +kernel
theorem dX8_lanes_19 : decode cX8_lanes 19 = .ok (.invokevirtual 213, 3) := by decide +kernel
theorem dX8_lanes_22 : decode cX8_lanes 22 = .ok (.istore 4, 2) := by decide +kernel
theorem dX8_lanes_24 : decode cX8_lanes 24 = .ok (.iload 4, 2) := by decide +kernel
theorem dX8_lanes_26 : decode cX8_lanes 26 = .ok (.ifCond .eq 21, 3) := by decide +kernel
theorem dX8_lanes_29 : decode cX8_lanes 29 = .ok (.iload 4, 2) := by decide +kernel
theorem dX8_lanes_31 : decode cX8_lanes 31 = .ok (.iconst 2, 1) := by decide +kernel
theorem dX8_lanes_32 : decode cX8_lanes 32 = .ok (.if_icmp .eq 15, 3) := by decide +kernel
theorem dX8_lanes_35 : decode cX8_lanes 35 = .ok (.iload 4, 2) := by decide +kernel
theorem dX8_lanes_37 : decode cX8_lanes 37 = .ok (.iload_n 2, 1) := by decide +kernel
theorem dX8_lanes_38 : decode cX8_lanes 38 = .ok (.if_icmp .eq 9, 3) := by decide +kernel
theorem dX8_lanes_41 : decode cX8_lanes 41 = .ok (.iinc 1 1, 3) := by decide +kernel
theorem dX8_lanes_44 : decode cX8_lanes 44 = .ok (.iload 4, 2) := by decide +kernel
theorem dX8_lanes_46 : decode cX8_lanes 46 = .ok (.istore_n 2, 1) := by decide +kernel
theorem dX8_lanes_47 : decode cX8_lanes 47 = .ok (.iinc 3 1, 3) := by decide +kernel
theorem dX8_lanes_50 : decode cX8_lanes 50 = .ok (.goto (-44), 3) := by decide +kernel
theorem dX8_lanes_53 : decode cX8_lanes 53 = .ok (.iload_n 1, 1) := by decide +kernel
theorem dX8_lanes_54 : decode cX8_lanes 54 = .ok (.ireturn, 1) := by decide +kernel
theorem dX8_mixedRows_0 : decode cX8_mixedRows 0 = .ok (.iconst 0, 1) := by decide +kernel
theorem dX8_mixedRows_1 : decode cX8_mixedRows 1 = .ok (.istore_n 1, 1) := by decide +kernel
theorem dX8_mixedRows_2 : decode cX8_mixedRows 2 = .ok (.iconst 0, 1) := by decide +kernel
theorem dX8_mixedRows_3 : decode cX8_mixedRows 3 = .ok (.istore_n 2, 1) := by decide +kernel
theorem dX8_mixedRows_4 : decode cX8_mixedRows 4 = .ok (.iload_n 2, 1) := by decide +kernel
theorem dX8_mixedRows_5 : decode cX8_mixedRows 5 = .ok (.aload_n 0, 1) := by decide +kernel
theorem dX8_mixedRows_6 : decode cX8_mixedRows 6 = .ok (.getfield 45, 3) := by decide +kernel
theorem dX8_mixedRows_9 : decode cX8_mixedRows 9 = .ok (.getfield 141, 3) := by decide +kernel
theorem dX8_mixedRows_12 : decode cX8_mixedRows 12 = .ok (.if_icmp .ge 26, 3) := by decide +kernel
theorem dX8_mixedRows_15 : decode cX8_mixedRows 15 = .ok (.iload_n 1, 1) := by decide +kernel
theorem dX8_mixedRows_16 : decode cX8_mixedRows 16 = .ok (.aload_n 0, 1) := by decide +kernel
theorem dX8_mixedRows_17 : decode cX8_mixedRows 17 = .ok (.iload_n 2, 1) := by decide +kernel
theorem dX8_mixedRows_18 : decode cX8_mixedRows 18 = .ok (.invokevirtual 213, 3) := by decide +kernel
theorem dX8_mixedRows_21 : decode cX8_mixedRows 21 = .ok (.iconst 2, 1) := by decide +kernel
theorem dX8_mixedRows_22 : decode cX8_mixedRows 22 = .ok (.if_icmp .ne 7, 3) := by decide +kernel
theorem dX8_mixedRows_25 : decode cX8_mixedRows 25 = .ok (.iconst 1, 1) := by decide +kernel
theorem dX8_mixedRows_26 : decode cX8_mixedRows 26 = .ok (.goto 4, 3) := by decide +kernel
theorem dX8_mixedRows_29 : decode cX8_mixedRows 29 = .ok (.iconst 0, 1) := by decide +kernel
theorem dX8_mixedRows_30 : decode cX8_mixedRows 30 = .ok (.iadd, 1) := by decide +kernel
theorem dX8_mixedRows_31 : decode cX8_mixedRows 31 = .ok (.istore_n 1, 1) := by decide +kernel
theorem dX8_mixedRows_32 : decode cX8_mixedRows 32 = .ok (.iinc 2 1, 3) := by decide +kernel
theorem dX8_mixedRows_35 : decode cX8_mixedRows 35 = .ok (.goto (-31), 3) := by decide +kernel
theorem dX8_mixedRows_38 : decode cX8_mixedRows 38 = .ok (.iload_n 1, 1) := by decide +kernel
theorem dX8_mixedRows_39 : decode cX8_mixedRows 39 = .ok (.ireturn, 1) := by decide +kernel
theorem dX8_mostArrivals_0 : decode cX8_mostArrivals 0 = .ok (.iconst 0, 1) := by decide +kernel
theorem dX8_mostArrivals_1 : decode cX8_mostArrivals 1 = .ok (.istore_n 1, 1) := by decide +kernel
theorem dX8_mostArrivals_2 : decode cX8_mostArrivals 2 = .ok (.iconst 0, 1) := by decide +kernel
theorem dX8_mostArrivals_3 : decode cX8_mostArrivals 3 = .ok (.istore_n 2, 1) := by decide +kernel
theorem dX8_mostArrivals_4 : decode cX8_mostArrivals 4 = .ok (.iload_n 2, 1) := by decide +kernel
theorem dX8_mostArrivals_5 : decode cX8_mostArrivals 5 = .ok (.aload_n 0, 1) := by decide +kernel
theorem dX8_mostArrivals_6 : decode cX8_mostArrivals 6 = .ok (.getfield 45, 3) := by decide +kernel
theorem dX8_mostArrivals_9 : decode cX8_mostArrivals 9 = .ok (.getfield 91, 3) := by decide +kernel
theorem dX8_mostArrivals_12 : decode cX8_mostArrivals 12 = .ok (.if_icmp .ge 87, 3) := by decide +kernel
theorem dX8_mostArrivals_15 : decode cX8_mostArrivals 15 = .ok (.aload_n 0, 1) := by decide +kernel
theorem dX8_mostArrivals_16 : decode cX8_mostArrivals 16 = .ok (.getfield 18, 3) := by decide +kernel
theorem dX8_mostArrivals_19 : decode cX8_mostArrivals 19 = .ok (.iload_n 2, 1) := by decide +kernel
theorem dX8_mostArrivals_20 : decode cX8_mostArrivals 20 = .ok (.iaload, 1) := by decide +kernel
theorem dX8_mostArrivals_21 : decode cX8_mostArrivals 21 = .ok (.istore_n 3, 1) := by decide +kernel
theorem dX8_mostArrivals_22 : decode cX8_mostArrivals 22 = .ok (.iconst 0, 1) := by decide +kernel
theorem dX8_mostArrivals_23 : decode cX8_mostArrivals 23 = .ok (.istore 4, 2) := by decide +kernel
theorem dX8_mostArrivals_25 : decode cX8_mostArrivals 25 = .ok (.iconst 0, 1) := by decide +kernel
theorem dX8_mostArrivals_26 : decode cX8_mostArrivals 26 = .ok (.istore 5, 2) := by decide +kernel
theorem dX8_mostArrivals_28 : decode cX8_mostArrivals 28 = .ok (.iload 5, 2) := by decide +kernel
theorem dX8_mostArrivals_30 : decode cX8_mostArrivals 30 = .ok (.aload_n 0, 1) := by decide +kernel
theorem dX8_mostArrivals_31 : decode cX8_mostArrivals 31 = .ok (.getfield 45, 3) := by decide +kernel
theorem dX8_mostArrivals_34 : decode cX8_mostArrivals 34 = .ok (.getfield 91, 3) := by decide +kernel
theorem dX8_mostArrivals_37 : decode cX8_mostArrivals 37 = .ok (.if_icmp .ge 49, 3) := by decide +kernel
theorem dX8_mostArrivals_40 : decode cX8_mostArrivals 40 = .ok (.iload_n 3, 1) := by decide +kernel
theorem dX8_mostArrivals_41 : decode cX8_mostArrivals 41 = .ok (.iconst (-1), 1) := by decide +kernel
theorem dX8_mostArrivals_42 : decode cX8_mostArrivals 42 = .ok (.if_icmp .eq 44, 3) := by decide +kernel
theorem dX8_mostArrivals_45 : decode cX8_mostArrivals 45 = .ok (.iload 4, 2) := by decide +kernel
theorem dX8_mostArrivals_47 : decode cX8_mostArrivals 47 = .ok (.aload_n 0, 1) := by decide +kernel
theorem dX8_mostArrivals_48 : decode cX8_mostArrivals 48 = .ok (.getfield 18, 3) := by decide +kernel
theorem dX8_mostArrivals_51 : decode cX8_mostArrivals 51 = .ok (.iload 5, 2) := by decide +kernel
theorem dX8_mostArrivals_53 : decode cX8_mostArrivals 53 = .ok (.iaload, 1) := by decide +kernel
theorem dX8_mostArrivals_54 : decode cX8_mostArrivals 54 = .ok (.iload_n 3, 1) := by decide +kernel
theorem dX8_mostArrivals_55 : decode cX8_mostArrivals 55 = .ok (.if_icmp .lt 21, 3) := by decide +kernel
theorem dX8_mostArrivals_58 : decode cX8_mostArrivals 58 = .ok (.aload_n 0, 1) := by decide +kernel
theorem dX8_mostArrivals_59 : decode cX8_mostArrivals 59 = .ok (.getfield 18, 3) := by decide +kernel
theorem dX8_mostArrivals_62 : decode cX8_mostArrivals 62 = .ok (.iload 5, 2) := by decide +kernel
theorem dX8_mostArrivals_64 : decode cX8_mostArrivals 64 = .ok (.iaload, 1) := by decide +kernel
theorem dX8_mostArrivals_65 : decode cX8_mostArrivals 65 = .ok (.iload_n 3, 1) := by decide +kernel
theorem dX8_mostArrivals_66 : decode cX8_mostArrivals 66 = .ok (.bipush 10, 2) := by decide +kernel
theorem dX8_mostArrivals_68 : decode cX8_mostArrivals 68 = .ok (.iadd, 1) := by decide +kernel
theorem dX8_mostArrivals_69 : decode cX8_mostArrivals 69 = .ok (.if_icmp .ge 7, 3) := by decide +kernel
theorem dX8_mostArrivals_72 : decode cX8_mostArrivals 72 = .ok (.iconst 1, 1) := by decide +kernel
theorem dX8_mostArrivals_73 : decode cX8_mostArrivals 73 = .ok (.goto 4, 3) := by decide +kernel
theorem dX8_mostArrivals_76 : decode cX8_mostArrivals 76 = .ok (.iconst 0, 1) := by decide +kernel
theorem dX8_mostArrivals_77 : decode cX8_mostArrivals 77 = .ok (.iadd, 1) := by decide +kernel
theorem dX8_mostArrivals_78 : decode cX8_mostArrivals 78 = .ok (.istore 4, 2) := by decide +kernel
theorem dX8_mostArrivals_80 : decode cX8_mostArrivals 80 = .ok (.iinc 5 1, 3) := by decide +kernel
theorem dX8_mostArrivals_83 : decode cX8_mostArrivals 83 = .ok (.goto (-55), 3) := by decide +kernel
theorem dX8_mostArrivals_86 : decode cX8_mostArrivals 86 = .ok (.iload_n 1, 1) := by decide +kernel
theorem dX8_mostArrivals_87 : decode cX8_mostArrivals 87 = .ok (.iload 4, 2) := by decide +kernel
theorem dX8_mostArrivals_89 : decode cX8_mostArrivals 89 = .ok (.invokestatic 207, 3) := by decide +kernel
theorem dX8_mostArrivals_92 : decode cX8_mostArrivals 92 = .ok (.istore_n 1, 1) := by decide +kernel
theorem dX8_mostArrivals_93 : decode cX8_mostArrivals 93 = .ok (.iinc 2 1, 3) := by decide +kernel
theorem dX8_mostArrivals_96 : decode cX8_mostArrivals 96 = .ok (.goto (-92), 3) := by decide +kernel
theorem dX8_mostArrivals_99 : decode cX8_mostArrivals 99 = .ok (.iload_n 1, 1) := by decide +kernel
theorem dX8_mostArrivals_100 : decode cX8_mostArrivals 100 = .ok (.ireturn, 1) := by decide +kernel
theorem dX8_pass_0 : decode cX8_pass 0 = .ok (.iconst 0, 1) := by decide +kernel
theorem dX8_pass_1 : decode cX8_pass 1 = .ok (.istore_n 1, 1) := by decide +kernel
theorem dX8_pass_2 : decode cX8_pass 2 = .ok (.iload_n 1, 1) := by decide +kernel
theorem dX8_pass_3 : decode cX8_pass 3 = .ok (.aload_n 0, 1) := by decide +kernel
theorem dX8_pass_4 : decode cX8_pass 4 = .ok (.getfield 45, 3) := by decide +kernel
theorem dX8_pass_7 : decode cX8_pass 7 = .ok (.getfield 91, 3) := by decide +kernel
theorem dX8_pass_10 : decode cX8_pass 10 = .ok (.if_icmp .ge 46, 3) := by decide +kernel
theorem dX8_pass_13 : decode cX8_pass 13 = .ok (.aload_n 0, 1) := by decide +kernel
theorem dX8_pass_14 : decode cX8_pass 14 = .ok (.getfield 33, 3) := by decide +kernel
theorem dX8_pass_17 : decode cX8_pass 17 = .ok (.iload_n 1, 1) := by decide +kernel
theorem dX8_pass_18 : decode cX8_pass 18 = .ok (.aload_n 0, 1) := by decide +kernel
theorem dX8_pass_19 : decode cX8_pass 19 = .ok (.iload_n 1, 1) := by decide +kernel
theorem dX8_pass_20 : decode cX8_pass 20 = .ok (.invokevirtual 163, 3) := by decide +kernel
theorem dX8_pass_23 : decode cX8_pass 23 = .ok (.iastore, 1) := by decide +kernel
theorem dX8_pass_24 : decode cX8_pass 24 = .ok (.aload_n 0, 1) := by decide +kernel
theorem dX8_pass_25 : decode cX8_pass 25 = .ok (.iload_n 1, 1) := by decide +kernel
theorem dX8_pass_26 : decode cX8_pass 26 = .ok (.invokevirtual 166, 3) := by decide +kernel
theorem dX8_pass_29 : decode cX8_pass 29 = .ok (.ifCond .eq 21, 3) := by decide +kernel
theorem dX8_pass_32 : decode cX8_pass 32 = .ok (.aload_n 0, 1) := by decide +kernel
theorem dX8_pass_33 : decode cX8_pass 33 = .ok (.getfield 33, 3) := by decide +kernel
theorem dX8_pass_36 : decode cX8_pass 36 = .ok (.iload_n 1, 1) := by decide +kernel
theorem dX8_pass_37 : decode cX8_pass 37 = .ok (.aload_n 0, 1) := by decide +kernel
theorem dX8_pass_38 : decode cX8_pass 38 = .ok (.invokevirtual 169, 3) := by decide +kernel
theorem dX8_pass_41 : decode cX8_pass 41 = .ok (.ifCond .eq 7, 3) := by decide +kernel
theorem dX8_pass_44 : decode cX8_pass 44 = .ok (.iconst 1, 1) := by decide +kernel
theorem dX8_pass_45 : decode cX8_pass 45 = .ok (.goto 4, 3) := by decide +kernel
theorem dX8_pass_48 : decode cX8_pass 48 = .ok (.iconst 2, 1) := by decide +kernel
theorem dX8_pass_49 : decode cX8_pass 49 = .ok (.iastore, 1) := by decide +kernel
theorem dX8_pass_50 : decode cX8_pass 50 = .ok (.iinc 1 1, 3) := by decide +kernel
theorem dX8_pass_53 : decode cX8_pass 53 = .ok (.goto (-51), 3) := by decide +kernel
theorem dX8_pass_56 : decode cX8_pass 56 = .ok (.aload_n 0, 1) := by decide +kernel
theorem dX8_pass_57 : decode cX8_pass 57 = .ok (.invokevirtual 173, 3) := by decide +kernel
theorem dX8_pass_60 : decode cX8_pass 60 = .ok (.ireturn, 1) := by decide +kernel
theorem dX8_touches_0 : decode cX8_touches 0 = .ok (.aload_n 0, 1) := by decide +kernel
theorem dX8_touches_1 : decode cX8_touches 1 = .ok (.iload_n 1, 1) := by decide +kernel
theorem dX8_touches_2 : decode cX8_touches 2 = .ok (.invokevirtual 187, 3) := by decide +kernel
theorem dX8_touches_5 : decode cX8_touches 5 = .ok (.ifCond .eq 11, 3) := by decide +kernel
theorem dX8_touches_8 : decode cX8_touches 8 = .ok (.aload_n 0, 1) := by decide +kernel
theorem dX8_touches_9 : decode cX8_touches 9 = .ok (.iload_n 2, 1) := by decide +kernel
theorem dX8_touches_10 : decode cX8_touches 10 = .ok (.invokevirtual 187, 3) := by decide +kernel
theorem dX8_touches_13 : decode cX8_touches 13 = .ok (.ifCond .ne 5, 3) := by decide +kernel
theorem dX8_touches_16 : decode cX8_touches 16 = .ok (.iconst 0, 1) := by decide +kernel
theorem dX8_touches_17 : decode cX8_touches 17 = .ok (.ireturn, 1) := by decide +kernel
theorem dX8_touches_18 : decode cX8_touches 18 = .ok (.aload_n 0, 1) := by decide +kernel
theorem dX8_touches_19 : decode cX8_touches 19 = .ok (.getfield 11, 3) := by decide +kernel
theorem dX8_touches_22 : decode cX8_touches 22 = .ok (.iload_n 1, 1) := by decide +kernel
theorem dX8_touches_23 : decode cX8_touches 23 = .ok (.iaload, 1) := by decide +kernel
theorem dX8_touches_24 : decode cX8_touches 24 = .ok (.aload_n 0, 1) := by decide +kernel
theorem dX8_touches_25 : decode cX8_touches 25 = .ok (.getfield 11, 3) := by decide +kernel
theorem dX8_touches_28 : decode cX8_touches 28 = .ok (.iload_n 2, 1) := by decide +kernel
theorem dX8_touches_29 : decode cX8_touches 29 = .ok (.iaload, 1) := by decide +kernel
theorem dX8_touches_30 : decode cX8_touches 30 = .ok (.isub, 1) := by decide +kernel
theorem dX8_touches_31 : decode cX8_touches 31 = .ok (.invokestatic 148, 3) := by decide +kernel
theorem dX8_touches_34 : decode cX8_touches 34 = .ok (.aload_n 0, 1) := by decide +kernel
theorem dX8_touches_35 : decode cX8_touches 35 = .ok (.getfield 15, 3) := by decide +kernel
theorem dX8_touches_38 : decode cX8_touches 38 = .ok (.iload_n 1, 1) := by decide +kernel
theorem dX8_touches_39 : decode cX8_touches 39 = .ok (.iaload, 1) := by decide +kernel
theorem dX8_touches_40 : decode cX8_touches 40 = .ok (.aload_n 0, 1) := by decide +kernel
theorem dX8_touches_41 : decode cX8_touches 41 = .ok (.getfield 15, 3) := by decide +kernel
theorem dX8_touches_44 : decode cX8_touches 44 = .ok (.iload_n 2, 1) := by decide +kernel
theorem dX8_touches_45 : decode cX8_touches 45 = .ok (.iaload, 1) := by decide +kernel
theorem dX8_touches_46 : decode cX8_touches 46 = .ok (.isub, 1) := by decide +kernel
theorem dX8_touches_47 : decode cX8_touches 47 = .ok (.invokestatic 148, 3) := by decide +kernel
theorem dX8_touches_50 : decode cX8_touches 50 = .ok (.iadd, 1) := by decide +kernel
theorem dX8_touches_51 : decode cX8_touches 51 = .ok (.iconst 1, 1) := by decide +kernel
theorem dX8_touches_52 : decode cX8_touches 52 = .ok (.if_icmp .ne 7, 3) := by decide +kernel
theorem dX8_touches_55 : decode cX8_touches 55 = .ok (.iconst 1, 1) := by decide +kernel
theorem dX8_touches_56 : decode cX8_touches 56 = .ok (.goto 4, 3) := by decide +kernel
theorem dX8_touches_59 : decode cX8_touches 59 = .ok (.iconst 0, 1) := by decide +kernel
theorem dX8_touches_60 : decode cX8_touches 60 = .ok (.ireturn, 1) := by decide +kernel
section P_X8_copyFrom
variable {p : Program} {l : Launch} {e : Env} {s : State} {m : MethodId} {args : Array Value} {below : List Frame} {meth : Method} {c : Code} {G : GG} {A : Nat → Prop} {ad : Nat → Nat} {S : ST} {N : Nat} {dy' : DY}
end P_X8_copyFrom
set_option maxHeartbeats 4000000 in
set_option maxRecDepth 100000 in
theorem M_X8_copyFrom (l : Launch) (G : GG) (ad : Nat → Nat) {S : ST} (N : Nat) (hG : Good S) (a0 : Nat) (a1 : Nat) (dy : DY) (T0 : gs S a0 = (0, 8)) (T1 : gs S a1 = (0, 8)) {dy' : DY} (E : F_X8_copyFrom S N a0 a1 dy = some dy') : MC l yX8_copyFrom cX8_copyFrom 2 (Option.none : Option Jvm.ClassFile.FieldType) (1) G ad [.ref (ad a0), .ref (ad a1)] S dy (fun A => QV G ad A S dy') := by
  rw [F_X8_copyFrom_s] at E
  refine mc_of RX8 (by decide) rfl (Nat.le_of_ble_eq_true rfl) (fun p e s m args below meth c A C HR HL => ?_)
  refine ww_sub (lv' := [(0, .ref (ad a0)), (1, .ref (ad a1))]) [0, 1] rfl ?_
  refine ww_aload_n C dX8_copyFrom_0 rfl 0 rfl ?_
  refine ww_aload_n C dX8_copyFrom_1 rfl 1 rfl ?_
  refine ww_geti (ci := 8) (k0 := 2) C dX8_copyFrom_2 rfl rfl inm8 (by decide) T1 q263 rfl ?_
  refine ww_puti (ci := 8) (k0 := 2) C dX8_copyFrom_5 rfl rfl inm8 tyX8_ok nmX8 (by decide) T0 q263 rfl rfl rfl ?_
  refine ww_bd E (fun dy1 E => ?_)
  refine ww_aload_n C dX8_copyFrom_8 rfl 0 rfl ?_
  refine ww_aload_n C dX8_copyFrom_9 rfl 1 rfl ?_
  refine ww_geti (ci := 8) (k0 := 3) C dX8_copyFrom_10 rfl rfl inm8 (by decide) T1 q265 rfl ?_
  refine ww_puti (ci := 8) (k0 := 3) C dX8_copyFrom_13 rfl rfl inm8 tyX8_ok nmX8 (by decide) T0 q265 rfl rfl rfl ?_
  refine ww_bd E (fun dy2 E => ?_)
  refine ww_aload_n C dX8_copyFrom_16 rfl 0 rfl ?_
  refine ww_aload_n C dX8_copyFrom_17 rfl 1 rfl ?_
  refine ww_geti (ci := 8) (k0 := 4) C dX8_copyFrom_18 rfl rfl inm8 (by decide) T1 q266 rfl ?_
  refine ww_puti (ci := 8) (k0 := 4) C dX8_copyFrom_21 rfl rfl inm8 tyX8_ok nmX8 (by decide) T0 q266 rfl rfl rfl ?_
  refine ww_bd E (fun dy3 E => ?_)
  refine ww_aload_n C dX8_copyFrom_24 rfl 0 rfl ?_
  refine ww_aload_n C dX8_copyFrom_25 rfl 1 rfl ?_
  refine ww_geti (ci := 8) (k0 := 5) C dX8_copyFrom_26 rfl rfl inm8 (by decide) T1 q268 rfl ?_
  refine ww_puti (ci := 8) (k0 := 5) C dX8_copyFrom_29 rfl rfl inm8 tyX8_ok nmX8 (by decide) T0 q268 rfl rfl rfl ?_
  refine ww_bd E (fun dy4 E => ?_)
  refine ww_aload_n C dX8_copyFrom_32 rfl 0 rfl ?_
  refine ww_aload_n C dX8_copyFrom_33 rfl 1 rfl ?_
  refine ww_geti (ci := 8) (k0 := 6) C dX8_copyFrom_34 rfl rfl inm8 (by decide) T1 q271 rfl ?_
  refine ww_puti (ci := 8) (k0 := 6) C dX8_copyFrom_37 rfl rfl inm8 tyX8_ok nmX8 (by decide) T0 q271 rfl rfl rfl ?_
  refine ww_bd E (fun dy5 E => ?_)
  refine ww_aload_n C dX8_copyFrom_40 rfl 0 rfl ?_
  refine ww_aload_n C dX8_copyFrom_41 rfl 1 rfl ?_
  refine ww_geti (ci := 8) (k0 := 7) C dX8_copyFrom_42 rfl rfl inm8 (by decide) T1 q274 rfl ?_
  refine ww_puti (ci := 8) (k0 := 7) C dX8_copyFrom_45 rfl rfl inm8 tyX8_ok nmX8 (by decide) T0 q274 rfl rfl rfl ?_
  refine ww_bd E (fun dy6 E => ?_)
  refine ww_aload_n C dX8_copyFrom_48 rfl 1 rfl ?_
  have T_7 : gs S (gr S a1 9) = (1, 48) := hG.1 _ 8 T1 9 (by decide)
  refine ww_getr (ci := 8) (k0 := 9) C dX8_copyFrom_49 rfl rfl inm8 (by decide) T1 q277 rfl T_7 (by decide) ?_
  refine ww_iconst (v := 0) C dX8_copyFrom_52 (by decide) ?_
  refine ww_aload_n C dX8_copyFrom_53 rfl 0 rfl ?_
  have T_8 : gs S (gr S a0 9) = (1, 48) := hG.1 _ 8 T0 9 (by decide)
  refine ww_getr (ci := 8) (k0 := 9) C dX8_copyFrom_54 rfl rfl inm8 (by decide) T0 q277 rfl T_8 (by decide) ?_
  refine ww_iconst (v := 0) C dX8_copyFrom_57 (by decide) ?_
  refine ww_bipush (v := 48) C dX8_copyFrom_58 (by decide) ?_
  obtain ⟨g_10, E⟩ := gd_of E
  refine ww_copy (t := 1) C dX8_copyFrom_60 T_7 T_8 (by decide) (by decide) g_10.1 g_10.2 q908 q790 q789 q124 (Nat.le_of_ble_eq_true rfl) (Nat.le_of_ble_eq_true rfl) (Nat.le_of_ble_eq_true rfl) ?_
  refine ww_bd E (fun dy9 E => ?_)
  refine ww_aload_n C dX8_copyFrom_63 rfl 1 rfl ?_
  have T_11 : gs S (gr S a1 10) = (1, 48) := hG.1 _ 8 T1 10 (by decide)
  refine ww_getr (ci := 8) (k0 := 10) C dX8_copyFrom_64 rfl rfl inm8 (by decide) T1 q280 rfl T_11 (by decide) ?_
  refine ww_iconst (v := 0) C dX8_copyFrom_67 (by decide) ?_
  refine ww_aload_n C dX8_copyFrom_68 rfl 0 rfl ?_
  have T_12 : gs S (gr S a0 10) = (1, 48) := hG.1 _ 8 T0 10 (by decide)
  refine ww_getr (ci := 8) (k0 := 10) C dX8_copyFrom_69 rfl rfl inm8 (by decide) T0 q280 rfl T_12 (by decide) ?_
  refine ww_iconst (v := 0) C dX8_copyFrom_72 (by decide) ?_
  refine ww_bipush (v := 48) C dX8_copyFrom_73 (by decide) ?_
  obtain ⟨g_14, E⟩ := gd_of E
  refine ww_copy (t := 1) C dX8_copyFrom_75 T_11 T_12 (by decide) (by decide) g_14.1 g_14.2 q908 q790 q789 q124 (Nat.le_of_ble_eq_true rfl) (Nat.le_of_ble_eq_true rfl) (Nat.le_of_ble_eq_true rfl) ?_
  refine ww_bd E (fun dy13 E => ?_)
  refine ww_aload_n C dX8_copyFrom_78 rfl 1 rfl ?_
  have T_15 : gs S (gr S a1 11) = (1, 12) := hG.1 _ 8 T1 11 (by decide)
  refine ww_getr (ci := 8) (k0 := 11) C dX8_copyFrom_79 rfl rfl inm8 (by decide) T1 q283 rfl T_15 (by decide) ?_
  refine ww_iconst (v := 0) C dX8_copyFrom_82 (by decide) ?_
  refine ww_aload_n C dX8_copyFrom_83 rfl 0 rfl ?_
  have T_16 : gs S (gr S a0 11) = (1, 12) := hG.1 _ 8 T0 11 (by decide)
  refine ww_getr (ci := 8) (k0 := 11) C dX8_copyFrom_84 rfl rfl inm8 (by decide) T0 q283 rfl T_16 (by decide) ?_
  refine ww_iconst (v := 0) C dX8_copyFrom_87 (by decide) ?_
  refine ww_bipush (v := 12) C dX8_copyFrom_88 (by decide) ?_
  obtain ⟨g_18, E⟩ := gd_of E
  refine ww_copy (t := 1) C dX8_copyFrom_90 T_15 T_16 (by decide) (by decide) g_18.1 g_18.2 q908 q790 q789 q124 (Nat.le_of_ble_eq_true rfl) (Nat.le_of_ble_eq_true rfl) (Nat.le_of_ble_eq_true rfl) ?_
  refine ww_bd E (fun dy17 E => ?_)
  refine ww_aload_n C dX8_copyFrom_93 rfl 1 rfl ?_
  have T_19 : gs S (gr S a1 12) = (1, 12) := hG.1 _ 8 T1 12 (by decide)
  refine ww_getr (ci := 8) (k0 := 12) C dX8_copyFrom_94 rfl rfl inm8 (by decide) T1 q285 rfl T_19 (by decide) ?_
  refine ww_iconst (v := 0) C dX8_copyFrom_97 (by decide) ?_
  refine ww_aload_n C dX8_copyFrom_98 rfl 0 rfl ?_
  have T_20 : gs S (gr S a0 12) = (1, 12) := hG.1 _ 8 T0 12 (by decide)
  refine ww_getr (ci := 8) (k0 := 12) C dX8_copyFrom_99 rfl rfl inm8 (by decide) T0 q285 rfl T_20 (by decide) ?_
  refine ww_iconst (v := 0) C dX8_copyFrom_102 (by decide) ?_
  refine ww_bipush (v := 12) C dX8_copyFrom_103 (by decide) ?_
  obtain ⟨g_22, E⟩ := gd_of E
  refine ww_copy (t := 1) C dX8_copyFrom_105 T_19 T_20 (by decide) (by decide) g_22.1 g_22.2 q908 q790 q789 q124 (Nat.le_of_ble_eq_true rfl) (Nat.le_of_ble_eq_true rfl) (Nat.le_of_ble_eq_true rfl) ?_
  refine ww_bd E (fun dy21 E => ?_)
  refine ww_aload_n C dX8_copyFrom_108 rfl 1 rfl ?_
  have T_23 : gs S (gr S a1 13) = (1, 12) := hG.1 _ 8 T1 13 (by decide)
  refine ww_getr (ci := 8) (k0 := 13) C dX8_copyFrom_109 rfl rfl inm8 (by decide) T1 q287 rfl T_23 (by decide) ?_
  refine ww_iconst (v := 0) C dX8_copyFrom_112 (by decide) ?_
  refine ww_aload_n C dX8_copyFrom_113 rfl 0 rfl ?_
  have T_24 : gs S (gr S a0 13) = (1, 12) := hG.1 _ 8 T0 13 (by decide)
  refine ww_getr (ci := 8) (k0 := 13) C dX8_copyFrom_114 rfl rfl inm8 (by decide) T0 q287 rfl T_24 (by decide) ?_
  refine ww_iconst (v := 0) C dX8_copyFrom_117 (by decide) ?_
  refine ww_bipush (v := 12) C dX8_copyFrom_118 (by decide) ?_
  obtain ⟨g_26, E⟩ := gd_of E
  refine ww_copy (t := 1) C dX8_copyFrom_120 T_23 T_24 (by decide) (by decide) g_26.1 g_26.2 q908 q790 q789 q124 (Nat.le_of_ble_eq_true rfl) (Nat.le_of_ble_eq_true rfl) (Nat.le_of_ble_eq_true rfl) ?_
  refine ww_bd E (fun dy25 E => ?_)
  refine ww_aload_n C dX8_copyFrom_123 rfl 1 rfl ?_
  have T_27 : gs S (gr S a1 14) = (1, 12) := hG.1 _ 8 T1 14 (by decide)
  refine ww_getr (ci := 8) (k0 := 14) C dX8_copyFrom_124 rfl rfl inm8 (by decide) T1 q289 rfl T_27 (by decide) ?_
  refine ww_iconst (v := 0) C dX8_copyFrom_127 (by decide) ?_
  refine ww_aload_n C dX8_copyFrom_128 rfl 0 rfl ?_
  have T_28 : gs S (gr S a0 14) = (1, 12) := hG.1 _ 8 T0 14 (by decide)
  refine ww_getr (ci := 8) (k0 := 14) C dX8_copyFrom_129 rfl rfl inm8 (by decide) T0 q289 rfl T_28 (by decide) ?_
  refine ww_iconst (v := 0) C dX8_copyFrom_132 (by decide) ?_
  refine ww_bipush (v := 12) C dX8_copyFrom_133 (by decide) ?_
  obtain ⟨g_30, E⟩ := gd_of E
  refine ww_copy (t := 1) C dX8_copyFrom_135 T_27 T_28 (by decide) (by decide) g_30.1 g_30.2 q908 q790 q789 q124 (Nat.le_of_ble_eq_true rfl) (Nat.le_of_ble_eq_true rfl) (Nat.le_of_ble_eq_true rfl) ?_
  refine ww_bd E (fun dy29 E => ?_)
  refine ww_aload_n C dX8_copyFrom_138 rfl 1 rfl ?_
  have T_31 : gs S (gr S a1 15) = (1, 12) := hG.1 _ 8 T1 15 (by decide)
  refine ww_getr (ci := 8) (k0 := 15) C dX8_copyFrom_139 rfl rfl inm8 (by decide) T1 q291 rfl T_31 (by decide) ?_
  refine ww_iconst (v := 0) C dX8_copyFrom_142 (by decide) ?_
  refine ww_aload_n C dX8_copyFrom_143 rfl 0 rfl ?_
  have T_32 : gs S (gr S a0 15) = (1, 12) := hG.1 _ 8 T0 15 (by decide)
  refine ww_getr (ci := 8) (k0 := 15) C dX8_copyFrom_144 rfl rfl inm8 (by decide) T0 q291 rfl T_32 (by decide) ?_
  refine ww_iconst (v := 0) C dX8_copyFrom_147 (by decide) ?_
  refine ww_bipush (v := 12) C dX8_copyFrom_148 (by decide) ?_
  obtain ⟨g_34, E⟩ := gd_of E
  refine ww_copy (t := 1) C dX8_copyFrom_150 T_31 T_32 (by decide) (by decide) g_34.1 g_34.2 q908 q790 q789 q124 (Nat.le_of_ble_eq_true rfl) (Nat.le_of_ble_eq_true rfl) (Nat.le_of_ble_eq_true rfl) ?_
  refine ww_bd E (fun dy33 E => ?_)
  refine ww_aload_n C dX8_copyFrom_153 rfl 1 rfl ?_
  have T_35 : gs S (gr S a1 16) = (1, 12) := hG.1 _ 8 T1 16 (by decide)
  refine ww_getr (ci := 8) (k0 := 16) C dX8_copyFrom_154 rfl rfl inm8 (by decide) T1 q294 rfl T_35 (by decide) ?_
  refine ww_iconst (v := 0) C dX8_copyFrom_157 (by decide) ?_
  refine ww_aload_n C dX8_copyFrom_158 rfl 0 rfl ?_
  have T_36 : gs S (gr S a0 16) = (1, 12) := hG.1 _ 8 T0 16 (by decide)
  refine ww_getr (ci := 8) (k0 := 16) C dX8_copyFrom_159 rfl rfl inm8 (by decide) T0 q294 rfl T_36 (by decide) ?_
  refine ww_iconst (v := 0) C dX8_copyFrom_162 (by decide) ?_
  refine ww_bipush (v := 12) C dX8_copyFrom_163 (by decide) ?_
  obtain ⟨g_38, E⟩ := gd_of E
  refine ww_copy (t := 1) C dX8_copyFrom_165 T_35 T_36 (by decide) (by decide) g_38.1 g_38.2 q908 q790 q789 q124 (Nat.le_of_ble_eq_true rfl) (Nat.le_of_ble_eq_true rfl) (Nat.le_of_ble_eq_true rfl) ?_
  refine ww_bd E (fun dy37 E => ?_)
  refine ww_aload_n C dX8_copyFrom_168 rfl 1 rfl ?_
  have T_39 : gs S (gr S a1 17) = (1, 12) := hG.1 _ 8 T1 17 (by decide)
  refine ww_getr (ci := 8) (k0 := 17) C dX8_copyFrom_169 rfl rfl inm8 (by decide) T1 q296 rfl T_39 (by decide) ?_
  refine ww_iconst (v := 0) C dX8_copyFrom_172 (by decide) ?_
  refine ww_aload_n C dX8_copyFrom_173 rfl 0 rfl ?_
  have T_40 : gs S (gr S a0 17) = (1, 12) := hG.1 _ 8 T0 17 (by decide)
  refine ww_getr (ci := 8) (k0 := 17) C dX8_copyFrom_174 rfl rfl inm8 (by decide) T0 q296 rfl T_40 (by decide) ?_
  refine ww_iconst (v := 0) C dX8_copyFrom_177 (by decide) ?_
  refine ww_bipush (v := 12) C dX8_copyFrom_178 (by decide) ?_
  obtain ⟨g_42, E⟩ := gd_of E
  refine ww_copy (t := 1) C dX8_copyFrom_180 T_39 T_40 (by decide) (by decide) g_42.1 g_42.2 q908 q790 q789 q124 (Nat.le_of_ble_eq_true rfl) (Nat.le_of_ble_eq_true rfl) (Nat.le_of_ble_eq_true rfl) ?_
  refine ww_bd E (fun dy41 E => ?_)
  refine ww_aload_n C dX8_copyFrom_183 rfl 1 rfl ?_
  have T_43 : gs S (gr S a1 19) = (1, 75) := hG.1 _ 8 T1 19 (by decide)
  refine ww_getr (ci := 8) (k0 := 19) C dX8_copyFrom_184 rfl rfl inm8 (by decide) T1 q299 rfl T_43 (by decide) ?_
  refine ww_iconst (v := 0) C dX8_copyFrom_187 (by decide) ?_
  refine ww_aload_n C dX8_copyFrom_188 rfl 0 rfl ?_
  have T_44 : gs S (gr S a0 19) = (1, 75) := hG.1 _ 8 T0 19 (by decide)
  refine ww_getr (ci := 8) (k0 := 19) C dX8_copyFrom_189 rfl rfl inm8 (by decide) T0 q299 rfl T_44 (by decide) ?_
  refine ww_iconst (v := 0) C dX8_copyFrom_192 (by decide) ?_
  refine ww_bipush (v := 75) C dX8_copyFrom_193 (by decide) ?_
  obtain ⟨g_46, E⟩ := gd_of E
  refine ww_copy (t := 1) C dX8_copyFrom_195 T_43 T_44 (by decide) (by decide) g_46.1 g_46.2 q908 q790 q789 q124 (Nat.le_of_ble_eq_true rfl) (Nat.le_of_ble_eq_true rfl) (Nat.le_of_ble_eq_true rfl) ?_
  refine ww_bd E (fun dy45 E => ?_)
  exact ww_vret C HR HL dX8_copyFrom_198 E
section P_X8_pastOf
variable {p : Program} {l : Launch} {e : Env} {s : State} {m : MethodId} {args : Array Value} {below : List Frame} {meth : Method} {c : Code} {G : GG} {A : Nat → Prop} {ad : Nat → Nat} {S : ST} {N : Nat} {r : Int32} {dy' : DY}
end P_X8_pastOf
set_option maxHeartbeats 4000000 in
set_option maxRecDepth 100000 in
theorem M_X8_pastOf (l : Launch) (G : GG) (ad : Nat → Nat) {S : ST} (N : Nat) (hG : Good S) (a0 : Nat) (a1 : Int32) (dy : DY) (T0 : gs S a0 = (0, 8)) {r : Int32} {dy' : DY} (E : F_X8_pastOf S N a0 a1 dy = some (r, dy')) : MC l yX8_pastOf cX8_pastOf 3 (Option.some Jvm.ClassFile.FieldType.int) (1) G ad [.ref (ad a0), .int a1] S dy (fun A => QI G ad A S r dy') := by
  rw [F_X8_pastOf_s] at E
  refine mc_of RX8 (by decide) rfl (Nat.le_of_ble_eq_true rfl) (fun p e s m args below meth c A C HR HL => ?_)
  refine ww_sub (lv' := [(0, .ref (ad a0)), (1, .int a1)]) [0, 1] rfl ?_
  refine ww_aload_n C dX8_pastOf_0 rfl 0 rfl ?_
  have T_1 : gs S (gr S a0 0) = (0, 4) := hG.1 _ 8 T0 0 (by decide)
  refine ww_getr (ci := 8) (k0 := 0) C dX8_pastOf_1 rfl rfl inm8 (by decide) T0 q261 rfl T_1 (by decide) ?_
  have T_2 : gs S (gr S (gr S a0 0) 9) = (1, 12) := hG.1 _ 4 T_1 9 (by decide)
  refine ww_getr (ci := 4) (k0 := 9) C dX8_pastOf_4 rfl rfl inm4 (by decide) T_1 q183 rfl T_2 (by decide) ?_
  refine ww_iload_n C dX8_pastOf_7 rfl 1 rfl ?_
  refine ww_iald C dX8_pastOf_8 T_2 E (fun _ E => ?_)
  refine ww_istore_n (lv' := [(2, .int (gi dy (gr S (gr S a0 0) 9) a1.toNatClampNeg)), (0, .ref (ad a0)), (1, .int a1)]) C dX8_pastOf_9 rfl (by decide) rfl ?_
  refine ww_iload_n C dX8_pastOf_10 rfl 0 rfl ?_
  refine ww_if_le (tgt := 26) C dX8_pastOf_11 (by decide) E (fun _ E => ?_) (fun _ E => ?_)
  · refine ww_iconst (v := 0) C dX8_pastOf_26 (by decide) ?_
    exact ww_iret C HR HL dX8_pastOf_27 E
  · refine ww_iload_n C dX8_pastOf_14 rfl 0 rfl ?_
    refine ww_iconst (v := 4) C dX8_pastOf_15 (by decide) ?_
    refine ww_icmp_ge (tgt := 26) C dX8_pastOf_16 (by decide) E (fun _ E => ?_) (fun _ E => ?_)
    · refine ww_iconst (v := 0) C dX8_pastOf_26 (by decide) ?_
      exact ww_iret C HR HL dX8_pastOf_27 E
    · refine ww_iload_n C dX8_pastOf_19 rfl 0 rfl ?_
      refine ww_bipush (v := 12) C dX8_pastOf_20 (by decide) ?_
      refine ww_imul C dX8_pastOf_22 ?_
      refine ww_goto (tgt := 27) C dX8_pastOf_23 (by decide) ?_
      exact ww_iret C HR HL dX8_pastOf_27 E
section P_X8_stepsToWall
variable {p : Program} {l : Launch} {e : Env} {s : State} {m : MethodId} {args : Array Value} {below : List Frame} {meth : Method} {c : Code} {G : GG} {A : Nat → Prop} {ad : Nat → Nat} {S : ST} {N : Nat} {r : Int32} {dy' : DY}
set_option maxHeartbeats 4000000 in
set_option maxRecDepth 100000 in
theorem B_X8_stepsToWall_104 (C : CX p s m args c cX8_stepsToWall 7 RX8 G A) (HR : meth.sig.returnType = (Option.some Jvm.ClassFile.FieldType.int)) (HL : meth.locks = false) (hG : Good S) : ∀ (x3 : Int32) (x6 : Int32) (dy : DY), F_X8_stepsToWall_104 S N x3 x6 dy = some (r, dy') → WJ p l e (rmD (1)) s m args below meth c 7 G A 0 0 (MQ below (QI G ad A S r dy') args s 0 0 A) ad 104 [(3, .int x3), (6, .int x6)] [] S dy := by
  intro x3 x6 dy E
  rw [F_X8_stepsToWall_104_s] at E
  refine ww_iload_n C dX8_stepsToWall_104 rfl 0 rfl ?_
  refine ww_if_ne (tgt := 114) C dX8_stepsToWall_105 (by decide) E (fun _ E => ?_) (fun _ E => ?_)
  · refine ww_iload C dX8_stepsToWall_114 1 rfl ?_
    exact ww_iret C HR HL dX8_stepsToWall_116 E
  · refine ww_sipush (v := 1000) C dX8_stepsToWall_108 (by decide) ?_
    refine ww_goto (tgt := 116) C dX8_stepsToWall_111 (by decide) ?_
    exact ww_iret C HR HL dX8_stepsToWall_116 E
set_option maxHeartbeats 4000000 in
set_option maxRecDepth 100000 in
theorem B_X8_stepsToWall_23 (C : CX p s m args c cX8_stepsToWall 7 RX8 G A) (HR : meth.sig.returnType = (Option.some Jvm.ClassFile.FieldType.int)) (HL : meth.locks = false) (hG : Good S) : ∀ k : Nat, ∀ (x0 : Nat) (x2 : Int32) (x3 : Int32) (x4 : Int32) (x5 : Int32) (x6 : Int32) (dy : DY), gs S x0 = (0, 8) → (F_X8_stepsToWall_23 S N k) x0 x2 x3 x4 x5 x6 dy = some (r, dy') → WJ p l e (rmD (1)) s m args below meth c 7 G A 0 0 (MQ below (QI G ad A S r dy') args s 0 0 A) ad 23 [(0, .ref (ad x0)), (2, .int x2), (3, .int x3), (4, .int x4), (5, .int x5), (6, .int x6)] [] S dy := by
  intro k
  induction k with
  | zero => exact fun _ _ _ _ _ _ _ _ E => nomatch (show none = some (r, dy') from E)
  | succ k ih =>
    intro x0 x2 x3 x4 x5 x6 dy Tx0 E
    rw [F_X8_stepsToWall_23_s] at E
    refine ww_iload C dX8_stepsToWall_23 5 rfl ?_
    refine ww_bipush (v := 16) C dX8_stepsToWall_25 (by decide) ?_
    refine ww_icmp_gt (tgt := 104) C dX8_stepsToWall_27 (by decide) E (fun _ E => ?_) (fun _ E => ?_)
    · refine ww_sub (lv' := [(3, .int x3), (6, .int x6)]) [2, 5] rfl ?_
      exact (B_X8_stepsToWall_104 C HR HL hG) x3 x6 dy E
    · refine ww_iload C dX8_stepsToWall_30 3 rfl ?_
      refine ww_if_lt (tgt := 104) C dX8_stepsToWall_32 (by decide) E (fun _ E => ?_) (fun _ E => ?_)
      · refine ww_sub (lv' := [(3, .int x3), (6, .int x6)]) [2, 5] rfl ?_
        exact (B_X8_stepsToWall_104 C HR HL hG) x3 x6 dy E
      · refine ww_iload C dX8_stepsToWall_35 3 rfl ?_
        refine ww_aload_n C dX8_stepsToWall_37 rfl 0 rfl ?_
        have T_1 : gs S (gr S x0 0) = (0, 4) := hG.1 _ 8 Tx0 0 (by decide)
        refine ww_getr (ci := 8) (k0 := 0) C dX8_stepsToWall_38 rfl rfl inm8 (by decide) Tx0 q261 rfl T_1 (by decide) ?_
        refine ww_geti (ci := 4) (k0 := 0) C dX8_stepsToWall_41 rfl rfl inm4 (by decide) T_1 q153 rfl ?_
        refine ww_icmp_ge (tgt := 104) C dX8_stepsToWall_44 (by decide) E (fun _ E => ?_) (fun _ E => ?_)
        · refine ww_sub (lv' := [(3, .int x3), (6, .int x6)]) [2, 5] rfl ?_
          exact (B_X8_stepsToWall_104 C HR HL hG) x3 x6 dy E
        · refine ww_iload C dX8_stepsToWall_47 4 rfl ?_
          refine ww_if_lt (tgt := 104) C dX8_stepsToWall_49 (by decide) E (fun _ E => ?_) (fun _ E => ?_)
          · refine ww_sub (lv' := [(3, .int x3), (6, .int x6)]) [2, 5] rfl ?_
            exact (B_X8_stepsToWall_104 C HR HL hG) x3 x6 dy E
          · refine ww_iload C dX8_stepsToWall_52 4 rfl ?_
            refine ww_aload_n C dX8_stepsToWall_54 rfl 0 rfl ?_
            have T_2 : gs S (gr S x0 0) = (0, 4) := hG.1 _ 8 Tx0 0 (by decide)
            refine ww_getr (ci := 8) (k0 := 0) C dX8_stepsToWall_55 rfl rfl inm8 (by decide) Tx0 q261 rfl T_2 (by decide) ?_
            refine ww_geti (ci := 4) (k0 := 1) C dX8_stepsToWall_58 rfl rfl inm4 (by decide) T_2 q157 rfl ?_
            refine ww_icmp_ge (tgt := 104) C dX8_stepsToWall_61 (by decide) E (fun _ E => ?_) (fun _ E => ?_)
            · refine ww_sub (lv' := [(3, .int x3), (6, .int x6)]) [2, 5] rfl ?_
              exact (B_X8_stepsToWall_104 C HR HL hG) x3 x6 dy E
            · refine ww_aload_n C dX8_stepsToWall_64 rfl 0 rfl ?_
              have T_3 : gs S (gr S x0 0) = (0, 4) := hG.1 _ 8 Tx0 0 (by decide)
              refine ww_getr (ci := 8) (k0 := 0) C dX8_stepsToWall_65 rfl rfl inm8 (by decide) Tx0 q261 rfl T_3 (by decide) ?_
              have T_4 : gs S (gr S (gr S x0 0) 4) = (3, 96) := hG.1 _ 4 T_3 4 (by decide)
              refine ww_getr (ci := 4) (k0 := 4) C dX8_stepsToWall_68 rfl rfl inm4 (by decide) T_3 q166 rfl T_4 (by decide) ?_
              refine ww_iload C dX8_stepsToWall_71 3 rfl ?_
              refine ww_bipush (v := 6) C dX8_stepsToWall_73 (by decide) ?_
              refine ww_imul C dX8_stepsToWall_75 ?_
              refine ww_iload C dX8_stepsToWall_76 4 rfl ?_
              refine ww_iadd C dX8_stepsToWall_78 ?_
              refine ww_zald C dX8_stepsToWall_79 T_4 E (fun _ E => ?_)
              refine ww_if_eq (tgt := 86) C dX8_stepsToWall_80 (by decide) E (fun _ E => ?_) (fun _ E => ?_)
              · refine ww_iload C dX8_stepsToWall_86 3 rfl ?_
                refine ww_iload_n C dX8_stepsToWall_88 rfl 1 rfl ?_
                refine ww_iadd C dX8_stepsToWall_89 ?_
                refine ww_istore (lv' := [(4, .int (x4 + x2)), (0, .ref (ad x0)), (2, .int x2), (3, .int x3), (5, .int x5), (6, .int x6)]) C dX8_stepsToWall_90 (by decide) rfl ?_
                refine ww_iload C dX8_stepsToWall_92 4 rfl ?_
                refine ww_iload_n C dX8_stepsToWall_94 rfl 3 rfl ?_
                refine ww_iadd C dX8_stepsToWall_95 ?_
                refine ww_istore (lv' := [(5, .int (x5 + x3)), (4, .int (x4 + x2)), (0, .ref (ad x0)), (2, .int x2), (3, .int x3), (6, .int x6)]) C dX8_stepsToWall_96 (by decide) rfl ?_
                refine ww_iinc (v := (x6 + (1 : Int32))) (lv' := [(6, .int (x6 + (1 : Int32))), (5, .int (x5 + x3)), (4, .int (x4 + x2)), (0, .ref (ad x0)), (2, .int x2), (3, .int x3)]) C dX8_stepsToWall_98 5 rfl rfl (by decide) rfl ?_
                refine ww_goto (tgt := 23) C dX8_stepsToWall_101 (by decide) ?_
                refine ww_sub (lv' := [(0, .ref (ad x0)), (2, .int x2), (3, .int x3), (4, .int (x4 + x2)), (5, .int (x5 + x3)), (6, .int (x6 + (1 : Int32)))]) [3, 4, 5, 2, 1, 0] rfl ?_
                exact ih x0 x2 x3 (x4 + x2) (x5 + x3) (x6 + (1 : Int32)) dy Tx0 E
              · refine ww_iload C dX8_stepsToWall_83 5 rfl ?_
                exact ww_iret C HR HL dX8_stepsToWall_85 E
end P_X8_stepsToWall
set_option maxHeartbeats 4000000 in
set_option maxRecDepth 100000 in
theorem M_X8_stepsToWall (l : Launch) (G : GG) (ad : Nat → Nat) {S : ST} (N : Nat) (hG : Good S) (a0 : Nat) (a1 : Int32) (a2 : Int32) (a3 : Int32) (dy : DY) (T0 : gs S a0 = (0, 8)) {r : Int32} {dy' : DY} (E : F_X8_stepsToWall S N a0 a1 a2 a3 dy = some (r, dy')) : MC l yX8_stepsToWall cX8_stepsToWall 7 (Option.some Jvm.ClassFile.FieldType.int) (1) G ad [.ref (ad a0), .int a1, .int a2, .int a3] S dy (fun A => QI G ad A S r dy') := by
  rw [F_X8_stepsToWall_s] at E
  refine mc_of RX8 (by decide) rfl (Nat.le_of_ble_eq_true rfl) (fun p e s m args below meth c A C HR HL => ?_)
  refine ww_sub (lv' := [(0, .ref (ad a0)), (1, .int a1), (2, .int a2), (3, .int a3)]) [0, 1, 2, 3] rfl ?_
  refine ww_aload_n C dX8_stepsToWall_0 rfl 0 rfl ?_
  have T_1 : gs S (gr S a0 9) = (1, 48) := hG.1 _ 8 T0 9 (by decide)
  refine ww_getr (ci := 8) (k0 := 9) C dX8_stepsToWall_1 rfl rfl inm8 (by decide) T0 q277 rfl T_1 (by decide) ?_
  refine ww_iload_n C dX8_stepsToWall_4 rfl 1 rfl ?_
  refine ww_iald C dX8_stepsToWall_5 T_1 E (fun _ E => ?_)
  refine ww_iload_n C dX8_stepsToWall_6 rfl 2 rfl ?_
  refine ww_iadd C dX8_stepsToWall_7 ?_
  refine ww_istore (lv' := [(4, .int ((gi dy (gr S a0 9) a1.toNatClampNeg) + a2)), (0, .ref (ad a0)), (1, .int a1), (2, .int a2), (3, .int a3)]) C dX8_stepsToWall_8 (by decide) rfl ?_
  refine ww_aload_n C dX8_stepsToWall_10 rfl 1 rfl ?_
  have T_2 : gs S (gr S a0 10) = (1, 48) := hG.1 _ 8 T0 10 (by decide)
  refine ww_getr (ci := 8) (k0 := 10) C dX8_stepsToWall_11 rfl rfl inm8 (by decide) T0 q280 rfl T_2 (by decide) ?_
  refine ww_iload_n C dX8_stepsToWall_14 rfl 2 rfl ?_
  refine ww_iald C dX8_stepsToWall_15 T_2 E (fun _ E => ?_)
  refine ww_iload_n C dX8_stepsToWall_16 rfl 4 rfl ?_
  refine ww_iadd C dX8_stepsToWall_17 ?_
  refine ww_istore (lv' := [(5, .int ((gi dy (gr S a0 10) a1.toNatClampNeg) + a3)), (4, .int ((gi dy (gr S a0 9) a1.toNatClampNeg) + a2)), (0, .ref (ad a0)), (1, .int a1), (2, .int a2), (3, .int a3)]) C dX8_stepsToWall_18 (by decide) rfl ?_
  refine ww_iconst (v := 1) C dX8_stepsToWall_20 (by decide) ?_
  refine ww_istore (lv' := [(6, .int (1 : Int32)), (5, .int ((gi dy (gr S a0 10) a1.toNatClampNeg) + a3)), (4, .int ((gi dy (gr S a0 9) a1.toNatClampNeg) + a2)), (0, .ref (ad a0)), (1, .int a1), (2, .int a2), (3, .int a3)]) C dX8_stepsToWall_21 (by decide) rfl ?_
  refine ww_sub (lv' := [(0, .ref (ad a0)), (2, .int a2), (3, .int a3), (4, .int ((gi dy (gr S a0 9) a1.toNatClampNeg) + a2)), (5, .int ((gi dy (gr S a0 10) a1.toNatClampNeg) + a3)), (6, .int (1 : Int32))]) [3, 5, 6, 2, 1, 0] rfl ?_
  exact (B_X8_stepsToWall_23 C HR HL hG N) a0 a2 a3 ((gi dy (gr S a0 9) a1.toNatClampNeg) + a2) ((gi dy (gr S a0 10) a1.toNatClampNeg) + a3) (1 : Int32) dy T0 E
section P_X8_freeSteps
variable {p : Program} {l : Launch} {e : Env} {s : State} {m : MethodId} {args : Array Value} {below : List Frame} {meth : Method} {c : Code} {G : GG} {A : Nat → Prop} {ad : Nat → Nat} {S : ST} {N : Nat} {r : Int32} {dy' : DY}
set_option maxHeartbeats 4000000 in
set_option maxRecDepth 100000 in
theorem B_X8_freeSteps_24 (C : CX p s m args c cX8_freeSteps 10 RX8 G A) (HR : meth.sig.returnType = (Option.some Jvm.ClassFile.FieldType.int)) (HL : meth.locks = false) (hG : Good S) : ∀ k : Nat, ∀ (x0 : Nat) (x1 : Int32) (x2 : Int32) (x3 : Int32) (x4 : Int32) (x5 : Int32) (x6 : Int32) (dy : DY), gs S x0 = (0, 8) → (F_X8_freeSteps_24 S N k) x0 x1 x2 x3 x4 x5 x6 dy = some (r, dy') → WJ p l e (rmD (2)) s m args below meth c 10 G A 0 0 (MQ below (QI G ad A S r dy') args s 0 0 A) ad 24 [(0, .ref (ad x0)), (1, .int x1), (2, .int x2), (3, .int x3), (4, .int x4), (5, .int x5), (6, .int x6)] [] S dy := by
  intro k
  induction k with
  | zero => exact fun _ _ _ _ _ _ _ _ _ E => nomatch (show none = some (r, dy') from E)
  | succ k ih =>
    intro x0 x1 x2 x3 x4 x5 x6 dy Tx0 E
    rw [F_X8_freeSteps_24_s] at E
    refine ww_iload C dX8_freeSteps_24 6 rfl ?_
    refine ww_aload_n C dX8_freeSteps_26 rfl 0 rfl ?_
    have T_1 : gs S (gr S x0 0) = (0, 4) := hG.1 _ 8 Tx0 0 (by decide)
    refine ww_getr (ci := 8) (k0 := 0) C dX8_freeSteps_27 rfl rfl inm8 (by decide) Tx0 q261 rfl T_1 (by decide) ?_
    refine ww_geti (ci := 4) (k0 := 3) C dX8_freeSteps_30 rfl rfl inm4 (by decide) T_1 q162 rfl ?_
    refine ww_icmp_ge (tgt := 147) C dX8_freeSteps_33 (by decide) E (fun _ E => ?_) (fun _ E => ?_)
    · refine ww_bipush (v := 9) C dX8_freeSteps_147 (by decide) ?_
      refine ww_iload C dX8_freeSteps_149 4 rfl ?_
      refine ww_iconst (v := 1) C dX8_freeSteps_151 (by decide) ?_
      refine ww_isub C dX8_freeSteps_152 ?_
      refine ww_mmin C dX8_freeSteps_153 q944 q587 q119 q588 (Nat.le_of_ble_eq_true rfl) (Nat.le_of_ble_eq_true rfl) (Nat.le_of_ble_eq_true rfl) (Nat.zero_le _) (Nat.zero_le _) ?_
      exact ww_iret C HR HL dX8_freeSteps_156 E
    · refine ww_iload C dX8_freeSteps_36 6 rfl ?_
      refine ww_iload_n C dX8_freeSteps_38 rfl 1 rfl ?_
      refine ww_icmp_eq (tgt := 141) C dX8_freeSteps_39 (by decide) E (fun _ E => ?_) (fun _ E => ?_)
      · refine ww_iinc (v := (x6 + (1 : Int32))) (lv' := [(6, .int (x6 + (1 : Int32))), (0, .ref (ad x0)), (1, .int x1), (2, .int x2), (3, .int x3), (4, .int x4), (5, .int x5)]) C dX8_freeSteps_141 6 rfl rfl (by decide) rfl ?_
        refine ww_goto (tgt := 24) C dX8_freeSteps_144 (by decide) ?_
        refine ww_sub (lv' := [(0, .ref (ad x0)), (1, .int x1), (2, .int x2), (3, .int x3), (4, .int x4), (5, .int x5), (6, .int (x6 + (1 : Int32)))]) [1, 2, 3, 4, 5, 6, 0] rfl ?_
        exact ih x0 x1 x2 x3 x4 x5 (x6 + (1 : Int32)) dy Tx0 E
      · refine ww_aload_n C dX8_freeSteps_42 rfl 0 rfl ?_
        have T_2 : gs S (gr S x0 9) = (1, 48) := hG.1 _ 8 Tx0 9 (by decide)
        refine ww_getr (ci := 8) (k0 := 9) C dX8_freeSteps_43 rfl rfl inm8 (by decide) Tx0 q277 rfl T_2 (by decide) ?_
        refine ww_iload C dX8_freeSteps_46 5 rfl ?_
        refine ww_iload C dX8_freeSteps_48 6 rfl ?_
        refine ww_iadd C dX8_freeSteps_50 ?_
        refine ww_iald C dX8_freeSteps_51 T_2 E (fun _ E => ?_)
        refine ww_iconst (v := (-1)) C dX8_freeSteps_52 (by decide) ?_
        refine ww_icmp_ne (tgt := 59) C dX8_freeSteps_53 (by decide) E (fun _ E => ?_) (fun _ E => ?_)
        · refine ww_aload_n C dX8_freeSteps_59 rfl 0 rfl ?_
          have T_3 : gs S (gr S x0 9) = (1, 48) := hG.1 _ 8 Tx0 9 (by decide)
          refine ww_getr (ci := 8) (k0 := 9) C dX8_freeSteps_60 rfl rfl inm8 (by decide) Tx0 q277 rfl T_3 (by decide) ?_
          refine ww_iload C dX8_freeSteps_63 5 rfl ?_
          refine ww_iload C dX8_freeSteps_65 6 rfl ?_
          refine ww_iadd C dX8_freeSteps_67 ?_
          refine ww_iald C dX8_freeSteps_68 T_3 E (fun _ E => ?_)
          refine ww_aload_n C dX8_freeSteps_69 rfl 0 rfl ?_
          have T_4 : gs S (gr S x0 9) = (1, 48) := hG.1 _ 8 Tx0 9 (by decide)
          refine ww_getr (ci := 8) (k0 := 9) C dX8_freeSteps_70 rfl rfl inm8 (by decide) Tx0 q277 rfl T_4 (by decide) ?_
          refine ww_iload_n C dX8_freeSteps_73 rfl 1 rfl ?_
          refine ww_iald C dX8_freeSteps_74 T_4 E (fun _ E => ?_)
          refine ww_isub C dX8_freeSteps_75 ?_
          refine ww_istore (lv' := [(7, .int ((gi dy (gr S x0 9) (x5 + x6).toNatClampNeg) - (gi dy (gr S x0 9) x1.toNatClampNeg))), (0, .ref (ad x0)), (1, .int x1), (2, .int x2), (3, .int x3), (4, .int x4), (5, .int x5), (6, .int x6)]) C dX8_freeSteps_76 (by decide) rfl ?_
          refine ww_aload_n C dX8_freeSteps_78 rfl 1 rfl ?_
          have T_5 : gs S (gr S x0 10) = (1, 48) := hG.1 _ 8 Tx0 10 (by decide)
          refine ww_getr (ci := 8) (k0 := 10) C dX8_freeSteps_79 rfl rfl inm8 (by decide) Tx0 q280 rfl T_5 (by decide) ?_
          refine ww_iload C dX8_freeSteps_82 6 rfl ?_
          refine ww_iload C dX8_freeSteps_84 7 rfl ?_
          refine ww_iadd C dX8_freeSteps_86 ?_
          refine ww_iald C dX8_freeSteps_87 T_5 E (fun _ E => ?_)
          refine ww_aload_n C dX8_freeSteps_88 rfl 1 rfl ?_
          have T_6 : gs S (gr S x0 10) = (1, 48) := hG.1 _ 8 Tx0 10 (by decide)
          refine ww_getr (ci := 8) (k0 := 10) C dX8_freeSteps_89 rfl rfl inm8 (by decide) Tx0 q280 rfl T_6 (by decide) ?_
          refine ww_iload_n C dX8_freeSteps_92 rfl 2 rfl ?_
          refine ww_iald C dX8_freeSteps_93 T_6 E (fun _ E => ?_)
          refine ww_isub C dX8_freeSteps_94 ?_
          refine ww_istore (lv' := [(8, .int ((gi dy (gr S x0 10) (x5 + x6).toNatClampNeg) - (gi dy (gr S x0 10) x1.toNatClampNeg))), (7, .int ((gi dy (gr S x0 9) (x5 + x6).toNatClampNeg) - (gi dy (gr S x0 9) x1.toNatClampNeg))), (0, .ref (ad x0)), (1, .int x1), (2, .int x2), (3, .int x3), (4, .int x4), (5, .int x5), (6, .int x6)]) C dX8_freeSteps_95 (by decide) rfl ?_
          refine ww_iload C dX8_freeSteps_97 1 rfl ?_
          refine ww_iload_n C dX8_freeSteps_99 rfl 4 rfl ?_
          refine ww_imul C dX8_freeSteps_100 ?_
          refine ww_iload C dX8_freeSteps_101 0 rfl ?_
          refine ww_iload_n C dX8_freeSteps_103 rfl 5 rfl ?_
          refine ww_imul C dX8_freeSteps_104 ?_
          refine ww_iadd C dX8_freeSteps_105 ?_
          refine ww_istore (lv' := [(9, .int ((((gi dy (gr S x0 9) (x5 + x6).toNatClampNeg) - (gi dy (gr S x0 9) x1.toNatClampNeg)) * x2) + (((gi dy (gr S x0 10) (x5 + x6).toNatClampNeg) - (gi dy (gr S x0 10) x1.toNatClampNeg)) * x3))), (8, .int ((gi dy (gr S x0 10) (x5 + x6).toNatClampNeg) - (gi dy (gr S x0 10) x1.toNatClampNeg))), (7, .int ((gi dy (gr S x0 9) (x5 + x6).toNatClampNeg) - (gi dy (gr S x0 9) x1.toNatClampNeg))), (0, .ref (ad x0)), (1, .int x1), (2, .int x2), (3, .int x3), (4, .int x4), (5, .int x5), (6, .int x6)]) C dX8_freeSteps_106 (by decide) rfl ?_
          refine ww_iload C dX8_freeSteps_108 2 rfl ?_
          refine ww_iload_n C dX8_freeSteps_110 rfl 6 rfl ?_
          refine ww_imul C dX8_freeSteps_111 ?_
          refine ww_iload C dX8_freeSteps_112 1 rfl ?_
          refine ww_iload_n C dX8_freeSteps_114 rfl 5 rfl ?_
          refine ww_imul C dX8_freeSteps_115 ?_
          refine ww_icmp_ne (tgt := 141) C dX8_freeSteps_116 (by decide) E (fun _ E => ?_) (fun _ E => ?_)
          · refine ww_iinc (v := (x6 + (1 : Int32))) (lv' := [(6, .int (x6 + (1 : Int32))), (9, .int ((((gi dy (gr S x0 9) (x5 + x6).toNatClampNeg) - (gi dy (gr S x0 9) x1.toNatClampNeg)) * x2) + (((gi dy (gr S x0 10) (x5 + x6).toNatClampNeg) - (gi dy (gr S x0 10) x1.toNatClampNeg)) * x3))), (8, .int ((gi dy (gr S x0 10) (x5 + x6).toNatClampNeg) - (gi dy (gr S x0 10) x1.toNatClampNeg))), (7, .int ((gi dy (gr S x0 9) (x5 + x6).toNatClampNeg) - (gi dy (gr S x0 9) x1.toNatClampNeg))), (0, .ref (ad x0)), (1, .int x1), (2, .int x2), (3, .int x3), (4, .int x4), (5, .int x5)]) C dX8_freeSteps_141 9 rfl rfl (by decide) rfl ?_
            refine ww_goto (tgt := 24) C dX8_freeSteps_144 (by decide) ?_
            refine ww_sub (lv' := [(0, .ref (ad x0)), (1, .int x1), (2, .int x2), (3, .int x3), (4, .int x4), (5, .int x5), (6, .int (x6 + (1 : Int32)))]) [4, 5, 6, 7, 8, 9, 0] rfl ?_
            exact ih x0 x1 x2 x3 x4 x5 (x6 + (1 : Int32)) dy Tx0 E
          · refine ww_iload C dX8_freeSteps_119 0 rfl ?_
            refine ww_if_le (tgt := 141) C dX8_freeSteps_121 (by decide) E (fun _ E => ?_) (fun _ E => ?_)
            · refine ww_iinc (v := (x6 + (1 : Int32))) (lv' := [(6, .int (x6 + (1 : Int32))), (9, .int ((((gi dy (gr S x0 9) (x5 + x6).toNatClampNeg) - (gi dy (gr S x0 9) x1.toNatClampNeg)) * x2) + (((gi dy (gr S x0 10) (x5 + x6).toNatClampNeg) - (gi dy (gr S x0 10) x1.toNatClampNeg)) * x3))), (8, .int ((gi dy (gr S x0 10) (x5 + x6).toNatClampNeg) - (gi dy (gr S x0 10) x1.toNatClampNeg))), (7, .int ((gi dy (gr S x0 9) (x5 + x6).toNatClampNeg) - (gi dy (gr S x0 9) x1.toNatClampNeg))), (0, .ref (ad x0)), (1, .int x1), (2, .int x2), (3, .int x3), (4, .int x4), (5, .int x5)]) C dX8_freeSteps_141 9 rfl rfl (by decide) rfl ?_
              refine ww_goto (tgt := 24) C dX8_freeSteps_144 (by decide) ?_
              refine ww_sub (lv' := [(0, .ref (ad x0)), (1, .int x1), (2, .int x2), (3, .int x3), (4, .int x4), (5, .int x5), (6, .int (x6 + (1 : Int32)))]) [4, 5, 6, 7, 8, 9, 0] rfl ?_
              exact ih x0 x1 x2 x3 x4 x5 (x6 + (1 : Int32)) dy Tx0 E
            · refine ww_iload C dX8_freeSteps_124 0 rfl ?_
              refine ww_iload C dX8_freeSteps_126 7 rfl ?_
              refine ww_icmp_ge (tgt := 141) C dX8_freeSteps_128 (by decide) E (fun _ E => ?_) (fun _ E => ?_)
              · refine ww_iinc (v := (x6 + (1 : Int32))) (lv' := [(6, .int (x6 + (1 : Int32))), (9, .int ((((gi dy (gr S x0 9) (x5 + x6).toNatClampNeg) - (gi dy (gr S x0 9) x1.toNatClampNeg)) * x2) + (((gi dy (gr S x0 10) (x5 + x6).toNatClampNeg) - (gi dy (gr S x0 10) x1.toNatClampNeg)) * x3))), (8, .int ((gi dy (gr S x0 10) (x5 + x6).toNatClampNeg) - (gi dy (gr S x0 10) x1.toNatClampNeg))), (7, .int ((gi dy (gr S x0 9) (x5 + x6).toNatClampNeg) - (gi dy (gr S x0 9) x1.toNatClampNeg))), (0, .ref (ad x0)), (1, .int x1), (2, .int x2), (3, .int x3), (4, .int x4), (5, .int x5)]) C dX8_freeSteps_141 9 rfl rfl (by decide) rfl ?_
                refine ww_goto (tgt := 24) C dX8_freeSteps_144 (by decide) ?_
                refine ww_sub (lv' := [(0, .ref (ad x0)), (1, .int x1), (2, .int x2), (3, .int x3), (4, .int x4), (5, .int x5), (6, .int (x6 + (1 : Int32)))]) [4, 5, 6, 7, 8, 9, 0] rfl ?_
                exact ih x0 x1 x2 x3 x4 x5 (x6 + (1 : Int32)) dy Tx0 E
              · refine ww_iload C dX8_freeSteps_131 0 rfl ?_
                refine ww_istore (lv' := [(4, .int ((((gi dy (gr S x0 9) (x5 + x6).toNatClampNeg) - (gi dy (gr S x0 9) x1.toNatClampNeg)) * x2) + (((gi dy (gr S x0 10) (x5 + x6).toNatClampNeg) - (gi dy (gr S x0 10) x1.toNatClampNeg)) * x3))), (9, .int ((((gi dy (gr S x0 9) (x5 + x6).toNatClampNeg) - (gi dy (gr S x0 9) x1.toNatClampNeg)) * x2) + (((gi dy (gr S x0 10) (x5 + x6).toNatClampNeg) - (gi dy (gr S x0 10) x1.toNatClampNeg)) * x3))), (8, .int ((gi dy (gr S x0 10) (x5 + x6).toNatClampNeg) - (gi dy (gr S x0 10) x1.toNatClampNeg))), (7, .int ((gi dy (gr S x0 9) (x5 + x6).toNatClampNeg) - (gi dy (gr S x0 9) x1.toNatClampNeg))), (0, .ref (ad x0)), (1, .int x1), (2, .int x2), (3, .int x3), (5, .int x5), (6, .int x6)]) C dX8_freeSteps_133 (by decide) rfl ?_
                refine ww_aload_n C dX8_freeSteps_135 rfl 4 rfl ?_
                refine ww_iload C dX8_freeSteps_136 9 rfl ?_
                refine ww_puti (ci := 8) (k0 := 8) C dX8_freeSteps_138 rfl rfl inm8 tyX8_ok nmX8 (by decide) Tx0 q276 rfl rfl rfl ?_
                refine ww_bd E (fun dy7 E => ?_)
                refine ww_iinc (v := (x6 + (1 : Int32))) (lv' := [(6, .int (x6 + (1 : Int32))), (4, .int ((((gi dy (gr S x0 9) (x5 + x6).toNatClampNeg) - (gi dy (gr S x0 9) x1.toNatClampNeg)) * x2) + (((gi dy (gr S x0 10) (x5 + x6).toNatClampNeg) - (gi dy (gr S x0 10) x1.toNatClampNeg)) * x3))), (9, .int ((((gi dy (gr S x0 9) (x5 + x6).toNatClampNeg) - (gi dy (gr S x0 9) x1.toNatClampNeg)) * x2) + (((gi dy (gr S x0 10) (x5 + x6).toNatClampNeg) - (gi dy (gr S x0 10) x1.toNatClampNeg)) * x3))), (8, .int ((gi dy (gr S x0 10) (x5 + x6).toNatClampNeg) - (gi dy (gr S x0 10) x1.toNatClampNeg))), (7, .int ((gi dy (gr S x0 9) (x5 + x6).toNatClampNeg) - (gi dy (gr S x0 9) x1.toNatClampNeg))), (0, .ref (ad x0)), (1, .int x1), (2, .int x2), (3, .int x3), (5, .int x5)]) C dX8_freeSteps_141 9 rfl rfl (by decide) rfl ?_
                refine ww_goto (tgt := 24) C dX8_freeSteps_144 (by decide) ?_
                refine ww_sub (lv' := [(0, .ref (ad x0)), (1, .int x1), (2, .int x2), (3, .int x3), (4, .int ((((gi dy (gr S x0 9) (x5 + x6).toNatClampNeg) - (gi dy (gr S x0 9) x1.toNatClampNeg)) * x2) + (((gi dy (gr S x0 10) (x5 + x6).toNatClampNeg) - (gi dy (gr S x0 10) x1.toNatClampNeg)) * x3))), (5, .int x5), (6, .int (x6 + (1 : Int32)))]) [5, 6, 7, 8, 1, 9, 0] rfl ?_
                exact ih x0 x1 x2 x3 ((((gi dy (gr S x0 9) (x5 + x6).toNatClampNeg) - (gi dy (gr S x0 9) x1.toNatClampNeg)) * x2) + (((gi dy (gr S x0 10) (x5 + x6).toNatClampNeg) - (gi dy (gr S x0 10) x1.toNatClampNeg)) * x3)) x5 (x6 + (1 : Int32)) dy7 Tx0 E
        · refine ww_goto (tgt := 141) C dX8_freeSteps_56 (by decide) ?_
          refine ww_iinc (v := (x6 + (1 : Int32))) (lv' := [(6, .int (x6 + (1 : Int32))), (0, .ref (ad x0)), (1, .int x1), (2, .int x2), (3, .int x3), (4, .int x4), (5, .int x5)]) C dX8_freeSteps_141 6 rfl rfl (by decide) rfl ?_
          refine ww_goto (tgt := 24) C dX8_freeSteps_144 (by decide) ?_
          refine ww_sub (lv' := [(0, .ref (ad x0)), (1, .int x1), (2, .int x2), (3, .int x3), (4, .int x4), (5, .int x5), (6, .int (x6 + (1 : Int32)))]) [1, 2, 3, 4, 5, 6, 0] rfl ?_
          exact ih x0 x1 x2 x3 x4 x5 (x6 + (1 : Int32)) dy Tx0 E
end P_X8_freeSteps
set_option maxHeartbeats 4000000 in
set_option maxRecDepth 100000 in
theorem M_X8_freeSteps (l : Launch) (G : GG) (ad : Nat → Nat) {S : ST} (N : Nat) (hG : Good S) (a0 : Nat) (a1 : Int32) (a2 : Int32) (a3 : Int32) (dy : DY) (T0 : gs S a0 = (0, 8)) {r : Int32} {dy' : DY} (E : F_X8_freeSteps S N a0 a1 a2 a3 dy = some (r, dy')) : MC l yX8_freeSteps cX8_freeSteps 10 (Option.some Jvm.ClassFile.FieldType.int) (2) G ad [.ref (ad a0), .int a1, .int a2, .int a3] S dy (fun A => QI G ad A S r dy') := by
  rw [F_X8_freeSteps_s] at E
  refine mc_of RX8 (by decide) rfl (Nat.le_of_ble_eq_true rfl) (fun p e s m args below meth c A C HR HL => ?_)
  refine ww_sub (lv' := [(0, .ref (ad a0)), (1, .int a1), (2, .int a2), (3, .int a3)]) [0, 1, 2, 3] rfl ?_
  refine ww_aload_n C dX8_freeSteps_0 rfl 0 rfl ?_
  refine ww_iload_n C dX8_freeSteps_1 rfl 1 rfl ?_
  refine ww_iload_n C dX8_freeSteps_2 rfl 2 rfl ?_
  refine ww_iload_n C dX8_freeSteps_3 rfl 3 rfl ?_
  obtain ⟨u1, e_2, E⟩ := bind_of E
  refine ww_callI C (runs_V (n := 3) (st := []) C [.int a1, .int a2, .int a3] (M_X8_stepsToWall l G ad N hG a0 a1 a2 a3 dy T0 e_2) ⟨q939, q112, by decide⟩ q936 q938 q16 (ci := 8) rfl T0 rfl (Nat.le_of_ble_eq_true rfl) ⟨Nat.le_of_ble_eq_true rfl, Nat.le_of_ble_eq_true rfl⟩ ⟨Nat.zero_le _, Nat.zero_le _⟩ dX8_freeSteps_4 rfl) ?_
  refine ww_istore (lv' := [(4, .int u1.1), (0, .ref (ad a0)), (1, .int a1), (2, .int a2), (3, .int a3)]) C dX8_freeSteps_7 (by decide) rfl ?_
  refine ww_aload_n C dX8_freeSteps_9 rfl 1 rfl ?_
  refine ww_iload_n C dX8_freeSteps_10 rfl 2 rfl ?_
  obtain ⟨u3, e_4, E⟩ := bind_of E
  refine ww_callI C (runs_V (n := 1) (st := []) C [.int a1] (M_X8_pastOf l G ad N hG a0 a1 u1.2 T0 e_4) ⟨q943, q112, by decide⟩ q940 q942 q17 (ci := 8) rfl T0 rfl (Nat.le_of_ble_eq_true rfl) ⟨Nat.le_of_ble_eq_true rfl, Nat.le_of_ble_eq_true rfl⟩ ⟨Nat.zero_le _, Nat.zero_le _⟩ dX8_freeSteps_11 rfl) ?_
  refine ww_istore (lv' := [(5, .int u3.1), (4, .int u1.1), (0, .ref (ad a0)), (1, .int a1), (2, .int a2), (3, .int a3)]) C dX8_freeSteps_14 (by decide) rfl ?_
  refine ww_aload_n C dX8_freeSteps_16 rfl 2 rfl ?_
  refine ww_iconst (v := (-1)) C dX8_freeSteps_17 (by decide) ?_
  refine ww_puti (ci := 8) (k0 := 8) C dX8_freeSteps_18 rfl rfl inm8 tyX8_ok nmX8 (by decide) T0 q276 rfl rfl rfl ?_
  refine ww_bd E (fun dy5 E => ?_)
  refine ww_iconst (v := 0) C dX8_freeSteps_21 (by decide) ?_
  refine ww_istore (lv' := [(6, .int (0 : Int32)), (5, .int u3.1), (4, .int u1.1), (0, .ref (ad a0)), (1, .int a1), (2, .int a2), (3, .int a3)]) C dX8_freeSteps_22 (by decide) rfl ?_
  refine ww_sub (lv' := [(0, .ref (ad a0)), (1, .int a1), (2, .int a2), (3, .int a3), (4, .int u1.1), (5, .int u3.1), (6, .int (0 : Int32))]) [3, 4, 5, 6, 2, 1, 0] rfl ?_
  exact (B_X8_freeSteps_24 C HR HL hG N) a0 a1 a2 a3 u1.1 u3.1 (0 : Int32) dy5 T0 E
section P_X8_lookAround
variable {p : Program} {l : Launch} {e : Env} {s : State} {m : MethodId} {args : Array Value} {below : List Frame} {meth : Method} {c : Code} {G : GG} {A : Nat → Prop} {ad : Nat → Nat} {S : ST} {N : Nat} {dy' : DY}
set_option maxHeartbeats 4000000 in
set_option maxRecDepth 100000 in
theorem B_X8_lookAround_32 (C : CX p s m args c cX8_lookAround 5 RX8 G A) (HR : meth.sig.returnType = (Option.none : Option Jvm.ClassFile.FieldType)) (HL : meth.locks = false) (hG : Good S) : ∀ k : Nat, ∀ (x0 : Nat) (x1 : Int32) (x2 : Int32) (x3 : Int32) (dy : DY), gs S x0 = (0, 8) → (F_X8_lookAround_32 S N k) x0 x1 x2 x3 dy = some dy' → WJ p l e (rmD (2)) s m args below meth c 5 G A 0 0 (MQ below (QV G ad A S dy') args s 0 0 A) ad 32 [(0, .ref (ad x0)), (1, .int x1), (2, .int x2), (3, .int x3)] [] S dy := by
  intro k
  induction k with
  | zero => exact fun _ _ _ _ _ _ E => nomatch (show none = some dy' from E)
  | succ k ih =>
    intro x0 x1 x2 x3 dy Tx0 E
    rw [F_X8_lookAround_32_s] at E
    refine ww_iload_n C dX8_lookAround_32 rfl 3 rfl ?_
    refine ww_aload_n C dX8_lookAround_33 rfl 0 rfl ?_
    have T_1 : gs S (gr S x0 0) = (0, 4) := hG.1 _ 8 Tx0 0 (by decide)
    refine ww_getr (ci := 8) (k0 := 0) C dX8_lookAround_34 rfl rfl inm8 (by decide) Tx0 q261 rfl T_1 (by decide) ?_
    refine ww_geti (ci := 4) (k0 := 3) C dX8_lookAround_37 rfl rfl inm4 (by decide) T_1 q162 rfl ?_
    refine ww_icmp_ge (tgt := 166) C dX8_lookAround_40 (by decide) E (fun _ E => ?_) (fun _ E => ?_)
    · exact ww_vret C HR HL dX8_lookAround_166 E
    · refine ww_iload_n C dX8_lookAround_43 rfl 3 rfl ?_
      refine ww_iload_n C dX8_lookAround_44 rfl 1 rfl ?_
      refine ww_icmp_eq (tgt := 160) C dX8_lookAround_45 (by decide) E (fun _ E => ?_) (fun _ E => ?_)
      · refine ww_iinc (v := (x3 + (1 : Int32))) (lv' := [(3, .int (x3 + (1 : Int32))), (0, .ref (ad x0)), (1, .int x1), (2, .int x2)]) C dX8_lookAround_160 3 rfl rfl (by decide) rfl ?_
        refine ww_goto (tgt := 32) C dX8_lookAround_163 (by decide) ?_
        refine ww_sub (lv' := [(0, .ref (ad x0)), (1, .int x1), (2, .int x2), (3, .int (x3 + (1 : Int32)))]) [1, 2, 3, 0] rfl ?_
        exact ih x0 x1 x2 (x3 + (1 : Int32)) dy Tx0 E
      · refine ww_aload_n C dX8_lookAround_48 rfl 0 rfl ?_
        have T_2 : gs S (gr S x0 9) = (1, 48) := hG.1 _ 8 Tx0 9 (by decide)
        refine ww_getr (ci := 8) (k0 := 9) C dX8_lookAround_49 rfl rfl inm8 (by decide) Tx0 q277 rfl T_2 (by decide) ?_
        refine ww_iload_n C dX8_lookAround_52 rfl 2 rfl ?_
        refine ww_iload_n C dX8_lookAround_53 rfl 3 rfl ?_
        refine ww_iadd C dX8_lookAround_54 ?_
        refine ww_iald C dX8_lookAround_55 T_2 E (fun _ E => ?_)
        refine ww_iconst (v := (-1)) C dX8_lookAround_56 (by decide) ?_
        refine ww_icmp_ne (tgt := 63) C dX8_lookAround_57 (by decide) E (fun _ E => ?_) (fun _ E => ?_)
        · refine ww_aload_n C dX8_lookAround_63 rfl 0 rfl ?_
          have T_3 : gs S (gr S x0 9) = (1, 48) := hG.1 _ 8 Tx0 9 (by decide)
          refine ww_getr (ci := 8) (k0 := 9) C dX8_lookAround_64 rfl rfl inm8 (by decide) Tx0 q277 rfl T_3 (by decide) ?_
          refine ww_iload_n C dX8_lookAround_67 rfl 2 rfl ?_
          refine ww_iload_n C dX8_lookAround_68 rfl 3 rfl ?_
          refine ww_iadd C dX8_lookAround_69 ?_
          refine ww_iald C dX8_lookAround_70 T_3 E (fun _ E => ?_)
          refine ww_aload_n C dX8_lookAround_71 rfl 0 rfl ?_
          have T_4 : gs S (gr S x0 9) = (1, 48) := hG.1 _ 8 Tx0 9 (by decide)
          refine ww_getr (ci := 8) (k0 := 9) C dX8_lookAround_72 rfl rfl inm8 (by decide) Tx0 q277 rfl T_4 (by decide) ?_
          refine ww_iload_n C dX8_lookAround_75 rfl 1 rfl ?_
          refine ww_iald C dX8_lookAround_76 T_4 E (fun _ E => ?_)
          refine ww_isub C dX8_lookAround_77 ?_
          refine ww_mabs C dX8_lookAround_78 q952 q953 q119 q954 (Nat.le_of_ble_eq_true rfl) (Nat.le_of_ble_eq_true rfl) (Nat.le_of_ble_eq_true rfl) (Nat.zero_le _) (Nat.zero_le _) ?_
          refine ww_aload_n C dX8_lookAround_81 rfl 0 rfl ?_
          have T_5 : gs S (gr S x0 10) = (1, 48) := hG.1 _ 8 Tx0 10 (by decide)
          refine ww_getr (ci := 8) (k0 := 10) C dX8_lookAround_82 rfl rfl inm8 (by decide) Tx0 q280 rfl T_5 (by decide) ?_
          refine ww_iload_n C dX8_lookAround_85 rfl 2 rfl ?_
          refine ww_iload_n C dX8_lookAround_86 rfl 3 rfl ?_
          refine ww_iadd C dX8_lookAround_87 ?_
          refine ww_iald C dX8_lookAround_88 T_5 E (fun _ E => ?_)
          refine ww_aload_n C dX8_lookAround_89 rfl 0 rfl ?_
          have T_6 : gs S (gr S x0 10) = (1, 48) := hG.1 _ 8 Tx0 10 (by decide)
          refine ww_getr (ci := 8) (k0 := 10) C dX8_lookAround_90 rfl rfl inm8 (by decide) Tx0 q280 rfl T_6 (by decide) ?_
          refine ww_iload_n C dX8_lookAround_93 rfl 1 rfl ?_
          refine ww_iald C dX8_lookAround_94 T_6 E (fun _ E => ?_)
          refine ww_isub C dX8_lookAround_95 ?_
          refine ww_mabs C dX8_lookAround_96 q952 q953 q119 q954 (Nat.le_of_ble_eq_true rfl) (Nat.le_of_ble_eq_true rfl) (Nat.le_of_ble_eq_true rfl) (Nat.zero_le _) (Nat.zero_le _) ?_
          refine ww_iadd C dX8_lookAround_99 ?_
          refine ww_istore (lv' := [(4, .int ((if 0 ≤ ((gi dy (gr S x0 9) (x2 + x3).toNatClampNeg) - (gi dy (gr S x0 9) x1.toNatClampNeg)) then ((gi dy (gr S x0 9) (x2 + x3).toNatClampNeg) - (gi dy (gr S x0 9) x1.toNatClampNeg)) else 0 - ((gi dy (gr S x0 9) (x2 + x3).toNatClampNeg) - (gi dy (gr S x0 9) x1.toNatClampNeg))) + (if 0 ≤ ((gi dy (gr S x0 10) (x2 + x3).toNatClampNeg) - (gi dy (gr S x0 10) x1.toNatClampNeg)) then ((gi dy (gr S x0 10) (x2 + x3).toNatClampNeg) - (gi dy (gr S x0 10) x1.toNatClampNeg)) else 0 - ((gi dy (gr S x0 10) (x2 + x3).toNatClampNeg) - (gi dy (gr S x0 10) x1.toNatClampNeg))))), (0, .ref (ad x0)), (1, .int x1), (2, .int x2), (3, .int x3)]) C dX8_lookAround_100 (by decide) rfl ?_
          refine ww_aload_n C dX8_lookAround_102 rfl 1 rfl ?_
          have T_7 : gs S (gr S x0 18) = (1, 11) := hG.1 _ 8 Tx0 18 (by decide)
          refine ww_getr (ci := 8) (k0 := 18) C dX8_lookAround_103 rfl rfl inm8 (by decide) Tx0 q297 rfl T_7 (by decide) ?_
          refine ww_iconst (v := 2) C dX8_lookAround_106 (by decide) ?_
          refine ww_aload_n C dX8_lookAround_107 rfl 1 rfl ?_
          have T_8 : gs S (gr S x0 18) = (1, 11) := hG.1 _ 8 Tx0 18 (by decide)
          refine ww_getr (ci := 8) (k0 := 18) C dX8_lookAround_108 rfl rfl inm8 (by decide) Tx0 q297 rfl T_8 (by decide) ?_
          refine ww_iconst (v := 2) C dX8_lookAround_111 (by decide) ?_
          refine ww_iald C dX8_lookAround_112 T_8 E (fun _ E => ?_)
          refine ww_iload C dX8_lookAround_113 0 rfl ?_
          refine ww_mmin C dX8_lookAround_115 q944 q587 q119 q588 (Nat.le_of_ble_eq_true rfl) (Nat.le_of_ble_eq_true rfl) (Nat.le_of_ble_eq_true rfl) (Nat.zero_le _) (Nat.zero_le _) ?_
          refine ww_iast C dX8_lookAround_118 T_7 E (fun _ E => ?_)
          refine ww_bd E (fun dy9 E => ?_)
          refine ww_iload C dX8_lookAround_119 0 rfl ?_
          refine ww_iconst (v := 2) C dX8_lookAround_121 (by decide) ?_
          refine ww_icmp_gt (tgt := 139) C dX8_lookAround_122 (by decide) E (fun _ E => ?_) (fun _ E => ?_)
          · refine ww_iload_n C dX8_lookAround_139 rfl 4 rfl ?_
            refine ww_aload_n C dX8_lookAround_140 rfl 1 rfl ?_
            have T_10 : gs S (gr S x0 0) = (0, 4) := hG.1 _ 8 Tx0 0 (by decide)
            refine ww_getr (ci := 8) (k0 := 0) C dX8_lookAround_141 rfl rfl inm8 (by decide) Tx0 q261 rfl T_10 (by decide) ?_
            have T_11 : gs S (gr S (gr S x0 0) 12) = (1, 12) := hG.1 _ 4 T_10 12 (by decide)
            refine ww_getr (ci := 4) (k0 := 12) C dX8_lookAround_144 rfl rfl inm4 (by decide) T_10 q195 rfl T_11 (by decide) ?_
            refine ww_iload_n C dX8_lookAround_147 rfl 2 rfl ?_
            refine ww_iald C dX8_lookAround_148 T_11 E (fun _ E => ?_)
            refine ww_icmp_ne (tgt := 160) C dX8_lookAround_149 (by decide) E (fun _ E => ?_) (fun _ E => ?_)
            · refine ww_iinc (v := (x3 + (1 : Int32))) (lv' := [(3, .int (x3 + (1 : Int32))), (4, .int ((if 0 ≤ ((gi dy (gr S x0 9) (x2 + x3).toNatClampNeg) - (gi dy (gr S x0 9) x1.toNatClampNeg)) then ((gi dy (gr S x0 9) (x2 + x3).toNatClampNeg) - (gi dy (gr S x0 9) x1.toNatClampNeg)) else 0 - ((gi dy (gr S x0 9) (x2 + x3).toNatClampNeg) - (gi dy (gr S x0 9) x1.toNatClampNeg))) + (if 0 ≤ ((gi dy (gr S x0 10) (x2 + x3).toNatClampNeg) - (gi dy (gr S x0 10) x1.toNatClampNeg)) then ((gi dy (gr S x0 10) (x2 + x3).toNatClampNeg) - (gi dy (gr S x0 10) x1.toNatClampNeg)) else 0 - ((gi dy (gr S x0 10) (x2 + x3).toNatClampNeg) - (gi dy (gr S x0 10) x1.toNatClampNeg))))), (0, .ref (ad x0)), (1, .int x1), (2, .int x2)]) C dX8_lookAround_160 4 rfl rfl (by decide) rfl ?_
              refine ww_goto (tgt := 32) C dX8_lookAround_163 (by decide) ?_
              refine ww_sub (lv' := [(0, .ref (ad x0)), (1, .int x1), (2, .int x2), (3, .int (x3 + (1 : Int32)))]) [2, 3, 4, 0] rfl ?_
              exact ih x0 x1 x2 (x3 + (1 : Int32)) dy9 Tx0 E
            · refine ww_aload_n C dX8_lookAround_152 rfl 1 rfl ?_
              have T_12 : gs S (gr S x0 18) = (1, 11) := hG.1 _ 8 Tx0 18 (by decide)
              refine ww_getr (ci := 8) (k0 := 18) C dX8_lookAround_153 rfl rfl inm8 (by decide) Tx0 q297 rfl T_12 (by decide) ?_
              refine ww_bipush (v := 10) C dX8_lookAround_156 (by decide) ?_
              refine ww_iconst (v := 1) C dX8_lookAround_158 (by decide) ?_
              refine ww_iast C dX8_lookAround_159 T_12 E (fun _ E => ?_)
              refine ww_bd E (fun dy13 E => ?_)
              refine ww_iinc (v := (x3 + (1 : Int32))) (lv' := [(3, .int (x3 + (1 : Int32))), (4, .int ((if 0 ≤ ((gi dy (gr S x0 9) (x2 + x3).toNatClampNeg) - (gi dy (gr S x0 9) x1.toNatClampNeg)) then ((gi dy (gr S x0 9) (x2 + x3).toNatClampNeg) - (gi dy (gr S x0 9) x1.toNatClampNeg)) else 0 - ((gi dy (gr S x0 9) (x2 + x3).toNatClampNeg) - (gi dy (gr S x0 9) x1.toNatClampNeg))) + (if 0 ≤ ((gi dy (gr S x0 10) (x2 + x3).toNatClampNeg) - (gi dy (gr S x0 10) x1.toNatClampNeg)) then ((gi dy (gr S x0 10) (x2 + x3).toNatClampNeg) - (gi dy (gr S x0 10) x1.toNatClampNeg)) else 0 - ((gi dy (gr S x0 10) (x2 + x3).toNatClampNeg) - (gi dy (gr S x0 10) x1.toNatClampNeg))))), (0, .ref (ad x0)), (1, .int x1), (2, .int x2)]) C dX8_lookAround_160 4 rfl rfl (by decide) rfl ?_
              refine ww_goto (tgt := 32) C dX8_lookAround_163 (by decide) ?_
              refine ww_sub (lv' := [(0, .ref (ad x0)), (1, .int x1), (2, .int x2), (3, .int (x3 + (1 : Int32)))]) [2, 3, 4, 0] rfl ?_
              exact ih x0 x1 x2 (x3 + (1 : Int32)) dy13 Tx0 E
          · refine ww_aload_n C dX8_lookAround_125 rfl 1 rfl ?_
            have T_14 : gs S (gr S x0 18) = (1, 11) := hG.1 _ 8 Tx0 18 (by decide)
            refine ww_getr (ci := 8) (k0 := 18) C dX8_lookAround_126 rfl rfl inm8 (by decide) Tx0 q297 rfl T_14 (by decide) ?_
            refine ww_bipush (v := 7) C dX8_lookAround_129 (by decide) ?_
            refine ww_dup2 C dX8_lookAround_131 rfl rfl ?_
            refine ww_iald C dX8_lookAround_132 T_14 E (fun _ E => ?_)
            refine ww_iconst (v := 1) C dX8_lookAround_133 (by decide) ?_
            refine ww_iadd C dX8_lookAround_134 ?_
            refine ww_iast C dX8_lookAround_135 T_14 E (fun _ E => ?_)
            refine ww_bd E (fun dy15 E => ?_)
            refine ww_goto (tgt := 160) C dX8_lookAround_136 (by decide) ?_
            refine ww_iinc (v := (x3 + (1 : Int32))) (lv' := [(3, .int (x3 + (1 : Int32))), (4, .int ((if 0 ≤ ((gi dy (gr S x0 9) (x2 + x3).toNatClampNeg) - (gi dy (gr S x0 9) x1.toNatClampNeg)) then ((gi dy (gr S x0 9) (x2 + x3).toNatClampNeg) - (gi dy (gr S x0 9) x1.toNatClampNeg)) else 0 - ((gi dy (gr S x0 9) (x2 + x3).toNatClampNeg) - (gi dy (gr S x0 9) x1.toNatClampNeg))) + (if 0 ≤ ((gi dy (gr S x0 10) (x2 + x3).toNatClampNeg) - (gi dy (gr S x0 10) x1.toNatClampNeg)) then ((gi dy (gr S x0 10) (x2 + x3).toNatClampNeg) - (gi dy (gr S x0 10) x1.toNatClampNeg)) else 0 - ((gi dy (gr S x0 10) (x2 + x3).toNatClampNeg) - (gi dy (gr S x0 10) x1.toNatClampNeg))))), (0, .ref (ad x0)), (1, .int x1), (2, .int x2)]) C dX8_lookAround_160 4 rfl rfl (by decide) rfl ?_
            refine ww_goto (tgt := 32) C dX8_lookAround_163 (by decide) ?_
            refine ww_sub (lv' := [(0, .ref (ad x0)), (1, .int x1), (2, .int x2), (3, .int (x3 + (1 : Int32)))]) [2, 3, 4, 0] rfl ?_
            exact ih x0 x1 x2 (x3 + (1 : Int32)) dy15 Tx0 E
        · refine ww_goto (tgt := 160) C dX8_lookAround_60 (by decide) ?_
          refine ww_iinc (v := (x3 + (1 : Int32))) (lv' := [(3, .int (x3 + (1 : Int32))), (0, .ref (ad x0)), (1, .int x1), (2, .int x2)]) C dX8_lookAround_160 3 rfl rfl (by decide) rfl ?_
          refine ww_goto (tgt := 32) C dX8_lookAround_163 (by decide) ?_
          refine ww_sub (lv' := [(0, .ref (ad x0)), (1, .int x1), (2, .int x2), (3, .int (x3 + (1 : Int32)))]) [1, 2, 3, 0] rfl ?_
          exact ih x0 x1 x2 (x3 + (1 : Int32)) dy Tx0 E
end P_X8_lookAround
set_option maxHeartbeats 4000000 in
set_option maxRecDepth 100000 in
theorem M_X8_lookAround (l : Launch) (G : GG) (ad : Nat → Nat) {S : ST} (N : Nat) (hG : Good S) (a0 : Nat) (a1 : Int32) (dy : DY) (T0 : gs S a0 = (0, 8)) {dy' : DY} (E : F_X8_lookAround S N a0 a1 dy = some dy') : MC l yX8_lookAround cX8_lookAround 5 (Option.none : Option Jvm.ClassFile.FieldType) (2) G ad [.ref (ad a0), .int a1] S dy (fun A => QV G ad A S dy') := by
  rw [F_X8_lookAround_s] at E
  refine mc_of RX8 (by decide) rfl (Nat.le_of_ble_eq_true rfl) (fun p e s m args below meth c A C HR HL => ?_)
  refine ww_sub (lv' := [(0, .ref (ad a0)), (1, .int a1)]) [0, 1] rfl ?_
  refine ww_aload_n C dX8_lookAround_0 rfl 0 rfl ?_
  refine ww_iload_n C dX8_lookAround_1 rfl 1 rfl ?_
  obtain ⟨u1, e_2, E⟩ := bind_of E
  refine ww_callI C (runs_V (n := 1) (st := []) C [.int a1] (M_X8_pastOf l G ad N hG a0 a1 dy T0 e_2) ⟨q943, q112, by decide⟩ q940 q942 q17 (ci := 8) rfl T0 rfl (Nat.le_of_ble_eq_true rfl) ⟨Nat.le_of_ble_eq_true rfl, Nat.le_of_ble_eq_true rfl⟩ ⟨Nat.zero_le _, Nat.zero_le _⟩ dX8_lookAround_2 rfl) ?_
  refine ww_istore_n (lv' := [(2, .int u1.1), (0, .ref (ad a0)), (1, .int a1)]) C dX8_lookAround_5 rfl (by decide) rfl ?_
  refine ww_aload_n C dX8_lookAround_6 rfl 1 rfl ?_
  have T_3 : gs S (gr S a0 18) = (1, 11) := hG.1 _ 8 T0 18 (by decide)
  refine ww_getr (ci := 8) (k0 := 18) C dX8_lookAround_7 rfl rfl inm8 (by decide) T0 q297 rfl T_3 (by decide) ?_
  refine ww_iconst (v := 2) C dX8_lookAround_10 (by decide) ?_
  refine ww_bipush (v := 99) C dX8_lookAround_11 (by decide) ?_
  refine ww_iast C dX8_lookAround_13 T_3 E (fun _ E => ?_)
  refine ww_bd E (fun dy4 E => ?_)
  refine ww_aload_n C dX8_lookAround_14 rfl 1 rfl ?_
  have T_5 : gs S (gr S a0 18) = (1, 11) := hG.1 _ 8 T0 18 (by decide)
  refine ww_getr (ci := 8) (k0 := 18) C dX8_lookAround_15 rfl rfl inm8 (by decide) T0 q297 rfl T_5 (by decide) ?_
  refine ww_bipush (v := 7) C dX8_lookAround_18 (by decide) ?_
  refine ww_iconst (v := 0) C dX8_lookAround_20 (by decide) ?_
  refine ww_iast C dX8_lookAround_21 T_5 E (fun _ E => ?_)
  refine ww_bd E (fun dy6 E => ?_)
  refine ww_aload_n C dX8_lookAround_22 rfl 1 rfl ?_
  have T_7 : gs S (gr S a0 18) = (1, 11) := hG.1 _ 8 T0 18 (by decide)
  refine ww_getr (ci := 8) (k0 := 18) C dX8_lookAround_23 rfl rfl inm8 (by decide) T0 q297 rfl T_7 (by decide) ?_
  refine ww_bipush (v := 10) C dX8_lookAround_26 (by decide) ?_
  refine ww_iconst (v := 0) C dX8_lookAround_28 (by decide) ?_
  refine ww_iast C dX8_lookAround_29 T_7 E (fun _ E => ?_)
  refine ww_bd E (fun dy8 E => ?_)
  refine ww_iconst (v := 0) C dX8_lookAround_30 (by decide) ?_
  refine ww_istore_n (lv' := [(3, .int (0 : Int32)), (2, .int u1.1), (0, .ref (ad a0)), (1, .int a1)]) C dX8_lookAround_31 rfl (by decide) rfl ?_
  refine ww_sub (lv' := [(0, .ref (ad a0)), (1, .int a1), (2, .int u1.1), (3, .int (0 : Int32))]) [2, 3, 1, 0] rfl ?_
  exact (B_X8_lookAround_32 C HR HL hG N) a0 a1 u1.1 (0 : Int32) dy8 T0 E
section P_X8_soon
variable {p : Program} {l : Launch} {e : Env} {s : State} {m : MethodId} {args : Array Value} {below : List Frame} {meth : Method} {c : Code} {G : GG} {A : Nat → Prop} {ad : Nat → Nat} {S : ST} {N : Nat} {r : Int32} {dy' : DY}
set_option maxHeartbeats 4000000 in
set_option maxRecDepth 100000 in
theorem B_X8_soon_13 (C : CX p s m args c cX8_soon 5 RX8 G A) (HR : meth.sig.returnType = (Option.some Jvm.ClassFile.FieldType.int)) (HL : meth.locks = false) (hG : Good S) : ∀ (x0 : Int32) (x1 : Int32) (x2 : Int32) (y0 : Int32) (dy : DY), F_X8_soon_13 S N x0 x1 x2 y0 dy = some (r, dy') → WJ p l e (rmD (1)) s m args below meth c 5 G A 0 0 (MQ below (QI G ad A S r dy') args s 0 0 A) ad 13 [(0, .int x0), (1, .int x1), (2, .int x2)] [.int y0] S dy := by
  intro x0 x1 x2 y0 dy E
  rw [F_X8_soon_13_s] at E
  refine ww_istore (lv' := [(4, .int y0), (0, .int x0), (1, .int x1), (2, .int x2)]) C dX8_soon_13 (by decide) rfl ?_
  refine ww_iload C dX8_soon_15 0 rfl ?_
  refine ww_if_le (tgt := 36) C dX8_soon_17 (by decide) E (fun _ E => ?_) (fun _ E => ?_)
  · refine ww_bipush (v := 99) C dX8_soon_36 (by decide) ?_
    exact ww_iret C HR HL dX8_soon_38 E
  · refine ww_bipush (v := 99) C dX8_soon_20 (by decide) ?_
    refine ww_iload_n C dX8_soon_22 rfl 1 rfl ?_
    refine ww_iload_n C dX8_soon_23 rfl 2 rfl ?_
    refine ww_imul C dX8_soon_24 ?_
    refine ww_iload_n C dX8_soon_25 rfl 3 rfl ?_
    refine ww_imul C dX8_soon_26 ?_
    refine ww_iload C dX8_soon_27 0 rfl ?_
    refine ww_idiv C dX8_soon_29 E (fun _ E => ?_)
    refine ww_mmin C dX8_soon_30 q944 q587 q119 q588 (Nat.le_of_ble_eq_true rfl) (Nat.le_of_ble_eq_true rfl) (Nat.le_of_ble_eq_true rfl) (Nat.zero_le _) (Nat.zero_le _) ?_
    refine ww_goto (tgt := 38) C dX8_soon_33 (by decide) ?_
    exact ww_iret C HR HL dX8_soon_38 E
end P_X8_soon
set_option maxHeartbeats 4000000 in
set_option maxRecDepth 100000 in
theorem M_X8_soon (l : Launch) (G : GG) (ad : Nat → Nat) {S : ST} (N : Nat) (hG : Good S) (a0 : Int32) (a1 : Int32) (a2 : Int32) (a3 : Int32) (dy : DY) {r : Int32} {dy' : DY} (E : F_X8_soon S N a0 a1 a2 a3 dy = some (r, dy')) : MC l yX8_soon cX8_soon 5 (Option.some Jvm.ClassFile.FieldType.int) (1) G ad [.int a0, .int a1, .int a2, .int a3] S dy (fun A => QI G ad A S r dy') := by
  rw [F_X8_soon_s] at E
  refine mc_of RX8 (by decide) rfl (Nat.le_of_ble_eq_true rfl) (fun p e s m args below meth c A C HR HL => ?_)
  refine ww_sub (lv' := [(0, .int a0), (1, .int a1), (2, .int a2), (3, .int a3)]) [0, 1, 2, 3] rfl ?_
  refine ww_iload_n C dX8_soon_0 rfl 3 rfl ?_
  refine ww_if_eq (tgt := 10) C dX8_soon_1 (by decide) E (fun _ E => ?_) (fun _ E => ?_)
  · refine ww_iload_n C dX8_soon_10 rfl 2 rfl ?_
    refine ww_iload_n C dX8_soon_11 rfl 1 rfl ?_
    refine ww_isub C dX8_soon_12 ?_
    refine ww_sub (lv' := [(0, .int a0), (1, .int a1), (2, .int a2)]) [0, 1, 2] rfl ?_
    exact (B_X8_soon_13 C HR HL hG) a0 a1 a2 (a2 - a1) dy E
  · refine ww_iload_n C dX8_soon_4 rfl 1 rfl ?_
    refine ww_iload_n C dX8_soon_5 rfl 2 rfl ?_
    refine ww_iadd C dX8_soon_6 ?_
    refine ww_goto (tgt := 13) C dX8_soon_7 (by decide) ?_
    refine ww_sub (lv' := [(0, .int a0), (1, .int a1), (2, .int a2)]) [0, 1, 2] rfl ?_
    exact (B_X8_soon_13 C HR HL hG) a0 a1 a2 (a1 + a2) dy E
section P_X8_look
variable {p : Program} {l : Launch} {e : Env} {s : State} {m : MethodId} {args : Array Value} {below : List Frame} {meth : Method} {c : Code} {G : GG} {A : Nat → Prop} {ad : Nat → Nat} {S : ST} {N : Nat} {dy' : DY}
set_option maxHeartbeats 4000000 in
set_option maxRecDepth 100000 in
theorem B_X8_look_134 (C : CX p s m args c cX8_look 5 RX8 G A) (HR : meth.sig.returnType = (Option.none : Option Jvm.ClassFile.FieldType)) (HL : meth.locks = false) (hG : Good S) : ∀ (x0 : Nat) (x1 : Int32) (x2 : Int32) (y0 : Nat) (y1 : Int32) (y2 : Int32) (dy : DY), gs S x0 = (0, 8) → gs S y0 = (1, 11) → F_X8_look_134 S N x0 x1 x2 y0 y1 y2 dy = some dy' → WJ p l e (rmD (3)) s m args below meth c 5 G A 0 0 (MQ below (QV G ad A S dy') args s 0 0 A) ad 134 [(0, .ref (ad x0)), (1, .int x1), (2, .int x2)] [.int y2, .int y1, .ref (ad y0)] S dy := by
  intro x0 x1 x2 y0 y1 y2 dy Tx0 Ty0 E
  rw [F_X8_look_134_s] at E
  refine ww_iast C dX8_look_134 Ty0 E (fun _ E => ?_)
  refine ww_bd E (fun dy1 E => ?_)
  refine ww_aload_n C dX8_look_135 rfl 0 rfl ?_
  have T_2 : gs S (gr S x0 18) = (1, 11) := hG.1 _ 8 Tx0 18 (by decide)
  refine ww_getr (ci := 8) (k0 := 18) C dX8_look_136 rfl rfl inm8 (by decide) Tx0 q297 rfl T_2 (by decide) ?_
  refine ww_iconst (v := 3) C dX8_look_139 (by decide) ?_
  refine ww_aload_n C dX8_look_140 rfl 0 rfl ?_
  refine ww_iload_n C dX8_look_141 rfl 1 rfl ?_
  refine ww_iconst (v := 0) C dX8_look_142 (by decide) ?_
  refine ww_iload_n C dX8_look_143 rfl 2 rfl ?_
  obtain ⟨u3, e_4, E⟩ := bind_of E
  refine ww_callI C (runs_V (n := 3) (st := [.int (3 : Int32), .ref (ad (gr S x0 18))]) C [.int x1, .int (0 : Int32), .int x2] (M_X8_freeSteps l G ad N hG x0 x1 (0 : Int32) x2 dy1 Tx0 e_4) ⟨q935, q112, by decide⟩ q932 q934 q15 (ci := 8) rfl Tx0 rfl (Nat.le_of_ble_eq_true rfl) ⟨Nat.le_of_ble_eq_true rfl, Nat.le_of_ble_eq_true rfl⟩ ⟨Nat.zero_le _, Nat.zero_le _⟩ dX8_look_144 rfl) ?_
  refine ww_iast C dX8_look_147 T_2 E (fun _ E => ?_)
  refine ww_bd E (fun dy5 E => ?_)
  refine ww_aload_n C dX8_look_148 rfl 0 rfl ?_
  have T_6 : gs S (gr S x0 18) = (1, 11) := hG.1 _ 8 Tx0 18 (by decide)
  refine ww_getr (ci := 8) (k0 := 18) C dX8_look_149 rfl rfl inm8 (by decide) Tx0 q297 rfl T_6 (by decide) ?_
  refine ww_iconst (v := 4) C dX8_look_152 (by decide) ?_
  refine ww_aload_n C dX8_look_153 rfl 0 rfl ?_
  refine ww_iload_n C dX8_look_154 rfl 1 rfl ?_
  refine ww_iconst (v := 0) C dX8_look_155 (by decide) ?_
  refine ww_iload_n C dX8_look_156 rfl 2 rfl ?_
  refine ww_ineg C dX8_look_157 ?_
  obtain ⟨u7, e_8, E⟩ := bind_of E
  refine ww_callI C (runs_V (n := 3) (st := [.int (4 : Int32), .ref (ad (gr S x0 18))]) C [.int x1, .int (0 : Int32), .int (-x2)] (M_X8_freeSteps l G ad N hG x0 x1 (0 : Int32) (-x2) dy5 Tx0 e_8) ⟨q935, q112, by decide⟩ q932 q934 q15 (ci := 8) rfl Tx0 rfl (Nat.le_of_ble_eq_true rfl) ⟨Nat.le_of_ble_eq_true rfl, Nat.le_of_ble_eq_true rfl⟩ ⟨Nat.zero_le _, Nat.zero_le _⟩ dX8_look_158 rfl) ?_
  refine ww_iast C dX8_look_161 T_6 E (fun _ E => ?_)
  refine ww_bd E (fun dy9 E => ?_)
  refine ww_aload_n C dX8_look_162 rfl 0 rfl ?_
  have T_10 : gs S (gr S x0 18) = (1, 11) := hG.1 _ 8 Tx0 18 (by decide)
  refine ww_getr (ci := 8) (k0 := 18) C dX8_look_163 rfl rfl inm8 (by decide) Tx0 q297 rfl T_10 (by decide) ?_
  refine ww_iconst (v := 5) C dX8_look_166 (by decide) ?_
  refine ww_aload_n C dX8_look_167 rfl 0 rfl ?_
  have T_11 : gs S (gr S x0 15) = (1, 12) := hG.1 _ 8 Tx0 15 (by decide)
  refine ww_getr (ci := 8) (k0 := 15) C dX8_look_168 rfl rfl inm8 (by decide) Tx0 q291 rfl T_11 (by decide) ?_
  refine ww_iload_n C dX8_look_171 rfl 1 rfl ?_
  refine ww_iald C dX8_look_172 T_11 E (fun _ E => ?_)
  refine ww_iast C dX8_look_173 T_10 E (fun _ E => ?_)
  refine ww_bd E (fun dy12 E => ?_)
  refine ww_aload_n C dX8_look_174 rfl 0 rfl ?_
  have T_13 : gs S (gr S x0 18) = (1, 11) := hG.1 _ 8 Tx0 18 (by decide)
  refine ww_getr (ci := 8) (k0 := 18) C dX8_look_175 rfl rfl inm8 (by decide) Tx0 q297 rfl T_13 (by decide) ?_
  refine ww_bipush (v := 6) C dX8_look_178 (by decide) ?_
  refine ww_aload_n C dX8_look_180 rfl 0 rfl ?_
  have T_14 : gs S (gr S x0 0) = (0, 4) := hG.1 _ 8 Tx0 0 (by decide)
  refine ww_getr (ci := 8) (k0 := 0) C dX8_look_181 rfl rfl inm8 (by decide) Tx0 q261 rfl T_14 (by decide) ?_
  have T_15 : gs S (gr S (gr S x0 0) 10) = (1, 12) := hG.1 _ 4 T_14 10 (by decide)
  refine ww_getr (ci := 4) (k0 := 10) C dX8_look_184 rfl rfl inm4 (by decide) T_14 q186 rfl T_15 (by decide) ?_
  refine ww_iload_n C dX8_look_187 rfl 1 rfl ?_
  refine ww_iald C dX8_look_188 T_15 E (fun _ E => ?_)
  refine ww_iast C dX8_look_189 T_13 E (fun _ E => ?_)
  refine ww_bd E (fun dy16 E => ?_)
  refine ww_aload_n C dX8_look_190 rfl 0 rfl ?_
  refine ww_iload_n C dX8_look_191 rfl 1 rfl ?_
  obtain ⟨u17, e_18, E⟩ := bind_of E
  refine ww_callV C (runs_V (n := 1) (st := []) C [.int x1] (M_X8_lookAround l G ad N hG x0 x1 dy16 Tx0 e_18) ⟨q951, q112, by decide⟩ q948 q950 q18 (ci := 8) rfl Tx0 rfl (Nat.le_of_ble_eq_true rfl) ⟨Nat.le_of_ble_eq_true rfl, Nat.le_of_ble_eq_true rfl⟩ ⟨Nat.zero_le _, Nat.zero_le _⟩ dX8_look_192 rfl) ?_
  exact ww_vret C HR HL dX8_look_195 E
set_option maxHeartbeats 4000000 in
set_option maxRecDepth 100000 in
theorem B_X8_look_88 (C : CX p s m args c cX8_look 5 RX8 G A) (HR : meth.sig.returnType = (Option.none : Option Jvm.ClassFile.FieldType)) (HL : meth.locks = false) (hG : Good S) : ∀ (x0 : Nat) (x1 : Int32) (x2 : Int32) (x3 : Int32) (x4 : Int32) (y0 : Nat) (y1 : Int32) (y2 : Int32) (dy : DY), gs S x0 = (0, 8) → gs S y0 = (1, 11) → F_X8_look_88 S N x0 x1 x2 x3 x4 y0 y1 y2 dy = some dy' → WJ p l e (rmD (3)) s m args below meth c 5 G A 0 0 (MQ below (QV G ad A S dy') args s 0 0 A) ad 88 [(0, .ref (ad x0)), (1, .int x1), (2, .int x2), (3, .int x3), (4, .int x4)] [.int y2, .int y1, .ref (ad y0)] S dy := by
  intro x0 x1 x2 x3 x4 y0 y1 y2 dy Tx0 Ty0 E
  rw [F_X8_look_88_s] at E
  refine ww_iast C dX8_look_88 Ty0 E (fun _ E => ?_)
  refine ww_bd E (fun dy1 E => ?_)
  refine ww_aload_n C dX8_look_89 rfl 0 rfl ?_
  have T_2 : gs S (gr S x0 18) = (1, 11) := hG.1 _ 8 Tx0 18 (by decide)
  refine ww_getr (ci := 8) (k0 := 18) C dX8_look_90 rfl rfl inm8 (by decide) Tx0 q297 rfl T_2 (by decide) ?_
  refine ww_iconst (v := 1) C dX8_look_93 (by decide) ?_
  refine ww_aload_n C dX8_look_94 rfl 0 rfl ?_
  refine ww_geti (ci := 8) (k0 := 8) C dX8_look_95 rfl rfl inm8 (by decide) Tx0 q276 rfl ?_
  refine ww_iconst (v := (-1)) C dX8_look_98 (by decide) ?_
  refine ww_icmp_ne (tgt := 107) C dX8_look_99 (by decide) E (fun _ E => ?_) (fun _ E => ?_)
  · refine ww_iload_n C dX8_look_107 rfl 3 rfl ?_
    refine ww_aload_n C dX8_look_108 rfl 0 rfl ?_
    have T_3 : gs S (gr S x0 0) = (0, 4) := hG.1 _ 8 Tx0 0 (by decide)
    refine ww_getr (ci := 8) (k0 := 0) C dX8_look_109 rfl rfl inm8 (by decide) Tx0 q261 rfl T_3 (by decide) ?_
    have T_4 : gs S (gr S (gr S x0 0) 8) = (1, 12) := hG.1 _ 4 T_3 8 (by decide)
    refine ww_getr (ci := 4) (k0 := 8) C dX8_look_112 rfl rfl inm4 (by decide) T_3 q178 rfl T_4 (by decide) ?_
    refine ww_iload_n C dX8_look_115 rfl 1 rfl ?_
    refine ww_iald C dX8_look_116 T_4 E (fun _ E => ?_)
    refine ww_aload_n C dX8_look_117 rfl 0 rfl ?_
    have T_5 : gs S (gr S x0 0) = (0, 4) := hG.1 _ 8 Tx0 0 (by decide)
    refine ww_getr (ci := 8) (k0 := 0) C dX8_look_118 rfl rfl inm8 (by decide) Tx0 q261 rfl T_5 (by decide) ?_
    have T_6 : gs S (gr S (gr S x0 0) 8) = (1, 12) := hG.1 _ 4 T_5 8 (by decide)
    refine ww_getr (ci := 4) (k0 := 8) C dX8_look_121 rfl rfl inm4 (by decide) T_5 q178 rfl T_6 (by decide) ?_
    refine ww_aload_n C dX8_look_124 rfl 0 rfl ?_
    refine ww_geti (ci := 8) (k0 := 8) C dX8_look_125 rfl rfl inm8 (by decide) Tx0 q276 rfl ?_
    refine ww_iald C dX8_look_128 T_6 E (fun _ E => ?_)
    refine ww_iload C dX8_look_129 4 rfl ?_
    obtain ⟨u7, e_8, E⟩ := bind_of E
    refine ww_callI C (runs_S (n := 4) (st := [.int (1 : Int32), .ref (ad (gr S x0 18))]) C [.int x3, .int (gi dy1 (gr S (gr S x0 0) 8) x1.toNatClampNeg), .int (gi dy1 (gr S (gr S x0 0) 8) (gi dy1 x0 8).toNatClampNeg), .int x4] (M_X8_soon l G ad N hG x3 (gi dy1 (gr S (gr S x0 0) 8) x1.toNatClampNeg) (gi dy1 (gr S (gr S x0 0) 8) (gi dy1 x0 8).toNatClampNeg) x4 dy1 e_8) ⟨q947, q112, by decide⟩ q945 q946 rfl (Nat.le_of_ble_eq_true rfl) ⟨Nat.le_of_ble_eq_true rfl, Nat.le_of_ble_eq_true rfl⟩ ⟨Nat.zero_le _, Nat.zero_le _⟩ dX8_look_131 rfl) ?_
    refine ww_sub (lv' := [(0, .ref (ad x0)), (1, .int x1), (2, .int x2)]) [0, 1, 2] rfl ?_
    exact (B_X8_look_134 C HR HL hG) x0 x1 x2 (gr S x0 18) (1 : Int32) u7.1 u7.2 Tx0 T_2 E
  · refine ww_bipush (v := 99) C dX8_look_102 (by decide) ?_
    refine ww_goto (tgt := 134) C dX8_look_104 (by decide) ?_
    refine ww_sub (lv' := [(0, .ref (ad x0)), (1, .int x1), (2, .int x2)]) [0, 1, 2] rfl ?_
    exact (B_X8_look_134 C HR HL hG) x0 x1 x2 (gr S x0 18) (1 : Int32) (99 : Int32) dy1 Tx0 T_2 E
set_option maxHeartbeats 4000000 in
set_option maxRecDepth 100000 in
theorem B_X8_look_71 (C : CX p s m args c cX8_look 5 RX8 G A) (HR : meth.sig.returnType = (Option.none : Option Jvm.ClassFile.FieldType)) (HL : meth.locks = false) (hG : Good S) : ∀ (x0 : Nat) (x1 : Int32) (x2 : Int32) (x3 : Int32) (x4 : Int32) (y0 : Nat) (y1 : Int32) (y2 : Int32) (dy : DY), gs S x0 = (0, 8) → gs S y0 = (1, 11) → F_X8_look_71 S N x0 x1 x2 x3 x4 y0 y1 y2 dy = some dy' → WJ p l e (rmD (3)) s m args below meth c 5 G A 0 0 (MQ below (QV G ad A S dy') args s 0 0 A) ad 71 [(0, .ref (ad x0)), (1, .int x1), (2, .int x2), (3, .int x3), (4, .int x4)] [.int y2, .int y1, .ref (ad y0)] S dy := by
  intro x0 x1 x2 x3 x4 y0 y1 y2 dy Tx0 Ty0 E
  rw [F_X8_look_71_s] at E
  refine ww_iast C dX8_look_71 Ty0 E (fun _ E => ?_)
  refine ww_bd E (fun dy1 E => ?_)
  refine ww_aload_n C dX8_look_72 rfl 0 rfl ?_
  have T_2 : gs S (gr S x0 18) = (1, 11) := hG.1 _ 8 Tx0 18 (by decide)
  refine ww_getr (ci := 8) (k0 := 18) C dX8_look_73 rfl rfl inm8 (by decide) Tx0 q297 rfl T_2 (by decide) ?_
  refine ww_bipush (v := 9) C dX8_look_76 (by decide) ?_
  refine ww_iload C dX8_look_78 4 rfl ?_
  refine ww_if_eq (tgt := 87) C dX8_look_80 (by decide) E (fun _ E => ?_) (fun _ E => ?_)
  · refine ww_iconst (v := 0) C dX8_look_87 (by decide) ?_
    refine ww_sub (lv' := [(0, .ref (ad x0)), (1, .int x1), (2, .int x2), (3, .int x3), (4, .int x4)]) [0, 1, 2, 3, 4] rfl ?_
    exact (B_X8_look_88 C HR HL hG) x0 x1 x2 x3 x4 (gr S x0 18) (9 : Int32) (0 : Int32) dy1 Tx0 T_2 E
  · refine ww_iconst (v := 1) C dX8_look_83 (by decide) ?_
    refine ww_goto (tgt := 88) C dX8_look_84 (by decide) ?_
    refine ww_sub (lv' := [(0, .ref (ad x0)), (1, .int x1), (2, .int x2), (3, .int x3), (4, .int x4)]) [0, 1, 2, 3, 4] rfl ?_
    exact (B_X8_look_88 C HR HL hG) x0 x1 x2 x3 x4 (gr S x0 18) (9 : Int32) (1 : Int32) dy1 Tx0 T_2 E
set_option maxHeartbeats 4000000 in
set_option maxRecDepth 100000 in
theorem B_X8_look_47 (C : CX p s m args c cX8_look 5 RX8 G A) (HR : meth.sig.returnType = (Option.none : Option Jvm.ClassFile.FieldType)) (HL : meth.locks = false) (hG : Good S) : ∀ (x0 : Nat) (x1 : Int32) (x2 : Int32) (x3 : Int32) (y0 : Int32) (dy : DY), gs S x0 = (0, 8) → F_X8_look_47 S N x0 x1 x2 x3 y0 dy = some dy' → WJ p l e (rmD (3)) s m args below meth c 5 G A 0 0 (MQ below (QV G ad A S dy') args s 0 0 A) ad 47 [(0, .ref (ad x0)), (1, .int x1), (2, .int x2), (3, .int x3)] [.int y0] S dy := by
  intro x0 x1 x2 x3 y0 dy Tx0 E
  rw [F_X8_look_47_s] at E
  refine ww_istore (lv' := [(4, .int y0), (0, .ref (ad x0)), (1, .int x1), (2, .int x2), (3, .int x3)]) C dX8_look_47 (by decide) rfl ?_
  refine ww_aload_n C dX8_look_49 rfl 1 rfl ?_
  have T_1 : gs S (gr S x0 18) = (1, 11) := hG.1 _ 8 Tx0 18 (by decide)
  refine ww_getr (ci := 8) (k0 := 18) C dX8_look_50 rfl rfl inm8 (by decide) Tx0 q297 rfl T_1 (by decide) ?_
  refine ww_iconst (v := 0) C dX8_look_53 (by decide) ?_
  refine ww_iload_n C dX8_look_54 rfl 4 rfl ?_
  refine ww_iast C dX8_look_55 T_1 E (fun _ E => ?_)
  refine ww_bd E (fun dy2 E => ?_)
  refine ww_aload_n C dX8_look_56 rfl 1 rfl ?_
  have T_3 : gs S (gr S x0 18) = (1, 11) := hG.1 _ 8 Tx0 18 (by decide)
  refine ww_getr (ci := 8) (k0 := 18) C dX8_look_57 rfl rfl inm8 (by decide) Tx0 q297 rfl T_3 (by decide) ?_
  refine ww_bipush (v := 8) C dX8_look_60 (by decide) ?_
  refine ww_iload_n C dX8_look_62 rfl 4 rfl ?_
  refine ww_if_ne (tgt := 70) C dX8_look_63 (by decide) E (fun _ E => ?_) (fun _ E => ?_)
  · refine ww_iconst (v := 0) C dX8_look_70 (by decide) ?_
    refine ww_sub (lv' := [(0, .ref (ad x0)), (1, .int x1), (2, .int x2), (3, .int x3), (4, .int y0)]) [1, 2, 3, 4, 0] rfl ?_
    exact (B_X8_look_71 C HR HL hG) x0 x1 x2 x3 y0 (gr S x0 18) (8 : Int32) (0 : Int32) dy2 Tx0 T_3 E
  · refine ww_iconst (v := 1) C dX8_look_66 (by decide) ?_
    refine ww_goto (tgt := 71) C dX8_look_67 (by decide) ?_
    refine ww_sub (lv' := [(0, .ref (ad x0)), (1, .int x1), (2, .int x2), (3, .int x3), (4, .int y0)]) [1, 2, 3, 4, 0] rfl ?_
    exact (B_X8_look_71 C HR HL hG) x0 x1 x2 x3 y0 (gr S x0 18) (8 : Int32) (1 : Int32) dy2 Tx0 T_3 E
end P_X8_look
set_option maxHeartbeats 4000000 in
set_option maxRecDepth 100000 in
theorem M_X8_look (l : Launch) (G : GG) (ad : Nat → Nat) {S : ST} (N : Nat) (hG : Good S) (a0 : Nat) (a1 : Int32) (dy : DY) (T0 : gs S a0 = (0, 8)) {dy' : DY} (E : F_X8_look S N a0 a1 dy = some dy') : MC l yX8_look cX8_look 5 (Option.none : Option Jvm.ClassFile.FieldType) (3) G ad [.ref (ad a0), .int a1] S dy (fun A => QV G ad A S dy') := by
  rw [F_X8_look_s] at E
  refine mc_of RX8 (by decide) rfl (Nat.le_of_ble_eq_true rfl) (fun p e s m args below meth c A C HR HL => ?_)
  refine ww_sub (lv' := [(0, .ref (ad a0)), (1, .int a1)]) [0, 1] rfl ?_
  refine ww_aload_n C dX8_look_0 rfl 0 rfl ?_
  have T_1 : gs S (gr S a0 0) = (0, 4) := hG.1 _ 8 T0 0 (by decide)
  refine ww_getr (ci := 8) (k0 := 0) C dX8_look_1 rfl rfl inm8 (by decide) T0 q261 rfl T_1 (by decide) ?_
  have T_2 : gs S (gr S (gr S a0 0) 7) = (1, 12) := hG.1 _ 4 T_1 7 (by decide)
  refine ww_getr (ci := 4) (k0 := 7) C dX8_look_4 rfl rfl inm4 (by decide) T_1 q174 rfl T_2 (by decide) ?_
  refine ww_iload_n C dX8_look_7 rfl 1 rfl ?_
  refine ww_iald C dX8_look_8 T_2 E (fun _ E => ?_)
  refine ww_istore_n (lv' := [(2, .int (gi dy (gr S (gr S a0 0) 7) a1.toNatClampNeg)), (0, .ref (ad a0)), (1, .int a1)]) C dX8_look_9 rfl (by decide) rfl ?_
  refine ww_aload_n C dX8_look_10 rfl 1 rfl ?_
  refine ww_iload_n C dX8_look_11 rfl 2 rfl ?_
  refine ww_iload_n C dX8_look_12 rfl 0 rfl ?_
  refine ww_iconst (v := 0) C dX8_look_13 (by decide) ?_
  obtain ⟨u3, e_4, E⟩ := bind_of E
  refine ww_callI C (runs_V (n := 3) (st := []) C [.int a1, .int (gi dy (gr S (gr S a0 0) 7) a1.toNatClampNeg), .int (0 : Int32)] (M_X8_freeSteps l G ad N hG a0 a1 (gi dy (gr S (gr S a0 0) 7) a1.toNatClampNeg) (0 : Int32) dy T0 e_4) ⟨q935, q112, by decide⟩ q932 q934 q15 (ci := 8) rfl T0 rfl (Nat.le_of_ble_eq_true rfl) ⟨Nat.le_of_ble_eq_true rfl, Nat.le_of_ble_eq_true rfl⟩ ⟨Nat.zero_le _, Nat.zero_le _⟩ dX8_look_14 rfl) ?_
  refine ww_istore_n (lv' := [(3, .int u3.1), (2, .int (gi dy (gr S (gr S a0 0) 7) a1.toNatClampNeg)), (0, .ref (ad a0)), (1, .int a1)]) C dX8_look_17 rfl (by decide) rfl ?_
  refine ww_aload_n C dX8_look_18 rfl 2 rfl ?_
  refine ww_geti (ci := 8) (k0 := 8) C dX8_look_19 rfl rfl inm8 (by decide) T0 q276 rfl ?_
  refine ww_iconst (v := (-1)) C dX8_look_22 (by decide) ?_
  refine ww_icmp_eq (tgt := 46) C dX8_look_23 (by decide) E (fun _ E => ?_) (fun _ E => ?_)
  · refine ww_iconst (v := 0) C dX8_look_46 (by decide) ?_
    refine ww_sub (lv' := [(0, .ref (ad a0)), (1, .int a1), (2, .int (gi dy (gr S (gr S a0 0) 7) a1.toNatClampNeg)), (3, .int u3.1)]) [2, 3, 1, 0] rfl ?_
    exact (B_X8_look_47 C HR HL hG) a0 a1 (gi dy (gr S (gr S a0 0) 7) a1.toNatClampNeg) u3.1 (0 : Int32) u3.2 T0 E
  · refine ww_aload_n C dX8_look_26 rfl 2 rfl ?_
    have T_5 : gs S (gr S a0 0) = (0, 4) := hG.1 _ 8 T0 0 (by decide)
    refine ww_getr (ci := 8) (k0 := 0) C dX8_look_27 rfl rfl inm8 (by decide) T0 q261 rfl T_5 (by decide) ?_
    have T_6 : gs S (gr S (gr S a0 0) 7) = (1, 12) := hG.1 _ 4 T_5 7 (by decide)
    refine ww_getr (ci := 4) (k0 := 7) C dX8_look_30 rfl rfl inm4 (by decide) T_5 q174 rfl T_6 (by decide) ?_
    refine ww_aload_n C dX8_look_33 rfl 2 rfl ?_
    refine ww_geti (ci := 8) (k0 := 8) C dX8_look_34 rfl rfl inm8 (by decide) T0 q276 rfl ?_
    refine ww_iald C dX8_look_37 T_6 E (fun _ E => ?_)
    refine ww_iload_n C dX8_look_38 rfl 1 rfl ?_
    refine ww_icmp_eq (tgt := 46) C dX8_look_39 (by decide) E (fun _ E => ?_) (fun _ E => ?_)
    · refine ww_iconst (v := 0) C dX8_look_46 (by decide) ?_
      refine ww_sub (lv' := [(0, .ref (ad a0)), (1, .int a1), (2, .int (gi dy (gr S (gr S a0 0) 7) a1.toNatClampNeg)), (3, .int u3.1)]) [2, 3, 1, 0] rfl ?_
      exact (B_X8_look_47 C HR HL hG) a0 a1 (gi dy (gr S (gr S a0 0) 7) a1.toNatClampNeg) u3.1 (0 : Int32) u3.2 T0 E
    · refine ww_iconst (v := 1) C dX8_look_42 (by decide) ?_
      refine ww_goto (tgt := 47) C dX8_look_43 (by decide) ?_
      refine ww_sub (lv' := [(0, .ref (ad a0)), (1, .int a1), (2, .int (gi dy (gr S (gr S a0 0) 7) a1.toNatClampNeg)), (3, .int u3.1)]) [2, 3, 1, 0] rfl ?_
      exact (B_X8_look_47 C HR HL hG) a0 a1 (gi dy (gr S (gr S a0 0) 7) a1.toNatClampNeg) u3.1 (1 : Int32) u3.2 T0 E
section P_X8_deed
variable {p : Program} {l : Launch} {e : Env} {s : State} {m : MethodId} {args : Array Value} {below : List Frame} {meth : Method} {c : Code} {G : GG} {A : Nat → Prop} {ad : Nat → Nat} {S : ST} {N : Nat} {r : Int32} {dy' : DY}
end P_X8_deed
set_option maxHeartbeats 4000000 in
set_option maxRecDepth 100000 in
theorem M_X8_deed (l : Launch) (G : GG) (ad : Nat → Nat) {S : ST} (N : Nat) (hG : Good S) (a0 : Nat) (a1 : Int32) (dy : DY) (T0 : gs S a0 = (0, 8)) {r : Int32} {dy' : DY} (E : F_X8_deed S N a0 a1 dy = some (r, dy')) : MC l yX8_deed cX8_deed 3 (Option.some Jvm.ClassFile.FieldType.int) (4) G ad [.ref (ad a0), .int a1] S dy (fun A => QI G ad A S r dy') := by
  rw [F_X8_deed_s] at E
  refine mc_of RX8 (by decide) rfl (Nat.le_of_ble_eq_true rfl) (fun p e s m args below meth c A C HR HL => ?_)
  refine ww_sub (lv' := [(0, .ref (ad a0)), (1, .int a1)]) [0, 1] rfl ?_
  refine ww_aload_n C dX8_deed_0 rfl 0 rfl ?_
  have T_1 : gs S (gr S a0 0) = (0, 4) := hG.1 _ 8 T0 0 (by decide)
  refine ww_getr (ci := 8) (k0 := 0) C dX8_deed_1 rfl rfl inm8 (by decide) T0 q261 rfl T_1 (by decide) ?_
  have T_2 : gs S (gr S (gr S a0 0) 8) = (1, 12) := hG.1 _ 4 T_1 8 (by decide)
  refine ww_getr (ci := 4) (k0 := 8) C dX8_deed_4 rfl rfl inm4 (by decide) T_1 q178 rfl T_2 (by decide) ?_
  refine ww_iload_n C dX8_deed_7 rfl 1 rfl ?_
  refine ww_iald C dX8_deed_8 T_2 E (fun _ E => ?_)
  refine ww_istore_n (lv' := [(2, .int (gi dy (gr S (gr S a0 0) 8) a1.toNatClampNeg)), (0, .ref (ad a0)), (1, .int a1)]) C dX8_deed_9 rfl (by decide) rfl ?_
  refine ww_aload_n C dX8_deed_10 rfl 1 rfl ?_
  have T_3 : gs S (gr S a0 9) = (1, 48) := hG.1 _ 8 T0 9 (by decide)
  refine ww_getr (ci := 8) (k0 := 9) C dX8_deed_11 rfl rfl inm8 (by decide) T0 q277 rfl T_3 (by decide) ?_
  refine ww_iload_n C dX8_deed_14 rfl 2 rfl ?_
  refine ww_iald C dX8_deed_15 T_3 E (fun _ E => ?_)
  refine ww_iconst (v := (-1)) C dX8_deed_16 (by decide) ?_
  refine ww_icmp_eq (tgt := 34) C dX8_deed_17 (by decide) E (fun _ E => ?_) (fun _ E => ?_)
  · refine ww_iconst (v := 5) C dX8_deed_34 (by decide) ?_
    exact ww_iret C HR HL dX8_deed_35 E
  · refine ww_iload_n C dX8_deed_20 rfl 0 rfl ?_
    refine ww_iconst (v := 1) C dX8_deed_21 (by decide) ?_
    refine ww_icmp_lt (tgt := 34) C dX8_deed_22 (by decide) E (fun _ E => ?_) (fun _ E => ?_)
    · refine ww_iconst (v := 5) C dX8_deed_34 (by decide) ?_
      exact ww_iret C HR HL dX8_deed_35 E
    · refine ww_aload_n C dX8_deed_25 rfl 1 rfl ?_
      refine ww_geti (ci := 8) (k0 := 2) C dX8_deed_26 rfl rfl inm8 (by decide) T0 q263 rfl ?_
      refine ww_iload_n C dX8_deed_29 rfl 0 rfl ?_
      refine ww_irem C dX8_deed_30 E (fun _ E => ?_)
      refine ww_if_eq (tgt := 36) C dX8_deed_31 (by decide) E (fun _ E => ?_) (fun _ E => ?_)
      · refine ww_aload_n C dX8_deed_36 rfl 1 rfl ?_
        refine ww_iload_n C dX8_deed_37 rfl 2 rfl ?_
        obtain ⟨u4, e_5, E⟩ := bind_of E
        refine ww_callV C (runs_V (n := 1) (st := []) C [.int a1] (M_X8_look l G ad N hG a0 a1 dy T0 e_5) ⟨q931, q112, by decide⟩ q928 q929 q930 (ci := 8) rfl T0 rfl (Nat.le_of_ble_eq_true rfl) ⟨Nat.le_of_ble_eq_true rfl, Nat.le_of_ble_eq_true rfl⟩ ⟨Nat.zero_le _, Nat.zero_le _⟩ dX8_deed_38 rfl) ?_
        refine ww_aload_n C dX8_deed_41 rfl 1 rfl ?_
        have T_6 : gs S (gr S a0 1) = (0, 2) := hG.1 _ 8 T0 1 (by decide)
        refine ww_getr (ci := 8) (k0 := 1) C dX8_deed_42 rfl rfl inm8 (by decide) T0 q262 rfl T_6 (by decide) ?_
        refine ww_aload_n C dX8_deed_45 rfl 1 rfl ?_
        have T_7 : gs S (gr S a0 18) = (1, 11) := hG.1 _ 8 T0 18 (by decide)
        refine ww_getr (ci := 8) (k0 := 18) C dX8_deed_46 rfl rfl inm8 (by decide) T0 q297 rfl T_7 (by decide) ?_
        obtain ⟨u8, e_9, E⟩ := bind_of E
        refine ww_callI C (runs_V (n := 1) (st := []) C [.ref (ad (gr S a0 18))] (M_X2_deedFor l G ad N 11 hG (gr S a0 1) (gr S a0 18) u4 T_6 T_7 e_9) ⟨q958, q111, by decide⟩ q955 q956 q957 (ci := 2) rfl T_6 rfl (Nat.le_of_ble_eq_true rfl) ⟨Nat.le_of_ble_eq_true rfl, Nat.le_of_ble_eq_true rfl⟩ ⟨Nat.zero_le _, Nat.zero_le _⟩ dX8_deed_49 rfl) ?_
        exact ww_iret C HR HL dX8_deed_52 E
      · refine ww_iconst (v := 5) C dX8_deed_34 (by decide) ?_
        exact ww_iret C HR HL dX8_deed_35 E
section P_X8_danced
variable {p : Program} {l : Launch} {e : Env} {s : State} {m : MethodId} {args : Array Value} {below : List Frame} {meth : Method} {c : Code} {G : GG} {A : Nat → Prop} {ad : Nat → Nat} {S : ST} {N : Nat} {r : Int32} {dy' : DY}
set_option maxHeartbeats 4000000 in
set_option maxRecDepth 100000 in
theorem B_X8_danced_56 (C : CX p s m args c cX8_danced 6 RX8 G A) (HR : meth.sig.returnType = (Option.some Jvm.ClassFile.FieldType.boolean)) (HL : meth.locks = false) (hG : Good S) : ∀ (x0 : Nat) (x3 : Int32) (x4 : Int32) (y0 : Int32) (dy : DY), gs S x0 = (0, 8) → F_X8_danced_56 S N x0 x3 x4 y0 dy = some (r, dy') → WJ p l e (rmD (1)) s m args below meth c 6 G A 0 0 (MQ below (QI G ad A S r dy') args s 0 0 A) ad 56 [(0, .ref (ad x0)), (3, .int x3), (4, .int x4)] [.int y0] S dy := by
  intro x0 x3 x4 y0 dy Tx0 E
  rw [F_X8_danced_56_s] at E
  refine ww_istore (lv' := [(5, .int y0), (0, .ref (ad x0)), (3, .int x3), (4, .int x4)]) C dX8_danced_56 (by decide) rfl ?_
  refine ww_iload C dX8_danced_58 0 rfl ?_
  refine ww_if_eq (tgt := 104) C dX8_danced_60 (by decide) E (fun _ E => ?_) (fun _ E => ?_)
  · refine ww_iconst (v := 0) C dX8_danced_104 (by decide) ?_
    exact ww_zret C HR HL dX8_danced_105 (Or.inl rfl) E
  · refine ww_aload_n C dX8_danced_63 rfl 1 rfl ?_
    have T_1 : gs S (gr S x0 10) = (1, 48) := hG.1 _ 8 Tx0 10 (by decide)
    refine ww_getr (ci := 8) (k0 := 10) C dX8_danced_64 rfl rfl inm8 (by decide) Tx0 q280 rfl T_1 (by decide) ?_
    refine ww_iload_n C dX8_danced_67 rfl 2 rfl ?_
    refine ww_iald C dX8_danced_68 T_1 E (fun _ E => ?_)
    refine ww_aload_n C dX8_danced_69 rfl 1 rfl ?_
    have T_2 : gs S (gr S x0 10) = (1, 48) := hG.1 _ 8 Tx0 10 (by decide)
    refine ww_getr (ci := 8) (k0 := 10) C dX8_danced_70 rfl rfl inm8 (by decide) Tx0 q280 rfl T_2 (by decide) ?_
    refine ww_iload C dX8_danced_73 3 rfl ?_
    refine ww_iald C dX8_danced_75 T_2 E (fun _ E => ?_)
    refine ww_icmp_ne (tgt := 104) C dX8_danced_76 (by decide) E (fun _ E => ?_) (fun _ E => ?_)
    · refine ww_iconst (v := 0) C dX8_danced_104 (by decide) ?_
      exact ww_zret C HR HL dX8_danced_105 (Or.inl rfl) E
    · refine ww_aload_n C dX8_danced_79 rfl 1 rfl ?_
      have T_3 : gs S (gr S x0 9) = (1, 48) := hG.1 _ 8 Tx0 9 (by decide)
      refine ww_getr (ci := 8) (k0 := 9) C dX8_danced_80 rfl rfl inm8 (by decide) Tx0 q277 rfl T_3 (by decide) ?_
      refine ww_iload_n C dX8_danced_83 rfl 2 rfl ?_
      refine ww_iald C dX8_danced_84 T_3 E (fun _ E => ?_)
      refine ww_aload_n C dX8_danced_85 rfl 1 rfl ?_
      have T_4 : gs S (gr S x0 9) = (1, 48) := hG.1 _ 8 Tx0 9 (by decide)
      refine ww_getr (ci := 8) (k0 := 9) C dX8_danced_86 rfl rfl inm8 (by decide) Tx0 q277 rfl T_4 (by decide) ?_
      refine ww_iload C dX8_danced_89 3 rfl ?_
      refine ww_iald C dX8_danced_91 T_4 E (fun _ E => ?_)
      refine ww_isub C dX8_danced_92 ?_
      refine ww_mabs C dX8_danced_93 q952 q953 q119 q954 (Nat.le_of_ble_eq_true rfl) (Nat.le_of_ble_eq_true rfl) (Nat.le_of_ble_eq_true rfl) (Nat.zero_le _) (Nat.zero_le _) ?_
      refine ww_iconst (v := 2) C dX8_danced_96 (by decide) ?_
      refine ww_icmp_gt (tgt := 104) C dX8_danced_97 (by decide) E (fun _ E => ?_) (fun _ E => ?_)
      · refine ww_iconst (v := 0) C dX8_danced_104 (by decide) ?_
        exact ww_zret C HR HL dX8_danced_105 (Or.inl rfl) E
      · refine ww_iconst (v := 1) C dX8_danced_100 (by decide) ?_
        refine ww_goto (tgt := 105) C dX8_danced_101 (by decide) ?_
        exact ww_zret C HR HL dX8_danced_105 (Or.inr rfl) E
end P_X8_danced
set_option maxHeartbeats 4000000 in
set_option maxRecDepth 100000 in
theorem M_X8_danced (l : Launch) (G : GG) (ad : Nat → Nat) {S : ST} (N : Nat) (hG : Good S) (a0 : Nat) (a1 : Int32) (a2 : Int32) (dy : DY) (T0 : gs S a0 = (0, 8)) {r : Int32} {dy' : DY} (E : F_X8_danced S N a0 a1 a2 dy = some (r, dy')) : MC l yX8_danced cX8_danced 6 (Option.some Jvm.ClassFile.FieldType.boolean) (1) G ad [.ref (ad a0), .int a1, .int a2] S dy (fun A => QI G ad A S r dy') := by
  rw [F_X8_danced_s] at E
  refine mc_of RX8 (by decide) rfl (Nat.le_of_ble_eq_true rfl) (fun p e s m args below meth c A C HR HL => ?_)
  refine ww_sub (lv' := [(0, .ref (ad a0)), (1, .int a1), (2, .int a2)]) [0, 1, 2] rfl ?_
  refine ww_bipush (v := 12) C dX8_danced_0 (by decide) ?_
  refine ww_iload_n C dX8_danced_2 rfl 1 rfl ?_
  refine ww_iadd C dX8_danced_3 ?_
  refine ww_istore_n (lv' := [(3, .int ((12 : Int32) + a1)), (0, .ref (ad a0)), (1, .int a1), (2, .int a2)]) C dX8_danced_4 rfl (by decide) rfl ?_
  refine ww_bipush (v := 12) C dX8_danced_5 (by decide) ?_
  refine ww_iload_n C dX8_danced_7 rfl 3 rfl ?_
  refine ww_iadd C dX8_danced_8 ?_
  refine ww_istore (lv' := [(4, .int ((12 : Int32) + a2)), (3, .int ((12 : Int32) + a1)), (0, .ref (ad a0)), (1, .int a1), (2, .int a2)]) C dX8_danced_9 (by decide) rfl ?_
  refine ww_aload_n C dX8_danced_11 rfl 2 rfl ?_
  have T_1 : gs S (gr S a0 10) = (1, 48) := hG.1 _ 8 T0 10 (by decide)
  refine ww_getr (ci := 8) (k0 := 10) C dX8_danced_12 rfl rfl inm8 (by decide) T0 q280 rfl T_1 (by decide) ?_
  refine ww_iload_n C dX8_danced_15 rfl 3 rfl ?_
  refine ww_iald C dX8_danced_16 T_1 E (fun _ E => ?_)
  refine ww_iconst (v := (-1)) C dX8_danced_17 (by decide) ?_
  refine ww_icmp_eq (tgt := 55) C dX8_danced_18 (by decide) E (fun _ E => ?_) (fun _ E => ?_)
  · refine ww_iconst (v := 0) C dX8_danced_55 (by decide) ?_
    refine ww_sub (lv' := [(0, .ref (ad a0)), (3, .int ((12 : Int32) + a1)), (4, .int ((12 : Int32) + a2))]) [2, 1, 0] rfl ?_
    exact (B_X8_danced_56 C HR HL hG) a0 ((12 : Int32) + a1) ((12 : Int32) + a2) (0 : Int32) dy T0 E
  · refine ww_aload_n C dX8_danced_21 rfl 2 rfl ?_
    have T_2 : gs S (gr S a0 10) = (1, 48) := hG.1 _ 8 T0 10 (by decide)
    refine ww_getr (ci := 8) (k0 := 10) C dX8_danced_22 rfl rfl inm8 (by decide) T0 q280 rfl T_2 (by decide) ?_
    refine ww_iload_n C dX8_danced_25 rfl 3 rfl ?_
    refine ww_iald C dX8_danced_26 T_2 E (fun _ E => ?_)
    refine ww_aload_n C dX8_danced_27 rfl 2 rfl ?_
    have T_3 : gs S (gr S a0 10) = (1, 48) := hG.1 _ 8 T0 10 (by decide)
    refine ww_getr (ci := 8) (k0 := 10) C dX8_danced_28 rfl rfl inm8 (by decide) T0 q280 rfl T_3 (by decide) ?_
    refine ww_iload_n C dX8_danced_31 rfl 4 rfl ?_
    refine ww_iald C dX8_danced_32 T_3 E (fun _ E => ?_)
    refine ww_icmp_ne (tgt := 55) C dX8_danced_33 (by decide) E (fun _ E => ?_) (fun _ E => ?_)
    · refine ww_iconst (v := 0) C dX8_danced_55 (by decide) ?_
      refine ww_sub (lv' := [(0, .ref (ad a0)), (3, .int ((12 : Int32) + a1)), (4, .int ((12 : Int32) + a2))]) [2, 1, 0] rfl ?_
      exact (B_X8_danced_56 C HR HL hG) a0 ((12 : Int32) + a1) ((12 : Int32) + a2) (0 : Int32) dy T0 E
    · refine ww_aload_n C dX8_danced_36 rfl 2 rfl ?_
      have T_4 : gs S (gr S a0 10) = (1, 48) := hG.1 _ 8 T0 10 (by decide)
      refine ww_getr (ci := 8) (k0 := 10) C dX8_danced_37 rfl rfl inm8 (by decide) T0 q280 rfl T_4 (by decide) ?_
      refine ww_iload_n C dX8_danced_40 rfl 3 rfl ?_
      refine ww_iald C dX8_danced_41 T_4 E (fun _ E => ?_)
      refine ww_aload_n C dX8_danced_42 rfl 2 rfl ?_
      have T_5 : gs S (gr S a0 10) = (1, 48) := hG.1 _ 8 T0 10 (by decide)
      refine ww_getr (ci := 8) (k0 := 10) C dX8_danced_43 rfl rfl inm8 (by decide) T0 q280 rfl T_5 (by decide) ?_
      refine ww_iload_n C dX8_danced_46 rfl 1 rfl ?_
      refine ww_iald C dX8_danced_47 T_5 E (fun _ E => ?_)
      refine ww_icmp_eq (tgt := 55) C dX8_danced_48 (by decide) E (fun _ E => ?_) (fun _ E => ?_)
      · refine ww_iconst (v := 0) C dX8_danced_55 (by decide) ?_
        refine ww_sub (lv' := [(0, .ref (ad a0)), (3, .int ((12 : Int32) + a1)), (4, .int ((12 : Int32) + a2))]) [2, 1, 0] rfl ?_
        exact (B_X8_danced_56 C HR HL hG) a0 ((12 : Int32) + a1) ((12 : Int32) + a2) (0 : Int32) dy T0 E
      · refine ww_iconst (v := 1) C dX8_danced_51 (by decide) ?_
        refine ww_goto (tgt := 56) C dX8_danced_52 (by decide) ?_
        refine ww_sub (lv' := [(0, .ref (ad a0)), (3, .int ((12 : Int32) + a1)), (4, .int ((12 : Int32) + a2))]) [2, 1, 0] rfl ?_
        exact (B_X8_danced_56 C HR HL hG) a0 ((12 : Int32) + a1) ((12 : Int32) + a2) (1 : Int32) dy T0 E
section P_X8_dancesNow
variable {p : Program} {l : Launch} {e : Env} {s : State} {m : MethodId} {args : Array Value} {below : List Frame} {meth : Method} {c : Code} {G : GG} {A : Nat → Prop} {ad : Nat → Nat} {S : ST} {N : Nat} {r : Int32} {dy' : DY}
set_option maxHeartbeats 4000000 in
set_option maxRecDepth 100000 in
theorem B_X8_dancesNow_19 (C : CX p s m args c cX8_dancesNow 4 RX8 G A) (HR : meth.sig.returnType = (Option.some Jvm.ClassFile.FieldType.int)) (HL : meth.locks = false) (hG : Good S) {K4 : Nat → Int32 → Int32 → DY → Option (Int32 × DY)} (hK4 : ∀ (x0 : Nat) (x1 : Int32) (x2 : Int32) (dy : DY), gs S x0 = (0, 8) → K4 x0 x1 x2 dy = some (r, dy') → WJ p l e (rmD (2)) s m args below meth c 4 G A 0 0 (MQ below (QI G ad A S r dy') args s 0 0 A) ad 4 [(0, .ref (ad x0)), (1, .int x1), (2, .int x2)] [] S dy) : ∀ k : Nat, ∀ (x0 : Nat) (x1 : Int32) (x2 : Int32) (x3 : Int32) (dy : DY), gs S x0 = (0, 8) → (F_X8_dancesNow_19 S N K4 k) x0 x1 x2 x3 dy = some (r, dy') → WJ p l e (rmD (2)) s m args below meth c 4 G A 0 0 (MQ below (QI G ad A S r dy') args s 0 0 A) ad 19 [(0, .ref (ad x0)), (1, .int x1), (2, .int x2), (3, .int x3)] [] S dy := by
  intro k
  induction k with
  | zero => exact fun _ _ _ _ _ _ E => nomatch (show none = some (r, dy') from E)
  | succ k ih =>
    intro x0 x1 x2 x3 dy Tx0 E
    rw [F_X8_dancesNow_19_s] at E
    refine ww_iload_n C dX8_dancesNow_19 rfl 3 rfl ?_
    refine ww_aload_n C dX8_dancesNow_20 rfl 0 rfl ?_
    have T_1 : gs S (gr S x0 0) = (0, 4) := hG.1 _ 8 Tx0 0 (by decide)
    refine ww_getr (ci := 8) (k0 := 0) C dX8_dancesNow_21 rfl rfl inm8 (by decide) Tx0 q261 rfl T_1 (by decide) ?_
    refine ww_geti (ci := 4) (k0 := 3) C dX8_dancesNow_24 rfl rfl inm4 (by decide) T_1 q162 rfl ?_
    refine ww_icmp_ge (tgt := 69) C dX8_dancesNow_27 (by decide) E (fun _ E => ?_) (fun _ E => ?_)
    · refine ww_iinc (v := (x2 + (1 : Int32))) (lv' := [(2, .int (x2 + (1 : Int32))), (0, .ref (ad x0)), (1, .int x1), (3, .int x3)]) C dX8_dancesNow_69 2 rfl rfl (by decide) rfl ?_
      refine ww_goto (tgt := 4) C dX8_dancesNow_72 (by decide) ?_
      refine ww_sub (lv' := [(0, .ref (ad x0)), (1, .int x1), (2, .int (x2 + (1 : Int32)))]) [1, 2, 0] rfl ?_
      exact hK4 x0 x1 (x2 + (1 : Int32)) dy Tx0 E
    · refine ww_aload_n C dX8_dancesNow_30 rfl 0 rfl ?_
      have T_2 : gs S (gr S x0 0) = (0, 4) := hG.1 _ 8 Tx0 0 (by decide)
      refine ww_getr (ci := 8) (k0 := 0) C dX8_dancesNow_31 rfl rfl inm8 (by decide) Tx0 q261 rfl T_2 (by decide) ?_
      have T_3 : gs S (gr S (gr S x0 0) 7) = (1, 12) := hG.1 _ 4 T_2 7 (by decide)
      refine ww_getr (ci := 4) (k0 := 7) C dX8_dancesNow_34 rfl rfl inm4 (by decide) T_2 q174 rfl T_3 (by decide) ?_
      refine ww_iload_n C dX8_dancesNow_37 rfl 2 rfl ?_
      refine ww_iald C dX8_dancesNow_38 T_3 E (fun _ E => ?_)
      refine ww_aload_n C dX8_dancesNow_39 rfl 0 rfl ?_
      have T_4 : gs S (gr S x0 0) = (0, 4) := hG.1 _ 8 Tx0 0 (by decide)
      refine ww_getr (ci := 8) (k0 := 0) C dX8_dancesNow_40 rfl rfl inm8 (by decide) Tx0 q261 rfl T_4 (by decide) ?_
      have T_5 : gs S (gr S (gr S x0 0) 7) = (1, 12) := hG.1 _ 4 T_4 7 (by decide)
      refine ww_getr (ci := 4) (k0 := 7) C dX8_dancesNow_43 rfl rfl inm4 (by decide) T_4 q174 rfl T_5 (by decide) ?_
      refine ww_iload_n C dX8_dancesNow_46 rfl 3 rfl ?_
      refine ww_iald C dX8_dancesNow_47 T_5 E (fun _ E => ?_)
      refine ww_icmp_eq (tgt := 63) C dX8_dancesNow_48 (by decide) E (fun _ E => ?_) (fun _ E => ?_)
      · refine ww_iinc (v := (x3 + (1 : Int32))) (lv' := [(3, .int (x3 + (1 : Int32))), (0, .ref (ad x0)), (1, .int x1), (2, .int x2)]) C dX8_dancesNow_63 3 rfl rfl (by decide) rfl ?_
        refine ww_goto (tgt := 19) C dX8_dancesNow_66 (by decide) ?_
        refine ww_sub (lv' := [(0, .ref (ad x0)), (1, .int x1), (2, .int x2), (3, .int (x3 + (1 : Int32)))]) [1, 2, 3, 0] rfl ?_
        exact ih x0 x1 x2 (x3 + (1 : Int32)) dy Tx0 E
      · refine ww_aload_n C dX8_dancesNow_51 rfl 0 rfl ?_
        refine ww_iload_n C dX8_dancesNow_52 rfl 2 rfl ?_
        refine ww_iload_n C dX8_dancesNow_53 rfl 3 rfl ?_
        obtain ⟨u6, e_7, E⟩ := bind_of E
        refine ww_callI C (runs_V (n := 2) (st := []) C [.int x2, .int x3] (M_X8_danced l G ad N hG x0 x2 x3 dy Tx0 e_7) ⟨q1007, q112, by decide⟩ q1004 q1006 q25 (ci := 8) rfl Tx0 rfl (Nat.le_of_ble_eq_true rfl) ⟨Nat.le_of_ble_eq_true rfl, Nat.le_of_ble_eq_true rfl⟩ ⟨Nat.zero_le _, Nat.zero_le _⟩ dX8_dancesNow_54 rfl) ?_
        refine ww_if_eq (tgt := 63) C dX8_dancesNow_57 (by decide) E (fun _ E => ?_) (fun _ E => ?_)
        · refine ww_iinc (v := (x3 + (1 : Int32))) (lv' := [(3, .int (x3 + (1 : Int32))), (0, .ref (ad x0)), (1, .int x1), (2, .int x2)]) C dX8_dancesNow_63 3 rfl rfl (by decide) rfl ?_
          refine ww_goto (tgt := 19) C dX8_dancesNow_66 (by decide) ?_
          refine ww_sub (lv' := [(0, .ref (ad x0)), (1, .int x1), (2, .int x2), (3, .int (x3 + (1 : Int32)))]) [1, 2, 3, 0] rfl ?_
          exact ih x0 x1 x2 (x3 + (1 : Int32)) u6.2 Tx0 E
        · refine ww_iinc (v := (x1 + (1 : Int32))) (lv' := [(1, .int (x1 + (1 : Int32))), (0, .ref (ad x0)), (2, .int x2), (3, .int x3)]) C dX8_dancesNow_60 1 rfl rfl (by decide) rfl ?_
          refine ww_iinc (v := (x3 + (1 : Int32))) (lv' := [(3, .int (x3 + (1 : Int32))), (1, .int (x1 + (1 : Int32))), (0, .ref (ad x0)), (2, .int x2)]) C dX8_dancesNow_63 3 rfl rfl (by decide) rfl ?_
          refine ww_goto (tgt := 19) C dX8_dancesNow_66 (by decide) ?_
          refine ww_sub (lv' := [(0, .ref (ad x0)), (1, .int (x1 + (1 : Int32))), (2, .int x2), (3, .int (x3 + (1 : Int32)))]) [2, 1, 3, 0] rfl ?_
          exact ih x0 (x1 + (1 : Int32)) x2 (x3 + (1 : Int32)) u6.2 Tx0 E
set_option maxHeartbeats 4000000 in
set_option maxRecDepth 100000 in
theorem B_X8_dancesNow_4 (C : CX p s m args c cX8_dancesNow 4 RX8 G A) (HR : meth.sig.returnType = (Option.some Jvm.ClassFile.FieldType.int)) (HL : meth.locks = false) (hG : Good S) : ∀ k : Nat, ∀ (x0 : Nat) (x1 : Int32) (x2 : Int32) (dy : DY), gs S x0 = (0, 8) → (F_X8_dancesNow_4 S N k) x0 x1 x2 dy = some (r, dy') → WJ p l e (rmD (2)) s m args below meth c 4 G A 0 0 (MQ below (QI G ad A S r dy') args s 0 0 A) ad 4 [(0, .ref (ad x0)), (1, .int x1), (2, .int x2)] [] S dy := by
  intro k
  induction k with
  | zero => exact fun _ _ _ _ _ E => nomatch (show none = some (r, dy') from E)
  | succ k ih =>
    intro x0 x1 x2 dy Tx0 E
    rw [F_X8_dancesNow_4_s] at E
    refine ww_iload_n C dX8_dancesNow_4 rfl 2 rfl ?_
    refine ww_aload_n C dX8_dancesNow_5 rfl 0 rfl ?_
    have T_1 : gs S (gr S x0 0) = (0, 4) := hG.1 _ 8 Tx0 0 (by decide)
    refine ww_getr (ci := 8) (k0 := 0) C dX8_dancesNow_6 rfl rfl inm8 (by decide) Tx0 q261 rfl T_1 (by decide) ?_
    refine ww_geti (ci := 4) (k0 := 3) C dX8_dancesNow_9 rfl rfl inm4 (by decide) T_1 q162 rfl ?_
    refine ww_icmp_ge (tgt := 75) C dX8_dancesNow_12 (by decide) E (fun _ E => ?_) (fun _ E => ?_)
    · refine ww_iload_n C dX8_dancesNow_75 rfl 1 rfl ?_
      exact ww_iret C HR HL dX8_dancesNow_76 E
    · refine ww_iload_n C dX8_dancesNow_15 rfl 2 rfl ?_
      refine ww_iconst (v := 1) C dX8_dancesNow_16 (by decide) ?_
      refine ww_iadd C dX8_dancesNow_17 ?_
      refine ww_istore_n (lv' := [(3, .int (x2 + (1 : Int32))), (0, .ref (ad x0)), (1, .int x1), (2, .int x2)]) C dX8_dancesNow_18 rfl (by decide) rfl ?_
      refine ww_sub (lv' := [(0, .ref (ad x0)), (1, .int x1), (2, .int x2), (3, .int (x2 + (1 : Int32)))]) [1, 2, 3, 0] rfl ?_
      exact (B_X8_dancesNow_19 C HR HL hG ih N) x0 x1 x2 (x2 + (1 : Int32)) dy Tx0 E
end P_X8_dancesNow
set_option maxHeartbeats 4000000 in
set_option maxRecDepth 100000 in
theorem M_X8_dancesNow (l : Launch) (G : GG) (ad : Nat → Nat) {S : ST} (N : Nat) (hG : Good S) (a0 : Nat) (dy : DY) (T0 : gs S a0 = (0, 8)) {r : Int32} {dy' : DY} (E : F_X8_dancesNow S N a0 dy = some (r, dy')) : MC l yX8_dancesNow cX8_dancesNow 4 (Option.some Jvm.ClassFile.FieldType.int) (2) G ad [.ref (ad a0)] S dy (fun A => QI G ad A S r dy') := by
  rw [F_X8_dancesNow_s] at E
  refine mc_of RX8 (by decide) rfl (Nat.le_of_ble_eq_true rfl) (fun p e s m args below meth c A C HR HL => ?_)
  refine ww_sub (lv' := [(0, .ref (ad a0))]) [0] rfl ?_
  refine ww_iconst (v := 0) C dX8_dancesNow_0 (by decide) ?_
  refine ww_istore_n (lv' := [(1, .int (0 : Int32)), (0, .ref (ad a0))]) C dX8_dancesNow_1 rfl (by decide) rfl ?_
  refine ww_iconst (v := 0) C dX8_dancesNow_2 (by decide) ?_
  refine ww_istore_n (lv' := [(2, .int (0 : Int32)), (1, .int (0 : Int32)), (0, .ref (ad a0))]) C dX8_dancesNow_3 rfl (by decide) rfl ?_
  refine ww_sub (lv' := [(0, .ref (ad a0)), (1, .int (0 : Int32)), (2, .int (0 : Int32))]) [2, 1, 0] rfl ?_
  exact (B_X8_dancesNow_4 C HR HL hG N) a0 (0 : Int32) (0 : Int32) dy T0 E
section P_X8_arrive
variable {p : Program} {l : Launch} {e : Env} {s : State} {m : MethodId} {args : Array Value} {below : List Frame} {meth : Method} {c : Code} {G : GG} {A : Nat → Prop} {ad : Nat → Nat} {S : ST} {N : Nat} {dy' : DY}
end P_X8_arrive
set_option maxHeartbeats 4000000 in
set_option maxRecDepth 100000 in
theorem M_X8_arrive (l : Launch) (G : GG) (ad : Nat → Nat) {S : ST} (N : Nat) (hG : Good S) (a0 : Nat) (a1 : Int32) (dy : DY) (T0 : gs S a0 = (0, 8)) {dy' : DY} (E : F_X8_arrive S N a0 a1 dy = some dy') : MC l yX8_arrive cX8_arrive 2 (Option.none : Option Jvm.ClassFile.FieldType) (1) G ad [.ref (ad a0), .int a1] S dy (fun A => QV G ad A S dy') := by
  rw [F_X8_arrive_s] at E
  refine mc_of RX8 (by decide) rfl (Nat.le_of_ble_eq_true rfl) (fun p e s m args below meth c A C HR HL => ?_)
  refine ww_sub (lv' := [(0, .ref (ad a0)), (1, .int a1)]) [0, 1] rfl ?_
  refine ww_aload_n C dX8_arrive_0 rfl 0 rfl ?_
  have T_1 : gs S (gr S a0 9) = (1, 48) := hG.1 _ 8 T0 9 (by decide)
  refine ww_getr (ci := 8) (k0 := 9) C dX8_arrive_1 rfl rfl inm8 (by decide) T0 q277 rfl T_1 (by decide) ?_
  refine ww_iload_n C dX8_arrive_4 rfl 1 rfl ?_
  refine ww_iconst (v := (-1)) C dX8_arrive_5 (by decide) ?_
  refine ww_iast C dX8_arrive_6 T_1 E (fun _ E => ?_)
  refine ww_bd E (fun dy2 E => ?_)
  refine ww_aload_n C dX8_arrive_7 rfl 0 rfl ?_
  have T_3 : gs S (gr S a0 10) = (1, 48) := hG.1 _ 8 T0 10 (by decide)
  refine ww_getr (ci := 8) (k0 := 10) C dX8_arrive_8 rfl rfl inm8 (by decide) T0 q280 rfl T_3 (by decide) ?_
  refine ww_iload_n C dX8_arrive_11 rfl 1 rfl ?_
  refine ww_iconst (v := (-1)) C dX8_arrive_12 (by decide) ?_
  refine ww_iast C dX8_arrive_13 T_3 E (fun _ E => ?_)
  refine ww_bd E (fun dy4 E => ?_)
  refine ww_aload_n C dX8_arrive_14 rfl 0 rfl ?_
  have T_5 : gs S (gr S a0 11) = (1, 12) := hG.1 _ 8 T0 11 (by decide)
  refine ww_getr (ci := 8) (k0 := 11) C dX8_arrive_15 rfl rfl inm8 (by decide) T0 q283 rfl T_5 (by decide) ?_
  refine ww_iload_n C dX8_arrive_18 rfl 1 rfl ?_
  refine ww_aload_n C dX8_arrive_19 rfl 0 rfl ?_
  refine ww_geti (ci := 8) (k0 := 2) C dX8_arrive_20 rfl rfl inm8 (by decide) T0 q263 rfl ?_
  refine ww_iast C dX8_arrive_23 T_5 E (fun _ E => ?_)
  refine ww_bd E (fun dy6 E => ?_)
  refine ww_aload_n C dX8_arrive_24 rfl 0 rfl ?_
  refine ww_dup C dX8_arrive_25 rfl ?_
  refine ww_geti (ci := 8) (k0 := 5) C dX8_arrive_26 rfl rfl inm8 (by decide) T0 q268 rfl ?_
  refine ww_iconst (v := 1) C dX8_arrive_29 (by decide) ?_
  refine ww_iadd C dX8_arrive_30 ?_
  refine ww_puti (ci := 8) (k0 := 5) C dX8_arrive_31 rfl rfl inm8 tyX8_ok nmX8 (by decide) T0 q268 rfl rfl rfl ?_
  refine ww_bd E (fun dy7 E => ?_)
  exact ww_vret C HR HL dX8_arrive_34 E
section P_X8_isThere
variable {p : Program} {l : Launch} {e : Env} {s : State} {m : MethodId} {args : Array Value} {below : List Frame} {meth : Method} {c : Code} {G : GG} {A : Nat → Prop} {ad : Nat → Nat} {S : ST} {N : Nat} {r : Int32} {dy' : DY}
end P_X8_isThere
set_option maxHeartbeats 4000000 in
set_option maxRecDepth 100000 in
theorem M_X8_isThere (l : Launch) (G : GG) (ad : Nat → Nat) {S : ST} (N : Nat) (hG : Good S) (a0 : Nat) (a1 : Int32) (dy : DY) (T0 : gs S a0 = (0, 8)) {r : Int32} {dy' : DY} (E : F_X8_isThere S N a0 a1 dy = some (r, dy')) : MC l yX8_isThere cX8_isThere 2 (Option.some Jvm.ClassFile.FieldType.boolean) (2) G ad [.ref (ad a0), .int a1] S dy (fun A => QI G ad A S r dy') := by
  rw [F_X8_isThere_s] at E
  refine mc_of RX8 (by decide) rfl (Nat.le_of_ble_eq_true rfl) (fun p e s m args below meth c A C HR HL => ?_)
  refine ww_sub (lv' := [(0, .ref (ad a0)), (1, .int a1)]) [0, 1] rfl ?_
  refine ww_aload_n C dX8_isThere_0 rfl 0 rfl ?_
  have T_1 : gs S (gr S a0 0) = (0, 4) := hG.1 _ 8 T0 0 (by decide)
  refine ww_getr (ci := 8) (k0 := 0) C dX8_isThere_1 rfl rfl inm8 (by decide) T0 q261 rfl T_1 (by decide) ?_
  refine ww_iload_n C dX8_isThere_4 rfl 1 rfl ?_
  obtain ⟨u2, e_3, E⟩ := bind_of E
  refine ww_callI C (runs_V (n := 1) (st := []) C [.int a1] (M_X4_has l G ad N hG (gr S a0 0) a1 dy T_1 e_3) ⟨q764, q110, by decide⟩ q984 q762 q763 (ci := 4) rfl T_1 rfl (Nat.le_of_ble_eq_true rfl) ⟨Nat.le_of_ble_eq_true rfl, Nat.le_of_ble_eq_true rfl⟩ ⟨Nat.zero_le _, Nat.zero_le _⟩ dX8_isThere_5 rfl) ?_
  refine ww_if_eq (tgt := 25) C dX8_isThere_8 (by decide) E (fun _ E => ?_) (fun _ E => ?_)
  · refine ww_iconst (v := 0) C dX8_isThere_25 (by decide) ?_
    exact ww_zret C HR HL dX8_isThere_26 (Or.inl rfl) E
  · refine ww_aload_n C dX8_isThere_11 rfl 0 rfl ?_
    have T_4 : gs S (gr S a0 9) = (1, 48) := hG.1 _ 8 T0 9 (by decide)
    refine ww_getr (ci := 8) (k0 := 9) C dX8_isThere_12 rfl rfl inm8 (by decide) T0 q277 rfl T_4 (by decide) ?_
    refine ww_iload_n C dX8_isThere_15 rfl 1 rfl ?_
    refine ww_iald C dX8_isThere_16 T_4 E (fun _ E => ?_)
    refine ww_iconst (v := (-1)) C dX8_isThere_17 (by decide) ?_
    refine ww_icmp_eq (tgt := 25) C dX8_isThere_18 (by decide) E (fun _ E => ?_) (fun _ E => ?_)
    · refine ww_iconst (v := 0) C dX8_isThere_25 (by decide) ?_
      exact ww_zret C HR HL dX8_isThere_26 (Or.inl rfl) E
    · refine ww_iconst (v := 1) C dX8_isThere_21 (by decide) ?_
      refine ww_goto (tgt := 26) C dX8_isThere_22 (by decide) ?_
      exact ww_zret C HR HL dX8_isThere_26 (Or.inr rfl) E
section P_X8_passDoor
variable {p : Program} {l : Launch} {e : Env} {s : State} {m : MethodId} {args : Array Value} {below : List Frame} {meth : Method} {c : Code} {G : GG} {A : Nat → Prop} {ad : Nat → Nat} {S : ST} {N : Nat} {dy' : DY}
set_option maxHeartbeats 4000000 in
set_option maxRecDepth 100000 in
theorem B_X8_passDoor_57 (C : CX p s m args c cX8_passDoor 4 RX8 G A) (HR : meth.sig.returnType = (Option.none : Option Jvm.ClassFile.FieldType)) (HL : meth.locks = false) (hG : Good S) : ∀ (x0 : Nat) (x3 : Int32) (dy : DY), gs S x0 = (0, 8) → F_X8_passDoor_57 S N x0 x3 dy = some dy' → WJ p l e (rmD (1)) s m args below meth c 4 G A 0 0 (MQ below (QV G ad A S dy') args s 0 0 A) ad 57 [(0, .ref (ad x0)), (3, .int x3)] [] S dy := by
  intro x0 x3 dy Tx0 E
  rw [F_X8_passDoor_57_s] at E
  refine ww_aload_n C dX8_passDoor_57 rfl 0 rfl ?_
  have T_1 : gs S (gr S x0 19) = (1, 75) := hG.1 _ 8 Tx0 19 (by decide)
  refine ww_getr (ci := 8) (k0 := 19) C dX8_passDoor_58 rfl rfl inm8 (by decide) Tx0 q299 rfl T_1 (by decide) ?_
  refine ww_iload_n C dX8_passDoor_61 rfl 1 rfl ?_
  refine ww_iconst (v := 4) C dX8_passDoor_62 (by decide) ?_
  refine ww_iadd C dX8_passDoor_63 ?_
  refine ww_dup2 C dX8_passDoor_64 rfl rfl ?_
  refine ww_iald C dX8_passDoor_65 T_1 E (fun _ E => ?_)
  refine ww_iconst (v := 1) C dX8_passDoor_66 (by decide) ?_
  refine ww_iadd C dX8_passDoor_67 ?_
  refine ww_iast C dX8_passDoor_68 T_1 E (fun _ E => ?_)
  refine ww_bd E (fun dy2 E => ?_)
  refine ww_aload_n C dX8_passDoor_69 rfl 0 rfl ?_
  have T_3 : gs S (gr S x0 19) = (1, 75) := hG.1 _ 8 Tx0 19 (by decide)
  refine ww_getr (ci := 8) (k0 := 19) C dX8_passDoor_70 rfl rfl inm8 (by decide) Tx0 q299 rfl T_3 (by decide) ?_
  refine ww_iload_n C dX8_passDoor_73 rfl 1 rfl ?_
  refine ww_iconst (v := 2) C dX8_passDoor_74 (by decide) ?_
  refine ww_iadd C dX8_passDoor_75 ?_
  refine ww_dup2 C dX8_passDoor_76 rfl rfl ?_
  refine ww_iald C dX8_passDoor_77 T_3 E (fun _ E => ?_)
  refine ww_iconst (v := 1) C dX8_passDoor_78 (by decide) ?_
  refine ww_iadd C dX8_passDoor_79 ?_
  refine ww_iast C dX8_passDoor_80 T_3 E (fun _ E => ?_)
  refine ww_bd E (fun dy4 E => ?_)
  refine ww_aload_n C dX8_passDoor_81 rfl 0 rfl ?_
  have T_5 : gs S (gr S x0 19) = (1, 75) := hG.1 _ 8 Tx0 19 (by decide)
  refine ww_getr (ci := 8) (k0 := 19) C dX8_passDoor_82 rfl rfl inm8 (by decide) Tx0 q299 rfl T_5 (by decide) ?_
  refine ww_iload_n C dX8_passDoor_85 rfl 1 rfl ?_
  refine ww_iconst (v := 1) C dX8_passDoor_86 (by decide) ?_
  refine ww_iadd C dX8_passDoor_87 ?_
  refine ww_aload_n C dX8_passDoor_88 rfl 0 rfl ?_
  have T_6 : gs S (gr S x0 19) = (1, 75) := hG.1 _ 8 Tx0 19 (by decide)
  refine ww_getr (ci := 8) (k0 := 19) C dX8_passDoor_89 rfl rfl inm8 (by decide) Tx0 q299 rfl T_6 (by decide) ?_
  refine ww_iload_n C dX8_passDoor_92 rfl 1 rfl ?_
  refine ww_iconst (v := 1) C dX8_passDoor_93 (by decide) ?_
  refine ww_iadd C dX8_passDoor_94 ?_
  refine ww_iald C dX8_passDoor_95 T_6 E (fun _ E => ?_)
  refine ww_aload_n C dX8_passDoor_96 rfl 0 rfl ?_
  have T_7 : gs S (gr S x0 19) = (1, 75) := hG.1 _ 8 Tx0 19 (by decide)
  refine ww_getr (ci := 8) (k0 := 19) C dX8_passDoor_97 rfl rfl inm8 (by decide) Tx0 q299 rfl T_7 (by decide) ?_
  refine ww_iload_n C dX8_passDoor_100 rfl 1 rfl ?_
  refine ww_iconst (v := 4) C dX8_passDoor_101 (by decide) ?_
  refine ww_iadd C dX8_passDoor_102 ?_
  refine ww_iald C dX8_passDoor_103 T_7 E (fun _ E => ?_)
  refine ww_mmax C dX8_passDoor_104 q999 q590 q119 q591 (Nat.le_of_ble_eq_true rfl) (Nat.le_of_ble_eq_true rfl) (Nat.le_of_ble_eq_true rfl) (Nat.zero_le _) (Nat.zero_le _) ?_
  refine ww_iast C dX8_passDoor_107 T_5 E (fun _ E => ?_)
  refine ww_bd E (fun dy8 E => ?_)
  exact ww_vret C HR HL dX8_passDoor_108 E
end P_X8_passDoor
set_option maxHeartbeats 4000000 in
set_option maxRecDepth 100000 in
theorem M_X8_passDoor (l : Launch) (G : GG) (ad : Nat → Nat) {S : ST} (N : Nat) (hG : Good S) (a0 : Nat) (a1 : Int32) (a2 : Int32) (dy : DY) (T0 : gs S a0 = (0, 8)) {dy' : DY} (E : F_X8_passDoor S N a0 a1 a2 dy = some dy') : MC l yX8_passDoor cX8_passDoor 4 (Option.none : Option Jvm.ClassFile.FieldType) (1) G ad [.ref (ad a0), .int a1, .int a2] S dy (fun A => QV G ad A S dy') := by
  rw [F_X8_passDoor_s] at E
  refine mc_of RX8 (by decide) rfl (Nat.le_of_ble_eq_true rfl) (fun p e s m args below meth c A C HR HL => ?_)
  refine ww_sub (lv' := [(0, .ref (ad a0)), (1, .int a1), (2, .int a2)]) [0, 1, 2] rfl ?_
  refine ww_iload_n C dX8_passDoor_0 rfl 1 rfl ?_
  refine ww_if_lt (tgt := 10) C dX8_passDoor_1 (by decide) E (fun _ E => ?_) (fun _ E => ?_)
  · exact ww_vret C HR HL dX8_passDoor_10 E
  · refine ww_iload_n C dX8_passDoor_4 rfl 1 rfl ?_
    refine ww_bipush (v := 15) C dX8_passDoor_5 (by decide) ?_
    refine ww_icmp_lt (tgt := 11) C dX8_passDoor_7 (by decide) E (fun _ E => ?_) (fun _ E => ?_)
    · refine ww_iload_n C dX8_passDoor_11 rfl 1 rfl ?_
      refine ww_iconst (v := 5) C dX8_passDoor_12 (by decide) ?_
      refine ww_imul C dX8_passDoor_13 ?_
      refine ww_istore_n (lv' := [(3, .int (a1 * (5 : Int32))), (0, .ref (ad a0)), (1, .int a1), (2, .int a2)]) C dX8_passDoor_14 rfl (by decide) rfl ?_
      refine ww_aload_n C dX8_passDoor_15 rfl 1 rfl ?_
      have T_1 : gs S (gr S a0 19) = (1, 75) := hG.1 _ 8 T0 19 (by decide)
      refine ww_getr (ci := 8) (k0 := 19) C dX8_passDoor_16 rfl rfl inm8 (by decide) T0 q299 rfl T_1 (by decide) ?_
      refine ww_iload_n C dX8_passDoor_19 rfl 0 rfl ?_
      refine ww_iconst (v := 3) C dX8_passDoor_20 (by decide) ?_
      refine ww_iadd C dX8_passDoor_21 ?_
      refine ww_iald C dX8_passDoor_22 T_1 E (fun _ E => ?_)
      refine ww_iload_n C dX8_passDoor_23 rfl 3 rfl ?_
      refine ww_icmp_eq (tgt := 57) C dX8_passDoor_24 (by decide) E (fun _ E => ?_) (fun _ E => ?_)
      · refine ww_sub (lv' := [(0, .ref (ad a0)), (3, .int (a1 * (5 : Int32)))]) [1, 0] rfl ?_
        exact (B_X8_passDoor_57 C HR HL hG) a0 (a1 * (5 : Int32)) dy T0 E
      · refine ww_aload_n C dX8_passDoor_27 rfl 1 rfl ?_
        have T_2 : gs S (gr S a0 19) = (1, 75) := hG.1 _ 8 T0 19 (by decide)
        refine ww_getr (ci := 8) (k0 := 19) C dX8_passDoor_28 rfl rfl inm8 (by decide) T0 q299 rfl T_2 (by decide) ?_
        refine ww_iload_n C dX8_passDoor_31 rfl 0 rfl ?_
        refine ww_iconst (v := 3) C dX8_passDoor_32 (by decide) ?_
        refine ww_iadd C dX8_passDoor_33 ?_
        refine ww_iload_n C dX8_passDoor_34 rfl 3 rfl ?_
        refine ww_iast C dX8_passDoor_35 T_2 E (fun _ E => ?_)
        refine ww_bd E (fun dy3 E => ?_)
        refine ww_aload_n C dX8_passDoor_36 rfl 1 rfl ?_
        have T_4 : gs S (gr S a0 19) = (1, 75) := hG.1 _ 8 T0 19 (by decide)
        refine ww_getr (ci := 8) (k0 := 19) C dX8_passDoor_37 rfl rfl inm8 (by decide) T0 q299 rfl T_4 (by decide) ?_
        refine ww_iload_n C dX8_passDoor_40 rfl 0 rfl ?_
        refine ww_iconst (v := 4) C dX8_passDoor_41 (by decide) ?_
        refine ww_iadd C dX8_passDoor_42 ?_
        refine ww_iconst (v := 0) C dX8_passDoor_43 (by decide) ?_
        refine ww_iast C dX8_passDoor_44 T_4 E (fun _ E => ?_)
        refine ww_bd E (fun dy5 E => ?_)
        refine ww_aload_n C dX8_passDoor_45 rfl 1 rfl ?_
        have T_6 : gs S (gr S a0 19) = (1, 75) := hG.1 _ 8 T0 19 (by decide)
        refine ww_getr (ci := 8) (k0 := 19) C dX8_passDoor_46 rfl rfl inm8 (by decide) T0 q299 rfl T_6 (by decide) ?_
        refine ww_iload_n C dX8_passDoor_49 rfl 0 rfl ?_
        refine ww_iconst (v := 0) C dX8_passDoor_50 (by decide) ?_
        refine ww_iadd C dX8_passDoor_51 ?_
        refine ww_dup2 C dX8_passDoor_52 rfl rfl ?_
        refine ww_iald C dX8_passDoor_53 T_6 E (fun _ E => ?_)
        refine ww_iconst (v := 1) C dX8_passDoor_54 (by decide) ?_
        refine ww_iadd C dX8_passDoor_55 ?_
        refine ww_iast C dX8_passDoor_56 T_6 E (fun _ E => ?_)
        refine ww_bd E (fun dy7 E => ?_)
        refine ww_sub (lv' := [(0, .ref (ad a0)), (3, .int (a1 * (5 : Int32)))]) [1, 0] rfl ?_
        exact (B_X8_passDoor_57 C HR HL hG) a0 (a1 * (5 : Int32)) dy7 T0 E
    · exact ww_vret C HR HL dX8_passDoor_10 E
section P_X8_whoIsOn
variable {p : Program} {l : Launch} {e : Env} {s : State} {m : MethodId} {args : Array Value} {below : List Frame} {meth : Method} {c : Code} {G : GG} {A : Nat → Prop} {ad : Nat → Nat} {S : ST} {N : Nat} {r : Int32} {dy' : DY}
set_option maxHeartbeats 4000000 in
set_option maxRecDepth 100000 in
theorem B_X8_whoIsOn_2 (C : CX p s m args c cX8_whoIsOn 4 RX8 G A) (HR : meth.sig.returnType = (Option.some Jvm.ClassFile.FieldType.int)) (HL : meth.locks = false) (hG : Good S) : ∀ k : Nat, ∀ (x0 : Nat) (x1 : Int32) (x2 : Int32) (x3 : Int32) (dy : DY), gs S x0 = (0, 8) → (F_X8_whoIsOn_2 S N k) x0 x1 x2 x3 dy = some (r, dy') → WJ p l e (rmD (1)) s m args below meth c 4 G A 0 0 (MQ below (QI G ad A S r dy') args s 0 0 A) ad 2 [(0, .ref (ad x0)), (1, .int x1), (2, .int x2), (3, .int x3)] [] S dy := by
  intro k
  induction k with
  | zero => exact fun _ _ _ _ _ _ E => nomatch (show none = some (r, dy') from E)
  | succ k ih =>
    intro x0 x1 x2 x3 dy Tx0 E
    rw [F_X8_whoIsOn_2_s] at E
    refine ww_iload_n C dX8_whoIsOn_2 rfl 3 rfl ?_
    refine ww_aload_n C dX8_whoIsOn_3 rfl 0 rfl ?_
    have T_1 : gs S (gr S x0 0) = (0, 4) := hG.1 _ 8 Tx0 0 (by decide)
    refine ww_getr (ci := 8) (k0 := 0) C dX8_whoIsOn_4 rfl rfl inm8 (by decide) Tx0 q261 rfl T_1 (by decide) ?_
    refine ww_geti (ci := 4) (k0 := 3) C dX8_whoIsOn_7 rfl rfl inm4 (by decide) T_1 q162 rfl ?_
    refine ww_icmp_ge (tgt := 46) C dX8_whoIsOn_10 (by decide) E (fun _ E => ?_) (fun _ E => ?_)
    · refine ww_iconst (v := (-1)) C dX8_whoIsOn_46 (by decide) ?_
      exact ww_iret C HR HL dX8_whoIsOn_47 E
    · refine ww_aload_n C dX8_whoIsOn_13 rfl 0 rfl ?_
      have T_2 : gs S (gr S x0 9) = (1, 48) := hG.1 _ 8 Tx0 9 (by decide)
      refine ww_getr (ci := 8) (k0 := 9) C dX8_whoIsOn_14 rfl rfl inm8 (by decide) Tx0 q277 rfl T_2 (by decide) ?_
      refine ww_iload_n C dX8_whoIsOn_17 rfl 3 rfl ?_
      refine ww_iald C dX8_whoIsOn_18 T_2 E (fun _ E => ?_)
      refine ww_iload_n C dX8_whoIsOn_19 rfl 1 rfl ?_
      refine ww_icmp_ne (tgt := 40) C dX8_whoIsOn_20 (by decide) E (fun _ E => ?_) (fun _ E => ?_)
      · refine ww_iinc (v := (x3 + (1 : Int32))) (lv' := [(3, .int (x3 + (1 : Int32))), (0, .ref (ad x0)), (1, .int x1), (2, .int x2)]) C dX8_whoIsOn_40 3 rfl rfl (by decide) rfl ?_
        refine ww_goto (tgt := 2) C dX8_whoIsOn_43 (by decide) ?_
        refine ww_sub (lv' := [(0, .ref (ad x0)), (1, .int x1), (2, .int x2), (3, .int (x3 + (1 : Int32)))]) [1, 2, 3, 0] rfl ?_
        exact ih x0 x1 x2 (x3 + (1 : Int32)) dy Tx0 E
      · refine ww_aload_n C dX8_whoIsOn_23 rfl 0 rfl ?_
        have T_3 : gs S (gr S x0 10) = (1, 48) := hG.1 _ 8 Tx0 10 (by decide)
        refine ww_getr (ci := 8) (k0 := 10) C dX8_whoIsOn_24 rfl rfl inm8 (by decide) Tx0 q280 rfl T_3 (by decide) ?_
        refine ww_iload_n C dX8_whoIsOn_27 rfl 3 rfl ?_
        refine ww_iald C dX8_whoIsOn_28 T_3 E (fun _ E => ?_)
        refine ww_iload_n C dX8_whoIsOn_29 rfl 2 rfl ?_
        refine ww_icmp_ne (tgt := 40) C dX8_whoIsOn_30 (by decide) E (fun _ E => ?_) (fun _ E => ?_)
        · refine ww_iinc (v := (x3 + (1 : Int32))) (lv' := [(3, .int (x3 + (1 : Int32))), (0, .ref (ad x0)), (1, .int x1), (2, .int x2)]) C dX8_whoIsOn_40 3 rfl rfl (by decide) rfl ?_
          refine ww_goto (tgt := 2) C dX8_whoIsOn_43 (by decide) ?_
          refine ww_sub (lv' := [(0, .ref (ad x0)), (1, .int x1), (2, .int x2), (3, .int (x3 + (1 : Int32)))]) [1, 2, 3, 0] rfl ?_
          exact ih x0 x1 x2 (x3 + (1 : Int32)) dy Tx0 E
        · refine ww_iload_n C dX8_whoIsOn_33 rfl 1 rfl ?_
          refine ww_iconst (v := (-1)) C dX8_whoIsOn_34 (by decide) ?_
          refine ww_icmp_eq (tgt := 40) C dX8_whoIsOn_35 (by decide) E (fun _ E => ?_) (fun _ E => ?_)
          · refine ww_iinc (v := (x3 + (1 : Int32))) (lv' := [(3, .int (x3 + (1 : Int32))), (0, .ref (ad x0)), (1, .int x1), (2, .int x2)]) C dX8_whoIsOn_40 3 rfl rfl (by decide) rfl ?_
            refine ww_goto (tgt := 2) C dX8_whoIsOn_43 (by decide) ?_
            refine ww_sub (lv' := [(0, .ref (ad x0)), (1, .int x1), (2, .int x2), (3, .int (x3 + (1 : Int32)))]) [1, 2, 3, 0] rfl ?_
            exact ih x0 x1 x2 (x3 + (1 : Int32)) dy Tx0 E
          · refine ww_iload_n C dX8_whoIsOn_38 rfl 3 rfl ?_
            exact ww_iret C HR HL dX8_whoIsOn_39 E
end P_X8_whoIsOn
set_option maxHeartbeats 4000000 in
set_option maxRecDepth 100000 in
theorem M_X8_whoIsOn (l : Launch) (G : GG) (ad : Nat → Nat) {S : ST} (N : Nat) (hG : Good S) (a0 : Nat) (a1 : Int32) (a2 : Int32) (dy : DY) (T0 : gs S a0 = (0, 8)) {r : Int32} {dy' : DY} (E : F_X8_whoIsOn S N a0 a1 a2 dy = some (r, dy')) : MC l yX8_whoIsOn cX8_whoIsOn 4 (Option.some Jvm.ClassFile.FieldType.int) (1) G ad [.ref (ad a0), .int a1, .int a2] S dy (fun A => QI G ad A S r dy') := by
  rw [F_X8_whoIsOn_s] at E
  refine mc_of RX8 (by decide) rfl (Nat.le_of_ble_eq_true rfl) (fun p e s m args below meth c A C HR HL => ?_)
  refine ww_sub (lv' := [(0, .ref (ad a0)), (1, .int a1), (2, .int a2)]) [0, 1, 2] rfl ?_
  refine ww_iconst (v := 0) C dX8_whoIsOn_0 (by decide) ?_
  refine ww_istore_n (lv' := [(3, .int (0 : Int32)), (0, .ref (ad a0)), (1, .int a1), (2, .int a2)]) C dX8_whoIsOn_1 rfl (by decide) rfl ?_
  refine ww_sub (lv' := [(0, .ref (ad a0)), (1, .int a1), (2, .int a2), (3, .int (0 : Int32))]) [1, 2, 3, 0] rfl ?_
  exact (B_X8_whoIsOn_2 C HR HL hG N) a0 a1 a2 (0 : Int32) dy T0 E
section P_X8_goes
variable {p : Program} {l : Launch} {e : Env} {s : State} {m : MethodId} {args : Array Value} {below : List Frame} {meth : Method} {c : Code} {G : GG} {A : Nat → Prop} {ad : Nat → Nat} {S : ST} {N : Nat} {r : Int32} {dy' : DY}
set_option maxHeartbeats 4000000 in
set_option maxRecDepth 100000 in
theorem B_X8_goes_201 (C : CX p s m args c cX8_goes 9 RX8 G A) (HR : meth.sig.returnType = (Option.some Jvm.ClassFile.FieldType.boolean)) (HL : meth.locks = false) (hG : Good S) : ∀ (x0 : Nat) (x1 : Int32) (dy : DY), gs S x0 = (0, 8) → F_X8_goes_201 S N x0 x1 dy = some (r, dy') → WJ p l e (rmD (3)) s m args below meth c 9 G A 0 0 (MQ below (QI G ad A S r dy') args s 0 0 A) ad 201 [(0, .ref (ad x0)), (1, .int x1)] [] S dy := by
  intro x0 x1 dy Tx0 E
  rw [F_X8_goes_201_s] at E
  refine ww_aload_n C dX8_goes_201 rfl 0 rfl ?_
  have T_1 : gs S (gr S x0 14) = (1, 12) := hG.1 _ 8 Tx0 14 (by decide)
  refine ww_getr (ci := 8) (k0 := 14) C dX8_goes_202 rfl rfl inm8 (by decide) Tx0 q289 rfl T_1 (by decide) ?_
  refine ww_iload_n C dX8_goes_205 rfl 1 rfl ?_
  refine ww_dup2 C dX8_goes_206 rfl rfl ?_
  refine ww_iald C dX8_goes_207 T_1 E (fun _ E => ?_)
  refine ww_iconst (v := 1) C dX8_goes_208 (by decide) ?_
  refine ww_iadd C dX8_goes_209 ?_
  refine ww_iast C dX8_goes_210 T_1 E (fun _ E => ?_)
  refine ww_bd E (fun dy2 E => ?_)
  refine ww_iconst (v := 0) C dX8_goes_211 (by decide) ?_
  exact ww_zret C HR HL dX8_goes_212 (Or.inl rfl) E
set_option maxHeartbeats 4000000 in
set_option maxRecDepth 100000 in
theorem B_X8_goes_247 (C : CX p s m args c cX8_goes 9 RX8 G A) (HR : meth.sig.returnType = (Option.some Jvm.ClassFile.FieldType.boolean)) (HL : meth.locks = false) (hG : Good S) : ∀ (x0 : Nat) (x1 : Int32) (x5 : Int32) (x7 : Int32) (dy : DY), gs S x0 = (0, 8) → F_X8_goes_247 S N x0 x1 x5 x7 dy = some (r, dy') → WJ p l e (rmD (3)) s m args below meth c 9 G A 0 0 (MQ below (QI G ad A S r dy') args s 0 0 A) ad 247 [(0, .ref (ad x0)), (1, .int x1), (5, .int x5), (7, .int x7)] [] S dy := by
  intro x0 x1 x5 x7 dy Tx0 E
  rw [F_X8_goes_247_s] at E
  refine ww_aload_n C dX8_goes_247 rfl 0 rfl ?_
  have T_1 : gs S (gr S x0 9) = (1, 48) := hG.1 _ 8 Tx0 9 (by decide)
  refine ww_getr (ci := 8) (k0 := 9) C dX8_goes_248 rfl rfl inm8 (by decide) Tx0 q277 rfl T_1 (by decide) ?_
  refine ww_iload_n C dX8_goes_251 rfl 1 rfl ?_
  refine ww_iload C dX8_goes_252 2 rfl ?_
  refine ww_iast C dX8_goes_254 T_1 E (fun _ E => ?_)
  refine ww_bd E (fun dy2 E => ?_)
  refine ww_aload_n C dX8_goes_255 rfl 0 rfl ?_
  have T_3 : gs S (gr S x0 10) = (1, 48) := hG.1 _ 8 Tx0 10 (by decide)
  refine ww_getr (ci := 8) (k0 := 10) C dX8_goes_256 rfl rfl inm8 (by decide) Tx0 q280 rfl T_3 (by decide) ?_
  refine ww_iload_n C dX8_goes_259 rfl 1 rfl ?_
  refine ww_iload C dX8_goes_260 3 rfl ?_
  refine ww_iast C dX8_goes_262 T_3 E (fun _ E => ?_)
  refine ww_bd E (fun dy4 E => ?_)
  refine ww_iconst (v := 1) C dX8_goes_263 (by decide) ?_
  exact ww_zret C HR HL dX8_goes_264 (Or.inr rfl) E
set_option maxHeartbeats 4000000 in
set_option maxRecDepth 100000 in
theorem B_X8_goes_170 (C : CX p s m args c cX8_goes 9 RX8 G A) (HR : meth.sig.returnType = (Option.some Jvm.ClassFile.FieldType.boolean)) (HL : meth.locks = false) (hG : Good S) : ∀ (x0 : Nat) (x1 : Int32) (x2 : Int32) (x4 : Int32) (x5 : Int32) (x7 : Int32) (x8 : Int32) (dy : DY), gs S x0 = (0, 8) → F_X8_goes_170 S N x0 x1 x2 x4 x5 x7 x8 dy = some (r, dy') → WJ p l e (rmD (3)) s m args below meth c 9 G A 0 0 (MQ below (QI G ad A S r dy') args s 0 0 A) ad 170 [(0, .ref (ad x0)), (1, .int x1), (2, .int x2), (4, .int x4), (5, .int x5), (7, .int x7), (8, .int x8)] [] S dy := by
  intro x0 x1 x2 x4 x5 x7 x8 dy Tx0 E
  rw [F_X8_goes_170_s] at E
  refine ww_iload C dX8_goes_170 6 rfl ?_
  refine ww_if_ne (tgt := 201) C dX8_goes_172 (by decide) E (fun _ E => ?_) (fun _ E => ?_)
  · refine ww_sub (lv' := [(0, .ref (ad x0)), (1, .int x1)]) [0, 1] rfl ?_
    exact (B_X8_goes_201 C HR HL hG) x0 x1 dy Tx0 E
  · refine ww_aload_n C dX8_goes_175 rfl 0 rfl ?_
    have T_1 : gs S (gr S x0 0) = (0, 4) := hG.1 _ 8 Tx0 0 (by decide)
    refine ww_getr (ci := 8) (k0 := 0) C dX8_goes_176 rfl rfl inm8 (by decide) Tx0 q261 rfl T_1 (by decide) ?_
    refine ww_iload C dX8_goes_179 4 rfl ?_
    refine ww_iload C dX8_goes_181 5 rfl ?_
    obtain ⟨u2, e_3, E⟩ := bind_of E
    refine ww_callI C (runs_V (n := 2) (st := []) C [.int x5, .int x7] (M_X4_isWall l G ad N hG (gr S x0 0) x5 x7 dy T_1 e_3) ⟨q727, q110, by decide⟩ q990 q725 q726 (ci := 4) rfl T_1 rfl (Nat.le_of_ble_eq_true rfl) ⟨Nat.le_of_ble_eq_true rfl, Nat.le_of_ble_eq_true rfl⟩ ⟨Nat.zero_le _, Nat.zero_le _⟩ dX8_goes_183 rfl) ?_
    refine ww_if_ne (tgt := 201) C dX8_goes_186 (by decide) E (fun _ E => ?_) (fun _ E => ?_)
    · refine ww_sub (lv' := [(0, .ref (ad x0)), (1, .int x1)]) [0, 1] rfl ?_
      exact (B_X8_goes_201 C HR HL hG) x0 x1 u2.2 Tx0 E
    · refine ww_aload_n C dX8_goes_189 rfl 0 rfl ?_
      refine ww_iload C dX8_goes_190 4 rfl ?_
      refine ww_iload C dX8_goes_192 5 rfl ?_
      obtain ⟨u4, e_5, E⟩ := bind_of E
      refine ww_callI C (runs_V (n := 2) (st := []) C [.int x5, .int x7] (M_X8_whoIsOn l G ad N hG x0 x5 x7 u2.2 Tx0 e_5) ⟨q994, q112, by decide⟩ q991 q992 q993 (ci := 8) rfl Tx0 rfl (Nat.le_of_ble_eq_true rfl) ⟨Nat.le_of_ble_eq_true rfl, Nat.le_of_ble_eq_true rfl⟩ ⟨Nat.zero_le _, Nat.zero_le _⟩ dX8_goes_194 rfl) ?_
      refine ww_iconst (v := (-1)) C dX8_goes_197 (by decide) ?_
      refine ww_icmp_eq (tgt := 213) C dX8_goes_198 (by decide) E (fun _ E => ?_) (fun _ E => ?_)
      · refine ww_iload C dX8_goes_213 3 rfl ?_
        refine ww_if_eq (tgt := 237) C dX8_goes_215 (by decide) E (fun _ E => ?_) (fun _ E => ?_)
        · refine ww_aload_n C dX8_goes_237 rfl 0 rfl ?_
          have T_6 : gs S (gr S x0 13) = (1, 12) := hG.1 _ 8 Tx0 13 (by decide)
          refine ww_getr (ci := 8) (k0 := 13) C dX8_goes_238 rfl rfl inm8 (by decide) Tx0 q287 rfl T_6 (by decide) ?_
          refine ww_iload_n C dX8_goes_241 rfl 1 rfl ?_
          refine ww_dup2 C dX8_goes_242 rfl rfl ?_
          refine ww_iald C dX8_goes_243 T_6 E (fun _ E => ?_)
          refine ww_iconst (v := 1) C dX8_goes_244 (by decide) ?_
          refine ww_iadd C dX8_goes_245 ?_
          refine ww_iast C dX8_goes_246 T_6 E (fun _ E => ?_)
          refine ww_bd E (fun dy7 E => ?_)
          refine ww_sub (lv' := [(0, .ref (ad x0)), (1, .int x1), (5, .int x5), (7, .int x7)]) [0, 1, 4, 5] rfl ?_
          exact (B_X8_goes_247 C HR HL hG) x0 x1 x5 x7 dy7 Tx0 E
        · refine ww_aload_n C dX8_goes_218 rfl 0 rfl ?_
          refine ww_iload C dX8_goes_219 4 rfl ?_
          refine ww_aload_n C dX8_goes_221 rfl 0 rfl ?_
          have T_8 : gs S (gr S x0 9) = (1, 48) := hG.1 _ 8 Tx0 9 (by decide)
          refine ww_getr (ci := 8) (k0 := 9) C dX8_goes_222 rfl rfl inm8 (by decide) Tx0 q277 rfl T_8 (by decide) ?_
          refine ww_iload_n C dX8_goes_225 rfl 1 rfl ?_
          refine ww_iald C dX8_goes_226 T_8 E (fun _ E => ?_)
          refine ww_mmin C dX8_goes_227 q944 q587 q119 q588 (Nat.le_of_ble_eq_true rfl) (Nat.le_of_ble_eq_true rfl) (Nat.le_of_ble_eq_true rfl) (Nat.zero_le _) (Nat.zero_le _) ?_
          refine ww_iload_n C dX8_goes_230 rfl 2 rfl ?_
          obtain ⟨u9, e_10, E⟩ := bind_of E
          refine ww_callV C (runs_V (n := 2) (st := []) C [.int (if (gi u4.2 (gr S x0 9) x1.toNatClampNeg) < x5 then (gi u4.2 (gr S x0 9) x1.toNatClampNeg) else x5), .int x2] (M_X8_passDoor l G ad N hG x0 (if (gi u4.2 (gr S x0 9) x1.toNatClampNeg) < x5 then (gi u4.2 (gr S x0 9) x1.toNatClampNeg) else x5) x2 u4.2 Tx0 e_10) ⟨q998, q112, by decide⟩ q995 q997 q23 (ci := 8) rfl Tx0 rfl (Nat.le_of_ble_eq_true rfl) ⟨Nat.le_of_ble_eq_true rfl, Nat.le_of_ble_eq_true rfl⟩ ⟨Nat.zero_le _, Nat.zero_le _⟩ dX8_goes_231 rfl) ?_
          refine ww_goto (tgt := 247) C dX8_goes_234 (by decide) ?_
          refine ww_sub (lv' := [(0, .ref (ad x0)), (1, .int x1), (5, .int x5), (7, .int x7)]) [0, 1, 4, 5] rfl ?_
          exact (B_X8_goes_247 C HR HL hG) x0 x1 x5 x7 u9 Tx0 E
      · refine ww_sub (lv' := [(0, .ref (ad x0)), (1, .int x1)]) [0, 1] rfl ?_
        exact (B_X8_goes_201 C HR HL hG) x0 x1 u4.2 Tx0 E
set_option maxHeartbeats 4000000 in
set_option maxRecDepth 100000 in
theorem B_X8_goes_151 (C : CX p s m args c cX8_goes 9 RX8 G A) (HR : meth.sig.returnType = (Option.some Jvm.ClassFile.FieldType.boolean)) (HL : meth.locks = false) (hG : Good S) : ∀ (x0 : Nat) (x1 : Int32) (x2 : Int32) (x4 : Int32) (x5 : Int32) (x7 : Int32) (y0 : Int32) (dy : DY), gs S x0 = (0, 8) → F_X8_goes_151 S N x0 x1 x2 x4 x5 x7 y0 dy = some (r, dy') → WJ p l e (rmD (3)) s m args below meth c 9 G A 0 0 (MQ below (QI G ad A S r dy') args s 0 0 A) ad 151 [(0, .ref (ad x0)), (1, .int x1), (2, .int x2), (4, .int x4), (5, .int x5), (7, .int x7)] [.int y0] S dy := by
  intro x0 x1 x2 x4 x5 x7 y0 dy Tx0 E
  rw [F_X8_goes_151_s] at E
  refine ww_istore (lv' := [(8, .int y0), (0, .ref (ad x0)), (1, .int x1), (2, .int x2), (4, .int x4), (5, .int x5), (7, .int x7)]) C dX8_goes_151 (by decide) rfl ?_
  refine ww_iload C dX8_goes_153 4 rfl ?_
  refine ww_if_eq (tgt := 170) C dX8_goes_155 (by decide) E (fun _ E => ?_) (fun _ E => ?_)
  · refine ww_sub (lv' := [(0, .ref (ad x0)), (1, .int x1), (2, .int x2), (4, .int x4), (5, .int x5), (7, .int x7), (8, .int y0)]) [1, 2, 3, 4, 5, 6, 0] rfl ?_
    exact (B_X8_goes_170 C HR HL hG) x0 x1 x2 x4 x5 x7 y0 dy Tx0 E
  · refine ww_iload C dX8_goes_158 0 rfl ?_
    refine ww_if_eq (tgt := 170) C dX8_goes_160 (by decide) E (fun _ E => ?_) (fun _ E => ?_)
    · refine ww_sub (lv' := [(0, .ref (ad x0)), (1, .int x1), (2, .int x2), (4, .int x4), (5, .int x5), (7, .int x7), (8, .int y0)]) [1, 2, 3, 4, 5, 6, 0] rfl ?_
      exact (B_X8_goes_170 C HR HL hG) x0 x1 x2 x4 x5 x7 y0 dy Tx0 E
    · refine ww_aload_n C dX8_goes_163 rfl 1 rfl ?_
      refine ww_iload_n C dX8_goes_164 rfl 2 rfl ?_
      obtain ⟨u1, e_2, E⟩ := bind_of E
      refine ww_callV C (runs_V (n := 1) (st := []) C [.int x1] (M_X8_arrive l G ad N hG x0 x1 dy Tx0 e_2) ⟨q989, q112, by decide⟩ q986 q988 q22 (ci := 8) rfl Tx0 rfl (Nat.le_of_ble_eq_true rfl) ⟨Nat.le_of_ble_eq_true rfl, Nat.le_of_ble_eq_true rfl⟩ ⟨Nat.zero_le _, Nat.zero_le _⟩ dX8_goes_165 rfl) ?_
      refine ww_iconst (v := 1) C dX8_goes_168 (by decide) ?_
      exact ww_zret C HR HL dX8_goes_169 (Or.inr rfl) E
set_option maxHeartbeats 4000000 in
set_option maxRecDepth 100000 in
theorem B_X8_goes_130 (C : CX p s m args c cX8_goes 9 RX8 G A) (HR : meth.sig.returnType = (Option.some Jvm.ClassFile.FieldType.boolean)) (HL : meth.locks = false) (hG : Good S) : ∀ (x0 : Nat) (x1 : Int32) (x2 : Int32) (x4 : Int32) (x5 : Int32) (y0 : Int32) (dy : DY), gs S x0 = (0, 8) → F_X8_goes_130 S N x0 x1 x2 x4 x5 y0 dy = some (r, dy') → WJ p l e (rmD (3)) s m args below meth c 9 G A 0 0 (MQ below (QI G ad A S r dy') args s 0 0 A) ad 130 [(0, .ref (ad x0)), (1, .int x1), (2, .int x2), (4, .int x4), (5, .int x5)] [.int y0] S dy := by
  intro x0 x1 x2 x4 x5 y0 dy Tx0 E
  rw [F_X8_goes_130_s] at E
  refine ww_istore (lv' := [(7, .int y0), (0, .ref (ad x0)), (1, .int x1), (2, .int x2), (4, .int x4), (5, .int x5)]) C dX8_goes_130 (by decide) rfl ?_
  refine ww_aload_n C dX8_goes_132 rfl 1 rfl ?_
  have T_1 : gs S (gr S x0 0) = (0, 4) := hG.1 _ 8 Tx0 0 (by decide)
  refine ww_getr (ci := 8) (k0 := 0) C dX8_goes_133 rfl rfl inm8 (by decide) Tx0 q261 rfl T_1 (by decide) ?_
  refine ww_iload C dX8_goes_136 5 rfl ?_
  refine ww_iload C dX8_goes_138 0 rfl ?_
  obtain ⟨u2, e_3, E⟩ := bind_of E
  refine ww_callI C (runs_V (n := 2) (st := []) C [.int x5, .int y0] (M_X4_isInside l G ad N hG (gr S x0 0) x5 y0 dy T_1 e_3) ⟨q731, q110, by decide⟩ q985 q729 q730 (ci := 4) rfl T_1 rfl (Nat.le_of_ble_eq_true rfl) ⟨Nat.le_of_ble_eq_true rfl, Nat.le_of_ble_eq_true rfl⟩ ⟨Nat.zero_le _, Nat.zero_le _⟩ dX8_goes_140 rfl) ?_
  refine ww_if_ne (tgt := 150) C dX8_goes_143 (by decide) E (fun _ E => ?_) (fun _ E => ?_)
  · refine ww_iconst (v := 0) C dX8_goes_150 (by decide) ?_
    refine ww_sub (lv' := [(0, .ref (ad x0)), (1, .int x1), (2, .int x2), (4, .int x4), (5, .int x5), (7, .int y0)]) [1, 2, 3, 4, 5, 0] rfl ?_
    exact (B_X8_goes_151 C HR HL hG) x0 x1 x2 x4 x5 y0 (0 : Int32) u2.2 Tx0 E
  · refine ww_iconst (v := 1) C dX8_goes_146 (by decide) ?_
    refine ww_goto (tgt := 151) C dX8_goes_147 (by decide) ?_
    refine ww_sub (lv' := [(0, .ref (ad x0)), (1, .int x1), (2, .int x2), (4, .int x4), (5, .int x5), (7, .int y0)]) [1, 2, 3, 4, 5, 0] rfl ?_
    exact (B_X8_goes_151 C HR HL hG) x0 x1 x2 x4 x5 y0 (1 : Int32) u2.2 Tx0 E
set_option maxHeartbeats 4000000 in
set_option maxRecDepth 100000 in
theorem B_X8_goes_105 (C : CX p s m args c cX8_goes 9 RX8 G A) (HR : meth.sig.returnType = (Option.some Jvm.ClassFile.FieldType.boolean)) (HL : meth.locks = false) (hG : Good S) : ∀ (x0 : Nat) (x1 : Int32) (x2 : Int32) (x4 : Int32) (x5 : Int32) (y0 : Int32) (dy : DY), gs S x0 = (0, 8) → F_X8_goes_105 S N x0 x1 x2 x4 x5 y0 dy = some (r, dy') → WJ p l e (rmD (3)) s m args below meth c 9 G A 0 0 (MQ below (QI G ad A S r dy') args s 0 0 A) ad 105 [(0, .ref (ad x0)), (1, .int x1), (2, .int x2), (4, .int x4), (5, .int x5)] [.int y0] S dy := by
  intro x0 x1 x2 x4 x5 y0 dy Tx0 E
  rw [F_X8_goes_105_s] at E
  refine ww_istore (lv' := [(6, .int y0), (0, .ref (ad x0)), (1, .int x1), (2, .int x2), (4, .int x4), (5, .int x5)]) C dX8_goes_105 (by decide) rfl ?_
  refine ww_iload C dX8_goes_107 4 rfl ?_
  refine ww_if_eq (tgt := 121) C dX8_goes_109 (by decide) E (fun _ E => ?_) (fun _ E => ?_)
  · refine ww_aload_n C dX8_goes_121 rfl 1 rfl ?_
    have T_1 : gs S (gr S x0 10) = (1, 48) := hG.1 _ 8 Tx0 10 (by decide)
    refine ww_getr (ci := 8) (k0 := 10) C dX8_goes_122 rfl rfl inm8 (by decide) Tx0 q280 rfl T_1 (by decide) ?_
    refine ww_iload_n C dX8_goes_125 rfl 2 rfl ?_
    refine ww_iald C dX8_goes_126 T_1 E (fun _ E => ?_)
    refine ww_iload C dX8_goes_127 0 rfl ?_
    refine ww_iadd C dX8_goes_129 ?_
    refine ww_sub (lv' := [(0, .ref (ad x0)), (1, .int x1), (2, .int x2), (4, .int x4), (5, .int x5)]) [1, 2, 3, 4, 5] rfl ?_
    exact (B_X8_goes_130 C HR HL hG) x0 x1 x2 x4 x5 ((gi dy (gr S x0 10) x1.toNatClampNeg) + y0) dy Tx0 E
  · refine ww_aload_n C dX8_goes_112 rfl 1 rfl ?_
    have T_2 : gs S (gr S x0 10) = (1, 48) := hG.1 _ 8 Tx0 10 (by decide)
    refine ww_getr (ci := 8) (k0 := 10) C dX8_goes_113 rfl rfl inm8 (by decide) Tx0 q280 rfl T_2 (by decide) ?_
    refine ww_iload_n C dX8_goes_116 rfl 2 rfl ?_
    refine ww_iald C dX8_goes_117 T_2 E (fun _ E => ?_)
    refine ww_goto (tgt := 130) C dX8_goes_118 (by decide) ?_
    refine ww_sub (lv' := [(0, .ref (ad x0)), (1, .int x1), (2, .int x2), (4, .int x4), (5, .int x5)]) [1, 2, 3, 4, 5] rfl ?_
    exact (B_X8_goes_130 C HR HL hG) x0 x1 x2 x4 x5 (gi dy (gr S x0 10) x1.toNatClampNeg) dy Tx0 E
set_option maxHeartbeats 4000000 in
set_option maxRecDepth 100000 in
theorem B_X8_goes_92 (C : CX p s m args c cX8_goes 9 RX8 G A) (HR : meth.sig.returnType = (Option.some Jvm.ClassFile.FieldType.boolean)) (HL : meth.locks = false) (hG : Good S) : ∀ (x0 : Nat) (x1 : Int32) (x2 : Int32) (x3 : Int32) (x4 : Int32) (y0 : Int32) (dy : DY), gs S x0 = (0, 8) → F_X8_goes_92 S N x0 x1 x2 x3 x4 y0 dy = some (r, dy') → WJ p l e (rmD (3)) s m args below meth c 9 G A 0 0 (MQ below (QI G ad A S r dy') args s 0 0 A) ad 92 [(0, .ref (ad x0)), (1, .int x1), (2, .int x2), (3, .int x3), (4, .int x4)] [.int y0] S dy := by
  intro x0 x1 x2 x3 x4 y0 dy Tx0 E
  rw [F_X8_goes_92_s] at E
  refine ww_istore (lv' := [(5, .int y0), (0, .ref (ad x0)), (1, .int x1), (2, .int x2), (3, .int x3), (4, .int x4)]) C dX8_goes_92 (by decide) rfl ?_
  refine ww_iload_n C dX8_goes_94 rfl 4 rfl ?_
  refine ww_iconst (v := 1) C dX8_goes_95 (by decide) ?_
  refine ww_icmp_ne (tgt := 103) C dX8_goes_96 (by decide) E (fun _ E => ?_) (fun _ E => ?_)
  · refine ww_iload_n C dX8_goes_103 rfl 3 rfl ?_
    refine ww_ineg C dX8_goes_104 ?_
    refine ww_sub (lv' := [(0, .ref (ad x0)), (1, .int x1), (2, .int x2), (4, .int x4), (5, .int y0)]) [1, 2, 3, 5, 0] rfl ?_
    exact (B_X8_goes_105 C HR HL hG) x0 x1 x2 x4 y0 (-x2) dy Tx0 E
  · refine ww_iload_n C dX8_goes_99 rfl 3 rfl ?_
    refine ww_goto (tgt := 105) C dX8_goes_100 (by decide) ?_
    refine ww_sub (lv' := [(0, .ref (ad x0)), (1, .int x1), (2, .int x2), (4, .int x4), (5, .int y0)]) [1, 2, 3, 5, 0] rfl ?_
    exact (B_X8_goes_105 C HR HL hG) x0 x1 x2 x4 y0 x2 dy Tx0 E
set_option maxHeartbeats 4000000 in
set_option maxRecDepth 100000 in
theorem B_X8_goes_68 (C : CX p s m args c cX8_goes 9 RX8 G A) (HR : meth.sig.returnType = (Option.some Jvm.ClassFile.FieldType.boolean)) (HL : meth.locks = false) (hG : Good S) : ∀ (x0 : Nat) (x1 : Int32) (x2 : Int32) (x3 : Int32) (y0 : Int32) (dy : DY), gs S x0 = (0, 8) → F_X8_goes_68 S N x0 x1 x2 x3 y0 dy = some (r, dy') → WJ p l e (rmD (3)) s m args below meth c 9 G A 0 0 (MQ below (QI G ad A S r dy') args s 0 0 A) ad 68 [(0, .ref (ad x0)), (1, .int x1), (2, .int x2), (3, .int x3)] [.int y0] S dy := by
  intro x0 x1 x2 x3 y0 dy Tx0 E
  rw [F_X8_goes_68_s] at E
  refine ww_istore (lv' := [(4, .int y0), (0, .ref (ad x0)), (1, .int x1), (2, .int x2), (3, .int x3)]) C dX8_goes_68 (by decide) rfl ?_
  refine ww_iload C dX8_goes_70 0 rfl ?_
  refine ww_if_eq (tgt := 86) C dX8_goes_72 (by decide) E (fun _ E => ?_) (fun _ E => ?_)
  · refine ww_aload_n C dX8_goes_86 rfl 1 rfl ?_
    have T_1 : gs S (gr S x0 9) = (1, 48) := hG.1 _ 8 Tx0 9 (by decide)
    refine ww_getr (ci := 8) (k0 := 9) C dX8_goes_87 rfl rfl inm8 (by decide) Tx0 q277 rfl T_1 (by decide) ?_
    refine ww_iload_n C dX8_goes_90 rfl 2 rfl ?_
    refine ww_iald C dX8_goes_91 T_1 E (fun _ E => ?_)
    refine ww_sub (lv' := [(0, .ref (ad x0)), (1, .int x1), (2, .int x2), (3, .int x3), (4, .int y0)]) [1, 2, 3, 4, 0] rfl ?_
    exact (B_X8_goes_92 C HR HL hG) x0 x1 x2 x3 y0 (gi dy (gr S x0 9) x1.toNatClampNeg) dy Tx0 E
  · refine ww_aload_n C dX8_goes_75 rfl 1 rfl ?_
    have T_2 : gs S (gr S x0 9) = (1, 48) := hG.1 _ 8 Tx0 9 (by decide)
    refine ww_getr (ci := 8) (k0 := 9) C dX8_goes_76 rfl rfl inm8 (by decide) Tx0 q277 rfl T_2 (by decide) ?_
    refine ww_iload_n C dX8_goes_79 rfl 2 rfl ?_
    refine ww_iald C dX8_goes_80 T_2 E (fun _ E => ?_)
    refine ww_iload_n C dX8_goes_81 rfl 3 rfl ?_
    refine ww_iadd C dX8_goes_82 ?_
    refine ww_goto (tgt := 92) C dX8_goes_83 (by decide) ?_
    refine ww_sub (lv' := [(0, .ref (ad x0)), (1, .int x1), (2, .int x2), (3, .int x3), (4, .int y0)]) [1, 2, 3, 4, 0] rfl ?_
    exact (B_X8_goes_92 C HR HL hG) x0 x1 x2 x3 y0 ((gi dy (gr S x0 9) x1.toNatClampNeg) + x2) dy Tx0 E
set_option maxHeartbeats 4000000 in
set_option maxRecDepth 100000 in
theorem B_X8_goes_58 (C : CX p s m args c cX8_goes 9 RX8 G A) (HR : meth.sig.returnType = (Option.some Jvm.ClassFile.FieldType.boolean)) (HL : meth.locks = false) (hG : Good S) : ∀ (x0 : Nat) (x1 : Int32) (x2 : Int32) (y0 : Int32) (dy : DY), gs S x0 = (0, 8) → F_X8_goes_58 S N x0 x1 x2 y0 dy = some (r, dy') → WJ p l e (rmD (3)) s m args below meth c 9 G A 0 0 (MQ below (QI G ad A S r dy') args s 0 0 A) ad 58 [(0, .ref (ad x0)), (1, .int x1), (2, .int x2)] [.int y0] S dy := by
  intro x0 x1 x2 y0 dy Tx0 E
  rw [F_X8_goes_58_s] at E
  refine ww_istore_n (lv' := [(3, .int y0), (0, .ref (ad x0)), (1, .int x1), (2, .int x2)]) C dX8_goes_58 rfl (by decide) rfl ?_
  refine ww_iload_n C dX8_goes_59 rfl 0 rfl ?_
  refine ww_if_ne (tgt := 67) C dX8_goes_60 (by decide) E (fun _ E => ?_) (fun _ E => ?_)
  · refine ww_iconst (v := 0) C dX8_goes_67 (by decide) ?_
    refine ww_sub (lv' := [(0, .ref (ad x0)), (1, .int x1), (2, .int x2), (3, .int y0)]) [1, 2, 3, 0] rfl ?_
    exact (B_X8_goes_68 C HR HL hG) x0 x1 x2 y0 (0 : Int32) dy Tx0 E
  · refine ww_iconst (v := 1) C dX8_goes_63 (by decide) ?_
    refine ww_goto (tgt := 68) C dX8_goes_64 (by decide) ?_
    refine ww_sub (lv' := [(0, .ref (ad x0)), (1, .int x1), (2, .int x2), (3, .int y0)]) [1, 2, 3, 0] rfl ?_
    exact (B_X8_goes_68 C HR HL hG) x0 x1 x2 y0 (1 : Int32) dy Tx0 E
end P_X8_goes
set_option maxHeartbeats 4000000 in
set_option maxRecDepth 100000 in
theorem M_X8_goes (l : Launch) (G : GG) (ad : Nat → Nat) {S : ST} (N : Nat) (hG : Good S) (a0 : Nat) (a1 : Int32) (dy : DY) (T0 : gs S a0 = (0, 8)) {r : Int32} {dy' : DY} (E : F_X8_goes S N a0 a1 dy = some (r, dy')) : MC l yX8_goes cX8_goes 9 (Option.some Jvm.ClassFile.FieldType.boolean) (3) G ad [.ref (ad a0), .int a1] S dy (fun A => QI G ad A S r dy') := by
  rw [F_X8_goes_s] at E
  refine mc_of RX8 (by decide) rfl (Nat.le_of_ble_eq_true rfl) (fun p e s m args below meth c A C HR HL => ?_)
  refine ww_sub (lv' := [(0, .ref (ad a0)), (1, .int a1)]) [0, 1] rfl ?_
  refine ww_aload_n C dX8_goes_0 rfl 0 rfl ?_
  refine ww_iload_n C dX8_goes_1 rfl 1 rfl ?_
  obtain ⟨u1, e_2, E⟩ := bind_of E
  refine ww_callI C (runs_V (n := 1) (st := []) C [.int a1] (M_X8_isThere l G ad N hG a0 a1 dy T0 e_2) ⟨q983, q112, by decide⟩ q980 q981 q982 (ci := 8) rfl T0 rfl (Nat.le_of_ble_eq_true rfl) ⟨Nat.le_of_ble_eq_true rfl, Nat.le_of_ble_eq_true rfl⟩ ⟨Nat.zero_le _, Nat.zero_le _⟩ dX8_goes_2 rfl) ?_
  refine ww_if_eq (tgt := 18) C dX8_goes_5 (by decide) E (fun _ E => ?_) (fun _ E => ?_)
  · refine ww_iconst (v := 0) C dX8_goes_18 (by decide) ?_
    exact ww_zret C HR HL dX8_goes_19 (Or.inl rfl) E
  · refine ww_aload_n C dX8_goes_8 rfl 0 rfl ?_
    have T_3 : gs S (gr S a0 16) = (1, 12) := hG.1 _ 8 T0 16 (by decide)
    refine ww_getr (ci := 8) (k0 := 16) C dX8_goes_9 rfl rfl inm8 (by decide) T0 q294 rfl T_3 (by decide) ?_
    refine ww_iload_n C dX8_goes_12 rfl 1 rfl ?_
    refine ww_iald C dX8_goes_13 T_3 E (fun _ E => ?_)
    refine ww_iconst (v := 5) C dX8_goes_14 (by decide) ?_
    refine ww_icmp_ne (tgt := 20) C dX8_goes_15 (by decide) E (fun _ E => ?_) (fun _ E => ?_)
    · refine ww_aload_n C dX8_goes_20 rfl 0 rfl ?_
      have T_4 : gs S (gr S a0 0) = (0, 4) := hG.1 _ 8 T0 0 (by decide)
      refine ww_getr (ci := 8) (k0 := 0) C dX8_goes_21 rfl rfl inm8 (by decide) T0 q261 rfl T_4 (by decide) ?_
      have T_5 : gs S (gr S (gr S a0 0) 7) = (1, 12) := hG.1 _ 4 T_4 7 (by decide)
      refine ww_getr (ci := 4) (k0 := 7) C dX8_goes_24 rfl rfl inm4 (by decide) T_4 q174 rfl T_5 (by decide) ?_
      refine ww_iload_n C dX8_goes_27 rfl 1 rfl ?_
      refine ww_iald C dX8_goes_28 T_5 E (fun _ E => ?_)
      refine ww_istore_n (lv' := [(2, .int (gi u1.2 (gr S (gr S a0 0) 7) a1.toNatClampNeg)), (0, .ref (ad a0)), (1, .int a1)]) C dX8_goes_29 rfl (by decide) rfl ?_
      refine ww_aload_n C dX8_goes_30 rfl 1 rfl ?_
      have T_6 : gs S (gr S a0 16) = (1, 12) := hG.1 _ 8 T0 16 (by decide)
      refine ww_getr (ci := 8) (k0 := 16) C dX8_goes_31 rfl rfl inm8 (by decide) T0 q294 rfl T_6 (by decide) ?_
      refine ww_iload_n C dX8_goes_34 rfl 2 rfl ?_
      refine ww_iald C dX8_goes_35 T_6 E (fun _ E => ?_)
      refine ww_iconst (v := 3) C dX8_goes_36 (by decide) ?_
      refine ww_icmp_ne (tgt := 52) C dX8_goes_37 (by decide) E (fun _ E => ?_) (fun _ E => ?_)
      · refine ww_aload_n C dX8_goes_52 rfl 1 rfl ?_
        have T_7 : gs S (gr S a0 16) = (1, 12) := hG.1 _ 8 T0 16 (by decide)
        refine ww_getr (ci := 8) (k0 := 16) C dX8_goes_53 rfl rfl inm8 (by decide) T0 q294 rfl T_7 (by decide) ?_
        refine ww_iload_n C dX8_goes_56 rfl 2 rfl ?_
        refine ww_iald C dX8_goes_57 T_7 E (fun _ E => ?_)
        refine ww_sub (lv' := [(0, .ref (ad a0)), (1, .int a1), (2, .int (gi u1.2 (gr S (gr S a0 0) 7) a1.toNatClampNeg))]) [1, 2, 0] rfl ?_
        exact (B_X8_goes_58 C HR HL hG) a0 a1 (gi u1.2 (gr S (gr S a0 0) 7) a1.toNatClampNeg) (gi u1.2 (gr S a0 16) a1.toNatClampNeg) u1.2 T0 E
      · refine ww_aload_n C dX8_goes_40 rfl 1 rfl ?_
        have T_8 : gs S (gr S a0 0) = (0, 4) := hG.1 _ 8 T0 0 (by decide)
        refine ww_getr (ci := 8) (k0 := 0) C dX8_goes_41 rfl rfl inm8 (by decide) T0 q261 rfl T_8 (by decide) ?_
        have T_9 : gs S (gr S (gr S a0 0) 11) = (1, 12) := hG.1 _ 4 T_8 11 (by decide)
        refine ww_getr (ci := 4) (k0 := 11) C dX8_goes_44 rfl rfl inm4 (by decide) T_8 q192 rfl T_9 (by decide) ?_
        refine ww_iload_n C dX8_goes_47 rfl 2 rfl ?_
        refine ww_iald C dX8_goes_48 T_9 E (fun _ E => ?_)
        refine ww_goto (tgt := 58) C dX8_goes_49 (by decide) ?_
        refine ww_sub (lv' := [(0, .ref (ad a0)), (1, .int a1), (2, .int (gi u1.2 (gr S (gr S a0 0) 7) a1.toNatClampNeg))]) [1, 2, 0] rfl ?_
        exact (B_X8_goes_58 C HR HL hG) a0 a1 (gi u1.2 (gr S (gr S a0 0) 7) a1.toNatClampNeg) (gi u1.2 (gr S (gr S a0 0) 11) a1.toNatClampNeg) u1.2 T0 E
    · refine ww_iconst (v := 0) C dX8_goes_18 (by decide) ?_
      exact ww_zret C HR HL dX8_goes_19 (Or.inl rfl) E
section P_X8_move
variable {p : Program} {l : Launch} {e : Env} {s : State} {m : MethodId} {args : Array Value} {below : List Frame} {meth : Method} {c : Code} {G : GG} {A : Nat → Prop} {ad : Nat → Nat} {S : ST} {N : Nat} {r : Int32} {dy' : DY}
set_option maxHeartbeats 4000000 in
set_option maxRecDepth 100000 in
theorem B_X8_move_138 (C : CX p s m args c cX8_move 4 RX8 G A) (HR : meth.sig.returnType = (Option.some Jvm.ClassFile.FieldType.int)) (HL : meth.locks = false) (hG : Good S) : ∀ (x0 : Nat) (x1 : Int32) (y0 : Nat) (y1 : Int32) (dy : DY), gs S x0 = (0, 8) → gs S y0 = (0, 8) → F_X8_move_138 S N x0 x1 y0 y1 dy = some (r, dy') → WJ p l e (rmD (4)) s m args below meth c 4 G A 0 0 (MQ below (QI G ad A S r dy') args s 0 0 A) ad 138 [(0, .ref (ad x0)), (1, .int x1)] [.int y1, .ref (ad y0)] S dy := by
  intro x0 x1 y0 y1 dy Tx0 Ty0 E
  rw [F_X8_move_138_s] at E
  refine ww_puti (ci := 8) (k0 := 7) C dX8_move_138 rfl rfl inm8 tyX8_ok nmX8 (by decide) Ty0 q274 rfl rfl rfl ?_
  refine ww_bd E (fun dy1 E => ?_)
  refine ww_aload_n C dX8_move_141 rfl 0 rfl ?_
  refine ww_dup C dX8_move_142 rfl ?_
  refine ww_geti (ci := 8) (k0 := 2) C dX8_move_143 rfl rfl inm8 (by decide) Tx0 q263 rfl ?_
  refine ww_iconst (v := 1) C dX8_move_146 (by decide) ?_
  refine ww_iadd C dX8_move_147 ?_
  refine ww_puti (ci := 8) (k0 := 2) C dX8_move_148 rfl rfl inm8 tyX8_ok nmX8 (by decide) Tx0 q263 rfl rfl rfl ?_
  refine ww_bd E (fun dy2 E => ?_)
  refine ww_iload_n C dX8_move_151 rfl 1 rfl ?_
  exact ww_iret C HR HL dX8_move_152 E
set_option maxHeartbeats 4000000 in
set_option maxRecDepth 100000 in
theorem B_X8_move_36 (C : CX p s m args c cX8_move 4 RX8 G A) (HR : meth.sig.returnType = (Option.some Jvm.ClassFile.FieldType.int)) (HL : meth.locks = false) (hG : Good S) : ∀ k : Nat, ∀ (x0 : Nat) (x1 : Int32) (x2 : Int32) (dy : DY), gs S x0 = (0, 8) → (F_X8_move_36 S N k) x0 x1 x2 dy = some (r, dy') → WJ p l e (rmD (4)) s m args below meth c 4 G A 0 0 (MQ below (QI G ad A S r dy') args s 0 0 A) ad 36 [(0, .ref (ad x0)), (1, .int x1), (2, .int x2)] [] S dy := by
  intro k
  induction k with
  | zero => exact fun _ _ _ _ _ E => nomatch (show none = some (r, dy') from E)
  | succ k ih =>
    intro x0 x1 x2 dy Tx0 E
    rw [F_X8_move_36_s] at E
    refine ww_iload_n C dX8_move_36 rfl 2 rfl ?_
    refine ww_aload_n C dX8_move_37 rfl 0 rfl ?_
    have T_1 : gs S (gr S x0 0) = (0, 4) := hG.1 _ 8 Tx0 0 (by decide)
    refine ww_getr (ci := 8) (k0 := 0) C dX8_move_38 rfl rfl inm8 (by decide) Tx0 q261 rfl T_1 (by decide) ?_
    refine ww_geti (ci := 4) (k0 := 3) C dX8_move_41 rfl rfl inm4 (by decide) T_1 q162 rfl ?_
    refine ww_icmp_ge (tgt := 110) C dX8_move_44 (by decide) E (fun _ E => ?_) (fun _ E => ?_)
    · refine ww_aload_n C dX8_move_110 rfl 0 rfl ?_
      refine ww_dup C dX8_move_111 rfl ?_
      refine ww_geti (ci := 8) (k0 := 6) C dX8_move_112 rfl rfl inm8 (by decide) Tx0 q271 rfl ?_
      refine ww_aload_n C dX8_move_115 rfl 0 rfl ?_
      obtain ⟨u2, e_3, E⟩ := bind_of E
      refine ww_callI C (runs_V (n := 0) (st := [.int (gi dy x0 6), .ref (ad x0)]) C [] (M_X8_dancesNow l G ad N hG x0 dy Tx0 e_3) ⟨q1003, q112, by decide⟩ q1000 q1002 q24 (ci := 8) rfl Tx0 rfl (Nat.le_of_ble_eq_true rfl) ⟨Nat.le_of_ble_eq_true rfl, Nat.le_of_ble_eq_true rfl⟩ ⟨Nat.zero_le _, Nat.zero_le _⟩ dX8_move_116 rfl) ?_
      refine ww_iadd C dX8_move_119 ?_
      refine ww_puti (ci := 8) (k0 := 6) C dX8_move_120 rfl rfl inm8 tyX8_ok nmX8 (by decide) Tx0 q271 rfl rfl rfl ?_
      refine ww_bd E (fun dy4 E => ?_)
      refine ww_aload_n C dX8_move_123 rfl 0 rfl ?_
      refine ww_iload_n C dX8_move_124 rfl 1 rfl ?_
      refine ww_if_le (tgt := 132) C dX8_move_125 (by decide) E (fun _ E => ?_) (fun _ E => ?_)
      · refine ww_aload_n C dX8_move_132 rfl 0 rfl ?_
        refine ww_geti (ci := 8) (k0 := 7) C dX8_move_133 rfl rfl inm8 (by decide) Tx0 q274 rfl ?_
        refine ww_iconst (v := 1) C dX8_move_136 (by decide) ?_
        refine ww_iadd C dX8_move_137 ?_
        refine ww_sub (lv' := [(0, .ref (ad x0)), (1, .int x1)]) [0, 1] rfl ?_
        exact (B_X8_move_138 C HR HL hG) x0 x1 x0 ((gi dy4 x0 7) + (1 : Int32)) dy4 Tx0 Tx0 E
      · refine ww_iconst (v := 0) C dX8_move_128 (by decide) ?_
        refine ww_goto (tgt := 138) C dX8_move_129 (by decide) ?_
        refine ww_sub (lv' := [(0, .ref (ad x0)), (1, .int x1)]) [0, 1] rfl ?_
        exact (B_X8_move_138 C HR HL hG) x0 x1 x0 (0 : Int32) dy4 Tx0 Tx0 E
    · refine ww_aload_n C dX8_move_47 rfl 0 rfl ?_
      have T_5 : gs S (gr S x0 17) = (1, 12) := hG.1 _ 8 Tx0 17 (by decide)
      refine ww_getr (ci := 8) (k0 := 17) C dX8_move_48 rfl rfl inm8 (by decide) Tx0 q296 rfl T_5 (by decide) ?_
      refine ww_iload_n C dX8_move_51 rfl 2 rfl ?_
      refine ww_iald C dX8_move_52 T_5 E (fun _ E => ?_)
      refine ww_istore_n (lv' := [(3, .int (gi dy (gr S x0 17) x2.toNatClampNeg)), (0, .ref (ad x0)), (1, .int x1), (2, .int x2)]) C dX8_move_53 rfl (by decide) rfl ?_
      refine ww_aload_n C dX8_move_54 rfl 1 rfl ?_
      refine ww_iload_n C dX8_move_55 rfl 0 rfl ?_
      obtain ⟨u6, e_7, E⟩ := bind_of E
      refine ww_callI C (runs_V (n := 1) (st := []) C [.int (gi dy (gr S x0 17) x2.toNatClampNeg)] (M_X8_goes l G ad N hG x0 (gi dy (gr S x0 17) x2.toNatClampNeg) dy Tx0 e_7) ⟨q979, q112, by decide⟩ q976 q978 q21 (ci := 8) rfl Tx0 rfl (Nat.le_of_ble_eq_true rfl) ⟨Nat.le_of_ble_eq_true rfl, Nat.le_of_ble_eq_true rfl⟩ ⟨Nat.zero_le _, Nat.zero_le _⟩ dX8_move_56 rfl) ?_
      refine ww_if_eq (tgt := 85) C dX8_move_59 (by decide) E (fun _ E => ?_) (fun _ E => ?_)
      · refine ww_aload_n C dX8_move_85 rfl 1 rfl ?_
        have T_8 : gs S (gr S x0 15) = (1, 12) := hG.1 _ 8 Tx0 15 (by decide)
        refine ww_getr (ci := 8) (k0 := 15) C dX8_move_86 rfl rfl inm8 (by decide) Tx0 q291 rfl T_8 (by decide) ?_
        refine ww_iload_n C dX8_move_89 rfl 0 rfl ?_
        refine ww_bipush (v := 99) C dX8_move_90 (by decide) ?_
        refine ww_aload_n C dX8_move_92 rfl 1 rfl ?_
        have T_9 : gs S (gr S x0 15) = (1, 12) := hG.1 _ 8 Tx0 15 (by decide)
        refine ww_getr (ci := 8) (k0 := 15) C dX8_move_93 rfl rfl inm8 (by decide) Tx0 q291 rfl T_9 (by decide) ?_
        refine ww_iload_n C dX8_move_96 rfl 0 rfl ?_
        refine ww_iald C dX8_move_97 T_9 E (fun _ E => ?_)
        refine ww_iconst (v := 1) C dX8_move_98 (by decide) ?_
        refine ww_iadd C dX8_move_99 ?_
        refine ww_mmin C dX8_move_100 q944 q587 q119 q588 (Nat.le_of_ble_eq_true rfl) (Nat.le_of_ble_eq_true rfl) (Nat.le_of_ble_eq_true rfl) (Nat.zero_le _) (Nat.zero_le _) ?_
        refine ww_iast C dX8_move_103 T_8 E (fun _ E => ?_)
        refine ww_bd E (fun dy10 E => ?_)
        refine ww_iinc (v := (x2 + (1 : Int32))) (lv' := [(2, .int (x2 + (1 : Int32))), (3, .int (gi dy (gr S x0 17) x2.toNatClampNeg)), (0, .ref (ad x0)), (1, .int x1)]) C dX8_move_104 3 rfl rfl (by decide) rfl ?_
        refine ww_goto (tgt := 36) C dX8_move_107 (by decide) ?_
        refine ww_sub (lv' := [(0, .ref (ad x0)), (1, .int x1), (2, .int (x2 + (1 : Int32)))]) [2, 3, 0] rfl ?_
        exact ih x0 x1 (x2 + (1 : Int32)) dy10 Tx0 E
      · refine ww_iinc (v := (x1 + (1 : Int32))) (lv' := [(1, .int (x1 + (1 : Int32))), (3, .int (gi dy (gr S x0 17) x2.toNatClampNeg)), (0, .ref (ad x0)), (2, .int x2)]) C dX8_move_62 2 rfl rfl (by decide) rfl ?_
        refine ww_aload_n C dX8_move_65 rfl 2 rfl ?_
        have T_11 : gs S (gr S x0 12) = (1, 12) := hG.1 _ 8 Tx0 12 (by decide)
        refine ww_getr (ci := 8) (k0 := 12) C dX8_move_66 rfl rfl inm8 (by decide) Tx0 q285 rfl T_11 (by decide) ?_
        refine ww_iload_n C dX8_move_69 rfl 1 rfl ?_
        refine ww_dup2 C dX8_move_70 rfl rfl ?_
        refine ww_iald C dX8_move_71 T_11 E (fun _ E => ?_)
        refine ww_iconst (v := 1) C dX8_move_72 (by decide) ?_
        refine ww_iadd C dX8_move_73 ?_
        refine ww_iast C dX8_move_74 T_11 E (fun _ E => ?_)
        refine ww_bd E (fun dy12 E => ?_)
        refine ww_aload_n C dX8_move_75 rfl 2 rfl ?_
        have T_13 : gs S (gr S x0 15) = (1, 12) := hG.1 _ 8 Tx0 15 (by decide)
        refine ww_getr (ci := 8) (k0 := 15) C dX8_move_76 rfl rfl inm8 (by decide) Tx0 q291 rfl T_13 (by decide) ?_
        refine ww_iload_n C dX8_move_79 rfl 1 rfl ?_
        refine ww_iconst (v := 0) C dX8_move_80 (by decide) ?_
        refine ww_iast C dX8_move_81 T_13 E (fun _ E => ?_)
        refine ww_bd E (fun dy14 E => ?_)
        refine ww_goto (tgt := 104) C dX8_move_82 (by decide) ?_
        refine ww_iinc (v := (x2 + (1 : Int32))) (lv' := [(2, .int (x2 + (1 : Int32))), (1, .int (x1 + (1 : Int32))), (3, .int (gi dy (gr S x0 17) x2.toNatClampNeg)), (0, .ref (ad x0))]) C dX8_move_104 3 rfl rfl (by decide) rfl ?_
        refine ww_goto (tgt := 36) C dX8_move_107 (by decide) ?_
        refine ww_sub (lv' := [(0, .ref (ad x0)), (1, .int (x1 + (1 : Int32))), (2, .int (x2 + (1 : Int32)))]) [3, 1, 0] rfl ?_
        exact ih x0 (x1 + (1 : Int32)) (x2 + (1 : Int32)) dy14 Tx0 E
end P_X8_move
set_option maxHeartbeats 4000000 in
set_option maxRecDepth 100000 in
theorem M_X8_move (l : Launch) (G : GG) (ad : Nat → Nat) {S : ST} (N : Nat) (hG : Good S) (a0 : Nat) (dy : DY) (T0 : gs S a0 = (0, 8)) {r : Int32} {dy' : DY} (E : F_X8_move S N a0 dy = some (r, dy')) : MC l yX8_move cX8_move 4 (Option.some Jvm.ClassFile.FieldType.int) (4) G ad [.ref (ad a0)] S dy (fun A => QI G ad A S r dy') := by
  rw [F_X8_move_s] at E
  refine mc_of RX8 (by decide) rfl (Nat.le_of_ble_eq_true rfl) (fun p e s m args below meth c A C HR HL => ?_)
  refine ww_sub (lv' := [(0, .ref (ad a0))]) [0] rfl ?_
  refine ww_aload_n C dX8_move_0 rfl 0 rfl ?_
  have T_1 : gs S (gr S a0 9) = (1, 48) := hG.1 _ 8 T0 9 (by decide)
  refine ww_getr (ci := 8) (k0 := 9) C dX8_move_1 rfl rfl inm8 (by decide) T0 q277 rfl T_1 (by decide) ?_
  refine ww_iconst (v := 0) C dX8_move_4 (by decide) ?_
  refine ww_aload_n C dX8_move_5 rfl 0 rfl ?_
  have T_2 : gs S (gr S a0 9) = (1, 48) := hG.1 _ 8 T0 9 (by decide)
  refine ww_getr (ci := 8) (k0 := 9) C dX8_move_6 rfl rfl inm8 (by decide) T0 q277 rfl T_2 (by decide) ?_
  refine ww_bipush (v := 12) C dX8_move_9 (by decide) ?_
  refine ww_bipush (v := 36) C dX8_move_11 (by decide) ?_
  obtain ⟨g_4, E⟩ := gd_of E
  refine ww_copy (t := 1) C dX8_move_13 T_1 T_2 (by decide) (by decide) g_4.1 g_4.2 q908 q790 q789 q124 (Nat.le_of_ble_eq_true rfl) (Nat.le_of_ble_eq_true rfl) (Nat.le_of_ble_eq_true rfl) ?_
  refine ww_bd E (fun dy3 E => ?_)
  refine ww_aload_n C dX8_move_16 rfl 0 rfl ?_
  have T_5 : gs S (gr S a0 10) = (1, 48) := hG.1 _ 8 T0 10 (by decide)
  refine ww_getr (ci := 8) (k0 := 10) C dX8_move_17 rfl rfl inm8 (by decide) T0 q280 rfl T_5 (by decide) ?_
  refine ww_iconst (v := 0) C dX8_move_20 (by decide) ?_
  refine ww_aload_n C dX8_move_21 rfl 0 rfl ?_
  have T_6 : gs S (gr S a0 10) = (1, 48) := hG.1 _ 8 T0 10 (by decide)
  refine ww_getr (ci := 8) (k0 := 10) C dX8_move_22 rfl rfl inm8 (by decide) T0 q280 rfl T_6 (by decide) ?_
  refine ww_bipush (v := 12) C dX8_move_25 (by decide) ?_
  refine ww_bipush (v := 36) C dX8_move_27 (by decide) ?_
  obtain ⟨g_8, E⟩ := gd_of E
  refine ww_copy (t := 1) C dX8_move_29 T_5 T_6 (by decide) (by decide) g_8.1 g_8.2 q908 q790 q789 q124 (Nat.le_of_ble_eq_true rfl) (Nat.le_of_ble_eq_true rfl) (Nat.le_of_ble_eq_true rfl) ?_
  refine ww_bd E (fun dy7 E => ?_)
  refine ww_iconst (v := 0) C dX8_move_32 (by decide) ?_
  refine ww_istore_n (lv' := [(1, .int (0 : Int32)), (0, .ref (ad a0))]) C dX8_move_33 rfl (by decide) rfl ?_
  refine ww_iconst (v := 0) C dX8_move_34 (by decide) ?_
  refine ww_istore_n (lv' := [(2, .int (0 : Int32)), (1, .int (0 : Int32)), (0, .ref (ad a0))]) C dX8_move_35 rfl (by decide) rfl ?_
  refine ww_sub (lv' := [(0, .ref (ad a0)), (1, .int (0 : Int32)), (2, .int (0 : Int32))]) [2, 1, 0] rfl ?_
  exact (B_X8_move_36 C HR HL hG N) a0 (0 : Int32) (0 : Int32) dy7 T0 E
section P_X8_needsLot
variable {p : Program} {l : Launch} {e : Env} {s : State} {m : MethodId} {args : Array Value} {below : List Frame} {meth : Method} {c : Code} {G : GG} {A : Nat → Prop} {ad : Nat → Nat} {S : ST} {N : Nat} {r : Int32} {dy' : DY}
end P_X8_needsLot
set_option maxHeartbeats 4000000 in
set_option maxRecDepth 100000 in
theorem M_X8_needsLot (l : Launch) (G : GG) (ad : Nat → Nat) {S : ST} (N : Nat) (hG : Good S) (a0 : Nat) (a1 : Int32) (dy : DY) (T0 : gs S a0 = (0, 8)) {r : Int32} {dy' : DY} (E : F_X8_needsLot S N a0 a1 dy = some (r, dy')) : MC l yX8_needsLot cX8_needsLot 2 (Option.some Jvm.ClassFile.FieldType.boolean) (1) G ad [.ref (ad a0), .int a1] S dy (fun A => QI G ad A S r dy') := by
  rw [F_X8_needsLot_s] at E
  refine mc_of RX8 (by decide) rfl (Nat.le_of_ble_eq_true rfl) (fun p e s m args below meth c A C HR HL => ?_)
  refine ww_sub (lv' := [(0, .ref (ad a0)), (1, .int a1)]) [0, 1] rfl ?_
  refine ww_aload_n C dX8_needsLot_0 rfl 0 rfl ?_
  have T_1 : gs S (gr S a0 16) = (1, 12) := hG.1 _ 8 T0 16 (by decide)
  refine ww_getr (ci := 8) (k0 := 16) C dX8_needsLot_1 rfl rfl inm8 (by decide) T0 q294 rfl T_1 (by decide) ?_
  refine ww_iload_n C dX8_needsLot_4 rfl 1 rfl ?_
  refine ww_iald C dX8_needsLot_5 T_1 E (fun _ E => ?_)
  refine ww_iconst (v := 4) C dX8_needsLot_6 (by decide) ?_
  refine ww_icmp_eq (tgt := 32) C dX8_needsLot_7 (by decide) E (fun _ E => ?_) (fun _ E => ?_)
  · refine ww_iconst (v := 1) C dX8_needsLot_32 (by decide) ?_
    refine ww_goto (tgt := 37) C dX8_needsLot_33 (by decide) ?_
    exact ww_zret C HR HL dX8_needsLot_37 (Or.inr rfl) E
  · refine ww_aload_n C dX8_needsLot_10 rfl 0 rfl ?_
    have T_2 : gs S (gr S a0 16) = (1, 12) := hG.1 _ 8 T0 16 (by decide)
    refine ww_getr (ci := 8) (k0 := 16) C dX8_needsLot_11 rfl rfl inm8 (by decide) T0 q294 rfl T_2 (by decide) ?_
    refine ww_iload_n C dX8_needsLot_14 rfl 1 rfl ?_
    refine ww_iald C dX8_needsLot_15 T_2 E (fun _ E => ?_)
    refine ww_iconst (v := 3) C dX8_needsLot_16 (by decide) ?_
    refine ww_icmp_ne (tgt := 36) C dX8_needsLot_17 (by decide) E (fun _ E => ?_) (fun _ E => ?_)
    · refine ww_iconst (v := 0) C dX8_needsLot_36 (by decide) ?_
      exact ww_zret C HR HL dX8_needsLot_37 (Or.inl rfl) E
    · refine ww_aload_n C dX8_needsLot_20 rfl 0 rfl ?_
      have T_3 : gs S (gr S a0 0) = (0, 4) := hG.1 _ 8 T0 0 (by decide)
      refine ww_getr (ci := 8) (k0 := 0) C dX8_needsLot_21 rfl rfl inm8 (by decide) T0 q261 rfl T_3 (by decide) ?_
      have T_4 : gs S (gr S (gr S a0 0) 11) = (1, 12) := hG.1 _ 4 T_3 11 (by decide)
      refine ww_getr (ci := 4) (k0 := 11) C dX8_needsLot_24 rfl rfl inm4 (by decide) T_3 q192 rfl T_4 (by decide) ?_
      refine ww_iload_n C dX8_needsLot_27 rfl 1 rfl ?_
      refine ww_iald C dX8_needsLot_28 T_4 E (fun _ E => ?_)
      refine ww_if_ne (tgt := 36) C dX8_needsLot_29 (by decide) E (fun _ E => ?_) (fun _ E => ?_)
      · refine ww_iconst (v := 0) C dX8_needsLot_36 (by decide) ?_
        exact ww_zret C HR HL dX8_needsLot_37 (Or.inl rfl) E
      · refine ww_iconst (v := 1) C dX8_needsLot_32 (by decide) ?_
        refine ww_goto (tgt := 37) C dX8_needsLot_33 (by decide) ?_
        exact ww_zret C HR HL dX8_needsLot_37 (Or.inr rfl) E
section P_X8_sortByHaste
variable {p : Program} {l : Launch} {e : Env} {s : State} {m : MethodId} {args : Array Value} {below : List Frame} {meth : Method} {c : Code} {G : GG} {A : Nat → Prop} {ad : Nat → Nat} {S : ST} {N : Nat} {dy' : DY}
set_option maxHeartbeats 4000000 in
set_option maxRecDepth 100000 in
theorem B_X8_sortByHaste_11 (C : CX p s m args c cX8_sortByHaste 4 RX8 G A) (HR : meth.sig.returnType = (Option.none : Option Jvm.ClassFile.FieldType)) (HL : meth.locks = false) (hG : Good S) {K5 : Nat → Int32 → Int32 → DY → Option DY} (hK5 : ∀ (x0 : Nat) (x1 : Int32) (x2 : Int32) (dy : DY), gs S x0 = (0, 8) → K5 x0 x1 x2 dy = some dy' → WJ p l e (rmD (1)) s m args below meth c 4 G A 0 0 (MQ below (QV G ad A S dy') args s 0 0 A) ad 5 [(0, .ref (ad x0)), (1, .int x1), (2, .int x2)] [] S dy) : ∀ k : Nat, ∀ (x0 : Nat) (x1 : Int32) (x2 : Int32) (x3 : Int32) (dy : DY), gs S x0 = (0, 8) → (F_X8_sortByHaste_11 S N K5 k) x0 x1 x2 x3 dy = some dy' → WJ p l e (rmD (1)) s m args below meth c 4 G A 0 0 (MQ below (QV G ad A S dy') args s 0 0 A) ad 11 [(0, .ref (ad x0)), (1, .int x1), (2, .int x2), (3, .int x3)] [] S dy := by
  intro k
  induction k with
  | zero => exact fun _ _ _ _ _ _ E => nomatch (show none = some dy' from E)
  | succ k ih =>
    intro x0 x1 x2 x3 dy Tx0 E
    rw [F_X8_sortByHaste_11_s] at E
    refine ww_iload_n C dX8_sortByHaste_11 rfl 3 rfl ?_
    refine ww_aload_n C dX8_sortByHaste_12 rfl 0 rfl ?_
    have T_1 : gs S (gr S x0 0) = (0, 4) := hG.1 _ 8 Tx0 0 (by decide)
    refine ww_getr (ci := 8) (k0 := 0) C dX8_sortByHaste_13 rfl rfl inm8 (by decide) Tx0 q261 rfl T_1 (by decide) ?_
    refine ww_geti (ci := 4) (k0 := 3) C dX8_sortByHaste_16 rfl rfl inm4 (by decide) T_1 q162 rfl ?_
    refine ww_icmp_ge (tgt := 57) C dX8_sortByHaste_19 (by decide) E (fun _ E => ?_) (fun _ E => ?_)
    · refine ww_iinc (v := (x2 + (-1 : Int32))) (lv' := [(2, .int (x2 + (-1 : Int32))), (0, .ref (ad x0)), (1, .int x1), (3, .int x3)]) C dX8_sortByHaste_57 2 rfl rfl (by decide) rfl ?_
      refine ww_goto (tgt := 5) C dX8_sortByHaste_60 (by decide) ?_
      refine ww_sub (lv' := [(0, .ref (ad x0)), (1, .int x1), (2, .int (x2 + (-1 : Int32)))]) [1, 2, 0] rfl ?_
      exact hK5 x0 x1 (x2 + (-1 : Int32)) dy Tx0 E
    · refine ww_iload_n C dX8_sortByHaste_22 rfl 1 rfl ?_
      refine ww_bipush (v := 12) C dX8_sortByHaste_23 (by decide) ?_
      refine ww_icmp_ge (tgt := 57) C dX8_sortByHaste_25 (by decide) E (fun _ E => ?_) (fun _ E => ?_)
      · refine ww_iinc (v := (x2 + (-1 : Int32))) (lv' := [(2, .int (x2 + (-1 : Int32))), (0, .ref (ad x0)), (1, .int x1), (3, .int x3)]) C dX8_sortByHaste_57 2 rfl rfl (by decide) rfl ?_
        refine ww_goto (tgt := 5) C dX8_sortByHaste_60 (by decide) ?_
        refine ww_sub (lv' := [(0, .ref (ad x0)), (1, .int x1), (2, .int (x2 + (-1 : Int32)))]) [1, 2, 0] rfl ?_
        exact hK5 x0 x1 (x2 + (-1 : Int32)) dy Tx0 E
      · refine ww_aload_n C dX8_sortByHaste_28 rfl 0 rfl ?_
        have T_2 : gs S (gr S x0 0) = (0, 4) := hG.1 _ 8 Tx0 0 (by decide)
        refine ww_getr (ci := 8) (k0 := 0) C dX8_sortByHaste_29 rfl rfl inm8 (by decide) Tx0 q261 rfl T_2 (by decide) ?_
        have T_3 : gs S (gr S (gr S x0 0) 10) = (1, 12) := hG.1 _ 4 T_2 10 (by decide)
        refine ww_getr (ci := 4) (k0 := 10) C dX8_sortByHaste_32 rfl rfl inm4 (by decide) T_2 q186 rfl T_3 (by decide) ?_
        refine ww_iload_n C dX8_sortByHaste_35 rfl 3 rfl ?_
        refine ww_iald C dX8_sortByHaste_36 T_3 E (fun _ E => ?_)
        refine ww_iload_n C dX8_sortByHaste_37 rfl 2 rfl ?_
        refine ww_icmp_ne (tgt := 51) C dX8_sortByHaste_38 (by decide) E (fun _ E => ?_) (fun _ E => ?_)
        · refine ww_iinc (v := (x3 + (1 : Int32))) (lv' := [(3, .int (x3 + (1 : Int32))), (0, .ref (ad x0)), (1, .int x1), (2, .int x2)]) C dX8_sortByHaste_51 3 rfl rfl (by decide) rfl ?_
          refine ww_goto (tgt := 11) C dX8_sortByHaste_54 (by decide) ?_
          refine ww_sub (lv' := [(0, .ref (ad x0)), (1, .int x1), (2, .int x2), (3, .int (x3 + (1 : Int32)))]) [1, 2, 3, 0] rfl ?_
          exact ih x0 x1 x2 (x3 + (1 : Int32)) dy Tx0 E
        · refine ww_aload_n C dX8_sortByHaste_41 rfl 0 rfl ?_
          have T_4 : gs S (gr S x0 17) = (1, 12) := hG.1 _ 8 Tx0 17 (by decide)
          refine ww_getr (ci := 8) (k0 := 17) C dX8_sortByHaste_42 rfl rfl inm8 (by decide) Tx0 q296 rfl T_4 (by decide) ?_
          refine ww_iload_n C dX8_sortByHaste_45 rfl 1 rfl ?_
          refine ww_iload_n C dX8_sortByHaste_46 rfl 3 rfl ?_
          refine ww_iast C dX8_sortByHaste_47 T_4 E (fun _ E => ?_)
          refine ww_bd E (fun dy5 E => ?_)
          refine ww_iinc (v := (x1 + (1 : Int32))) (lv' := [(1, .int (x1 + (1 : Int32))), (0, .ref (ad x0)), (2, .int x2), (3, .int x3)]) C dX8_sortByHaste_48 1 rfl rfl (by decide) rfl ?_
          refine ww_iinc (v := (x3 + (1 : Int32))) (lv' := [(3, .int (x3 + (1 : Int32))), (1, .int (x1 + (1 : Int32))), (0, .ref (ad x0)), (2, .int x2)]) C dX8_sortByHaste_51 3 rfl rfl (by decide) rfl ?_
          refine ww_goto (tgt := 11) C dX8_sortByHaste_54 (by decide) ?_
          refine ww_sub (lv' := [(0, .ref (ad x0)), (1, .int (x1 + (1 : Int32))), (2, .int x2), (3, .int (x3 + (1 : Int32)))]) [2, 1, 3, 0] rfl ?_
          exact ih x0 (x1 + (1 : Int32)) x2 (x3 + (1 : Int32)) dy5 Tx0 E
set_option maxHeartbeats 4000000 in
set_option maxRecDepth 100000 in
theorem B_X8_sortByHaste_5 (C : CX p s m args c cX8_sortByHaste 4 RX8 G A) (HR : meth.sig.returnType = (Option.none : Option Jvm.ClassFile.FieldType)) (HL : meth.locks = false) (hG : Good S) : ∀ k : Nat, ∀ (x0 : Nat) (x1 : Int32) (x2 : Int32) (dy : DY), gs S x0 = (0, 8) → (F_X8_sortByHaste_5 S N k) x0 x1 x2 dy = some dy' → WJ p l e (rmD (1)) s m args below meth c 4 G A 0 0 (MQ below (QV G ad A S dy') args s 0 0 A) ad 5 [(0, .ref (ad x0)), (1, .int x1), (2, .int x2)] [] S dy := by
  intro k
  induction k with
  | zero => exact fun _ _ _ _ _ E => nomatch (show none = some dy' from E)
  | succ k ih =>
    intro x0 x1 x2 dy Tx0 E
    rw [F_X8_sortByHaste_5_s] at E
    refine ww_iload_n C dX8_sortByHaste_5 rfl 2 rfl ?_
    refine ww_if_lt (tgt := 63) C dX8_sortByHaste_6 (by decide) E (fun _ E => ?_) (fun _ E => ?_)
    · exact ww_vret C HR HL dX8_sortByHaste_63 E
    · refine ww_iconst (v := 0) C dX8_sortByHaste_9 (by decide) ?_
      refine ww_istore_n (lv' := [(3, .int (0 : Int32)), (0, .ref (ad x0)), (1, .int x1), (2, .int x2)]) C dX8_sortByHaste_10 rfl (by decide) rfl ?_
      refine ww_sub (lv' := [(0, .ref (ad x0)), (1, .int x1), (2, .int x2), (3, .int (0 : Int32))]) [1, 2, 3, 0] rfl ?_
      exact (B_X8_sortByHaste_11 C HR HL hG ih N) x0 x1 x2 (0 : Int32) dy Tx0 E
end P_X8_sortByHaste
set_option maxHeartbeats 4000000 in
set_option maxRecDepth 100000 in
theorem M_X8_sortByHaste (l : Launch) (G : GG) (ad : Nat → Nat) {S : ST} (N : Nat) (hG : Good S) (a0 : Nat) (dy : DY) (T0 : gs S a0 = (0, 8)) {dy' : DY} (E : F_X8_sortByHaste S N a0 dy = some dy') : MC l yX8_sortByHaste cX8_sortByHaste 4 (Option.none : Option Jvm.ClassFile.FieldType) (1) G ad [.ref (ad a0)] S dy (fun A => QV G ad A S dy') := by
  rw [F_X8_sortByHaste_s] at E
  refine mc_of RX8 (by decide) rfl (Nat.le_of_ble_eq_true rfl) (fun p e s m args below meth c A C HR HL => ?_)
  refine ww_sub (lv' := [(0, .ref (ad a0))]) [0] rfl ?_
  refine ww_iconst (v := 0) C dX8_sortByHaste_0 (by decide) ?_
  refine ww_istore_n (lv' := [(1, .int (0 : Int32)), (0, .ref (ad a0))]) C dX8_sortByHaste_1 rfl (by decide) rfl ?_
  refine ww_bipush (v := 9) C dX8_sortByHaste_2 (by decide) ?_
  refine ww_istore_n (lv' := [(2, .int (9 : Int32)), (1, .int (0 : Int32)), (0, .ref (ad a0))]) C dX8_sortByHaste_4 rfl (by decide) rfl ?_
  refine ww_sub (lv' := [(0, .ref (ad a0)), (1, .int (0 : Int32)), (2, .int (9 : Int32))]) [2, 1, 0] rfl ?_
  exact (B_X8_sortByHaste_5 C HR HL hG N) a0 (0 : Int32) (9 : Int32) dy T0 E
section P_X8_begin
variable {p : Program} {l : Launch} {e : Env} {s : State} {m : MethodId} {args : Array Value} {below : List Frame} {meth : Method} {c : Code} {G : GG} {A : Nat → Prop} {ad : Nat → Nat} {S : ST} {N : Nat} {dy' : DY}
set_option maxHeartbeats 4000000 in
set_option maxRecDepth 100000 in
theorem B_X8_begin_32 (C : CX p s m args c cX8_begin 3 RX8 G A) (HR : meth.sig.returnType = (Option.none : Option Jvm.ClassFile.FieldType)) (HL : meth.locks = false) (hG : Good S) : ∀ k : Nat, ∀ (x0 : Nat) (x2 : Int32) (dy : DY), gs S x0 = (0, 8) → (F_X8_begin_32 S N k) x0 x2 dy = some dy' → WJ p l e (rmD (2)) s m args below meth c 3 G A 0 0 (MQ below (QV G ad A S dy') args s 0 0 A) ad 32 [(0, .ref (ad x0)), (2, .int x2)] [] S dy := by
  intro k
  induction k with
  | zero => exact fun _ _ _ _ E => nomatch (show none = some dy' from E)
  | succ k ih =>
    intro x0 x2 dy Tx0 E
    rw [F_X8_begin_32_s] at E
    refine ww_iload_n C dX8_begin_32 rfl 1 rfl ?_
    refine ww_iconst (v := 4) C dX8_begin_33 (by decide) ?_
    refine ww_icmp_ge (tgt := 85) C dX8_begin_34 (by decide) E (fun _ E => ?_) (fun _ E => ?_)
    · refine ww_aload_n C dX8_begin_85 rfl 0 rfl ?_
      have T_1 : gs S (gr S x0 11) = (1, 12) := hG.1 _ 8 Tx0 11 (by decide)
      refine ww_getr (ci := 8) (k0 := 11) C dX8_begin_86 rfl rfl inm8 (by decide) Tx0 q283 rfl T_1 (by decide) ?_
      refine ww_iconst (v := (-1)) C dX8_begin_89 (by decide) ?_
      obtain ⟨u2, e_3, E⟩ := bind_of E
      refine ww_callV C (runs_S (n := 2) (st := []) C [.ref (ad (gr S x0 11)), .int (-1 : Int32)] (M_J7_fill_53178 l G ad N 12 hG (gr S x0 11) (-1 : Int32) dy T_1 e_3) ⟨q911, q125, by decide⟩ q909 q910 rfl (Nat.le_of_ble_eq_true rfl) ⟨Nat.le_of_ble_eq_true rfl, Nat.le_of_ble_eq_true rfl⟩ ⟨Nat.zero_le _, Nat.zero_le _⟩ dX8_begin_90 rfl) ?_
      refine ww_aload_n C dX8_begin_93 rfl 0 rfl ?_
      have T_4 : gs S (gr S x0 12) = (1, 12) := hG.1 _ 8 Tx0 12 (by decide)
      refine ww_getr (ci := 8) (k0 := 12) C dX8_begin_94 rfl rfl inm8 (by decide) Tx0 q285 rfl T_4 (by decide) ?_
      refine ww_iconst (v := 0) C dX8_begin_97 (by decide) ?_
      obtain ⟨u5, e_6, E⟩ := bind_of E
      refine ww_callV C (runs_S (n := 2) (st := []) C [.ref (ad (gr S x0 12)), .int (0 : Int32)] (M_J7_fill_53178 l G ad N 12 hG (gr S x0 12) (0 : Int32) u2 T_4 e_6) ⟨q911, q125, by decide⟩ q909 q910 rfl (Nat.le_of_ble_eq_true rfl) ⟨Nat.le_of_ble_eq_true rfl, Nat.le_of_ble_eq_true rfl⟩ ⟨Nat.zero_le _, Nat.zero_le _⟩ dX8_begin_98 rfl) ?_
      refine ww_aload_n C dX8_begin_101 rfl 0 rfl ?_
      have T_7 : gs S (gr S x0 13) = (1, 12) := hG.1 _ 8 Tx0 13 (by decide)
      refine ww_getr (ci := 8) (k0 := 13) C dX8_begin_102 rfl rfl inm8 (by decide) Tx0 q287 rfl T_7 (by decide) ?_
      refine ww_iconst (v := 0) C dX8_begin_105 (by decide) ?_
      obtain ⟨u8, e_9, E⟩ := bind_of E
      refine ww_callV C (runs_S (n := 2) (st := []) C [.ref (ad (gr S x0 13)), .int (0 : Int32)] (M_J7_fill_53178 l G ad N 12 hG (gr S x0 13) (0 : Int32) u5 T_7 e_9) ⟨q911, q125, by decide⟩ q909 q910 rfl (Nat.le_of_ble_eq_true rfl) ⟨Nat.le_of_ble_eq_true rfl, Nat.le_of_ble_eq_true rfl⟩ ⟨Nat.zero_le _, Nat.zero_le _⟩ dX8_begin_106 rfl) ?_
      refine ww_aload_n C dX8_begin_109 rfl 0 rfl ?_
      have T_10 : gs S (gr S x0 14) = (1, 12) := hG.1 _ 8 Tx0 14 (by decide)
      refine ww_getr (ci := 8) (k0 := 14) C dX8_begin_110 rfl rfl inm8 (by decide) Tx0 q289 rfl T_10 (by decide) ?_
      refine ww_iconst (v := 0) C dX8_begin_113 (by decide) ?_
      obtain ⟨u11, e_12, E⟩ := bind_of E
      refine ww_callV C (runs_S (n := 2) (st := []) C [.ref (ad (gr S x0 14)), .int (0 : Int32)] (M_J7_fill_53178 l G ad N 12 hG (gr S x0 14) (0 : Int32) u8 T_10 e_12) ⟨q911, q125, by decide⟩ q909 q910 rfl (Nat.le_of_ble_eq_true rfl) ⟨Nat.le_of_ble_eq_true rfl, Nat.le_of_ble_eq_true rfl⟩ ⟨Nat.zero_le _, Nat.zero_le _⟩ dX8_begin_114 rfl) ?_
      refine ww_aload_n C dX8_begin_117 rfl 0 rfl ?_
      have T_13 : gs S (gr S x0 15) = (1, 12) := hG.1 _ 8 Tx0 15 (by decide)
      refine ww_getr (ci := 8) (k0 := 15) C dX8_begin_118 rfl rfl inm8 (by decide) Tx0 q291 rfl T_13 (by decide) ?_
      refine ww_iconst (v := 0) C dX8_begin_121 (by decide) ?_
      obtain ⟨u14, e_15, E⟩ := bind_of E
      refine ww_callV C (runs_S (n := 2) (st := []) C [.ref (ad (gr S x0 15)), .int (0 : Int32)] (M_J7_fill_53178 l G ad N 12 hG (gr S x0 15) (0 : Int32) u11 T_13 e_15) ⟨q911, q125, by decide⟩ q909 q910 rfl (Nat.le_of_ble_eq_true rfl) ⟨Nat.le_of_ble_eq_true rfl, Nat.le_of_ble_eq_true rfl⟩ ⟨Nat.zero_le _, Nat.zero_le _⟩ dX8_begin_122 rfl) ?_
      refine ww_aload_n C dX8_begin_125 rfl 0 rfl ?_
      have T_16 : gs S (gr S x0 19) = (1, 75) := hG.1 _ 8 Tx0 19 (by decide)
      refine ww_getr (ci := 8) (k0 := 19) C dX8_begin_126 rfl rfl inm8 (by decide) Tx0 q299 rfl T_16 (by decide) ?_
      refine ww_iconst (v := 0) C dX8_begin_129 (by decide) ?_
      obtain ⟨u17, e_18, E⟩ := bind_of E
      refine ww_callV C (runs_S (n := 2) (st := []) C [.ref (ad (gr S x0 19)), .int (0 : Int32)] (M_J7_fill_53178 l G ad N 75 hG (gr S x0 19) (0 : Int32) u14 T_16 e_18) ⟨q911, q125, by decide⟩ q909 q910 rfl (Nat.le_of_ble_eq_true rfl) ⟨Nat.le_of_ble_eq_true rfl, Nat.le_of_ble_eq_true rfl⟩ ⟨Nat.zero_le _, Nat.zero_le _⟩ dX8_begin_130 rfl) ?_
      refine ww_aload_n C dX8_begin_133 rfl 0 rfl ?_
      obtain ⟨u19, e_20, E⟩ := bind_of E
      refine ww_callV C (runs_V (n := 0) (st := []) C [] (M_X8_sortByHaste l G ad N hG x0 u17 Tx0 e_20) ⟨q915, q112, by decide⟩ q912 q914 q14 (ci := 8) rfl Tx0 rfl (Nat.le_of_ble_eq_true rfl) ⟨Nat.le_of_ble_eq_true rfl, Nat.le_of_ble_eq_true rfl⟩ ⟨Nat.zero_le _, Nat.zero_le _⟩ dX8_begin_134 rfl) ?_
      exact ww_vret C HR HL dX8_begin_137 E
    · refine ww_aload_n C dX8_begin_37 rfl 0 rfl ?_
      have T_21 : gs S (gr S x0 0) = (0, 4) := hG.1 _ 8 Tx0 0 (by decide)
      refine ww_getr (ci := 8) (k0 := 0) C dX8_begin_38 rfl rfl inm8 (by decide) Tx0 q261 rfl T_21 (by decide) ?_
      have T_22 : gs S (gr S (gr S x0 0) 5) = (1, 12) := hG.1 _ 4 T_21 5 (by decide)
      refine ww_getr (ci := 4) (k0 := 5) C dX8_begin_41 rfl rfl inm4 (by decide) T_21 q168 rfl T_22 (by decide) ?_
      refine ww_iconst (v := 0) C dX8_begin_44 (by decide) ?_
      refine ww_aload_n C dX8_begin_45 rfl 0 rfl ?_
      have T_23 : gs S (gr S x0 9) = (1, 48) := hG.1 _ 8 Tx0 9 (by decide)
      refine ww_getr (ci := 8) (k0 := 9) C dX8_begin_46 rfl rfl inm8 (by decide) Tx0 q277 rfl T_23 (by decide) ?_
      refine ww_iload_n C dX8_begin_49 rfl 1 rfl ?_
      refine ww_bipush (v := 12) C dX8_begin_50 (by decide) ?_
      refine ww_imul C dX8_begin_52 ?_
      refine ww_bipush (v := 12) C dX8_begin_53 (by decide) ?_
      obtain ⟨g_25, E⟩ := gd_of E
      refine ww_copy (t := 1) C dX8_begin_55 T_22 T_23 (by decide) (by decide) g_25.1 g_25.2 q908 q790 q789 q124 (Nat.le_of_ble_eq_true rfl) (Nat.le_of_ble_eq_true rfl) (Nat.le_of_ble_eq_true rfl) ?_
      refine ww_bd E (fun dy24 E => ?_)
      refine ww_aload_n C dX8_begin_58 rfl 0 rfl ?_
      have T_26 : gs S (gr S x0 0) = (0, 4) := hG.1 _ 8 Tx0 0 (by decide)
      refine ww_getr (ci := 8) (k0 := 0) C dX8_begin_59 rfl rfl inm8 (by decide) Tx0 q261 rfl T_26 (by decide) ?_
      have T_27 : gs S (gr S (gr S x0 0) 6) = (1, 12) := hG.1 _ 4 T_26 6 (by decide)
      refine ww_getr (ci := 4) (k0 := 6) C dX8_begin_62 rfl rfl inm4 (by decide) T_26 q171 rfl T_27 (by decide) ?_
      refine ww_iconst (v := 0) C dX8_begin_65 (by decide) ?_
      refine ww_aload_n C dX8_begin_66 rfl 0 rfl ?_
      have T_28 : gs S (gr S x0 10) = (1, 48) := hG.1 _ 8 Tx0 10 (by decide)
      refine ww_getr (ci := 8) (k0 := 10) C dX8_begin_67 rfl rfl inm8 (by decide) Tx0 q280 rfl T_28 (by decide) ?_
      refine ww_iload_n C dX8_begin_70 rfl 1 rfl ?_
      refine ww_bipush (v := 12) C dX8_begin_71 (by decide) ?_
      refine ww_imul C dX8_begin_73 ?_
      refine ww_bipush (v := 12) C dX8_begin_74 (by decide) ?_
      obtain ⟨g_30, E⟩ := gd_of E
      refine ww_copy (t := 1) C dX8_begin_76 T_27 T_28 (by decide) (by decide) g_30.1 g_30.2 q908 q790 q789 q124 (Nat.le_of_ble_eq_true rfl) (Nat.le_of_ble_eq_true rfl) (Nat.le_of_ble_eq_true rfl) ?_
      refine ww_bd E (fun dy29 E => ?_)
      refine ww_iinc (v := (x2 + (1 : Int32))) (lv' := [(2, .int (x2 + (1 : Int32))), (0, .ref (ad x0))]) C dX8_begin_79 1 rfl rfl (by decide) rfl ?_
      refine ww_goto (tgt := 32) C dX8_begin_82 (by decide) ?_
      refine ww_sub (lv' := [(0, .ref (ad x0)), (2, .int (x2 + (1 : Int32)))]) [1, 0] rfl ?_
      exact ih x0 (x2 + (1 : Int32)) dy29 Tx0 E
end P_X8_begin
set_option maxHeartbeats 4000000 in
set_option maxRecDepth 100000 in
theorem M_X8_begin (l : Launch) (G : GG) (ad : Nat → Nat) {S : ST} (N : Nat) (hG : Good S) (a0 : Nat) (a1 : Int32) (dy : DY) (T0 : gs S a0 = (0, 8)) {dy' : DY} (E : F_X8_begin S N a0 a1 dy = some dy') : MC l yX8_begin cX8_begin 3 (Option.none : Option Jvm.ClassFile.FieldType) (2) G ad [.ref (ad a0), .int a1] S dy (fun A => QV G ad A S dy') := by
  rw [F_X8_begin_s] at E
  refine mc_of RX8 (by decide) rfl (Nat.le_of_ble_eq_true rfl) (fun p e s m args below meth c A C HR HL => ?_)
  refine ww_sub (lv' := [(0, .ref (ad a0)), (1, .int a1)]) [0, 1] rfl ?_
  refine ww_aload_n C dX8_begin_0 rfl 0 rfl ?_
  refine ww_iload_n C dX8_begin_1 rfl 1 rfl ?_
  refine ww_puti (ci := 8) (k0 := 3) C dX8_begin_2 rfl rfl inm8 tyX8_ok nmX8 (by decide) T0 q265 rfl rfl rfl ?_
  refine ww_bd E (fun dy1 E => ?_)
  refine ww_aload_n C dX8_begin_5 rfl 0 rfl ?_
  refine ww_iconst (v := 0) C dX8_begin_6 (by decide) ?_
  refine ww_puti (ci := 8) (k0 := 2) C dX8_begin_7 rfl rfl inm8 tyX8_ok nmX8 (by decide) T0 q263 rfl rfl rfl ?_
  refine ww_bd E (fun dy2 E => ?_)
  refine ww_aload_n C dX8_begin_10 rfl 0 rfl ?_
  refine ww_iconst (v := 0) C dX8_begin_11 (by decide) ?_
  refine ww_puti (ci := 8) (k0 := 4) C dX8_begin_12 rfl rfl inm8 tyX8_ok nmX8 (by decide) T0 q266 rfl rfl rfl ?_
  refine ww_bd E (fun dy3 E => ?_)
  refine ww_aload_n C dX8_begin_15 rfl 0 rfl ?_
  refine ww_iconst (v := 0) C dX8_begin_16 (by decide) ?_
  refine ww_puti (ci := 8) (k0 := 5) C dX8_begin_17 rfl rfl inm8 tyX8_ok nmX8 (by decide) T0 q268 rfl rfl rfl ?_
  refine ww_bd E (fun dy4 E => ?_)
  refine ww_aload_n C dX8_begin_20 rfl 0 rfl ?_
  refine ww_iconst (v := 0) C dX8_begin_21 (by decide) ?_
  refine ww_puti (ci := 8) (k0 := 6) C dX8_begin_22 rfl rfl inm8 tyX8_ok nmX8 (by decide) T0 q271 rfl rfl rfl ?_
  refine ww_bd E (fun dy5 E => ?_)
  refine ww_aload_n C dX8_begin_25 rfl 0 rfl ?_
  refine ww_iconst (v := 0) C dX8_begin_26 (by decide) ?_
  refine ww_puti (ci := 8) (k0 := 7) C dX8_begin_27 rfl rfl inm8 tyX8_ok nmX8 (by decide) T0 q274 rfl rfl rfl ?_
  refine ww_bd E (fun dy6 E => ?_)
  refine ww_iconst (v := 0) C dX8_begin_30 (by decide) ?_
  refine ww_istore_n (lv' := [(2, .int (0 : Int32)), (0, .ref (ad a0)), (1, .int a1)]) C dX8_begin_31 rfl (by decide) rfl ?_
  refine ww_sub (lv' := [(0, .ref (ad a0)), (2, .int (0 : Int32))]) [1, 0] rfl ?_
  exact (B_X8_begin_32 C HR HL hG N) a0 (0 : Int32) dy6 T0 E
section P_X8_doorOf
variable {p : Program} {l : Launch} {e : Env} {s : State} {m : MethodId} {args : Array Value} {below : List Frame} {meth : Method} {c : Code} {G : GG} {A : Nat → Prop} {ad : Nat → Nat} {S : ST} {N : Nat} {r : Int32} {dy' : DY}
set_option maxHeartbeats 4000000 in
set_option maxRecDepth 100000 in
theorem B_X8_doorOf_24 (C : CX p s m args c cX8_doorOf 4 RX8 G A) (HR : meth.sig.returnType = (Option.some Jvm.ClassFile.FieldType.int)) (HL : meth.locks = false) (hG : Good S) : ∀ (x0 : Nat) (x1 : Int32) (x2 : Int32) (y0 : Int32) (dy : DY), gs S x0 = (0, 8) → F_X8_doorOf_24 S N x0 x1 x2 y0 dy = some (r, dy') → WJ p l e (rmD (1)) s m args below meth c 4 G A 0 0 (MQ below (QI G ad A S r dy') args s 0 0 A) ad 24 [(0, .ref (ad x0)), (1, .int x1), (2, .int x2)] [.int y0] S dy := by
  intro x0 x1 x2 y0 dy Tx0 E
  rw [F_X8_doorOf_24_s] at E
  refine ww_istore_n (lv' := [(3, .int y0), (0, .ref (ad x0)), (1, .int x1), (2, .int x2)]) C dX8_doorOf_24 rfl (by decide) rfl ?_
  refine ww_iload_n C dX8_doorOf_25 rfl 0 rfl ?_
  refine ww_if_eq (tgt := 42) C dX8_doorOf_26 (by decide) E (fun _ E => ?_) (fun _ E => ?_)
  · refine ww_iconst (v := (-1)) C dX8_doorOf_42 (by decide) ?_
    exact ww_iret C HR HL dX8_doorOf_43 E
  · refine ww_aload_n C dX8_doorOf_29 rfl 1 rfl ?_
    have T_1 : gs S (gr S x0 19) = (1, 75) := hG.1 _ 8 Tx0 19 (by decide)
    refine ww_getr (ci := 8) (k0 := 19) C dX8_doorOf_30 rfl rfl inm8 (by decide) Tx0 q299 rfl T_1 (by decide) ?_
    refine ww_iload_n C dX8_doorOf_33 rfl 2 rfl ?_
    refine ww_iconst (v := 5) C dX8_doorOf_34 (by decide) ?_
    refine ww_imul C dX8_doorOf_35 ?_
    refine ww_iload_n C dX8_doorOf_36 rfl 3 rfl ?_
    refine ww_iadd C dX8_doorOf_37 ?_
    refine ww_iald C dX8_doorOf_38 T_1 E (fun _ E => ?_)
    refine ww_goto (tgt := 43) C dX8_doorOf_39 (by decide) ?_
    exact ww_iret C HR HL dX8_doorOf_43 E
end P_X8_doorOf
set_option maxHeartbeats 4000000 in
set_option maxRecDepth 100000 in
theorem M_X8_doorOf (l : Launch) (G : GG) (ad : Nat → Nat) {S : ST} (N : Nat) (hG : Good S) (a0 : Nat) (a1 : Int32) (a2 : Int32) (dy : DY) (T0 : gs S a0 = (0, 8)) {r : Int32} {dy' : DY} (E : F_X8_doorOf S N a0 a1 a2 dy = some (r, dy')) : MC l yX8_doorOf cX8_doorOf 4 (Option.some Jvm.ClassFile.FieldType.int) (1) G ad [.ref (ad a0), .int a1, .int a2] S dy (fun A => QI G ad A S r dy') := by
  rw [F_X8_doorOf_s] at E
  refine mc_of RX8 (by decide) rfl (Nat.le_of_ble_eq_true rfl) (fun p e s m args below meth c A C HR HL => ?_)
  refine ww_sub (lv' := [(0, .ref (ad a0)), (1, .int a1), (2, .int a2)]) [0, 1, 2] rfl ?_
  refine ww_iload_n C dX8_doorOf_0 rfl 1 rfl ?_
  refine ww_if_lt (tgt := 23) C dX8_doorOf_1 (by decide) E (fun _ E => ?_) (fun _ E => ?_)
  · refine ww_iconst (v := 0) C dX8_doorOf_23 (by decide) ?_
    refine ww_sub (lv' := [(0, .ref (ad a0)), (1, .int a1), (2, .int a2)]) [0, 1, 2] rfl ?_
    exact (B_X8_doorOf_24 C HR HL hG) a0 a1 a2 (0 : Int32) dy T0 E
  · refine ww_iload_n C dX8_doorOf_4 rfl 1 rfl ?_
    refine ww_bipush (v := 15) C dX8_doorOf_5 (by decide) ?_
    refine ww_icmp_ge (tgt := 23) C dX8_doorOf_7 (by decide) E (fun _ E => ?_) (fun _ E => ?_)
    · refine ww_iconst (v := 0) C dX8_doorOf_23 (by decide) ?_
      refine ww_sub (lv' := [(0, .ref (ad a0)), (1, .int a1), (2, .int a2)]) [0, 1, 2] rfl ?_
      exact (B_X8_doorOf_24 C HR HL hG) a0 a1 a2 (0 : Int32) dy T0 E
    · refine ww_iload_n C dX8_doorOf_10 rfl 2 rfl ?_
      refine ww_if_lt (tgt := 23) C dX8_doorOf_11 (by decide) E (fun _ E => ?_) (fun _ E => ?_)
      · refine ww_iconst (v := 0) C dX8_doorOf_23 (by decide) ?_
        refine ww_sub (lv' := [(0, .ref (ad a0)), (1, .int a1), (2, .int a2)]) [0, 1, 2] rfl ?_
        exact (B_X8_doorOf_24 C HR HL hG) a0 a1 a2 (0 : Int32) dy T0 E
      · refine ww_iload_n C dX8_doorOf_14 rfl 2 rfl ?_
        refine ww_iconst (v := 2) C dX8_doorOf_15 (by decide) ?_
        refine ww_icmp_gt (tgt := 23) C dX8_doorOf_16 (by decide) E (fun _ E => ?_) (fun _ E => ?_)
        · refine ww_iconst (v := 0) C dX8_doorOf_23 (by decide) ?_
          refine ww_sub (lv' := [(0, .ref (ad a0)), (1, .int a1), (2, .int a2)]) [0, 1, 2] rfl ?_
          exact (B_X8_doorOf_24 C HR HL hG) a0 a1 a2 (0 : Int32) dy T0 E
        · refine ww_iconst (v := 1) C dX8_doorOf_19 (by decide) ?_
          refine ww_goto (tgt := 24) C dX8_doorOf_20 (by decide) ?_
          refine ww_sub (lv' := [(0, .ref (ad a0)), (1, .int a1), (2, .int a2)]) [0, 1, 2] rfl ?_
          exact (B_X8_doorOf_24 C HR HL hG) a0 a1 a2 (1 : Int32) dy T0 E
section P_X8_draw
variable {p : Program} {l : Launch} {e : Env} {s : State} {m : MethodId} {args : Array Value} {below : List Frame} {meth : Method} {c : Code} {G : GG} {A : Nat → Prop} {ad : Nat → Nat} {S : ST} {N : Nat} {r : Int32} {dy' : DY}
end P_X8_draw
set_option maxHeartbeats 4000000 in
set_option maxRecDepth 100000 in
theorem M_X8_draw (l : Launch) (G : GG) (ad : Nat → Nat) {S : ST} (N : Nat) (hG : Good S) (a0 : Nat) (dy : DY) (T0 : gs S a0 = (0, 8)) {r : Int32} {dy' : DY} (E : F_X8_draw S N a0 dy = some (r, dy')) : MC l yX8_draw cX8_draw 1 (Option.some Jvm.ClassFile.FieldType.boolean) (1) G ad [.ref (ad a0)] S dy (fun A => QI G ad A S r dy') := by
  rw [F_X8_draw_s] at E
  refine mc_of RX8 (by decide) rfl (Nat.le_of_ble_eq_true rfl) (fun p e s m args below meth c A C HR HL => ?_)
  refine ww_sub (lv' := [(0, .ref (ad a0))]) [0] rfl ?_
  refine ww_aload_n C dX8_draw_0 rfl 0 rfl ?_
  refine ww_aload_n C dX8_draw_1 rfl 0 rfl ?_
  refine ww_geti (ci := 8) (k0 := 3) C dX8_draw_2 rfl rfl inm8 (by decide) T0 q265 rfl ?_
  refine ww_ldc (v := (1103515245)) C dX8_draw_5 q971 ?_
  refine ww_imul C dX8_draw_7 ?_
  refine ww_sipush (v := 12345) C dX8_draw_8 (by decide) ?_
  refine ww_iadd C dX8_draw_11 ?_
  refine ww_puti (ci := 8) (k0 := 3) C dX8_draw_12 rfl rfl inm8 tyX8_ok nmX8 (by decide) T0 q265 rfl rfl rfl ?_
  refine ww_bd E (fun dy1 E => ?_)
  refine ww_aload_n C dX8_draw_15 rfl 0 rfl ?_
  refine ww_dup C dX8_draw_16 rfl ?_
  refine ww_geti (ci := 8) (k0 := 4) C dX8_draw_17 rfl rfl inm8 (by decide) T0 q266 rfl ?_
  refine ww_iconst (v := 1) C dX8_draw_20 (by decide) ?_
  refine ww_iadd C dX8_draw_21 ?_
  refine ww_puti (ci := 8) (k0 := 4) C dX8_draw_22 rfl rfl inm8 tyX8_ok nmX8 (by decide) T0 q266 rfl rfl rfl ?_
  refine ww_bd E (fun dy2 E => ?_)
  refine ww_aload_n C dX8_draw_25 rfl 0 rfl ?_
  refine ww_geti (ci := 8) (k0 := 3) C dX8_draw_26 rfl rfl inm8 (by decide) T0 q265 rfl ?_
  refine ww_bipush (v := 16) C dX8_draw_29 (by decide) ?_
  refine ww_ishr C dX8_draw_31 ?_
  refine ww_iconst (v := 1) C dX8_draw_32 (by decide) ?_
  refine ww_iand C dX8_draw_33 ?_
  refine ww_if_ne (tgt := 41) C dX8_draw_34 (by decide) E (fun _ E => ?_) (fun _ E => ?_)
  · refine ww_iconst (v := 0) C dX8_draw_41 (by decide) ?_
    exact ww_zret C HR HL dX8_draw_42 (Or.inl rfl) E
  · refine ww_iconst (v := 1) C dX8_draw_37 (by decide) ?_
    refine ww_goto (tgt := 42) C dX8_draw_38 (by decide) ?_
    exact ww_zret C HR HL dX8_draw_42 (Or.inr rfl) E
section P_X8_wayOfRow
variable {p : Program} {l : Launch} {e : Env} {s : State} {m : MethodId} {args : Array Value} {below : List Frame} {meth : Method} {c : Code} {G : GG} {A : Nat → Prop} {ad : Nat → Nat} {S : ST} {N : Nat} {r : Int32} {dy' : DY}
set_option maxHeartbeats 4000000 in
set_option maxRecDepth 100000 in
theorem B_X8_wayOfRow_52 (C : CX p s m args c cX8_wayOfRow 4 RX8 G A) (HR : meth.sig.returnType = (Option.some Jvm.ClassFile.FieldType.int)) (HL : meth.locks = false) (hG : Good S) {K4 : Nat → Int32 → Int32 → Int32 → DY → Option (Int32 × DY)} (hK4 : ∀ (x0 : Nat) (x1 : Int32) (x2 : Int32) (x3 : Int32) (dy : DY), gs S x0 = (0, 8) → K4 x0 x1 x2 x3 dy = some (r, dy') → WJ p l e (rmD (1)) s m args below meth c 4 G A 0 0 (MQ below (QI G ad A S r dy') args s 0 0 A) ad 4 [(0, .ref (ad x0)), (1, .int x1), (2, .int x2), (3, .int x3)] [] S dy) : ∀ (x0 : Nat) (x1 : Int32) (x3 : Int32) (dy : DY), gs S x0 = (0, 8) → F_X8_wayOfRow_52 S N K4 x0 x1 x3 dy = some (r, dy') → WJ p l e (rmD (1)) s m args below meth c 4 G A 0 0 (MQ below (QI G ad A S r dy') args s 0 0 A) ad 52 [(0, .ref (ad x0)), (1, .int x1), (3, .int x3)] [] S dy := by
  intro x0 x1 x3 dy Tx0 E
  rw [F_X8_wayOfRow_52_s] at E
  refine ww_aload_n C dX8_wayOfRow_52 rfl 0 rfl ?_
  have T_1 : gs S (gr S x0 0) = (0, 4) := hG.1 _ 8 Tx0 0 (by decide)
  refine ww_getr (ci := 8) (k0 := 0) C dX8_wayOfRow_53 rfl rfl inm8 (by decide) Tx0 q261 rfl T_1 (by decide) ?_
  have T_2 : gs S (gr S (gr S x0 0) 7) = (1, 12) := hG.1 _ 4 T_1 7 (by decide)
  refine ww_getr (ci := 4) (k0 := 7) C dX8_wayOfRow_56 rfl rfl inm4 (by decide) T_1 q174 rfl T_2 (by decide) ?_
  refine ww_iload_n C dX8_wayOfRow_59 rfl 2 rfl ?_
  refine ww_iald C dX8_wayOfRow_60 T_2 E (fun _ E => ?_)
  refine ww_goto (tgt := 65) C dX8_wayOfRow_61 (by decide) ?_
  refine ww_istore_n (lv' := [(2, .int (gi dy (gr S (gr S x0 0) 7) x3.toNatClampNeg)), (0, .ref (ad x0)), (1, .int x1), (3, .int x3)]) C dX8_wayOfRow_65 rfl (by decide) rfl ?_
  refine ww_iinc (v := (x3 + (1 : Int32))) (lv' := [(3, .int (x3 + (1 : Int32))), (2, .int (gi dy (gr S (gr S x0 0) 7) x3.toNatClampNeg)), (0, .ref (ad x0)), (1, .int x1)]) C dX8_wayOfRow_66 3 rfl rfl (by decide) rfl ?_
  refine ww_goto (tgt := 4) C dX8_wayOfRow_69 (by decide) ?_
  refine ww_sub (lv' := [(0, .ref (ad x0)), (1, .int x1), (2, .int (gi dy (gr S (gr S x0 0) 7) x3.toNatClampNeg)), (3, .int (x3 + (1 : Int32)))]) [2, 3, 1, 0] rfl ?_
  exact hK4 x0 x1 (gi dy (gr S (gr S x0 0) 7) x3.toNatClampNeg) (x3 + (1 : Int32)) dy Tx0 E
set_option maxHeartbeats 4000000 in
set_option maxRecDepth 100000 in
theorem B_X8_wayOfRow_4 (C : CX p s m args c cX8_wayOfRow 4 RX8 G A) (HR : meth.sig.returnType = (Option.some Jvm.ClassFile.FieldType.int)) (HL : meth.locks = false) (hG : Good S) : ∀ k : Nat, ∀ (x0 : Nat) (x1 : Int32) (x2 : Int32) (x3 : Int32) (dy : DY), gs S x0 = (0, 8) → (F_X8_wayOfRow_4 S N k) x0 x1 x2 x3 dy = some (r, dy') → WJ p l e (rmD (1)) s m args below meth c 4 G A 0 0 (MQ below (QI G ad A S r dy') args s 0 0 A) ad 4 [(0, .ref (ad x0)), (1, .int x1), (2, .int x2), (3, .int x3)] [] S dy := by
  intro k
  induction k with
  | zero => exact fun _ _ _ _ _ _ E => nomatch (show none = some (r, dy') from E)
  | succ k ih =>
    intro x0 x1 x2 x3 dy Tx0 E
    rw [F_X8_wayOfRow_4_s] at E
    refine ww_iload_n C dX8_wayOfRow_4 rfl 3 rfl ?_
    refine ww_aload_n C dX8_wayOfRow_5 rfl 0 rfl ?_
    have T_1 : gs S (gr S x0 0) = (0, 4) := hG.1 _ 8 Tx0 0 (by decide)
    refine ww_getr (ci := 8) (k0 := 0) C dX8_wayOfRow_6 rfl rfl inm8 (by decide) Tx0 q261 rfl T_1 (by decide) ?_
    refine ww_geti (ci := 4) (k0 := 3) C dX8_wayOfRow_9 rfl rfl inm4 (by decide) T_1 q162 rfl ?_
    refine ww_icmp_ge (tgt := 72) C dX8_wayOfRow_12 (by decide) E (fun _ E => ?_) (fun _ E => ?_)
    · refine ww_iload_n C dX8_wayOfRow_72 rfl 2 rfl ?_
      exact ww_iret C HR HL dX8_wayOfRow_73 E
    · refine ww_aload_n C dX8_wayOfRow_15 rfl 0 rfl ?_
      have T_2 : gs S (gr S x0 9) = (1, 48) := hG.1 _ 8 Tx0 9 (by decide)
      refine ww_getr (ci := 8) (k0 := 9) C dX8_wayOfRow_16 rfl rfl inm8 (by decide) Tx0 q277 rfl T_2 (by decide) ?_
      refine ww_iload_n C dX8_wayOfRow_19 rfl 3 rfl ?_
      refine ww_iald C dX8_wayOfRow_20 T_2 E (fun _ E => ?_)
      refine ww_iconst (v := (-1)) C dX8_wayOfRow_21 (by decide) ?_
      refine ww_icmp_eq (tgt := 66) C dX8_wayOfRow_22 (by decide) E (fun _ E => ?_) (fun _ E => ?_)
      · refine ww_iinc (v := (x3 + (1 : Int32))) (lv' := [(3, .int (x3 + (1 : Int32))), (0, .ref (ad x0)), (1, .int x1), (2, .int x2)]) C dX8_wayOfRow_66 3 rfl rfl (by decide) rfl ?_
        refine ww_goto (tgt := 4) C dX8_wayOfRow_69 (by decide) ?_
        refine ww_sub (lv' := [(0, .ref (ad x0)), (1, .int x1), (2, .int x2), (3, .int (x3 + (1 : Int32)))]) [1, 2, 3, 0] rfl ?_
        exact ih x0 x1 x2 (x3 + (1 : Int32)) dy Tx0 E
      · refine ww_aload_n C dX8_wayOfRow_25 rfl 0 rfl ?_
        have T_3 : gs S (gr S x0 10) = (1, 48) := hG.1 _ 8 Tx0 10 (by decide)
        refine ww_getr (ci := 8) (k0 := 10) C dX8_wayOfRow_26 rfl rfl inm8 (by decide) Tx0 q280 rfl T_3 (by decide) ?_
        refine ww_iload_n C dX8_wayOfRow_29 rfl 3 rfl ?_
        refine ww_iald C dX8_wayOfRow_30 T_3 E (fun _ E => ?_)
        refine ww_iload_n C dX8_wayOfRow_31 rfl 1 rfl ?_
        refine ww_icmp_ne (tgt := 66) C dX8_wayOfRow_32 (by decide) E (fun _ E => ?_) (fun _ E => ?_)
        · refine ww_iinc (v := (x3 + (1 : Int32))) (lv' := [(3, .int (x3 + (1 : Int32))), (0, .ref (ad x0)), (1, .int x1), (2, .int x2)]) C dX8_wayOfRow_66 3 rfl rfl (by decide) rfl ?_
          refine ww_goto (tgt := 4) C dX8_wayOfRow_69 (by decide) ?_
          refine ww_sub (lv' := [(0, .ref (ad x0)), (1, .int x1), (2, .int x2), (3, .int (x3 + (1 : Int32)))]) [1, 2, 3, 0] rfl ?_
          exact ih x0 x1 x2 (x3 + (1 : Int32)) dy Tx0 E
        · refine ww_iload_n C dX8_wayOfRow_35 rfl 2 rfl ?_
          refine ww_if_eq (tgt := 52) C dX8_wayOfRow_36 (by decide) E (fun _ E => ?_) (fun _ E => ?_)
          · refine ww_sub (lv' := [(0, .ref (ad x0)), (1, .int x1), (3, .int x3)]) [0, 1, 3] rfl ?_
            exact (B_X8_wayOfRow_52 C HR HL hG ih) x0 x1 x3 dy Tx0 E
          · refine ww_iload_n C dX8_wayOfRow_39 rfl 2 rfl ?_
            refine ww_aload_n C dX8_wayOfRow_40 rfl 0 rfl ?_
            have T_4 : gs S (gr S x0 0) = (0, 4) := hG.1 _ 8 Tx0 0 (by decide)
            refine ww_getr (ci := 8) (k0 := 0) C dX8_wayOfRow_41 rfl rfl inm8 (by decide) Tx0 q261 rfl T_4 (by decide) ?_
            have T_5 : gs S (gr S (gr S x0 0) 7) = (1, 12) := hG.1 _ 4 T_4 7 (by decide)
            refine ww_getr (ci := 4) (k0 := 7) C dX8_wayOfRow_44 rfl rfl inm4 (by decide) T_4 q174 rfl T_5 (by decide) ?_
            refine ww_iload_n C dX8_wayOfRow_47 rfl 3 rfl ?_
            refine ww_iald C dX8_wayOfRow_48 T_5 E (fun _ E => ?_)
            refine ww_icmp_ne (tgt := 64) C dX8_wayOfRow_49 (by decide) E (fun _ E => ?_) (fun _ E => ?_)
            · refine ww_iconst (v := 2) C dX8_wayOfRow_64 (by decide) ?_
              refine ww_istore_n (lv' := [(2, .int (2 : Int32)), (0, .ref (ad x0)), (1, .int x1), (3, .int x3)]) C dX8_wayOfRow_65 rfl (by decide) rfl ?_
              refine ww_iinc (v := (x3 + (1 : Int32))) (lv' := [(3, .int (x3 + (1 : Int32))), (2, .int (2 : Int32)), (0, .ref (ad x0)), (1, .int x1)]) C dX8_wayOfRow_66 3 rfl rfl (by decide) rfl ?_
              refine ww_goto (tgt := 4) C dX8_wayOfRow_69 (by decide) ?_
              refine ww_sub (lv' := [(0, .ref (ad x0)), (1, .int x1), (2, .int (2 : Int32)), (3, .int (x3 + (1 : Int32)))]) [2, 3, 1, 0] rfl ?_
              exact ih x0 x1 (2 : Int32) (x3 + (1 : Int32)) dy Tx0 E
            · refine ww_sub (lv' := [(0, .ref (ad x0)), (1, .int x1), (3, .int x3)]) [0, 1, 3] rfl ?_
              exact (B_X8_wayOfRow_52 C HR HL hG ih) x0 x1 x3 dy Tx0 E
end P_X8_wayOfRow
set_option maxHeartbeats 4000000 in
set_option maxRecDepth 100000 in
theorem M_X8_wayOfRow (l : Launch) (G : GG) (ad : Nat → Nat) {S : ST} (N : Nat) (hG : Good S) (a0 : Nat) (a1 : Int32) (dy : DY) (T0 : gs S a0 = (0, 8)) {r : Int32} {dy' : DY} (E : F_X8_wayOfRow S N a0 a1 dy = some (r, dy')) : MC l yX8_wayOfRow cX8_wayOfRow 4 (Option.some Jvm.ClassFile.FieldType.int) (1) G ad [.ref (ad a0), .int a1] S dy (fun A => QI G ad A S r dy') := by
  rw [F_X8_wayOfRow_s] at E
  refine mc_of RX8 (by decide) rfl (Nat.le_of_ble_eq_true rfl) (fun p e s m args below meth c A C HR HL => ?_)
  refine ww_sub (lv' := [(0, .ref (ad a0)), (1, .int a1)]) [0, 1] rfl ?_
  refine ww_iconst (v := 0) C dX8_wayOfRow_0 (by decide) ?_
  refine ww_istore_n (lv' := [(2, .int (0 : Int32)), (0, .ref (ad a0)), (1, .int a1)]) C dX8_wayOfRow_1 rfl (by decide) rfl ?_
  refine ww_iconst (v := 0) C dX8_wayOfRow_2 (by decide) ?_
  refine ww_istore_n (lv' := [(3, .int (0 : Int32)), (2, .int (0 : Int32)), (0, .ref (ad a0)), (1, .int a1)]) C dX8_wayOfRow_3 rfl (by decide) rfl ?_
  refine ww_sub (lv' := [(0, .ref (ad a0)), (1, .int a1), (2, .int (0 : Int32)), (3, .int (0 : Int32))]) [2, 3, 1, 0] rfl ?_
  exact (B_X8_wayOfRow_4 C HR HL hG N) a0 a1 (0 : Int32) (0 : Int32) dy T0 E
section P_X8_lanes
variable {p : Program} {l : Launch} {e : Env} {s : State} {m : MethodId} {args : Array Value} {below : List Frame} {meth : Method} {c : Code} {G : GG} {A : Nat → Prop} {ad : Nat → Nat} {S : ST} {N : Nat} {r : Int32} {dy' : DY}
set_option maxHeartbeats 4000000 in
set_option maxRecDepth 100000 in
theorem B_X8_lanes_6 (C : CX p s m args c cX8_lanes 5 RX8 G A) (HR : meth.sig.returnType = (Option.some Jvm.ClassFile.FieldType.int)) (HL : meth.locks = false) (hG : Good S) : ∀ k : Nat, ∀ (x0 : Nat) (x1 : Int32) (x2 : Int32) (x3 : Int32) (dy : DY), gs S x0 = (0, 8) → (F_X8_lanes_6 S N k) x0 x1 x2 x3 dy = some (r, dy') → WJ p l e (rmD (2)) s m args below meth c 5 G A 0 0 (MQ below (QI G ad A S r dy') args s 0 0 A) ad 6 [(0, .ref (ad x0)), (1, .int x1), (2, .int x2), (3, .int x3)] [] S dy := by
  intro k
  induction k with
  | zero => exact fun _ _ _ _ _ _ E => nomatch (show none = some (r, dy') from E)
  | succ k ih =>
    intro x0 x1 x2 x3 dy Tx0 E
    rw [F_X8_lanes_6_s] at E
    refine ww_iload_n C dX8_lanes_6 rfl 3 rfl ?_
    refine ww_aload_n C dX8_lanes_7 rfl 0 rfl ?_
    have T_1 : gs S (gr S x0 0) = (0, 4) := hG.1 _ 8 Tx0 0 (by decide)
    refine ww_getr (ci := 8) (k0 := 0) C dX8_lanes_8 rfl rfl inm8 (by decide) Tx0 q261 rfl T_1 (by decide) ?_
    refine ww_geti (ci := 4) (k0 := 1) C dX8_lanes_11 rfl rfl inm4 (by decide) T_1 q157 rfl ?_
    refine ww_icmp_ge (tgt := 53) C dX8_lanes_14 (by decide) E (fun _ E => ?_) (fun _ E => ?_)
    · refine ww_iload_n C dX8_lanes_53 rfl 1 rfl ?_
      exact ww_iret C HR HL dX8_lanes_54 E
    · refine ww_aload_n C dX8_lanes_17 rfl 0 rfl ?_
      refine ww_iload_n C dX8_lanes_18 rfl 3 rfl ?_
      obtain ⟨u2, e_3, E⟩ := bind_of E
      refine ww_callI C (runs_V (n := 1) (st := []) C [.int x3] (M_X8_wayOfRow l G ad N hG x0 x3 dy Tx0 e_3) ⟨q1040, q112, by decide⟩ q1037 q1039 q26 (ci := 8) rfl Tx0 rfl (Nat.le_of_ble_eq_true rfl) ⟨Nat.le_of_ble_eq_true rfl, Nat.le_of_ble_eq_true rfl⟩ ⟨Nat.zero_le _, Nat.zero_le _⟩ dX8_lanes_19 rfl) ?_
      refine ww_istore (lv' := [(4, .int u2.1), (0, .ref (ad x0)), (1, .int x1), (2, .int x2), (3, .int x3)]) C dX8_lanes_22 (by decide) rfl ?_
      refine ww_iload C dX8_lanes_24 0 rfl ?_
      refine ww_if_eq (tgt := 47) C dX8_lanes_26 (by decide) E (fun _ E => ?_) (fun _ E => ?_)
      · refine ww_iinc (v := (x3 + (1 : Int32))) (lv' := [(3, .int (x3 + (1 : Int32))), (4, .int u2.1), (0, .ref (ad x0)), (1, .int x1), (2, .int x2)]) C dX8_lanes_47 4 rfl rfl (by decide) rfl ?_
        refine ww_goto (tgt := 6) C dX8_lanes_50 (by decide) ?_
        refine ww_sub (lv' := [(0, .ref (ad x0)), (1, .int x1), (2, .int x2), (3, .int (x3 + (1 : Int32)))]) [2, 3, 4, 0] rfl ?_
        exact ih x0 x1 x2 (x3 + (1 : Int32)) u2.2 Tx0 E
      · refine ww_iload C dX8_lanes_29 0 rfl ?_
        refine ww_iconst (v := 2) C dX8_lanes_31 (by decide) ?_
        refine ww_icmp_eq (tgt := 47) C dX8_lanes_32 (by decide) E (fun _ E => ?_) (fun _ E => ?_)
        · refine ww_iinc (v := (x3 + (1 : Int32))) (lv' := [(3, .int (x3 + (1 : Int32))), (4, .int u2.1), (0, .ref (ad x0)), (1, .int x1), (2, .int x2)]) C dX8_lanes_47 4 rfl rfl (by decide) rfl ?_
          refine ww_goto (tgt := 6) C dX8_lanes_50 (by decide) ?_
          refine ww_sub (lv' := [(0, .ref (ad x0)), (1, .int x1), (2, .int x2), (3, .int (x3 + (1 : Int32)))]) [2, 3, 4, 0] rfl ?_
          exact ih x0 x1 x2 (x3 + (1 : Int32)) u2.2 Tx0 E
        · refine ww_iload C dX8_lanes_35 0 rfl ?_
          refine ww_iload_n C dX8_lanes_37 rfl 3 rfl ?_
          refine ww_icmp_eq (tgt := 47) C dX8_lanes_38 (by decide) E (fun _ E => ?_) (fun _ E => ?_)
          · refine ww_iinc (v := (x3 + (1 : Int32))) (lv' := [(3, .int (x3 + (1 : Int32))), (4, .int u2.1), (0, .ref (ad x0)), (1, .int x1), (2, .int x2)]) C dX8_lanes_47 4 rfl rfl (by decide) rfl ?_
            refine ww_goto (tgt := 6) C dX8_lanes_50 (by decide) ?_
            refine ww_sub (lv' := [(0, .ref (ad x0)), (1, .int x1), (2, .int x2), (3, .int (x3 + (1 : Int32)))]) [2, 3, 4, 0] rfl ?_
            exact ih x0 x1 x2 (x3 + (1 : Int32)) u2.2 Tx0 E
          · refine ww_iinc (v := (x1 + (1 : Int32))) (lv' := [(1, .int (x1 + (1 : Int32))), (4, .int u2.1), (0, .ref (ad x0)), (2, .int x2), (3, .int x3)]) C dX8_lanes_41 2 rfl rfl (by decide) rfl ?_
            refine ww_iload C dX8_lanes_44 1 rfl ?_
            refine ww_istore_n (lv' := [(2, .int u2.1), (1, .int (x1 + (1 : Int32))), (4, .int u2.1), (0, .ref (ad x0)), (3, .int x3)]) C dX8_lanes_46 rfl (by decide) rfl ?_
            refine ww_iinc (v := (x3 + (1 : Int32))) (lv' := [(3, .int (x3 + (1 : Int32))), (2, .int u2.1), (1, .int (x1 + (1 : Int32))), (4, .int u2.1), (0, .ref (ad x0))]) C dX8_lanes_47 4 rfl rfl (by decide) rfl ?_
            refine ww_goto (tgt := 6) C dX8_lanes_50 (by decide) ?_
            refine ww_sub (lv' := [(0, .ref (ad x0)), (1, .int (x1 + (1 : Int32))), (2, .int u2.1), (3, .int (x3 + (1 : Int32)))]) [4, 2, 1, 0] rfl ?_
            exact ih x0 (x1 + (1 : Int32)) u2.1 (x3 + (1 : Int32)) u2.2 Tx0 E
end P_X8_lanes
set_option maxHeartbeats 4000000 in
set_option maxRecDepth 100000 in
theorem M_X8_lanes (l : Launch) (G : GG) (ad : Nat → Nat) {S : ST} (N : Nat) (hG : Good S) (a0 : Nat) (dy : DY) (T0 : gs S a0 = (0, 8)) {r : Int32} {dy' : DY} (E : F_X8_lanes S N a0 dy = some (r, dy')) : MC l yX8_lanes cX8_lanes 5 (Option.some Jvm.ClassFile.FieldType.int) (2) G ad [.ref (ad a0)] S dy (fun A => QI G ad A S r dy') := by
  rw [F_X8_lanes_s] at E
  refine mc_of RX8 (by decide) rfl (Nat.le_of_ble_eq_true rfl) (fun p e s m args below meth c A C HR HL => ?_)
  refine ww_sub (lv' := [(0, .ref (ad a0))]) [0] rfl ?_
  refine ww_iconst (v := 0) C dX8_lanes_0 (by decide) ?_
  refine ww_istore_n (lv' := [(1, .int (0 : Int32)), (0, .ref (ad a0))]) C dX8_lanes_1 rfl (by decide) rfl ?_
  refine ww_iconst (v := 0) C dX8_lanes_2 (by decide) ?_
  refine ww_istore_n (lv' := [(2, .int (0 : Int32)), (1, .int (0 : Int32)), (0, .ref (ad a0))]) C dX8_lanes_3 rfl (by decide) rfl ?_
  refine ww_iconst (v := 0) C dX8_lanes_4 (by decide) ?_
  refine ww_istore_n (lv' := [(3, .int (0 : Int32)), (2, .int (0 : Int32)), (1, .int (0 : Int32)), (0, .ref (ad a0))]) C dX8_lanes_5 rfl (by decide) rfl ?_
  refine ww_sub (lv' := [(0, .ref (ad a0)), (1, .int (0 : Int32)), (2, .int (0 : Int32)), (3, .int (0 : Int32))]) [3, 2, 1, 0] rfl ?_
  exact (B_X8_lanes_6 C HR HL hG N) a0 (0 : Int32) (0 : Int32) (0 : Int32) dy T0 E
section P_X8_mixedRows
variable {p : Program} {l : Launch} {e : Env} {s : State} {m : MethodId} {args : Array Value} {below : List Frame} {meth : Method} {c : Code} {G : GG} {A : Nat → Prop} {ad : Nat → Nat} {S : ST} {N : Nat} {r : Int32} {dy' : DY}
set_option maxHeartbeats 4000000 in
set_option maxRecDepth 100000 in
theorem B_X8_mixedRows_4 (C : CX p s m args c cX8_mixedRows 3 RX8 G A) (HR : meth.sig.returnType = (Option.some Jvm.ClassFile.FieldType.int)) (HL : meth.locks = false) (hG : Good S) : ∀ k : Nat, ∀ (x0 : Nat) (x1 : Int32) (x2 : Int32) (dy : DY), gs S x0 = (0, 8) → (F_X8_mixedRows_4 S N k) x0 x1 x2 dy = some (r, dy') → WJ p l e (rmD (2)) s m args below meth c 3 G A 0 0 (MQ below (QI G ad A S r dy') args s 0 0 A) ad 4 [(0, .ref (ad x0)), (1, .int x1), (2, .int x2)] [] S dy := by
  intro k
  induction k with
  | zero => exact fun _ _ _ _ _ E => nomatch (show none = some (r, dy') from E)
  | succ k ih =>
    intro x0 x1 x2 dy Tx0 E
    rw [F_X8_mixedRows_4_s] at E
    refine ww_iload_n C dX8_mixedRows_4 rfl 2 rfl ?_
    refine ww_aload_n C dX8_mixedRows_5 rfl 0 rfl ?_
    have T_1 : gs S (gr S x0 0) = (0, 4) := hG.1 _ 8 Tx0 0 (by decide)
    refine ww_getr (ci := 8) (k0 := 0) C dX8_mixedRows_6 rfl rfl inm8 (by decide) Tx0 q261 rfl T_1 (by decide) ?_
    refine ww_geti (ci := 4) (k0 := 1) C dX8_mixedRows_9 rfl rfl inm4 (by decide) T_1 q157 rfl ?_
    refine ww_icmp_ge (tgt := 38) C dX8_mixedRows_12 (by decide) E (fun _ E => ?_) (fun _ E => ?_)
    · refine ww_iload_n C dX8_mixedRows_38 rfl 1 rfl ?_
      exact ww_iret C HR HL dX8_mixedRows_39 E
    · refine ww_iload_n C dX8_mixedRows_15 rfl 1 rfl ?_
      refine ww_aload_n C dX8_mixedRows_16 rfl 0 rfl ?_
      refine ww_iload_n C dX8_mixedRows_17 rfl 2 rfl ?_
      obtain ⟨u2, e_3, E⟩ := bind_of E
      refine ww_callI C (runs_V (n := 1) (st := [.int x1]) C [.int x2] (M_X8_wayOfRow l G ad N hG x0 x2 dy Tx0 e_3) ⟨q1040, q112, by decide⟩ q1037 q1039 q26 (ci := 8) rfl Tx0 rfl (Nat.le_of_ble_eq_true rfl) ⟨Nat.le_of_ble_eq_true rfl, Nat.le_of_ble_eq_true rfl⟩ ⟨Nat.zero_le _, Nat.zero_le _⟩ dX8_mixedRows_18 rfl) ?_
      refine ww_iconst (v := 2) C dX8_mixedRows_21 (by decide) ?_
      refine ww_icmp_ne (tgt := 29) C dX8_mixedRows_22 (by decide) E (fun _ E => ?_) (fun _ E => ?_)
      · refine ww_iconst (v := 0) C dX8_mixedRows_29 (by decide) ?_
        refine ww_iadd C dX8_mixedRows_30 ?_
        refine ww_istore_n (lv' := [(1, .int (x1 + (0 : Int32))), (0, .ref (ad x0)), (2, .int x2)]) C dX8_mixedRows_31 rfl (by decide) rfl ?_
        refine ww_iinc (v := (x2 + (1 : Int32))) (lv' := [(2, .int (x2 + (1 : Int32))), (1, .int (x1 + (0 : Int32))), (0, .ref (ad x0))]) C dX8_mixedRows_32 2 rfl rfl (by decide) rfl ?_
        refine ww_goto (tgt := 4) C dX8_mixedRows_35 (by decide) ?_
        refine ww_sub (lv' := [(0, .ref (ad x0)), (1, .int (x1 + (0 : Int32))), (2, .int (x2 + (1 : Int32)))]) [2, 1, 0] rfl ?_
        exact ih x0 (x1 + (0 : Int32)) (x2 + (1 : Int32)) u2.2 Tx0 E
      · refine ww_iconst (v := 1) C dX8_mixedRows_25 (by decide) ?_
        refine ww_goto (tgt := 30) C dX8_mixedRows_26 (by decide) ?_
        refine ww_iadd C dX8_mixedRows_30 ?_
        refine ww_istore_n (lv' := [(1, .int (x1 + (1 : Int32))), (0, .ref (ad x0)), (2, .int x2)]) C dX8_mixedRows_31 rfl (by decide) rfl ?_
        refine ww_iinc (v := (x2 + (1 : Int32))) (lv' := [(2, .int (x2 + (1 : Int32))), (1, .int (x1 + (1 : Int32))), (0, .ref (ad x0))]) C dX8_mixedRows_32 2 rfl rfl (by decide) rfl ?_
        refine ww_goto (tgt := 4) C dX8_mixedRows_35 (by decide) ?_
        refine ww_sub (lv' := [(0, .ref (ad x0)), (1, .int (x1 + (1 : Int32))), (2, .int (x2 + (1 : Int32)))]) [2, 1, 0] rfl ?_
        exact ih x0 (x1 + (1 : Int32)) (x2 + (1 : Int32)) u2.2 Tx0 E
end P_X8_mixedRows
set_option maxHeartbeats 4000000 in
set_option maxRecDepth 100000 in
theorem M_X8_mixedRows (l : Launch) (G : GG) (ad : Nat → Nat) {S : ST} (N : Nat) (hG : Good S) (a0 : Nat) (dy : DY) (T0 : gs S a0 = (0, 8)) {r : Int32} {dy' : DY} (E : F_X8_mixedRows S N a0 dy = some (r, dy')) : MC l yX8_mixedRows cX8_mixedRows 3 (Option.some Jvm.ClassFile.FieldType.int) (2) G ad [.ref (ad a0)] S dy (fun A => QI G ad A S r dy') := by
  rw [F_X8_mixedRows_s] at E
  refine mc_of RX8 (by decide) rfl (Nat.le_of_ble_eq_true rfl) (fun p e s m args below meth c A C HR HL => ?_)
  refine ww_sub (lv' := [(0, .ref (ad a0))]) [0] rfl ?_
  refine ww_iconst (v := 0) C dX8_mixedRows_0 (by decide) ?_
  refine ww_istore_n (lv' := [(1, .int (0 : Int32)), (0, .ref (ad a0))]) C dX8_mixedRows_1 rfl (by decide) rfl ?_
  refine ww_iconst (v := 0) C dX8_mixedRows_2 (by decide) ?_
  refine ww_istore_n (lv' := [(2, .int (0 : Int32)), (1, .int (0 : Int32)), (0, .ref (ad a0))]) C dX8_mixedRows_3 rfl (by decide) rfl ?_
  refine ww_sub (lv' := [(0, .ref (ad a0)), (1, .int (0 : Int32)), (2, .int (0 : Int32))]) [2, 1, 0] rfl ?_
  exact (B_X8_mixedRows_4 C HR HL hG N) a0 (0 : Int32) (0 : Int32) dy T0 E
section P_X8_mostArrivals
variable {p : Program} {l : Launch} {e : Env} {s : State} {m : MethodId} {args : Array Value} {below : List Frame} {meth : Method} {c : Code} {G : GG} {A : Nat → Prop} {ad : Nat → Nat} {S : ST} {N : Nat} {r : Int32} {dy' : DY}
set_option maxHeartbeats 4000000 in
set_option maxRecDepth 100000 in
theorem B_X8_mostArrivals_86 (C : CX p s m args c cX8_mostArrivals 6 RX8 G A) (HR : meth.sig.returnType = (Option.some Jvm.ClassFile.FieldType.int)) (HL : meth.locks = false) (hG : Good S) {K4 : Nat → Int32 → Int32 → DY → Option (Int32 × DY)} (hK4 : ∀ (x0 : Nat) (x1 : Int32) (x2 : Int32) (dy : DY), gs S x0 = (0, 8) → K4 x0 x1 x2 dy = some (r, dy') → WJ p l e (rmD (1)) s m args below meth c 6 G A 0 0 (MQ below (QI G ad A S r dy') args s 0 0 A) ad 4 [(0, .ref (ad x0)), (1, .int x1), (2, .int x2)] [] S dy) : ∀ (x0 : Nat) (x1 : Int32) (x2 : Int32) (x4 : Int32) (dy : DY), gs S x0 = (0, 8) → F_X8_mostArrivals_86 S N K4 x0 x1 x2 x4 dy = some (r, dy') → WJ p l e (rmD (1)) s m args below meth c 6 G A 0 0 (MQ below (QI G ad A S r dy') args s 0 0 A) ad 86 [(0, .ref (ad x0)), (1, .int x1), (2, .int x2), (4, .int x4)] [] S dy := by
  intro x0 x1 x2 x4 dy Tx0 E
  rw [F_X8_mostArrivals_86_s] at E
  refine ww_iload_n C dX8_mostArrivals_86 rfl 1 rfl ?_
  refine ww_iload C dX8_mostArrivals_87 3 rfl ?_
  refine ww_mmax C dX8_mostArrivals_89 q999 q590 q119 q591 (Nat.le_of_ble_eq_true rfl) (Nat.le_of_ble_eq_true rfl) (Nat.le_of_ble_eq_true rfl) (Nat.zero_le _) (Nat.zero_le _) ?_
  refine ww_istore_n (lv' := [(1, .int (if x1 < x4 then x4 else x1)), (0, .ref (ad x0)), (2, .int x2), (4, .int x4)]) C dX8_mostArrivals_92 rfl (by decide) rfl ?_
  refine ww_iinc (v := (x2 + (1 : Int32))) (lv' := [(2, .int (x2 + (1 : Int32))), (1, .int (if x1 < x4 then x4 else x1)), (0, .ref (ad x0)), (4, .int x4)]) C dX8_mostArrivals_93 2 rfl rfl (by decide) rfl ?_
  refine ww_goto (tgt := 4) C dX8_mostArrivals_96 (by decide) ?_
  refine ww_sub (lv' := [(0, .ref (ad x0)), (1, .int (if x1 < x4 then x4 else x1)), (2, .int (x2 + (1 : Int32)))]) [2, 1, 0] rfl ?_
  exact hK4 x0 (if x1 < x4 then x4 else x1) (x2 + (1 : Int32)) dy Tx0 E
set_option maxHeartbeats 4000000 in
set_option maxRecDepth 100000 in
theorem B_X8_mostArrivals_28 (C : CX p s m args c cX8_mostArrivals 6 RX8 G A) (HR : meth.sig.returnType = (Option.some Jvm.ClassFile.FieldType.int)) (HL : meth.locks = false) (hG : Good S) {K4 : Nat → Int32 → Int32 → DY → Option (Int32 × DY)} (hK4 : ∀ (x0 : Nat) (x1 : Int32) (x2 : Int32) (dy : DY), gs S x0 = (0, 8) → K4 x0 x1 x2 dy = some (r, dy') → WJ p l e (rmD (1)) s m args below meth c 6 G A 0 0 (MQ below (QI G ad A S r dy') args s 0 0 A) ad 4 [(0, .ref (ad x0)), (1, .int x1), (2, .int x2)] [] S dy) : ∀ k : Nat, ∀ (x0 : Nat) (x1 : Int32) (x2 : Int32) (x3 : Int32) (x4 : Int32) (x5 : Int32) (dy : DY), gs S x0 = (0, 8) → (F_X8_mostArrivals_28 S N K4 k) x0 x1 x2 x3 x4 x5 dy = some (r, dy') → WJ p l e (rmD (1)) s m args below meth c 6 G A 0 0 (MQ below (QI G ad A S r dy') args s 0 0 A) ad 28 [(0, .ref (ad x0)), (1, .int x1), (2, .int x2), (3, .int x3), (4, .int x4), (5, .int x5)] [] S dy := by
  intro k
  induction k with
  | zero => exact fun _ _ _ _ _ _ _ _ E => nomatch (show none = some (r, dy') from E)
  | succ k ih =>
    intro x0 x1 x2 x3 x4 x5 dy Tx0 E
    rw [F_X8_mostArrivals_28_s] at E
    refine ww_iload C dX8_mostArrivals_28 5 rfl ?_
    refine ww_aload_n C dX8_mostArrivals_30 rfl 0 rfl ?_
    have T_1 : gs S (gr S x0 0) = (0, 4) := hG.1 _ 8 Tx0 0 (by decide)
    refine ww_getr (ci := 8) (k0 := 0) C dX8_mostArrivals_31 rfl rfl inm8 (by decide) Tx0 q261 rfl T_1 (by decide) ?_
    refine ww_geti (ci := 4) (k0 := 3) C dX8_mostArrivals_34 rfl rfl inm4 (by decide) T_1 q162 rfl ?_
    refine ww_icmp_ge (tgt := 86) C dX8_mostArrivals_37 (by decide) E (fun _ E => ?_) (fun _ E => ?_)
    · refine ww_sub (lv' := [(0, .ref (ad x0)), (1, .int x1), (2, .int x2), (4, .int x4)]) [0, 1, 2, 4] rfl ?_
      exact (B_X8_mostArrivals_86 C HR HL hG hK4) x0 x1 x2 x4 dy Tx0 E
    · refine ww_iload_n C dX8_mostArrivals_40 rfl 3 rfl ?_
      refine ww_iconst (v := (-1)) C dX8_mostArrivals_41 (by decide) ?_
      refine ww_icmp_eq (tgt := 86) C dX8_mostArrivals_42 (by decide) E (fun _ E => ?_) (fun _ E => ?_)
      · refine ww_sub (lv' := [(0, .ref (ad x0)), (1, .int x1), (2, .int x2), (4, .int x4)]) [0, 1, 2, 4] rfl ?_
        exact (B_X8_mostArrivals_86 C HR HL hG hK4) x0 x1 x2 x4 dy Tx0 E
      · refine ww_iload C dX8_mostArrivals_45 4 rfl ?_
        refine ww_aload_n C dX8_mostArrivals_47 rfl 0 rfl ?_
        have T_2 : gs S (gr S x0 11) = (1, 12) := hG.1 _ 8 Tx0 11 (by decide)
        refine ww_getr (ci := 8) (k0 := 11) C dX8_mostArrivals_48 rfl rfl inm8 (by decide) Tx0 q283 rfl T_2 (by decide) ?_
        refine ww_iload C dX8_mostArrivals_51 5 rfl ?_
        refine ww_iald C dX8_mostArrivals_53 T_2 E (fun _ E => ?_)
        refine ww_iload_n C dX8_mostArrivals_54 rfl 3 rfl ?_
        refine ww_icmp_lt (tgt := 76) C dX8_mostArrivals_55 (by decide) E (fun _ E => ?_) (fun _ E => ?_)
        · refine ww_iconst (v := 0) C dX8_mostArrivals_76 (by decide) ?_
          refine ww_iadd C dX8_mostArrivals_77 ?_
          refine ww_istore (lv' := [(4, .int (x4 + (0 : Int32))), (0, .ref (ad x0)), (1, .int x1), (2, .int x2), (3, .int x3), (5, .int x5)]) C dX8_mostArrivals_78 (by decide) rfl ?_
          refine ww_iinc (v := (x5 + (1 : Int32))) (lv' := [(5, .int (x5 + (1 : Int32))), (4, .int (x4 + (0 : Int32))), (0, .ref (ad x0)), (1, .int x1), (2, .int x2), (3, .int x3)]) C dX8_mostArrivals_80 5 rfl rfl (by decide) rfl ?_
          refine ww_goto (tgt := 28) C dX8_mostArrivals_83 (by decide) ?_
          refine ww_sub (lv' := [(0, .ref (ad x0)), (1, .int x1), (2, .int x2), (3, .int x3), (4, .int (x4 + (0 : Int32))), (5, .int (x5 + (1 : Int32)))]) [2, 3, 4, 5, 1, 0] rfl ?_
          exact ih x0 x1 x2 x3 (x4 + (0 : Int32)) (x5 + (1 : Int32)) dy Tx0 E
        · refine ww_aload_n C dX8_mostArrivals_58 rfl 0 rfl ?_
          have T_3 : gs S (gr S x0 11) = (1, 12) := hG.1 _ 8 Tx0 11 (by decide)
          refine ww_getr (ci := 8) (k0 := 11) C dX8_mostArrivals_59 rfl rfl inm8 (by decide) Tx0 q283 rfl T_3 (by decide) ?_
          refine ww_iload C dX8_mostArrivals_62 5 rfl ?_
          refine ww_iald C dX8_mostArrivals_64 T_3 E (fun _ E => ?_)
          refine ww_iload_n C dX8_mostArrivals_65 rfl 3 rfl ?_
          refine ww_bipush (v := 10) C dX8_mostArrivals_66 (by decide) ?_
          refine ww_iadd C dX8_mostArrivals_68 ?_
          refine ww_icmp_ge (tgt := 76) C dX8_mostArrivals_69 (by decide) E (fun _ E => ?_) (fun _ E => ?_)
          · refine ww_iconst (v := 0) C dX8_mostArrivals_76 (by decide) ?_
            refine ww_iadd C dX8_mostArrivals_77 ?_
            refine ww_istore (lv' := [(4, .int (x4 + (0 : Int32))), (0, .ref (ad x0)), (1, .int x1), (2, .int x2), (3, .int x3), (5, .int x5)]) C dX8_mostArrivals_78 (by decide) rfl ?_
            refine ww_iinc (v := (x5 + (1 : Int32))) (lv' := [(5, .int (x5 + (1 : Int32))), (4, .int (x4 + (0 : Int32))), (0, .ref (ad x0)), (1, .int x1), (2, .int x2), (3, .int x3)]) C dX8_mostArrivals_80 5 rfl rfl (by decide) rfl ?_
            refine ww_goto (tgt := 28) C dX8_mostArrivals_83 (by decide) ?_
            refine ww_sub (lv' := [(0, .ref (ad x0)), (1, .int x1), (2, .int x2), (3, .int x3), (4, .int (x4 + (0 : Int32))), (5, .int (x5 + (1 : Int32)))]) [2, 3, 4, 5, 1, 0] rfl ?_
            exact ih x0 x1 x2 x3 (x4 + (0 : Int32)) (x5 + (1 : Int32)) dy Tx0 E
          · refine ww_iconst (v := 1) C dX8_mostArrivals_72 (by decide) ?_
            refine ww_goto (tgt := 77) C dX8_mostArrivals_73 (by decide) ?_
            refine ww_iadd C dX8_mostArrivals_77 ?_
            refine ww_istore (lv' := [(4, .int (x4 + (1 : Int32))), (0, .ref (ad x0)), (1, .int x1), (2, .int x2), (3, .int x3), (5, .int x5)]) C dX8_mostArrivals_78 (by decide) rfl ?_
            refine ww_iinc (v := (x5 + (1 : Int32))) (lv' := [(5, .int (x5 + (1 : Int32))), (4, .int (x4 + (1 : Int32))), (0, .ref (ad x0)), (1, .int x1), (2, .int x2), (3, .int x3)]) C dX8_mostArrivals_80 5 rfl rfl (by decide) rfl ?_
            refine ww_goto (tgt := 28) C dX8_mostArrivals_83 (by decide) ?_
            refine ww_sub (lv' := [(0, .ref (ad x0)), (1, .int x1), (2, .int x2), (3, .int x3), (4, .int (x4 + (1 : Int32))), (5, .int (x5 + (1 : Int32)))]) [2, 3, 4, 5, 1, 0] rfl ?_
            exact ih x0 x1 x2 x3 (x4 + (1 : Int32)) (x5 + (1 : Int32)) dy Tx0 E
set_option maxHeartbeats 4000000 in
set_option maxRecDepth 100000 in
theorem B_X8_mostArrivals_4 (C : CX p s m args c cX8_mostArrivals 6 RX8 G A) (HR : meth.sig.returnType = (Option.some Jvm.ClassFile.FieldType.int)) (HL : meth.locks = false) (hG : Good S) : ∀ k : Nat, ∀ (x0 : Nat) (x1 : Int32) (x2 : Int32) (dy : DY), gs S x0 = (0, 8) → (F_X8_mostArrivals_4 S N k) x0 x1 x2 dy = some (r, dy') → WJ p l e (rmD (1)) s m args below meth c 6 G A 0 0 (MQ below (QI G ad A S r dy') args s 0 0 A) ad 4 [(0, .ref (ad x0)), (1, .int x1), (2, .int x2)] [] S dy := by
  intro k
  induction k with
  | zero => exact fun _ _ _ _ _ E => nomatch (show none = some (r, dy') from E)
  | succ k ih =>
    intro x0 x1 x2 dy Tx0 E
    rw [F_X8_mostArrivals_4_s] at E
    refine ww_iload_n C dX8_mostArrivals_4 rfl 2 rfl ?_
    refine ww_aload_n C dX8_mostArrivals_5 rfl 0 rfl ?_
    have T_1 : gs S (gr S x0 0) = (0, 4) := hG.1 _ 8 Tx0 0 (by decide)
    refine ww_getr (ci := 8) (k0 := 0) C dX8_mostArrivals_6 rfl rfl inm8 (by decide) Tx0 q261 rfl T_1 (by decide) ?_
    refine ww_geti (ci := 4) (k0 := 3) C dX8_mostArrivals_9 rfl rfl inm4 (by decide) T_1 q162 rfl ?_
    refine ww_icmp_ge (tgt := 99) C dX8_mostArrivals_12 (by decide) E (fun _ E => ?_) (fun _ E => ?_)
    · refine ww_iload_n C dX8_mostArrivals_99 rfl 1 rfl ?_
      exact ww_iret C HR HL dX8_mostArrivals_100 E
    · refine ww_aload_n C dX8_mostArrivals_15 rfl 0 rfl ?_
      have T_2 : gs S (gr S x0 11) = (1, 12) := hG.1 _ 8 Tx0 11 (by decide)
      refine ww_getr (ci := 8) (k0 := 11) C dX8_mostArrivals_16 rfl rfl inm8 (by decide) Tx0 q283 rfl T_2 (by decide) ?_
      refine ww_iload_n C dX8_mostArrivals_19 rfl 2 rfl ?_
      refine ww_iald C dX8_mostArrivals_20 T_2 E (fun _ E => ?_)
      refine ww_istore_n (lv' := [(3, .int (gi dy (gr S x0 11) x2.toNatClampNeg)), (0, .ref (ad x0)), (1, .int x1), (2, .int x2)]) C dX8_mostArrivals_21 rfl (by decide) rfl ?_
      refine ww_iconst (v := 0) C dX8_mostArrivals_22 (by decide) ?_
      refine ww_istore (lv' := [(4, .int (0 : Int32)), (3, .int (gi dy (gr S x0 11) x2.toNatClampNeg)), (0, .ref (ad x0)), (1, .int x1), (2, .int x2)]) C dX8_mostArrivals_23 (by decide) rfl ?_
      refine ww_iconst (v := 0) C dX8_mostArrivals_25 (by decide) ?_
      refine ww_istore (lv' := [(5, .int (0 : Int32)), (4, .int (0 : Int32)), (3, .int (gi dy (gr S x0 11) x2.toNatClampNeg)), (0, .ref (ad x0)), (1, .int x1), (2, .int x2)]) C dX8_mostArrivals_26 (by decide) rfl ?_
      refine ww_sub (lv' := [(0, .ref (ad x0)), (1, .int x1), (2, .int x2), (3, .int (gi dy (gr S x0 11) x2.toNatClampNeg)), (4, .int (0 : Int32)), (5, .int (0 : Int32))]) [3, 4, 5, 2, 1, 0] rfl ?_
      exact (B_X8_mostArrivals_28 C HR HL hG ih N) x0 x1 x2 (gi dy (gr S x0 11) x2.toNatClampNeg) (0 : Int32) (0 : Int32) dy Tx0 E
end P_X8_mostArrivals
set_option maxHeartbeats 4000000 in
set_option maxRecDepth 100000 in
theorem M_X8_mostArrivals (l : Launch) (G : GG) (ad : Nat → Nat) {S : ST} (N : Nat) (hG : Good S) (a0 : Nat) (dy : DY) (T0 : gs S a0 = (0, 8)) {r : Int32} {dy' : DY} (E : F_X8_mostArrivals S N a0 dy = some (r, dy')) : MC l yX8_mostArrivals cX8_mostArrivals 6 (Option.some Jvm.ClassFile.FieldType.int) (1) G ad [.ref (ad a0)] S dy (fun A => QI G ad A S r dy') := by
  rw [F_X8_mostArrivals_s] at E
  refine mc_of RX8 (by decide) rfl (Nat.le_of_ble_eq_true rfl) (fun p e s m args below meth c A C HR HL => ?_)
  refine ww_sub (lv' := [(0, .ref (ad a0))]) [0] rfl ?_
  refine ww_iconst (v := 0) C dX8_mostArrivals_0 (by decide) ?_
  refine ww_istore_n (lv' := [(1, .int (0 : Int32)), (0, .ref (ad a0))]) C dX8_mostArrivals_1 rfl (by decide) rfl ?_
  refine ww_iconst (v := 0) C dX8_mostArrivals_2 (by decide) ?_
  refine ww_istore_n (lv' := [(2, .int (0 : Int32)), (1, .int (0 : Int32)), (0, .ref (ad a0))]) C dX8_mostArrivals_3 rfl (by decide) rfl ?_
  refine ww_sub (lv' := [(0, .ref (ad a0)), (1, .int (0 : Int32)), (2, .int (0 : Int32))]) [2, 1, 0] rfl ?_
  exact (B_X8_mostArrivals_4 C HR HL hG N) a0 (0 : Int32) (0 : Int32) dy T0 E
section P_X8_pass
variable {p : Program} {l : Launch} {e : Env} {s : State} {m : MethodId} {args : Array Value} {below : List Frame} {meth : Method} {c : Code} {G : GG} {A : Nat → Prop} {ad : Nat → Nat} {S : ST} {N : Nat} {r : Int32} {dy' : DY}
set_option maxHeartbeats 4000000 in
set_option maxRecDepth 100000 in
theorem B_X8_pass_49 (C : CX p s m args c cX8_pass 2 RX8 G A) (HR : meth.sig.returnType = (Option.some Jvm.ClassFile.FieldType.int)) (HL : meth.locks = false) (hG : Good S) {K2 : Nat → Int32 → DY → Option (Int32 × DY)} (hK2 : ∀ (x0 : Nat) (x1 : Int32) (dy : DY), gs S x0 = (0, 8) → K2 x0 x1 dy = some (r, dy') → WJ p l e (rmD (5)) s m args below meth c 2 G A 0 0 (MQ below (QI G ad A S r dy') args s 0 0 A) ad 2 [(0, .ref (ad x0)), (1, .int x1)] [] S dy) : ∀ (x0 : Nat) (x1 : Int32) (y0 : Nat) (y1 : Int32) (y2 : Int32) (dy : DY), gs S x0 = (0, 8) → gs S y0 = (1, 12) → F_X8_pass_49 S N K2 x0 x1 y0 y1 y2 dy = some (r, dy') → WJ p l e (rmD (5)) s m args below meth c 2 G A 0 0 (MQ below (QI G ad A S r dy') args s 0 0 A) ad 49 [(0, .ref (ad x0)), (1, .int x1)] [.int y2, .int y1, .ref (ad y0)] S dy := by
  intro x0 x1 y0 y1 y2 dy Tx0 Ty0 E
  rw [F_X8_pass_49_s] at E
  refine ww_iast C dX8_pass_49 Ty0 E (fun _ E => ?_)
  refine ww_bd E (fun dy1 E => ?_)
  refine ww_iinc (v := (x1 + (1 : Int32))) (lv' := [(1, .int (x1 + (1 : Int32))), (0, .ref (ad x0))]) C dX8_pass_50 1 rfl rfl (by decide) rfl ?_
  refine ww_goto (tgt := 2) C dX8_pass_53 (by decide) ?_
  refine ww_sub (lv' := [(0, .ref (ad x0)), (1, .int (x1 + (1 : Int32)))]) [1, 0] rfl ?_
  exact hK2 x0 (x1 + (1 : Int32)) dy1 Tx0 E
set_option maxHeartbeats 4000000 in
set_option maxRecDepth 100000 in
theorem B_X8_pass_2 (C : CX p s m args c cX8_pass 2 RX8 G A) (HR : meth.sig.returnType = (Option.some Jvm.ClassFile.FieldType.int)) (HL : meth.locks = false) (hG : Good S) : ∀ k : Nat, ∀ (x0 : Nat) (x1 : Int32) (dy : DY), gs S x0 = (0, 8) → (F_X8_pass_2 S N k) x0 x1 dy = some (r, dy') → WJ p l e (rmD (5)) s m args below meth c 2 G A 0 0 (MQ below (QI G ad A S r dy') args s 0 0 A) ad 2 [(0, .ref (ad x0)), (1, .int x1)] [] S dy := by
  intro k
  induction k with
  | zero => exact fun _ _ _ _ E => nomatch (show none = some (r, dy') from E)
  | succ k ih =>
    intro x0 x1 dy Tx0 E
    rw [F_X8_pass_2_s] at E
    refine ww_iload_n C dX8_pass_2 rfl 1 rfl ?_
    refine ww_aload_n C dX8_pass_3 rfl 0 rfl ?_
    have T_1 : gs S (gr S x0 0) = (0, 4) := hG.1 _ 8 Tx0 0 (by decide)
    refine ww_getr (ci := 8) (k0 := 0) C dX8_pass_4 rfl rfl inm8 (by decide) Tx0 q261 rfl T_1 (by decide) ?_
    refine ww_geti (ci := 4) (k0 := 3) C dX8_pass_7 rfl rfl inm4 (by decide) T_1 q162 rfl ?_
    refine ww_icmp_ge (tgt := 56) C dX8_pass_10 (by decide) E (fun _ E => ?_) (fun _ E => ?_)
    · refine ww_aload_n C dX8_pass_56 rfl 0 rfl ?_
      obtain ⟨u2, e_3, E⟩ := bind_of E
      refine ww_callI C (runs_V (n := 0) (st := []) C [] (M_X8_move l G ad N hG x0 dy Tx0 e_3) ⟨q975, q112, by decide⟩ q972 q973 q974 (ci := 8) rfl Tx0 rfl (Nat.le_of_ble_eq_true rfl) ⟨Nat.le_of_ble_eq_true rfl, Nat.le_of_ble_eq_true rfl⟩ ⟨Nat.zero_le _, Nat.zero_le _⟩ dX8_pass_57 rfl) ?_
      exact ww_iret C HR HL dX8_pass_60 E
    · refine ww_aload_n C dX8_pass_13 rfl 0 rfl ?_
      have T_4 : gs S (gr S x0 16) = (1, 12) := hG.1 _ 8 Tx0 16 (by decide)
      refine ww_getr (ci := 8) (k0 := 16) C dX8_pass_14 rfl rfl inm8 (by decide) Tx0 q294 rfl T_4 (by decide) ?_
      refine ww_iload_n C dX8_pass_17 rfl 1 rfl ?_
      refine ww_aload_n C dX8_pass_18 rfl 0 rfl ?_
      refine ww_iload_n C dX8_pass_19 rfl 1 rfl ?_
      obtain ⟨u5, e_6, E⟩ := bind_of E
      refine ww_callI C (runs_V (n := 1) (st := [.int x1, .ref (ad (gr S x0 16))]) C [.int x1] (M_X8_deed l G ad N hG x0 x1 dy Tx0 e_6) ⟨q927, q112, by decide⟩ q924 q925 q926 (ci := 8) rfl Tx0 rfl (Nat.le_of_ble_eq_true rfl) ⟨Nat.le_of_ble_eq_true rfl, Nat.le_of_ble_eq_true rfl⟩ ⟨Nat.zero_le _, Nat.zero_le _⟩ dX8_pass_20 rfl) ?_
      refine ww_iast C dX8_pass_23 T_4 E (fun _ E => ?_)
      refine ww_bd E (fun dy7 E => ?_)
      refine ww_aload_n C dX8_pass_24 rfl 0 rfl ?_
      refine ww_iload_n C dX8_pass_25 rfl 1 rfl ?_
      obtain ⟨u8, e_9, E⟩ := bind_of E
      refine ww_callI C (runs_V (n := 1) (st := []) C [.int x1] (M_X8_needsLot l G ad N hG x0 x1 dy7 Tx0 e_9) ⟨q966, q112, by decide⟩ q963 q964 q965 (ci := 8) rfl Tx0 rfl (Nat.le_of_ble_eq_true rfl) ⟨Nat.le_of_ble_eq_true rfl, Nat.le_of_ble_eq_true rfl⟩ ⟨Nat.zero_le _, Nat.zero_le _⟩ dX8_pass_26 rfl) ?_
      refine ww_if_eq (tgt := 50) C dX8_pass_29 (by decide) E (fun _ E => ?_) (fun _ E => ?_)
      · refine ww_iinc (v := (x1 + (1 : Int32))) (lv' := [(1, .int (x1 + (1 : Int32))), (0, .ref (ad x0))]) C dX8_pass_50 1 rfl rfl (by decide) rfl ?_
        refine ww_goto (tgt := 2) C dX8_pass_53 (by decide) ?_
        refine ww_sub (lv' := [(0, .ref (ad x0)), (1, .int (x1 + (1 : Int32)))]) [1, 0] rfl ?_
        exact ih x0 (x1 + (1 : Int32)) u8.2 Tx0 E
      · refine ww_aload_n C dX8_pass_32 rfl 0 rfl ?_
        have T_10 : gs S (gr S x0 16) = (1, 12) := hG.1 _ 8 Tx0 16 (by decide)
        refine ww_getr (ci := 8) (k0 := 16) C dX8_pass_33 rfl rfl inm8 (by decide) Tx0 q294 rfl T_10 (by decide) ?_
        refine ww_iload_n C dX8_pass_36 rfl 1 rfl ?_
        refine ww_aload_n C dX8_pass_37 rfl 0 rfl ?_
        obtain ⟨u11, e_12, E⟩ := bind_of E
        refine ww_callI C (runs_V (n := 0) (st := [.int x1, .ref (ad (gr S x0 16))]) C [] (M_X8_draw l G ad N hG x0 u8.2 Tx0 e_12) ⟨q970, q112, by decide⟩ q967 q969 q20 (ci := 8) rfl Tx0 rfl (Nat.le_of_ble_eq_true rfl) ⟨Nat.le_of_ble_eq_true rfl, Nat.le_of_ble_eq_true rfl⟩ ⟨Nat.zero_le _, Nat.zero_le _⟩ dX8_pass_38 rfl) ?_
        refine ww_if_eq (tgt := 48) C dX8_pass_41 (by decide) E (fun _ E => ?_) (fun _ E => ?_)
        · refine ww_iconst (v := 2) C dX8_pass_48 (by decide) ?_
          refine ww_sub (lv' := [(0, .ref (ad x0)), (1, .int x1)]) [0, 1] rfl ?_
          exact (B_X8_pass_49 C HR HL hG ih) x0 x1 (gr S x0 16) x1 (2 : Int32) u11.2 Tx0 T_10 E
        · refine ww_iconst (v := 1) C dX8_pass_44 (by decide) ?_
          refine ww_goto (tgt := 49) C dX8_pass_45 (by decide) ?_
          refine ww_sub (lv' := [(0, .ref (ad x0)), (1, .int x1)]) [0, 1] rfl ?_
          exact (B_X8_pass_49 C HR HL hG ih) x0 x1 (gr S x0 16) x1 (1 : Int32) u11.2 Tx0 T_10 E
end P_X8_pass
set_option maxHeartbeats 4000000 in
set_option maxRecDepth 100000 in
theorem M_X8_pass (l : Launch) (G : GG) (ad : Nat → Nat) {S : ST} (N : Nat) (hG : Good S) (a0 : Nat) (dy : DY) (T0 : gs S a0 = (0, 8)) {r : Int32} {dy' : DY} (E : F_X8_pass S N a0 dy = some (r, dy')) : MC l yX8_pass cX8_pass 2 (Option.some Jvm.ClassFile.FieldType.int) (5) G ad [.ref (ad a0)] S dy (fun A => QI G ad A S r dy') := by
  rw [F_X8_pass_s] at E
  refine mc_of RX8 (by decide) rfl (Nat.le_of_ble_eq_true rfl) (fun p e s m args below meth c A C HR HL => ?_)
  refine ww_sub (lv' := [(0, .ref (ad a0))]) [0] rfl ?_
  refine ww_iconst (v := 0) C dX8_pass_0 (by decide) ?_
  refine ww_istore_n (lv' := [(1, .int (0 : Int32)), (0, .ref (ad a0))]) C dX8_pass_1 rfl (by decide) rfl ?_
  refine ww_sub (lv' := [(0, .ref (ad a0)), (1, .int (0 : Int32))]) [1, 0] rfl ?_
  exact (B_X8_pass_2 C HR HL hG N) a0 (0 : Int32) dy T0 E
section P_X8_touches
variable {p : Program} {l : Launch} {e : Env} {s : State} {m : MethodId} {args : Array Value} {below : List Frame} {meth : Method} {c : Code} {G : GG} {A : Nat → Prop} {ad : Nat → Nat} {S : ST} {N : Nat} {r : Int32} {dy' : DY}
end P_X8_touches
set_option maxHeartbeats 4000000 in
set_option maxRecDepth 100000 in
theorem M_X8_touches (l : Launch) (G : GG) (ad : Nat → Nat) {S : ST} (N : Nat) (hG : Good S) (a0 : Nat) (a1 : Int32) (a2 : Int32) (dy : DY) (T0 : gs S a0 = (0, 8)) {r : Int32} {dy' : DY} (E : F_X8_touches S N a0 a1 a2 dy = some (r, dy')) : MC l yX8_touches cX8_touches 3 (Option.some Jvm.ClassFile.FieldType.boolean) (3) G ad [.ref (ad a0), .int a1, .int a2] S dy (fun A => QI G ad A S r dy') := by
  rw [F_X8_touches_s] at E
  refine mc_of RX8 (by decide) rfl (Nat.le_of_ble_eq_true rfl) (fun p e s m args below meth c A C HR HL => ?_)
  refine ww_sub (lv' := [(0, .ref (ad a0)), (1, .int a1), (2, .int a2)]) [0, 1, 2] rfl ?_
  refine ww_aload_n C dX8_touches_0 rfl 0 rfl ?_
  refine ww_iload_n C dX8_touches_1 rfl 1 rfl ?_
  obtain ⟨u1, e_2, E⟩ := bind_of E
  refine ww_callI C (runs_V (n := 1) (st := []) C [.int a1] (M_X8_isThere l G ad N hG a0 a1 dy T0 e_2) ⟨q983, q112, by decide⟩ q980 q981 q982 (ci := 8) rfl T0 rfl (Nat.le_of_ble_eq_true rfl) ⟨Nat.le_of_ble_eq_true rfl, Nat.le_of_ble_eq_true rfl⟩ ⟨Nat.zero_le _, Nat.zero_le _⟩ dX8_touches_2 rfl) ?_
  refine ww_if_eq (tgt := 16) C dX8_touches_5 (by decide) E (fun _ E => ?_) (fun _ E => ?_)
  · refine ww_iconst (v := 0) C dX8_touches_16 (by decide) ?_
    exact ww_zret C HR HL dX8_touches_17 (Or.inl rfl) E
  · refine ww_aload_n C dX8_touches_8 rfl 0 rfl ?_
    refine ww_iload_n C dX8_touches_9 rfl 2 rfl ?_
    obtain ⟨u3, e_4, E⟩ := bind_of E
    refine ww_callI C (runs_V (n := 1) (st := []) C [.int a2] (M_X8_isThere l G ad N hG a0 a2 u1.2 T0 e_4) ⟨q983, q112, by decide⟩ q980 q981 q982 (ci := 8) rfl T0 rfl (Nat.le_of_ble_eq_true rfl) ⟨Nat.le_of_ble_eq_true rfl, Nat.le_of_ble_eq_true rfl⟩ ⟨Nat.zero_le _, Nat.zero_le _⟩ dX8_touches_10 rfl) ?_
    refine ww_if_ne (tgt := 18) C dX8_touches_13 (by decide) E (fun _ E => ?_) (fun _ E => ?_)
    · refine ww_aload_n C dX8_touches_18 rfl 0 rfl ?_
      have T_5 : gs S (gr S a0 9) = (1, 48) := hG.1 _ 8 T0 9 (by decide)
      refine ww_getr (ci := 8) (k0 := 9) C dX8_touches_19 rfl rfl inm8 (by decide) T0 q277 rfl T_5 (by decide) ?_
      refine ww_iload_n C dX8_touches_22 rfl 1 rfl ?_
      refine ww_iald C dX8_touches_23 T_5 E (fun _ E => ?_)
      refine ww_aload_n C dX8_touches_24 rfl 0 rfl ?_
      have T_6 : gs S (gr S a0 9) = (1, 48) := hG.1 _ 8 T0 9 (by decide)
      refine ww_getr (ci := 8) (k0 := 9) C dX8_touches_25 rfl rfl inm8 (by decide) T0 q277 rfl T_6 (by decide) ?_
      refine ww_iload_n C dX8_touches_28 rfl 2 rfl ?_
      refine ww_iald C dX8_touches_29 T_6 E (fun _ E => ?_)
      refine ww_isub C dX8_touches_30 ?_
      refine ww_mabs C dX8_touches_31 q952 q953 q119 q954 (Nat.le_of_ble_eq_true rfl) (Nat.le_of_ble_eq_true rfl) (Nat.le_of_ble_eq_true rfl) (Nat.zero_le _) (Nat.zero_le _) ?_
      refine ww_aload_n C dX8_touches_34 rfl 0 rfl ?_
      have T_7 : gs S (gr S a0 10) = (1, 48) := hG.1 _ 8 T0 10 (by decide)
      refine ww_getr (ci := 8) (k0 := 10) C dX8_touches_35 rfl rfl inm8 (by decide) T0 q280 rfl T_7 (by decide) ?_
      refine ww_iload_n C dX8_touches_38 rfl 1 rfl ?_
      refine ww_iald C dX8_touches_39 T_7 E (fun _ E => ?_)
      refine ww_aload_n C dX8_touches_40 rfl 0 rfl ?_
      have T_8 : gs S (gr S a0 10) = (1, 48) := hG.1 _ 8 T0 10 (by decide)
      refine ww_getr (ci := 8) (k0 := 10) C dX8_touches_41 rfl rfl inm8 (by decide) T0 q280 rfl T_8 (by decide) ?_
      refine ww_iload_n C dX8_touches_44 rfl 2 rfl ?_
      refine ww_iald C dX8_touches_45 T_8 E (fun _ E => ?_)
      refine ww_isub C dX8_touches_46 ?_
      refine ww_mabs C dX8_touches_47 q952 q953 q119 q954 (Nat.le_of_ble_eq_true rfl) (Nat.le_of_ble_eq_true rfl) (Nat.le_of_ble_eq_true rfl) (Nat.zero_le _) (Nat.zero_le _) ?_
      refine ww_iadd C dX8_touches_50 ?_
      refine ww_iconst (v := 1) C dX8_touches_51 (by decide) ?_
      refine ww_icmp_ne (tgt := 59) C dX8_touches_52 (by decide) E (fun _ E => ?_) (fun _ E => ?_)
      · refine ww_iconst (v := 0) C dX8_touches_59 (by decide) ?_
        exact ww_zret C HR HL dX8_touches_60 (Or.inl rfl) E
      · refine ww_iconst (v := 1) C dX8_touches_55 (by decide) ?_
        refine ww_goto (tgt := 60) C dX8_touches_56 (by decide) ?_
        exact ww_zret C HR HL dX8_touches_60 (Or.inr rfl) E
    · refine ww_iconst (v := 0) C dX8_touches_16 (by decide) ?_
      exact ww_zret C HR HL dX8_touches_17 (Or.inl rfl) E
