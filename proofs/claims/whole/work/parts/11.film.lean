noncomputable def F_X1_add (S : ST) (N : Nat) (a0 : Nat) (a1 : Int32) (a2 : Int32) (a3 : Int32) (dy : DY) : Option (Int32 × DY) := (if a1 < 0 then some ((-1 : Int32), dy) else (if (8 : Int32) ≤ a1 then some ((-1 : Int32), dy) else if ib a1 8 then (if (gi dy (gr S a0 0) a1.toNatClampNeg) < (6 : Int32) then if ib a1 8 then if ib ((a1 * (6 : Int32)) + (gi dy (gr S a0 0) a1.toNatClampNeg)) 48 then bd (si dy (gr S a0 1) ((a1 * (6 : Int32)) + (gi dy (gr S a0 0) a1.toNatClampNeg)).toNatClampNeg a2) fun dy4 => if ib ((a1 * (6 : Int32)) + (gi dy (gr S a0 0) a1.toNatClampNeg)) 48 then bd (si dy4 (gr S a0 2) ((a1 * (6 : Int32)) + (gi dy (gr S a0 0) a1.toNatClampNeg)).toNatClampNeg a3) fun dy6 => if ib a1 8 then if ib a1 8 then bd (si dy6 (gr S a0 0) a1.toNatClampNeg ((gi dy6 (gr S a0 0) a1.toNatClampNeg) + (1 : Int32))) fun dy8 => some ((gi dy (gr S a0 0) a1.toNatClampNeg), dy8) else none else none else none else none else none else some ((-1 : Int32), dy)) else none))
theorem F_X1_add_s (S : ST) (N : Nat) (a0 : Nat) (a1 : Int32) (a2 : Int32) (a3 : Int32) (dy : DY) : F_X1_add S N a0 a1 a2 a3 dy = (if a1 < 0 then some ((-1 : Int32), dy) else (if (8 : Int32) ≤ a1 then some ((-1 : Int32), dy) else if ib a1 8 then (if (gi dy (gr S a0 0) a1.toNatClampNeg) < (6 : Int32) then if ib a1 8 then if ib ((a1 * (6 : Int32)) + (gi dy (gr S a0 0) a1.toNatClampNeg)) 48 then bd (si dy (gr S a0 1) ((a1 * (6 : Int32)) + (gi dy (gr S a0 0) a1.toNatClampNeg)).toNatClampNeg a2) fun dy4 => if ib ((a1 * (6 : Int32)) + (gi dy (gr S a0 0) a1.toNatClampNeg)) 48 then bd (si dy4 (gr S a0 2) ((a1 * (6 : Int32)) + (gi dy (gr S a0 0) a1.toNatClampNeg)).toNatClampNeg a3) fun dy6 => if ib a1 8 then if ib a1 8 then bd (si dy6 (gr S a0 0) a1.toNatClampNeg ((gi dy6 (gr S a0 0) a1.toNatClampNeg) + (1 : Int32))) fun dy8 => some ((gi dy (gr S a0 0) a1.toNatClampNeg), dy8) else none else none else none else none else none else some ((-1 : Int32), dy)) else none)) := rfl
noncomputable def F_X1_copyFrom (S : ST) (N : Nat) (a0 : Nat) (a1 : Nat) (dy : DY) : Option DY := if ic (0 : Int32) (8 : Int32) 8 ∧ ic (0 : Int32) (8 : Int32) 8 then bd (cpi dy (gr S a1 0) (gr S a0 0) (0 : Int32).toNatClampNeg (0 : Int32).toNatClampNeg (8 : Int32).toNatClampNeg) fun dy3 => if ic (0 : Int32) (48 : Int32) 48 ∧ ic (0 : Int32) (48 : Int32) 48 then bd (cpi dy3 (gr S a1 1) (gr S a0 1) (0 : Int32).toNatClampNeg (0 : Int32).toNatClampNeg (48 : Int32).toNatClampNeg) fun dy7 => if ic (0 : Int32) (48 : Int32) 48 ∧ ic (0 : Int32) (48 : Int32) 48 then bd (cpi dy7 (gr S a1 2) (gr S a0 2) (0 : Int32).toNatClampNeg (0 : Int32).toNatClampNeg (48 : Int32).toNatClampNeg) fun dy11 => some dy11 else none else none else none
theorem F_X1_copyFrom_s (S : ST) (N : Nat) (a0 : Nat) (a1 : Nat) (dy : DY) : F_X1_copyFrom S N a0 a1 dy = (if ic (0 : Int32) (8 : Int32) 8 ∧ ic (0 : Int32) (8 : Int32) 8 then bd (cpi dy (gr S a1 0) (gr S a0 0) (0 : Int32).toNatClampNeg (0 : Int32).toNatClampNeg (8 : Int32).toNatClampNeg) fun dy3 => if ic (0 : Int32) (48 : Int32) 48 ∧ ic (0 : Int32) (48 : Int32) 48 then bd (cpi dy3 (gr S a1 1) (gr S a0 1) (0 : Int32).toNatClampNeg (0 : Int32).toNatClampNeg (48 : Int32).toNatClampNeg) fun dy7 => if ic (0 : Int32) (48 : Int32) 48 ∧ ic (0 : Int32) (48 : Int32) 48 then bd (cpi dy7 (gr S a1 2) (gr S a0 2) (0 : Int32).toNatClampNeg (0 : Int32).toNatClampNeg (48 : Int32).toNatClampNeg) fun dy11 => some dy11 else none else none else none) := rfl
noncomputable def F_X1_coupled (S : ST) (N : Nat) (a0 : Nat) (a1 : Int32) (a2 : Int32) (a3 : Int32) (a4 : Int32) (dy : DY) : Option (Int32 × DY) := if ib ((a1 * (6 : Int32)) + a2) 48 then if ib (((a1 + (1 : Int32)) * (6 : Int32)) + a3) 48 then if ib ((a1 * (6 : Int32)) + a2) 48 then if ib (((a1 + (1 : Int32)) * (6 : Int32)) + a3) 48 then if ib (((a2 + (1 : Int32)) * (64 : Int32)) + (a4 ||| ((1 : Int32) <<< (a3 &&& 31)))) 448 then some ((((if 0 ≤ ((gi dy (gr S a0 1) ((a1 * (6 : Int32)) + a2).toNatClampNeg) - (gi dy (gr S a0 1) (((a1 + (1 : Int32)) * (6 : Int32)) + a3).toNatClampNeg)) then ((gi dy (gr S a0 1) ((a1 * (6 : Int32)) + a2).toNatClampNeg) - (gi dy (gr S a0 1) (((a1 + (1 : Int32)) * (6 : Int32)) + a3).toNatClampNeg)) else 0 - ((gi dy (gr S a0 1) ((a1 * (6 : Int32)) + a2).toNatClampNeg) - (gi dy (gr S a0 1) (((a1 + (1 : Int32)) * (6 : Int32)) + a3).toNatClampNeg))) + (if 0 ≤ ((gi dy (gr S a0 2) ((a1 * (6 : Int32)) + a2).toNatClampNeg) - (gi dy (gr S a0 2) (((a1 + (1 : Int32)) * (6 : Int32)) + a3).toNatClampNeg)) then ((gi dy (gr S a0 2) ((a1 * (6 : Int32)) + a2).toNatClampNeg) - (gi dy (gr S a0 2) (((a1 + (1 : Int32)) * (6 : Int32)) + a3).toNatClampNeg)) else 0 - ((gi dy (gr S a0 2) ((a1 * (6 : Int32)) + a2).toNatClampNeg) - (gi dy (gr S a0 2) (((a1 + (1 : Int32)) * (6 : Int32)) + a3).toNatClampNeg)))) + (gi dy (gr S a0 4) (((a2 + (1 : Int32)) * (64 : Int32)) + (a4 ||| ((1 : Int32) <<< (a3 &&& 31)))).toNatClampNeg)), dy) else none else none else none else none else none
theorem F_X1_coupled_s (S : ST) (N : Nat) (a0 : Nat) (a1 : Int32) (a2 : Int32) (a3 : Int32) (a4 : Int32) (dy : DY) : F_X1_coupled S N a0 a1 a2 a3 a4 dy = (if ib ((a1 * (6 : Int32)) + a2) 48 then if ib (((a1 + (1 : Int32)) * (6 : Int32)) + a3) 48 then if ib ((a1 * (6 : Int32)) + a2) 48 then if ib (((a1 + (1 : Int32)) * (6 : Int32)) + a3) 48 then if ib (((a2 + (1 : Int32)) * (64 : Int32)) + (a4 ||| ((1 : Int32) <<< (a3 &&& 31)))) 448 then some ((((if 0 ≤ ((gi dy (gr S a0 1) ((a1 * (6 : Int32)) + a2).toNatClampNeg) - (gi dy (gr S a0 1) (((a1 + (1 : Int32)) * (6 : Int32)) + a3).toNatClampNeg)) then ((gi dy (gr S a0 1) ((a1 * (6 : Int32)) + a2).toNatClampNeg) - (gi dy (gr S a0 1) (((a1 + (1 : Int32)) * (6 : Int32)) + a3).toNatClampNeg)) else 0 - ((gi dy (gr S a0 1) ((a1 * (6 : Int32)) + a2).toNatClampNeg) - (gi dy (gr S a0 1) (((a1 + (1 : Int32)) * (6 : Int32)) + a3).toNatClampNeg))) + (if 0 ≤ ((gi dy (gr S a0 2) ((a1 * (6 : Int32)) + a2).toNatClampNeg) - (gi dy (gr S a0 2) (((a1 + (1 : Int32)) * (6 : Int32)) + a3).toNatClampNeg)) then ((gi dy (gr S a0 2) ((a1 * (6 : Int32)) + a2).toNatClampNeg) - (gi dy (gr S a0 2) (((a1 + (1 : Int32)) * (6 : Int32)) + a3).toNatClampNeg)) else 0 - ((gi dy (gr S a0 2) ((a1 * (6 : Int32)) + a2).toNatClampNeg) - (gi dy (gr S a0 2) (((a1 + (1 : Int32)) * (6 : Int32)) + a3).toNatClampNeg)))) + (gi dy (gr S a0 4) (((a2 + (1 : Int32)) * (64 : Int32)) + (a4 ||| ((1 : Int32) <<< (a3 &&& 31)))).toNatClampNeg)), dy) else none else none else none else none else none) := rfl
noncomputable def F_X1_has (S : ST) (N : Nat) (a0 : Nat) (a1 : Int32) (a2 : Int32) (dy : DY) : Option (Int32 × DY) := (if a1 < 0 then some ((0 : Int32), dy) else (if (8 : Int32) ≤ a1 then some ((0 : Int32), dy) else (if a2 < 0 then some ((0 : Int32), dy) else if ib a1 8 then (if (gi dy (gr S a0 0) a1.toNatClampNeg) ≤ a2 then some ((0 : Int32), dy) else some ((1 : Int32), dy)) else none)))
theorem F_X1_has_s (S : ST) (N : Nat) (a0 : Nat) (a1 : Int32) (a2 : Int32) (dy : DY) : F_X1_has S N a0 a1 a2 dy = (if a1 < 0 then some ((0 : Int32), dy) else (if (8 : Int32) ≤ a1 then some ((0 : Int32), dy) else (if a2 < 0 then some ((0 : Int32), dy) else if ib a1 8 then (if (gi dy (gr S a0 0) a1.toNatClampNeg) ≤ a2 then some ((0 : Int32), dy) else some ((1 : Int32), dy)) else none))) := rfl
noncomputable def F_X1_hasHat_3 (S : ST) (N : Nat) : Nat → Nat → Int32 → Int32 → Int32 → Int32 → DY → Option (Int32 × DY) := fun k => Nat.rec (motive := fun _ => Nat → Int32 → Int32 → Int32 → Int32 → DY → Option (Int32 × DY)) (fun _ _ _ _ _ _ => none) (fun _ ih x0 x1 x2 x3 x4 dy => (if (6 : Int32) ≤ x4 then some ((0 : Int32), dy) else (F_X1_has S N x0 x1 x4 dy).bind fun u1 => (if u1.1 = 0 then some ((0 : Int32), u1.2) else if ib ((x1 * (6 : Int32)) + x4) 48 then (if (gi u1.2 (gr S x0 1) ((x1 * (6 : Int32)) + x4).toNatClampNeg) = x2 then if ib ((x1 * (6 : Int32)) + x4) 48 then (if (gi u1.2 (gr S x0 2) ((x1 * (6 : Int32)) + x4).toNatClampNeg) = x3 then some ((1 : Int32), u1.2) else ih x0 x1 x2 x3 (x4 + (1 : Int32)) u1.2) else none else ih x0 x1 x2 x3 (x4 + (1 : Int32)) u1.2) else none))) k
theorem F_X1_hasHat_3_s (S : ST) (N : Nat) (k : Nat) (x0 : Nat) (x1 : Int32) (x2 : Int32) (x3 : Int32) (x4 : Int32) (dy : DY) : F_X1_hasHat_3 S N (k + 1) x0 x1 x2 x3 x4 dy = (if (6 : Int32) ≤ x4 then some ((0 : Int32), dy) else (F_X1_has S N x0 x1 x4 dy).bind fun u1 => (if u1.1 = 0 then some ((0 : Int32), u1.2) else if ib ((x1 * (6 : Int32)) + x4) 48 then (if (gi u1.2 (gr S x0 1) ((x1 * (6 : Int32)) + x4).toNatClampNeg) = x2 then if ib ((x1 * (6 : Int32)) + x4) 48 then (if (gi u1.2 (gr S x0 2) ((x1 * (6 : Int32)) + x4).toNatClampNeg) = x3 then some ((1 : Int32), u1.2) else (F_X1_hasHat_3 S N k) x0 x1 x2 x3 (x4 + (1 : Int32)) u1.2) else none else (F_X1_hasHat_3 S N k) x0 x1 x2 x3 (x4 + (1 : Int32)) u1.2) else none)) := rfl
noncomputable def F_X1_hasHat (S : ST) (N : Nat) (a0 : Nat) (a1 : Int32) (a2 : Int32) (a3 : Int32) (dy : DY) : Option (Int32 × DY) := (F_X1_hasHat_3 S N N) a0 a1 a2 a3 (0 : Int32) dy
theorem F_X1_hasHat_s (S : ST) (N : Nat) (a0 : Nat) (a1 : Int32) (a2 : Int32) (a3 : Int32) (dy : DY) : F_X1_hasHat S N a0 a1 a2 a3 dy = ((F_X1_hasHat_3 S N N) a0 a1 a2 a3 (0 : Int32) dy) := rfl
noncomputable def F_X1_leastFrom_21 (S : ST) (N : Nat) : Nat → Nat → Int32 → Int32 → Int32 → Int32 → Int32 → DY → Option (Int32 × DY) := fun k => Nat.rec (motive := fun _ => Nat → Int32 → Int32 → Int32 → Int32 → Int32 → DY → Option (Int32 × DY)) (fun _ _ _ _ _ _ _ => none) (fun _ ih x0 x1 x2 x3 x5 x6 dy => if ib (x1 + (1 : Int32)) 8 then (if (gi dy (gr S x0 0) (x1 + (1 : Int32)).toNatClampNeg) ≤ x6 then some (x5, dy) else (if ((x3 >>> (x6 &&& 31)) &&& (1 : Int32)) = 0 then (F_X1_coupled S N x0 x1 x2 x6 x3 dy).bind fun u2 => ih x0 x1 x2 x3 (if u2.1 < x5 then u2.1 else x5) (x6 + (1 : Int32)) u2.2 else ih x0 x1 x2 x3 x5 (x6 + (1 : Int32)) dy)) else none) k
theorem F_X1_leastFrom_21_s (S : ST) (N : Nat) (k : Nat) (x0 : Nat) (x1 : Int32) (x2 : Int32) (x3 : Int32) (x5 : Int32) (x6 : Int32) (dy : DY) : F_X1_leastFrom_21 S N (k + 1) x0 x1 x2 x3 x5 x6 dy = (if ib (x1 + (1 : Int32)) 8 then (if (gi dy (gr S x0 0) (x1 + (1 : Int32)).toNatClampNeg) ≤ x6 then some (x5, dy) else (if ((x3 >>> (x6 &&& 31)) &&& (1 : Int32)) = 0 then (F_X1_coupled S N x0 x1 x2 x6 x3 dy).bind fun u2 => (F_X1_leastFrom_21 S N k) x0 x1 x2 x3 (if u2.1 < x5 then u2.1 else x5) (x6 + (1 : Int32)) u2.2 else (F_X1_leastFrom_21 S N k) x0 x1 x2 x3 x5 (x6 + (1 : Int32)) dy)) else none) := rfl
noncomputable def F_X1_leastFrom (S : ST) (N : Nat) (a0 : Nat) (a1 : Int32) (a2 : Int32) (a3 : Int32) (a4 : Int32) (dy : DY) : Option (Int32 × DY) := if ib (((a2 + (1 : Int32)) * (64 : Int32)) + a3) 448 then (F_X1_leastFrom_21 S N N) a0 a1 a2 a3 (a4 + (gi dy (gr S a0 4) (((a2 + (1 : Int32)) * (64 : Int32)) + a3).toNatClampNeg)) (0 : Int32) dy else none
theorem F_X1_leastFrom_s (S : ST) (N : Nat) (a0 : Nat) (a1 : Int32) (a2 : Int32) (a3 : Int32) (a4 : Int32) (dy : DY) : F_X1_leastFrom S N a0 a1 a2 a3 a4 dy = (if ib (((a2 + (1 : Int32)) * (64 : Int32)) + a3) 448 then (F_X1_leastFrom_21 S N N) a0 a1 a2 a3 (a4 + (gi dy (gr S a0 4) (((a2 + (1 : Int32)) * (64 : Int32)) + a3).toNatClampNeg)) (0 : Int32) dy else none) := rfl
noncomputable def F_X1_leastPartner_30 (S : ST) (N : Nat) (K3 : Nat → Int32 → Int32 → Int32 → Int32 → DY → Option (Int32 × DY)) (x0 : Nat) (x1 : Int32) (x2 : Int32) (x3 : Int32) (x4 : Int32) (y0 : Int32) (dy : DY) : Option (Int32 × DY) := (if y0 = 0 then K3 x0 x1 x2 x3 (x4 + (1 : Int32)) dy else (F_X1_coupled S N x0 x1 x2 x4 x3 dy).bind fun u1 => if ib ((x2 * (64 : Int32)) + x3) 448 then (if u1.1 = (gi u1.2 (gr S x0 4) ((x2 * (64 : Int32)) + x3).toNatClampNeg) then some (x4, u1.2) else K3 x0 x1 x2 x3 (x4 + (1 : Int32)) u1.2) else none)
theorem F_X1_leastPartner_30_s (S : ST) (N : Nat) (K3 : Nat → Int32 → Int32 → Int32 → Int32 → DY → Option (Int32 × DY)) (x0 : Nat) (x1 : Int32) (x2 : Int32) (x3 : Int32) (x4 : Int32) (y0 : Int32) (dy : DY) : F_X1_leastPartner_30 S N K3 x0 x1 x2 x3 x4 y0 dy = (if y0 = 0 then K3 x0 x1 x2 x3 (x4 + (1 : Int32)) dy else (F_X1_coupled S N x0 x1 x2 x4 x3 dy).bind fun u1 => if ib ((x2 * (64 : Int32)) + x3) 448 then (if u1.1 = (gi u1.2 (gr S x0 4) ((x2 * (64 : Int32)) + x3).toNatClampNeg) then some (x4, u1.2) else K3 x0 x1 x2 x3 (x4 + (1 : Int32)) u1.2) else none) := rfl
noncomputable def F_X1_leastPartner_3 (S : ST) (N : Nat) : Nat → Nat → Int32 → Int32 → Int32 → Int32 → DY → Option (Int32 × DY) := fun k => Nat.rec (motive := fun _ => Nat → Int32 → Int32 → Int32 → Int32 → DY → Option (Int32 × DY)) (fun _ _ _ _ _ _ => none) (fun _ ih x0 x1 x2 x3 x4 dy => if ib (x1 + (1 : Int32)) 8 then (if (gi dy (gr S x0 0) (x1 + (1 : Int32)).toNatClampNeg) ≤ x4 then some ((-1 : Int32), dy) else (if ((x3 >>> (x4 &&& 31)) &&& (1 : Int32)) = 0 then (F_X1_leastPartner_30 S N ih) x0 x1 x2 x3 x4 (1 : Int32) dy else (F_X1_leastPartner_30 S N ih) x0 x1 x2 x3 x4 (0 : Int32) dy)) else none) k
theorem F_X1_leastPartner_3_s (S : ST) (N : Nat) (k : Nat) (x0 : Nat) (x1 : Int32) (x2 : Int32) (x3 : Int32) (x4 : Int32) (dy : DY) : F_X1_leastPartner_3 S N (k + 1) x0 x1 x2 x3 x4 dy = (if ib (x1 + (1 : Int32)) 8 then (if (gi dy (gr S x0 0) (x1 + (1 : Int32)).toNatClampNeg) ≤ x4 then some ((-1 : Int32), dy) else (if ((x3 >>> (x4 &&& 31)) &&& (1 : Int32)) = 0 then (F_X1_leastPartner_30 S N (F_X1_leastPartner_3 S N k)) x0 x1 x2 x3 x4 (1 : Int32) dy else (F_X1_leastPartner_30 S N (F_X1_leastPartner_3 S N k)) x0 x1 x2 x3 x4 (0 : Int32) dy)) else none) := rfl
noncomputable def F_X1_leastPartner (S : ST) (N : Nat) (a0 : Nat) (a1 : Int32) (a2 : Int32) (a3 : Int32) (dy : DY) : Option (Int32 × DY) := (F_X1_leastPartner_3 S N N) a0 a1 a2 a3 (0 : Int32) dy
theorem F_X1_leastPartner_s (S : ST) (N : Nat) (a0 : Nat) (a1 : Int32) (a2 : Int32) (a3 : Int32) (dy : DY) : F_X1_leastPartner S N a0 a1 a2 a3 dy = ((F_X1_leastPartner_3 S N N) a0 a1 a2 a3 (0 : Int32) dy) := rfl
noncomputable def F_X1_pair_82 (S : ST) (N : Nat) (K74 : Nat → Int32 → Int32 → Int32 → Int32 → DY → Option (Int32 × DY)) : Nat → Nat → Int32 → Int32 → Int32 → Int32 → Int32 → DY → Option (Int32 × DY) := fun k => Nat.rec (motive := fun _ => Nat → Int32 → Int32 → Int32 → Int32 → Int32 → DY → Option (Int32 × DY)) (fun _ _ _ _ _ _ _ => none) (fun _ ih x0 x1 x2 x3 x4 x5 dy => (if ((1 : Int32) <<< (x3 &&& 31)) ≤ x5 then K74 x0 x1 x2 x3 (x4 + (-1 : Int32)) dy else (F_X1_leastFrom S N x0 x1 x4 x5 x2 dy).bind fun u2 => if ib ((x4 * (64 : Int32)) + x5) 448 then bd (si u2.2 (gr S x0 4) ((x4 * (64 : Int32)) + x5).toNatClampNeg u2.1) fun dy4 => ih x0 x1 x2 x3 x4 (x5 + (1 : Int32)) dy4 else none)) k
theorem F_X1_pair_82_s (S : ST) (N : Nat) (K74 : Nat → Int32 → Int32 → Int32 → Int32 → DY → Option (Int32 × DY)) (k : Nat) (x0 : Nat) (x1 : Int32) (x2 : Int32) (x3 : Int32) (x4 : Int32) (x5 : Int32) (dy : DY) : F_X1_pair_82 S N K74 (k + 1) x0 x1 x2 x3 x4 x5 dy = (if ((1 : Int32) <<< (x3 &&& 31)) ≤ x5 then K74 x0 x1 x2 x3 (x4 + (-1 : Int32)) dy else (F_X1_leastFrom S N x0 x1 x4 x5 x2 dy).bind fun u2 => if ib ((x4 * (64 : Int32)) + x5) 448 then bd (si u2.2 (gr S x0 4) ((x4 * (64 : Int32)) + x5).toNatClampNeg u2.1) fun dy4 => (F_X1_pair_82 S N K74 k) x0 x1 x2 x3 x4 (x5 + (1 : Int32)) dy4 else none) := rfl
noncomputable def F_X1_pair_131 (S : ST) (N : Nat) : Nat → Nat → Int32 → Int32 → Int32 → DY → Option (Int32 × DY) := fun k => Nat.rec (motive := fun _ => Nat → Int32 → Int32 → Int32 → DY → Option (Int32 × DY)) (fun _ _ _ _ _ => none) (fun _ ih x0 x1 x4 x5 dy => if ib x1 8 then (if (gi dy (gr S x0 0) x1.toNatClampNeg) ≤ x5 then if ib (0 : Int32) 448 then some ((gi dy (gr S x0 4) (0 : Int32).toNatClampNeg), dy) else none else (F_X1_leastPartner S N x0 x1 x5 x4 dy).bind fun u4 => if ib x5 6 then bd (si u4.2 (gr S x0 3) x5.toNatClampNeg u4.1) fun dy6 => if ib x5 6 then (if (gi dy6 (gr S x0 3) x5.toNatClampNeg) = (-1 : Int32) then ih x0 x1 (x4 ||| (0 : Int32)) (x5 + (1 : Int32)) dy6 else if ib x5 6 then ih x0 x1 (x4 ||| ((1 : Int32) <<< ((gi dy6 (gr S x0 3) x5.toNatClampNeg) &&& 31))) (x5 + (1 : Int32)) dy6 else none) else none else none) else none) k
theorem F_X1_pair_131_s (S : ST) (N : Nat) (k : Nat) (x0 : Nat) (x1 : Int32) (x4 : Int32) (x5 : Int32) (dy : DY) : F_X1_pair_131 S N (k + 1) x0 x1 x4 x5 dy = (if ib x1 8 then (if (gi dy (gr S x0 0) x1.toNatClampNeg) ≤ x5 then if ib (0 : Int32) 448 then some ((gi dy (gr S x0 4) (0 : Int32).toNatClampNeg), dy) else none else (F_X1_leastPartner S N x0 x1 x5 x4 dy).bind fun u4 => if ib x5 6 then bd (si u4.2 (gr S x0 3) x5.toNatClampNeg u4.1) fun dy6 => if ib x5 6 then (if (gi dy6 (gr S x0 3) x5.toNatClampNeg) = (-1 : Int32) then (F_X1_pair_131 S N k) x0 x1 (x4 ||| (0 : Int32)) (x5 + (1 : Int32)) dy6 else if ib x5 6 then (F_X1_pair_131 S N k) x0 x1 (x4 ||| ((1 : Int32) <<< ((gi dy6 (gr S x0 3) x5.toNatClampNeg) &&& 31))) (x5 + (1 : Int32)) dy6 else none) else none else none) else none) := rfl
noncomputable def F_X1_pair_74 (S : ST) (N : Nat) : Nat → Nat → Int32 → Int32 → Int32 → Int32 → DY → Option (Int32 × DY) := fun k => Nat.rec (motive := fun _ => Nat → Int32 → Int32 → Int32 → Int32 → DY → Option (Int32 × DY)) (fun _ _ _ _ _ _ => none) (fun _ ih x0 x1 x2 x3 x4 dy => (if x4 < 0 then (F_X1_pair_131 S N N) x0 x1 (0 : Int32) (0 : Int32) dy else (F_X1_pair_82 S N ih N) x0 x1 x2 x3 x4 (0 : Int32) dy)) k
theorem F_X1_pair_74_s (S : ST) (N : Nat) (k : Nat) (x0 : Nat) (x1 : Int32) (x2 : Int32) (x3 : Int32) (x4 : Int32) (dy : DY) : F_X1_pair_74 S N (k + 1) x0 x1 x2 x3 x4 dy = (if x4 < 0 then (F_X1_pair_131 S N N) x0 x1 (0 : Int32) (0 : Int32) dy else (F_X1_pair_82 S N (F_X1_pair_74 S N k) N) x0 x1 x2 x3 x4 (0 : Int32) dy) := rfl
noncomputable def F_X1_pair_24 (S : ST) (N : Nat) : Nat → Nat → Int32 → Int32 → Int32 → Int32 → DY → Option (Int32 × DY) := fun k => Nat.rec (motive := fun _ => Nat → Int32 → Int32 → Int32 → Int32 → DY → Option (Int32 × DY)) (fun _ _ _ _ _ _ => none) (fun _ ih x0 x1 x2 x3 x4 dy => (if ((1 : Int32) <<< (x3 &&& 31)) ≤ x4 then if ib x1 8 then (F_X1_pair_74 S N N) x0 x1 x2 x3 ((gi dy (gr S x0 0) x1.toNatClampNeg) - (1 : Int32)) dy else none else if ib x1 8 then (F_J6_bitCount_0f7a4 S N x4 dy).bind fun u4 => if ib (((gi dy (gr S x0 0) x1.toNatClampNeg) * (64 : Int32)) + x4) 448 then bd (si u4.2 (gr S x0 4) (((gi dy (gr S x0 0) x1.toNatClampNeg) * (64 : Int32)) + x4).toNatClampNeg (x2 * (x3 - u4.1))) fun dy6 => ih x0 x1 x2 x3 (x4 + (1 : Int32)) dy6 else none else none)) k
theorem F_X1_pair_24_s (S : ST) (N : Nat) (k : Nat) (x0 : Nat) (x1 : Int32) (x2 : Int32) (x3 : Int32) (x4 : Int32) (dy : DY) : F_X1_pair_24 S N (k + 1) x0 x1 x2 x3 x4 dy = (if ((1 : Int32) <<< (x3 &&& 31)) ≤ x4 then if ib x1 8 then (F_X1_pair_74 S N N) x0 x1 x2 x3 ((gi dy (gr S x0 0) x1.toNatClampNeg) - (1 : Int32)) dy else none else if ib x1 8 then (F_J6_bitCount_0f7a4 S N x4 dy).bind fun u4 => if ib (((gi dy (gr S x0 0) x1.toNatClampNeg) * (64 : Int32)) + x4) 448 then bd (si u4.2 (gr S x0 4) (((gi dy (gr S x0 0) x1.toNatClampNeg) * (64 : Int32)) + x4).toNatClampNeg (x2 * (x3 - u4.1))) fun dy6 => (F_X1_pair_24 S N k) x0 x1 x2 x3 (x4 + (1 : Int32)) dy6 else none else none) := rfl
noncomputable def F_X1_pair (S : ST) (N : Nat) (a0 : Nat) (a1 : Int32) (a2 : Int32) (dy : DY) : Option (Int32 × DY) := (if a1 < 0 then some ((-1 : Int32), dy) else (if a1 < (7 : Int32) then if ib (a1 + (1 : Int32)) 8 then (F_X1_pair_24 S N N) a0 a1 a2 (gi dy (gr S a0 0) (a1 + (1 : Int32)).toNatClampNeg) (0 : Int32) dy else none else some ((-1 : Int32), dy)))
theorem F_X1_pair_s (S : ST) (N : Nat) (a0 : Nat) (a1 : Int32) (a2 : Int32) (dy : DY) : F_X1_pair S N a0 a1 a2 dy = (if a1 < 0 then some ((-1 : Int32), dy) else (if a1 < (7 : Int32) then if ib (a1 + (1 : Int32)) 8 then (F_X1_pair_24 S N N) a0 a1 a2 (gi dy (gr S a0 0) (a1 + (1 : Int32)).toNatClampNeg) (0 : Int32) dy else none else some ((-1 : Int32), dy))) := rfl
theorem dX1_add_0 : decode cX1_add 0 = .ok (.iload_n 1, 1) := by decide +kernel
theorem dX1_add_1 : decode cX1_add 1 = .ok (.ifCond .lt 20, 3) := by decide +kernel
theorem dX1_add_4 : decode cX1_add 4 = .ok (.iload_n 1, 1) := by decide +kernel
theorem dX1_add_5 : decode cX1_add 5 = .ok (.bipush 8, 2) := by decide +kernel
theorem dX1_add_7 : decode cX1_add 7 = .ok (.if_icmp .ge 14, 3) := by decide +kernel
theorem dX1_add_10 : decode cX1_add 10 = .ok (.aload_n 0, 1) := by decide +kernel
theorem dX1_add_11 : decode cX1_add 11 = .ok (.getfield 9, 3) := by decide +kernel
theorem dX1_add_14 : decode cX1_add 14 = .ok (.iload_n 1, 1) := by decide +kernel
theorem dX1_add_15 : decode cX1_add 15 = .ok (.iaload, 1) := by decide +kernel
theorem dX1_add_16 : decode cX1_add 16 = .ok (.bipush 6, 2) := by decide +kernel
theorem dX1_add_18 : decode cX1_add 18 = .ok (.if_icmp .lt 5, 3) := by decide +kernel
theorem dX1_add_21 : decode cX1_add 21 = .ok (.iconst (-1), 1) := by decide +kernel
theorem dX1_add_22 : decode cX1_add 22 = .ok (.ireturn, 1) := by decide +kernel
theorem dX1_add_23 : decode cX1_add 23 = .ok (.aload_n 0, 1) := by decide +kernel
theorem dX1_add_24 : decode cX1_add 24 = .ok (.getfield 9, 3) := by decide +kernel
theorem dX1_add_27 : decode cX1_add 27 = .ok (.iload_n 1, 1) := by decide +kernel
theorem dX1_add_28 : decode cX1_add 28 = .ok (.iaload, 1) := by decide +kernel
theorem dX1_add_29 : decode cX1_add 29 = .ok (.istore 4, 2) := by decide +kernel
theorem dX1_add_31 : decode cX1_add 31 = .ok (.aload_n 0, 1) := by decide +kernel
theorem dX1_add_32 : decode cX1_add 32 = .ok (.getfield 15, 3) := by decide +kernel
theorem dX1_add_35 : decode cX1_add 35 = .ok (.iload_n 1, 1) := by decide +kernel
theorem dX1_add_36 : decode cX1_add 36 = .ok (.bipush 6, 2) := by decide +kernel
theorem dX1_add_38 : decode cX1_add 38 = .ok (.imul, 1) := by decide +kernel
theorem dX1_add_39 : decode cX1_add 39 = .ok (.iload 4, 2) := by decide +kernel
theorem dX1_add_41 : decode cX1_add 41 = .ok (.iadd, 1) := by decide +kernel
theorem dX1_add_42 : decode cX1_add 42 = .ok (.iload_n 2, 1) := by decide +kernel
theorem dX1_add_43 : decode cX1_add 43 = .ok (.iastore, 1) := by decide +kernel
theorem dX1_add_44 : decode cX1_add 44 = .ok (.aload_n 0, 1) := by decide +kernel
theorem dX1_add_45 : decode cX1_add 45 = .ok (.getfield 18, 3) := by decide +kernel
theorem dX1_add_48 : decode cX1_add 48 = .ok (.iload_n 1, 1) := by decide +kernel
theorem dX1_add_49 : decode cX1_add 49 = .ok (.bipush 6, 2) := by decide +kernel
theorem dX1_add_51 : decode cX1_add 51 = .ok (.imul, 1) := by decide +kernel
theorem dX1_add_52 : decode cX1_add 52 = .ok (.iload 4, 2) := by decide +kernel
theorem dX1_add_54 : decode cX1_add 54 = .ok (.iadd, 1) := by decide +kernel
theorem dX1_add_55 : decode cX1_add 55 = .ok (.iload_n 3, 1) := by decide +kernel
theorem dX1_add_56 : decode cX1_add 56 = .ok (.iastore, 1) := by decide +kernel
theorem dX1_add_57 : decode cX1_add 57 = .ok (.aload_n 0, 1) := by decide +kernel
theorem dX1_add_58 : decode cX1_add 58 = .ok (.getfield 9, 3) := by decide +kernel
theorem dX1_add_61 : decode cX1_add 61 = .ok (.iload_n 1, 1) := by decide +kernel
theorem dX1_add_62 : decode cX1_add 62 = .ok (.dup2, 1) := by decide +kernel
theorem dX1_add_63 : decode cX1_add 63 = .ok (.iaload, 1) := by decide +kernel
theorem dX1_add_64 : decode cX1_add 64 = .ok (.iconst 1, 1) := by decide +kernel
theorem dX1_add_65 : decode cX1_add 65 = .ok (.iadd, 1) := by decide +kernel
theorem dX1_add_66 : decode cX1_add 66 = .ok (.iastore, 1) := by decide +kernel
theorem dX1_add_67 : decode cX1_add 67 = .ok (.iload 4, 2) := by decide +kernel
theorem dX1_add_69 : decode cX1_add 69 = .ok (.ireturn, 1) := by decide +kernel
theorem dX1_copyFrom_0 : decode cX1_copyFrom 0 = .ok (.aload_n 1, 1) := by decide +kernel
theorem dX1_copyFrom_1 : decode cX1_copyFrom 1 = .ok (.getfield 9, 3) := by decide +kernel
theorem dX1_copyFrom_4 : decode cX1_copyFrom 4 = .ok (.iconst 0, 1) := by decide +kernel
theorem dX1_copyFrom_5 : decode cX1_copyFrom 5 = .ok (.aload_n 0, 1) := by decide +kernel
theorem dX1_copyFrom_6 : decode cX1_copyFrom 6 = .ok (.getfield 9, 3) := by decide +kernel
theorem dX1_copyFrom_9 : decode cX1_copyFrom 9 = .ok (.iconst 0, 1) := by decide +kernel
theorem dX1_copyFrom_10 : decode cX1_copyFrom 10 = .ok (.bipush 8, 2) := by decide +kernel
theorem dX1_copyFrom_12 : decode cX1_copyFrom 12 = .ok (.invokestatic 27, 3) := by decide +kernel
theorem dX1_copyFrom_15 : decode cX1_copyFrom 15 = .ok (.aload_n 1, 1) := by decide +kernel
theorem dX1_copyFrom_16 : decode cX1_copyFrom 16 = .ok (.getfield 15, 3) := by decide +kernel
theorem dX1_copyFrom_19 : decode cX1_copyFrom 19 = .ok (.iconst 0, 1) := by decide +kernel
theorem dX1_copyFrom_20 : decode cX1_copyFrom 20 = .ok (.aload_n 0, 1) := by decide +kernel
theorem dX1_copyFrom_21 : decode cX1_copyFrom 21 = .ok (.getfield 15, 3) := by decide +kernel
theorem dX1_copyFrom_24 : decode cX1_copyFrom 24 = .ok (.iconst 0, 1) := by decide +kernel
theorem dX1_copyFrom_25 : decode cX1_copyFrom 25 = .ok (.bipush 48, 2) := by decide +kernel
theorem dX1_copyFrom_27 : decode cX1_copyFrom 27 = .ok (.invokestatic 27, 3) := by decide +kernel
theorem dX1_copyFrom_30 : decode cX1_copyFrom 30 = .ok (.aload_n 1, 1) := by decide +kernel
theorem dX1_copyFrom_31 : decode cX1_copyFrom 31 = .ok (.getfield 18, 3) := by decide +kernel
theorem dX1_copyFrom_34 : decode cX1_copyFrom 34 = .ok (.iconst 0, 1) := by decide +kernel
theorem dX1_copyFrom_35 : decode cX1_copyFrom 35 = .ok (.aload_n 0, 1) := by decide +kernel
theorem dX1_copyFrom_36 : decode cX1_copyFrom 36 = .ok (.getfield 18, 3) := by decide +kernel
theorem dX1_copyFrom_39 : decode cX1_copyFrom 39 = .ok (.iconst 0, 1) := by decide +kernel
theorem dX1_copyFrom_40 : decode cX1_copyFrom 40 = .ok (.bipush 48, 2) := by decide +kernel
theorem dX1_copyFrom_42 : decode cX1_copyFrom 42 = .ok (.invokestatic 27, 3) := by decide +kernel
theorem dX1_copyFrom_45 : decode cX1_copyFrom 45 = .ok (.return_, 1) := by decide +kernel
theorem dX1_coupled_0 : decode cX1_coupled 0 = .ok (.iload_n 1, 1) := by decide +kernel
theorem dX1_coupled_1 : decode cX1_coupled 1 = .ok (.bipush 6, 2) := by decide +kernel
theorem dX1_coupled_3 : decode cX1_coupled 3 = .ok (.imul, 1) := by decide +kernel
theorem dX1_coupled_4 : decode cX1_coupled 4 = .ok (.iload_n 2, 1) := by decide +kernel
theorem dX1_coupled_5 : decode cX1_coupled 5 = .ok (.iadd, 1) := by decide +kernel
theorem dX1_coupled_6 : decode cX1_coupled 6 = .ok (.istore 5, 2) := by decide +kernel
theorem dX1_coupled_8 : decode cX1_coupled 8 = .ok (.iload_n 1, 1) := by decide +kernel
theorem dX1_coupled_9 : decode cX1_coupled 9 = .ok (.iconst 1, 1) := by decide +kernel
theorem dX1_coupled_10 : decode cX1_coupled 10 = .ok (.iadd, 1) := by decide +kernel
theorem dX1_coupled_11 : decode cX1_coupled 11 = .ok (.bipush 6, 2) := by decide +kernel
theorem dX1_coupled_13 : decode cX1_coupled 13 = .ok (.imul, 1) := by decide +kernel
theorem dX1_coupled_14 : decode cX1_coupled 14 = .ok (.iload_n 3, 1) := by decide +kernel
theorem dX1_coupled_15 : decode cX1_coupled 15 = .ok (.iadd, 1) := by decide +kernel
theorem dX1_coupled_16 : decode cX1_coupled 16 = .ok (.istore 6, 2) := by decide +kernel
theorem dX1_coupled_18 : decode cX1_coupled 18 = .ok (.aload_n 0, 1) := by decide +kernel
theorem dX1_coupled_19 : decode cX1_coupled 19 = .ok (.getfield 15, 3) := by decide +kernel
theorem dX1_coupled_22 : decode cX1_coupled 22 = .ok (.iload 5, 2) := by decide +kernel
theorem dX1_coupled_24 : decode cX1_coupled 24 = .ok (.iaload, 1) := by decide +kernel
theorem dX1_coupled_25 : decode cX1_coupled 25 = .ok (.aload_n 0, 1) := by decide +kernel
theorem dX1_coupled_26 : decode cX1_coupled 26 = .ok (.getfield 15, 3) := by decide +kernel
theorem dX1_coupled_29 : decode cX1_coupled 29 = .ok (.iload 6, 2) := by decide +kernel
theorem dX1_coupled_31 : decode cX1_coupled 31 = .ok (.iaload, 1) := by decide +kernel
theorem dX1_coupled_32 : decode cX1_coupled 32 = .ok (.isub, 1) := by decide +kernel
theorem dX1_coupled_33 : decode cX1_coupled 33 = .ok (.invokestatic 60, 3) := by decide +kernel
theorem dX1_coupled_36 : decode cX1_coupled 36 = .ok (.aload_n 0, 1) := by decide +kernel
theorem dX1_coupled_37 : decode cX1_coupled 37 = .ok (.getfield 18, 3) := by decide +kernel
theorem dX1_coupled_40 : decode cX1_coupled 40 = .ok (.iload 5, 2) := by decide +kernel
theorem dX1_coupled_42 : decode cX1_coupled 42 = .ok (.iaload, 1) := by decide +kernel
theorem dX1_coupled_43 : decode cX1_coupled 43 = .ok (.aload_n 0, 1) := by decide +kernel
theorem dX1_coupled_44 : decode cX1_coupled 44 = .ok (.getfield 18, 3) := by decide +kernel
theorem dX1_coupled_47 : decode cX1_coupled 47 = .ok (.iload 6, 2) := by decide +kernel
theorem dX1_coupled_49 : decode cX1_coupled 49 = .ok (.iaload, 1) := by decide +kernel
theorem dX1_coupled_50 : decode cX1_coupled 50 = .ok (.isub, 1) := by decide +kernel
theorem dX1_coupled_51 : decode cX1_coupled 51 = .ok (.invokestatic 60, 3) := by decide +kernel
theorem dX1_coupled_54 : decode cX1_coupled 54 = .ok (.iadd, 1) := by decide +kernel
theorem dX1_coupled_55 : decode cX1_coupled 55 = .ok (.istore 7, 2) := by decide +kernel
theorem dX1_coupled_57 : decode cX1_coupled 57 = .ok (.iload 7, 2) := by decide +kernel
theorem dX1_coupled_59 : decode cX1_coupled 59 = .ok (.aload_n 0, 1) := by decide +kernel
theorem dX1_coupled_60 : decode cX1_coupled 60 = .ok (.getfield 24, 3) := by decide +kernel
theorem dX1_coupled_63 : decode cX1_coupled 63 = .ok (.iload_n 2, 1) := by decide +kernel
theorem dX1_coupled_64 : decode cX1_coupled 64 = .ok (.iconst 1, 1) := by decide +kernel
theorem dX1_coupled_65 : decode cX1_coupled 65 = .ok (.iadd, 1) := by decide +kernel
theorem dX1_coupled_66 : decode cX1_coupled 66 = .ok (.bipush 64, 2) := by decide +kernel
theorem dX1_coupled_68 : decode cX1_coupled 68 = .ok (.imul, 1) := by decide +kernel
theorem dX1_coupled_69 : decode cX1_coupled 69 = .ok (.iload 4, 2) := by decide +kernel
theorem dX1_coupled_71 : decode cX1_coupled 71 = .ok (.iconst 1, 1) := by decide +kernel
theorem dX1_coupled_72 : decode cX1_coupled 72 = .ok (.iload_n 3, 1) := by decide +kernel
theorem dX1_coupled_73 : decode cX1_coupled 73 = .ok (.ishl, 1) := by decide +kernel
theorem dX1_coupled_74 : decode cX1_coupled 74 = .ok (.ior, 1) := by decide +kernel
theorem dX1_coupled_75 : decode cX1_coupled 75 = .ok (.iadd, 1) := by decide +kernel
theorem dX1_coupled_76 : decode cX1_coupled 76 = .ok (.iaload, 1) := by decide +kernel
theorem dX1_coupled_77 : decode cX1_coupled 77 = .ok (.iadd, 1) := by decide +kernel
theorem dX1_coupled_78 : decode cX1_coupled 78 = .ok (.ireturn, 1) := by decide +kernel
theorem dX1_has_0 : decode cX1_has 0 = .ok (.iload_n 1, 1) := by decide +kernel
theorem dX1_has_1 : decode cX1_has 1 = .ok (.ifCond .lt 27, 3) := by decide +kernel
theorem dX1_has_4 : decode cX1_has 4 = .ok (.iload_n 1, 1) := by decide +kernel
theorem dX1_has_5 : decode cX1_has 5 = .ok (.bipush 8, 2) := by decide +kernel
theorem dX1_has_7 : decode cX1_has 7 = .ok (.if_icmp .ge 21, 3) := by decide +kernel
theorem dX1_has_10 : decode cX1_has 10 = .ok (.iload_n 2, 1) := by decide +kernel
theorem dX1_has_11 : decode cX1_has 11 = .ok (.ifCond .lt 17, 3) := by decide +kernel
theorem dX1_has_14 : decode cX1_has 14 = .ok (.iload_n 2, 1) := by decide +kernel
theorem dX1_has_15 : decode cX1_has 15 = .ok (.aload_n 0, 1) := by decide +kernel
theorem dX1_has_16 : decode cX1_has 16 = .ok (.getfield 9, 3) := by decide +kernel
theorem dX1_has_19 : decode cX1_has 19 = .ok (.iload_n 1, 1) := by decide +kernel
theorem dX1_has_20 : decode cX1_has 20 = .ok (.iaload, 1) := by decide +kernel
theorem dX1_has_21 : decode cX1_has 21 = .ok (.if_icmp .ge 7, 3) := by decide +kernel
theorem dX1_has_24 : decode cX1_has 24 = .ok (.iconst 1, 1) := by decide +kernel
theorem dX1_has_25 : decode cX1_has 25 = .ok (.goto 4, 3) := by decide +kernel
theorem dX1_has_28 : decode cX1_has 28 = .ok (.iconst 0, 1) := by decide +kernel
theorem dX1_has_29 : decode cX1_has 29 = .ok (.ireturn, 1) := by decide +kernel
theorem dX1_hasHat_0 : decode cX1_hasHat 0 = .ok (.iconst 0, 1) := by decide +kernel
theorem dX1_hasHat_1 : decode cX1_hasHat 1 = .ok (.istore 4, 2) := by decide +kernel
theorem dX1_hasHat_3 : decode cX1_hasHat 3 = .ok (.iload 4, 2) := by decide +kernel
theorem dX1_hasHat_5 : decode cX1_hasHat 5 = .ok (.bipush 6, 2) := by decide +kernel
theorem dX1_hasHat_7 : decode cX1_hasHat 7 = .ok (.if_icmp .ge 53, 3) := by decide +kernel
theorem dX1_hasHat_10 : decode cX1_hasHat 10 = .ok (.aload_n 0, 1) := by decide +kernel
theorem dX1_hasHat_11 : decode cX1_hasHat 11 = .ok (.iload_n 1, 1) := by decide +kernel
theorem dX1_hasHat_12 : decode cX1_hasHat 12 = .ok (.iload 4, 2) := by decide +kernel
theorem dX1_hasHat_14 : decode cX1_hasHat 14 = .ok (.invokevirtual 33, 3) := by decide +kernel
theorem dX1_hasHat_17 : decode cX1_hasHat 17 = .ok (.ifCond .eq 43, 3) := by decide +kernel
theorem dX1_hasHat_20 : decode cX1_hasHat 20 = .ok (.aload_n 0, 1) := by decide +kernel
theorem dX1_hasHat_21 : decode cX1_hasHat 21 = .ok (.getfield 15, 3) := by decide +kernel
theorem dX1_hasHat_24 : decode cX1_hasHat 24 = .ok (.iload_n 1, 1) := by decide +kernel
theorem dX1_hasHat_25 : decode cX1_hasHat 25 = .ok (.bipush 6, 2) := by decide +kernel
theorem dX1_hasHat_27 : decode cX1_hasHat 27 = .ok (.imul, 1) := by decide +kernel
theorem dX1_hasHat_28 : decode cX1_hasHat 28 = .ok (.iload 4, 2) := by decide +kernel
theorem dX1_hasHat_30 : decode cX1_hasHat 30 = .ok (.iadd, 1) := by decide +kernel
theorem dX1_hasHat_31 : decode cX1_hasHat 31 = .ok (.iaload, 1) := by decide +kernel
theorem dX1_hasHat_32 : decode cX1_hasHat 32 = .ok (.iload_n 2, 1) := by decide +kernel
theorem dX1_hasHat_33 : decode cX1_hasHat 33 = .ok (.if_icmp .ne 21, 3) := by decide +kernel
theorem dX1_hasHat_36 : decode cX1_hasHat 36 = .ok (.aload_n 0, 1) := by decide +kernel
theorem dX1_hasHat_37 : decode cX1_hasHat 37 = .ok (.getfield 18, 3) := by decide +kernel
theorem dX1_hasHat_40 : decode cX1_hasHat 40 = .ok (.iload_n 1, 1) := by decide +kernel
theorem dX1_hasHat_41 : decode cX1_hasHat 41 = .ok (.bipush 6, 2) := by decide +kernel
theorem dX1_hasHat_43 : decode cX1_hasHat 43 = .ok (.imul, 1) := by decide +kernel
theorem dX1_hasHat_44 : decode cX1_hasHat 44 = .ok (.iload 4, 2) := by decide +kernel
theorem dX1_hasHat_46 : decode cX1_hasHat 46 = .ok (.iadd, 1) := by decide +kernel
theorem dX1_hasHat_47 : decode cX1_hasHat 47 = .ok (.iaload, 1) := by decide +kernel
theorem dX1_hasHat_48 : decode cX1_hasHat 48 = .ok (.iload_n 3, 1) := by decide +kernel
theorem dX1_hasHat_49 : decode cX1_hasHat 49 = .ok (.if_icmp .ne 5, 3) := by decide +kernel
theorem dX1_hasHat_52 : decode cX1_hasHat 52 = .ok (.iconst 1, 1) := by decide +kernel
theorem dX1_hasHat_53 : decode cX1_hasHat 53 = .ok (.ireturn, 1) := by decide +kernel
theorem dX1_hasHat_54 : decode cX1_hasHat 54 = .ok (.iinc 4 1, 3) := by decide +kernel
theorem dX1_hasHat_57 : decode cX1_hasHat 57 = .ok (.goto (-54), 3) := by decide +kernel
theorem dX1_hasHat_60 : decode cX1_hasHat 60 = .ok (.iconst 0, 1) := by decide +kernel
theorem dX1_hasHat_61 : decode cX1_hasHat 61 = .ok (.ireturn, 1) := by decide +kernel
theorem dX1_leastFrom_0 : decode cX1_leastFrom 0 = .ok (.iload 4, 2) := by decide +kernel
theorem dX1_leastFrom_2 : decode cX1_leastFrom 2 = .ok (.aload_n 0, 1) := by decide +kernel
theorem dX1_leastFrom_3 : decode cX1_leastFrom 3 = .ok (.getfield 24, 3) := by decide +kernel
theorem dX1_leastFrom_6 : decode cX1_leastFrom 6 = .ok (.iload_n 2, 1) := by decide +kernel
theorem dX1_leastFrom_7 : decode cX1_leastFrom 7 = .ok (.iconst 1, 1) := by decide +kernel
theorem dX1_leastFrom_8 : decode cX1_leastFrom 8 = .ok (.iadd, 1) := by decide +kernel
theorem dX1_leastFrom_9 : decode cX1_leastFrom 9 = .ok (.bipush 64, 2) := by decide +kernel
theorem dX1_leastFrom_11 : decode cX1_leastFrom 11 = .ok (.imul, 1) := by decide +kernel
theorem dX1_leastFrom_12 : decode cX1_leastFrom 12 = .ok (.iload_n 3, 1) := by decide +kernel
theorem dX1_leastFrom_13 : decode cX1_leastFrom 13 = .ok (.iadd, 1) := by decide +kernel
theorem dX1_leastFrom_14 : decode cX1_leastFrom 14 = .ok (.iaload, 1) := by decide +kernel
theorem dX1_leastFrom_15 : decode cX1_leastFrom 15 = .ok (.iadd, 1) := by decide +kernel
theorem dX1_leastFrom_16 : decode cX1_leastFrom 16 = .ok (.istore 5, 2) := by decide +kernel
theorem dX1_leastFrom_18 : decode cX1_leastFrom 18 = .ok (.iconst 0, 1) := by decide +kernel
theorem dX1_leastFrom_19 : decode cX1_leastFrom 19 = .ok (.istore 6, 2) := by decide +kernel
theorem dX1_leastFrom_21 : decode cX1_leastFrom 21 = .ok (.iload 6, 2) := by decide +kernel
theorem dX1_leastFrom_23 : decode cX1_leastFrom 23 = .ok (.aload_n 0, 1) := by decide +kernel
theorem dX1_leastFrom_24 : decode cX1_leastFrom 24 = .ok (.getfield 9, 3) := by decide +kernel
theorem dX1_leastFrom_27 : decode cX1_leastFrom 27 = .ok (.iload_n 1, 1) := by decide +kernel
theorem dX1_leastFrom_28 : decode cX1_leastFrom 28 = .ok (.iconst 1, 1) := by decide +kernel
theorem dX1_leastFrom_29 : decode cX1_leastFrom 29 = .ok (.iadd, 1) := by decide +kernel
theorem dX1_leastFrom_30 : decode cX1_leastFrom 30 = .ok (.iaload, 1) := by decide +kernel
theorem dX1_leastFrom_31 : decode cX1_leastFrom 31 = .ok (.if_icmp .ge 34, 3) := by decide +kernel
theorem dX1_leastFrom_34 : decode cX1_leastFrom 34 = .ok (.iload_n 3, 1) := by decide +kernel
theorem dX1_leastFrom_35 : decode cX1_leastFrom 35 = .ok (.iload 6, 2) := by decide +kernel
theorem dX1_leastFrom_37 : decode cX1_leastFrom 37 = .ok (.ishr, 1) := by decide +kernel
theorem dX1_leastFrom_38 : decode cX1_leastFrom 38 = .ok (.iconst 1, 1) := by decide +kernel
theorem dX1_leastFrom_39 : decode cX1_leastFrom 39 = .ok (.iand, 1) := by decide +kernel
theorem dX1_leastFrom_40 : decode cX1_leastFrom 40 = .ok (.ifCond .ne 19, 3) := by decide +kernel
theorem dX1_leastFrom_43 : decode cX1_leastFrom 43 = .ok (.iload 5, 2) := by decide +kernel
theorem dX1_leastFrom_45 : decode cX1_leastFrom 45 = .ok (.aload_n 0, 1) := by decide +kernel
theorem dX1_leastFrom_46 : decode cX1_leastFrom 46 = .ok (.iload_n 1, 1) := by decide +kernel
theorem dX1_leastFrom_47 : decode cX1_leastFrom 47 = .ok (.iload_n 2, 1) := by decide +kernel
theorem dX1_leastFrom_48 : decode cX1_leastFrom 48 = .ok (.iload 6, 2) := by decide +kernel
theorem dX1_leastFrom_50 : decode cX1_leastFrom 50 = .ok (.iload_n 3, 1) := by decide +kernel
theorem dX1_leastFrom_51 : decode cX1_leastFrom 51 = .ok (.invokevirtual 51, 3) := by decide +kernel
theorem dX1_leastFrom_54 : decode cX1_leastFrom 54 = .ok (.invokestatic 54, 3) := by decide +kernel
theorem dX1_leastFrom_57 : decode cX1_leastFrom 57 = .ok (.istore 5, 2) := by decide +kernel
theorem dX1_leastFrom_59 : decode cX1_leastFrom 59 = .ok (.iinc 6 1, 3) := by decide +kernel
theorem dX1_leastFrom_62 : decode cX1_leastFrom 62 = .ok (.goto (-41), 3) := by decide +kernel
theorem dX1_leastFrom_65 : decode cX1_leastFrom 65 = .ok (.iload 5, 2) := by decide +kernel
theorem dX1_leastFrom_67 : decode cX1_leastFrom 67 = .ok (.ireturn, 1) := by decide +kernel
theorem dX1_leastPartner_0 : decode cX1_leastPartner 0 = .ok (.iconst 0, 1) := by decide +kernel
theorem dX1_leastPartner_1 : decode cX1_leastPartner 1 = .ok (.istore 4, 2) := by decide +kernel
theorem dX1_leastPartner_3 : decode cX1_leastPartner 3 = .ok (.iload 4, 2) := by decide +kernel
theorem dX1_leastPartner_5 : decode cX1_leastPartner 5 = .ok (.aload_n 0, 1) := by decide +kernel
theorem dX1_leastPartner_6 : decode cX1_leastPartner 6 = .ok (.getfield 9, 3) := by decide +kernel
theorem dX1_leastPartner_9 : decode cX1_leastPartner 9 = .ok (.iload_n 1, 1) := by decide +kernel
theorem dX1_leastPartner_10 : decode cX1_leastPartner 10 = .ok (.iconst 1, 1) := by decide +kernel
theorem dX1_leastPartner_11 : decode cX1_leastPartner 11 = .ok (.iadd, 1) := by decide +kernel
theorem dX1_leastPartner_12 : decode cX1_leastPartner 12 = .ok (.iaload, 1) := by decide +kernel
theorem dX1_leastPartner_13 : decode cX1_leastPartner 13 = .ok (.if_icmp .ge 56, 3) := by decide +kernel
theorem dX1_leastPartner_16 : decode cX1_leastPartner 16 = .ok (.iload_n 3, 1) := by decide +kernel
theorem dX1_leastPartner_17 : decode cX1_leastPartner 17 = .ok (.iload 4, 2) := by decide +kernel
theorem dX1_leastPartner_19 : decode cX1_leastPartner 19 = .ok (.ishr, 1) := by decide +kernel
theorem dX1_leastPartner_20 : decode cX1_leastPartner 20 = .ok (.iconst 1, 1) := by decide +kernel
theorem dX1_leastPartner_21 : decode cX1_leastPartner 21 = .ok (.iand, 1) := by decide +kernel
theorem dX1_leastPartner_22 : decode cX1_leastPartner 22 = .ok (.ifCond .ne 7, 3) := by decide +kernel
theorem dX1_leastPartner_25 : decode cX1_leastPartner 25 = .ok (.iconst 1, 1) := by decide +kernel
theorem dX1_leastPartner_26 : decode cX1_leastPartner 26 = .ok (.goto 4, 3) := by decide +kernel
theorem dX1_leastPartner_29 : decode cX1_leastPartner 29 = .ok (.iconst 0, 1) := by decide +kernel
theorem dX1_leastPartner_30 : decode cX1_leastPartner 30 = .ok (.istore 5, 2) := by decide +kernel
theorem dX1_leastPartner_32 : decode cX1_leastPartner 32 = .ok (.iload 5, 2) := by decide +kernel
theorem dX1_leastPartner_34 : decode cX1_leastPartner 34 = .ok (.ifCond .eq 29, 3) := by decide +kernel
theorem dX1_leastPartner_37 : decode cX1_leastPartner 37 = .ok (.aload_n 0, 1) := by decide +kernel
theorem dX1_leastPartner_38 : decode cX1_leastPartner 38 = .ok (.iload_n 1, 1) := by decide +kernel
theorem dX1_leastPartner_39 : decode cX1_leastPartner 39 = .ok (.iload_n 2, 1) := by decide +kernel
theorem dX1_leastPartner_40 : decode cX1_leastPartner 40 = .ok (.iload 4, 2) := by decide +kernel
theorem dX1_leastPartner_42 : decode cX1_leastPartner 42 = .ok (.iload_n 3, 1) := by decide +kernel
theorem dX1_leastPartner_43 : decode cX1_leastPartner 43 = .ok (.invokevirtual 51, 3) := by decide +kernel
theorem dX1_leastPartner_46 : decode cX1_leastPartner 46 = .ok (.aload_n 0, 1) := by decide +kernel
theorem dX1_leastPartner_47 : decode cX1_leastPartner 47 = .ok (.getfield 24, 3) := by decide +kernel
theorem dX1_leastPartner_50 : decode cX1_leastPartner 50 = .ok (.iload_n 2, 1) := by decide +kernel
theorem dX1_leastPartner_51 : decode cX1_leastPartner 51 = .ok (.bipush 64, 2) := by decide +kernel
theorem dX1_leastPartner_53 : decode cX1_leastPartner 53 = .ok (.imul, 1) := by decide +kernel
theorem dX1_leastPartner_54 : decode cX1_leastPartner 54 = .ok (.iload_n 3, 1) := by decide +kernel
theorem dX1_leastPartner_55 : decode cX1_leastPartner 55 = .ok (.iadd, 1) := by decide +kernel
theorem dX1_leastPartner_56 : decode cX1_leastPartner 56 = .ok (.iaload, 1) := by decide +kernel
theorem dX1_leastPartner_57 : decode cX1_leastPartner 57 = .ok (.if_icmp .ne 6, 3) := by decide +kernel
theorem dX1_leastPartner_60 : decode cX1_leastPartner 60 = .ok (.iload 4, 2) := by decide +kernel
theorem dX1_leastPartner_62 : decode cX1_leastPartner 62 = .ok (.ireturn, 1) := by decide +kernel
theorem dX1_leastPartner_63 : decode cX1_leastPartner 63 = .ok (.iinc 4 1, 3) := by decide +kernel
theorem dX1_leastPartner_66 : decode cX1_leastPartner 66 = .ok (.goto (-63), 3) := by decide +kernel
theorem dX1_leastPartner_69 : decode cX1_leastPartner 69 = .ok (.iconst (-1), 1) := by decide +kernel
theorem dX1_leastPartner_70 : decode cX1_leastPartner 70 = .ok (.ireturn, 1) := by decide +kernel
theorem dX1_pair_0 : decode cX1_pair 0 = .ok (.iload_n 1, 1) := by decide +kernel
theorem dX1_pair_1 : decode cX1_pair 1 = .ok (.ifCond .lt 9, 3) := by decide +kernel
theorem dX1_pair_4 : decode cX1_pair 4 = .ok (.iload_n 1, 1) := by decide +kernel
theorem dX1_pair_5 : decode cX1_pair 5 = .ok (.bipush 7, 2) := by decide +kernel
theorem dX1_pair_7 : decode cX1_pair 7 = .ok (.if_icmp .lt 5, 3) := by decide +kernel
theorem dX1_pair_10 : decode cX1_pair 10 = .ok (.iconst (-1), 1) := by decide +kernel
theorem dX1_pair_11 : decode cX1_pair 11 = .ok (.ireturn, 1) := by decide +kernel
theorem dX1_pair_12 : decode cX1_pair 12 = .ok (.aload_n 0, 1) := by decide +kernel
theorem dX1_pair_13 : decode cX1_pair 13 = .ok (.getfield 9, 3) := by decide +kernel
theorem dX1_pair_16 : decode cX1_pair 16 = .ok (.iload_n 1, 1) := by decide +kernel
theorem dX1_pair_17 : decode cX1_pair 17 = .ok (.iconst 1, 1) := by decide +kernel
theorem dX1_pair_18 : decode cX1_pair 18 = .ok (.iadd, 1) := by decide +kernel
theorem dX1_pair_19 : decode cX1_pair 19 = .ok (.iaload, 1) := by decide +kernel
theorem dX1_pair_20 : decode cX1_pair 20 = .ok (.istore_n 3, 1) := by decide +kernel
theorem dX1_pair_21 : decode cX1_pair 21 = .ok (.iconst 0, 1) := by decide +kernel
theorem dX1_pair_22 : decode cX1_pair 22 = .ok (.istore 4, 2) := by decide +kernel
theorem dX1_pair_24 : decode cX1_pair 24 = .ok (.iload 4, 2) := by decide +kernel
theorem dX1_pair_26 : decode cX1_pair 26 = .ok (.iconst 1, 1) := by decide +kernel
theorem dX1_pair_27 : decode cX1_pair 27 = .ok (.iload_n 3, 1) := by decide +kernel
theorem dX1_pair_28 : decode cX1_pair 28 = .ok (.ishl, 1) := by decide +kernel
theorem dX1_pair_29 : decode cX1_pair 29 = .ok (.if_icmp .ge 35, 3) := by decide +kernel
theorem dX1_pair_32 : decode cX1_pair 32 = .ok (.aload_n 0, 1) := by decide +kernel
theorem dX1_pair_33 : decode cX1_pair 33 = .ok (.getfield 24, 3) := by decide +kernel
theorem dX1_pair_36 : decode cX1_pair 36 = .ok (.aload_n 0, 1) := by decide +kernel
theorem dX1_pair_37 : decode cX1_pair 37 = .ok (.getfield 9, 3) := by decide +kernel
theorem dX1_pair_40 : decode cX1_pair 40 = .ok (.iload_n 1, 1) := by decide +kernel
theorem dX1_pair_41 : decode cX1_pair 41 = .ok (.iaload, 1) := by decide +kernel
theorem dX1_pair_42 : decode cX1_pair 42 = .ok (.bipush 64, 2) := by decide +kernel
theorem dX1_pair_44 : decode cX1_pair 44 = .ok (.imul, 1) := by decide +kernel
theorem dX1_pair_45 : decode cX1_pair 45 = .ok (.iload 4, 2) := by decide +kernel
theorem dX1_pair_47 : decode cX1_pair 47 = .ok (.iadd, 1) := by decide +kernel
theorem dX1_pair_48 : decode cX1_pair 48 = .ok (.iload_n 2, 1) := by decide +kernel
theorem dX1_pair_49 : decode cX1_pair 49 = .ok (.iload_n 3, 1) := by decide +kernel
theorem dX1_pair_50 : decode cX1_pair 50 = .ok (.iload 4, 2) := by decide +kernel
theorem dX1_pair_52 : decode cX1_pair 52 = .ok (.invokestatic 37, 3) := by decide +kernel
theorem dX1_pair_55 : decode cX1_pair 55 = .ok (.isub, 1) := by decide +kernel
theorem dX1_pair_56 : decode cX1_pair 56 = .ok (.imul, 1) := by decide +kernel
theorem dX1_pair_57 : decode cX1_pair 57 = .ok (.iastore, 1) := by decide +kernel
theorem dX1_pair_58 : decode cX1_pair 58 = .ok (.iinc 4 1, 3) := by decide +kernel
theorem dX1_pair_61 : decode cX1_pair 61 = .ok (.goto (-37), 3) := by decide +kernel
theorem dX1_pair_64 : decode cX1_pair 64 = .ok (.aload_n 0, 1) := by decide +kernel
theorem dX1_pair_65 : decode cX1_pair 65 = .ok (.getfield 9, 3) := by decide +kernel
theorem dX1_pair_68 : decode cX1_pair 68 = .ok (.iload_n 1, 1) := by decide +kernel
theorem dX1_pair_69 : decode cX1_pair 69 = .ok (.iaload, 1) := by decide +kernel
theorem dX1_pair_70 : decode cX1_pair 70 = .ok (.iconst 1, 1) := by decide +kernel
theorem dX1_pair_71 : decode cX1_pair 71 = .ok (.isub, 1) := by decide +kernel
theorem dX1_pair_72 : decode cX1_pair 72 = .ok (.istore 4, 2) := by decide +kernel
theorem dX1_pair_74 : decode cX1_pair 74 = .ok (.iload 4, 2) := by decide +kernel
theorem dX1_pair_76 : decode cX1_pair 76 = .ok (.ifCond .lt 49, 3) := by decide +kernel
theorem dX1_pair_79 : decode cX1_pair 79 = .ok (.iconst 0, 1) := by decide +kernel
theorem dX1_pair_80 : decode cX1_pair 80 = .ok (.istore 5, 2) := by decide +kernel
theorem dX1_pair_82 : decode cX1_pair 82 = .ok (.iload 5, 2) := by decide +kernel
theorem dX1_pair_84 : decode cX1_pair 84 = .ok (.iconst 1, 1) := by decide +kernel
theorem dX1_pair_85 : decode cX1_pair 85 = .ok (.iload_n 3, 1) := by decide +kernel
theorem dX1_pair_86 : decode cX1_pair 86 = .ok (.ishl, 1) := by decide +kernel
theorem dX1_pair_87 : decode cX1_pair 87 = .ok (.if_icmp .ge 32, 3) := by decide +kernel
theorem dX1_pair_90 : decode cX1_pair 90 = .ok (.aload_n 0, 1) := by decide +kernel
theorem dX1_pair_91 : decode cX1_pair 91 = .ok (.getfield 24, 3) := by decide +kernel
theorem dX1_pair_94 : decode cX1_pair 94 = .ok (.iload 4, 2) := by decide +kernel
theorem dX1_pair_96 : decode cX1_pair 96 = .ok (.bipush 64, 2) := by decide +kernel
theorem dX1_pair_98 : decode cX1_pair 98 = .ok (.imul, 1) := by decide +kernel
theorem dX1_pair_99 : decode cX1_pair 99 = .ok (.iload 5, 2) := by decide +kernel
theorem dX1_pair_101 : decode cX1_pair 101 = .ok (.iadd, 1) := by decide +kernel
theorem dX1_pair_102 : decode cX1_pair 102 = .ok (.aload_n 0, 1) := by decide +kernel
theorem dX1_pair_103 : decode cX1_pair 103 = .ok (.iload_n 1, 1) := by decide +kernel
theorem dX1_pair_104 : decode cX1_pair 104 = .ok (.iload 4, 2) := by decide +kernel
theorem dX1_pair_106 : decode cX1_pair 106 = .ok (.iload 5, 2) := by decide +kernel
theorem dX1_pair_108 : decode cX1_pair 108 = .ok (.iload_n 2, 1) := by decide +kernel
theorem dX1_pair_109 : decode cX1_pair 109 = .ok (.invokevirtual 43, 3) := by decide +kernel
theorem dX1_pair_112 : decode cX1_pair 112 = .ok (.iastore, 1) := by decide +kernel
theorem dX1_pair_113 : decode cX1_pair 113 = .ok (.iinc 5 1, 3) := by decide +kernel
theorem dX1_pair_116 : decode cX1_pair 116 = .ok (.goto (-34), 3) := by decide +kernel
theorem dX1_pair_119 : decode cX1_pair 119 = .ok (.iinc 4 (-1), 3) := by decide +kernel
theorem dX1_pair_122 : decode cX1_pair 122 = .ok (.goto (-48), 3) := by decide +kernel
theorem dX1_pair_125 : decode cX1_pair 125 = .ok (.iconst 0, 1) := by decide +kernel
theorem dX1_pair_126 : decode cX1_pair 126 = .ok (.istore 4, 2) := by decide +kernel
theorem dX1_pair_128 : decode cX1_pair 128 = .ok (.iconst 0, 1) := by decide +kernel
theorem dX1_pair_129 : decode cX1_pair 129 = .ok (.istore 5, 2) := by decide +kernel
theorem dX1_pair_131 : decode cX1_pair 131 = .ok (.iload 5, 2) := by decide +kernel
theorem dX1_pair_133 : decode cX1_pair 133 = .ok (.aload_n 0, 1) := by decide +kernel
theorem dX1_pair_134 : decode cX1_pair 134 = .ok (.getfield 9, 3) := by decide +kernel
theorem dX1_pair_137 : decode cX1_pair 137 = .ok (.iload_n 1, 1) := by decide +kernel
theorem dX1_pair_138 : decode cX1_pair 138 = .ok (.iaload, 1) := by decide +kernel
theorem dX1_pair_139 : decode cX1_pair 139 = .ok (.if_icmp .ge 54, 3) := by decide +kernel
theorem dX1_pair_142 : decode cX1_pair 142 = .ok (.aload_n 0, 1) := by decide +kernel
theorem dX1_pair_143 : decode cX1_pair 143 = .ok (.getfield 21, 3) := by decide +kernel
theorem dX1_pair_146 : decode cX1_pair 146 = .ok (.iload 5, 2) := by decide +kernel
theorem dX1_pair_148 : decode cX1_pair 148 = .ok (.aload_n 0, 1) := by decide +kernel
theorem dX1_pair_149 : decode cX1_pair 149 = .ok (.iload_n 1, 1) := by decide +kernel
theorem dX1_pair_150 : decode cX1_pair 150 = .ok (.iload 5, 2) := by decide +kernel
theorem dX1_pair_152 : decode cX1_pair 152 = .ok (.iload 4, 2) := by decide +kernel
theorem dX1_pair_154 : decode cX1_pair 154 = .ok (.invokevirtual 47, 3) := by decide +kernel
theorem dX1_pair_157 : decode cX1_pair 157 = .ok (.iastore, 1) := by decide +kernel
theorem dX1_pair_158 : decode cX1_pair 158 = .ok (.iload 4, 2) := by decide +kernel
theorem dX1_pair_160 : decode cX1_pair 160 = .ok (.aload_n 0, 1) := by decide +kernel
theorem dX1_pair_161 : decode cX1_pair 161 = .ok (.getfield 21, 3) := by decide +kernel
theorem dX1_pair_164 : decode cX1_pair 164 = .ok (.iload 5, 2) := by decide +kernel
theorem dX1_pair_166 : decode cX1_pair 166 = .ok (.iaload, 1) := by decide +kernel
theorem dX1_pair_167 : decode cX1_pair 167 = .ok (.iconst (-1), 1) := by decide +kernel
theorem dX1_pair_168 : decode cX1_pair 168 = .ok (.if_icmp .ne 7, 3) := by decide +kernel
theorem dX1_pair_171 : decode cX1_pair 171 = .ok (.iconst 0, 1) := by decide +kernel
theorem dX1_pair_172 : decode cX1_pair 172 = .ok (.goto 12, 3) := by decide +kernel
theorem dX1_pair_175 : decode cX1_pair 175 = .ok (.iconst 1, 1) := by decide +kernel
theorem dX1_pair_176 : decode cX1_pair 176 = .ok (.aload_n 0, 1) := by decide +kernel
theorem dX1_pair_177 : decode cX1_pair 177 = .ok (.getfield 21, 3) := by decide +kernel
theorem dX1_pair_180 : decode cX1_pair 180 = .ok (.iload 5, 2) := by decide +kernel
theorem dX1_pair_182 : decode cX1_pair 182 = .ok (.iaload, 1) := by decide +kernel
theorem dX1_pair_183 : decode cX1_pair 183 = .ok (.ishl, 1) := by decide +kernel
theorem dX1_pair_184 : decode cX1_pair 184 = .ok (.ior, 1) := by decide +kernel
theorem dX1_pair_185 : decode cX1_pair 185 = .ok (.istore 4, 2) := by decide +kernel
theorem dX1_pair_187 : decode cX1_pair 187 = .ok (.iinc 5 1, 3) := by decide +kernel
theorem dX1_pair_190 : decode cX1_pair 190 = .ok (.goto (-59), 3) := by decide +kernel
theorem dX1_pair_193 : decode cX1_pair 193 = .ok (.aload_n 0, 1) := by decide +kernel
theorem dX1_pair_194 : decode cX1_pair 194 = .ok (.getfield 24, 3) := by decide +kernel
theorem dX1_pair_197 : decode cX1_pair 197 = .ok (.iconst 0, 1) := by decide +kernel
theorem dX1_pair_198 : decode cX1_pair 198 = .ok (.iaload, 1) := by decide +kernel
theorem dX1_pair_199 : decode cX1_pair 199 = .ok (.ireturn, 1) := by decide +kernel
section P_X1_add
variable {p : Program} {l : Launch} {e : Env} {s : State} {m : MethodId} {args : Array Value} {below : List Frame} {meth : Method} {c : Code} {G : GG} {A : Nat → Prop} {ad : Nat → Nat} {S : ST} {N : Nat} {r : Int32} {dy' : DY}
end P_X1_add
set_option maxHeartbeats 4000000 in
set_option maxRecDepth 100000 in
theorem M_X1_add (l : Launch) (G : GG) (ad : Nat → Nat) {S : ST} (N : Nat) (hG : Good S) (a0 : Nat) (a1 : Int32) (a2 : Int32) (a3 : Int32) (dy : DY) (T0 : gs S a0 = (0, 1)) {r : Int32} {dy' : DY} (E : F_X1_add S N a0 a1 a2 a3 dy = some (r, dy')) : MC l yX1_add cX1_add 5 (Option.some Jvm.ClassFile.FieldType.int) (1) G ad [.ref (ad a0), .int a1, .int a2, .int a3] S dy (fun A => QI G ad A S r dy') := by
  rw [F_X1_add_s] at E
  refine mc_of RX1 (by decide) rfl (Nat.le_of_ble_eq_true rfl) (fun p e s m args below meth c A C HR HL => ?_)
  refine ww_sub (lv' := [(0, .ref (ad a0)), (1, .int a1), (2, .int a2), (3, .int a3)]) [0, 1, 2, 3] rfl ?_
  refine ww_iload_n C dX1_add_0 rfl 1 rfl ?_
  refine ww_if_lt (tgt := 21) C dX1_add_1 (by decide) E (fun _ E => ?_) (fun _ E => ?_)
  · refine ww_iconst (v := (-1)) C dX1_add_21 (by decide) ?_
    exact ww_iret C HR HL dX1_add_22 E
  · refine ww_iload_n C dX1_add_4 rfl 1 rfl ?_
    refine ww_bipush (v := 8) C dX1_add_5 (by decide) ?_
    refine ww_icmp_ge (tgt := 21) C dX1_add_7 (by decide) E (fun _ E => ?_) (fun _ E => ?_)
    · refine ww_iconst (v := (-1)) C dX1_add_21 (by decide) ?_
      exact ww_iret C HR HL dX1_add_22 E
    · refine ww_aload_n C dX1_add_10 rfl 0 rfl ?_
      have T_1 : gs S (gr S a0 0) = (1, 8) := hG.1 _ 1 T0 0 (by decide)
      refine ww_getr (ci := 1) (k0 := 0) C dX1_add_11 rfl rfl inm1 (by decide) T0 q347 rfl T_1 (by decide) ?_
      refine ww_iload_n C dX1_add_14 rfl 1 rfl ?_
      refine ww_iald C dX1_add_15 T_1 E (fun _ E => ?_)
      refine ww_bipush (v := 6) C dX1_add_16 (by decide) ?_
      refine ww_icmp_lt (tgt := 23) C dX1_add_18 (by decide) E (fun _ E => ?_) (fun _ E => ?_)
      · refine ww_aload_n C dX1_add_23 rfl 0 rfl ?_
        have T_2 : gs S (gr S a0 0) = (1, 8) := hG.1 _ 1 T0 0 (by decide)
        refine ww_getr (ci := 1) (k0 := 0) C dX1_add_24 rfl rfl inm1 (by decide) T0 q347 rfl T_2 (by decide) ?_
        refine ww_iload_n C dX1_add_27 rfl 1 rfl ?_
        refine ww_iald C dX1_add_28 T_2 E (fun _ E => ?_)
        refine ww_istore (lv' := [(4, .int (gi dy (gr S a0 0) a1.toNatClampNeg)), (0, .ref (ad a0)), (1, .int a1), (2, .int a2), (3, .int a3)]) C dX1_add_29 (by decide) rfl ?_
        refine ww_aload_n C dX1_add_31 rfl 1 rfl ?_
        have T_3 : gs S (gr S a0 1) = (1, 48) := hG.1 _ 1 T0 1 (by decide)
        refine ww_getr (ci := 1) (k0 := 1) C dX1_add_32 rfl rfl inm1 (by decide) T0 q349 rfl T_3 (by decide) ?_
        refine ww_iload_n C dX1_add_35 rfl 2 rfl ?_
        refine ww_bipush (v := 6) C dX1_add_36 (by decide) ?_
        refine ww_imul C dX1_add_38 ?_
        refine ww_iload C dX1_add_39 0 rfl ?_
        refine ww_iadd C dX1_add_41 ?_
        refine ww_iload_n C dX1_add_42 rfl 3 rfl ?_
        refine ww_iast C dX1_add_43 T_3 E (fun _ E => ?_)
        refine ww_bd E (fun dy4 E => ?_)
        refine ww_aload_n C dX1_add_44 rfl 1 rfl ?_
        have T_5 : gs S (gr S a0 2) = (1, 48) := hG.1 _ 1 T0 2 (by decide)
        refine ww_getr (ci := 1) (k0 := 2) C dX1_add_45 rfl rfl inm1 (by decide) T0 q351 rfl T_5 (by decide) ?_
        refine ww_iload_n C dX1_add_48 rfl 2 rfl ?_
        refine ww_bipush (v := 6) C dX1_add_49 (by decide) ?_
        refine ww_imul C dX1_add_51 ?_
        refine ww_iload C dX1_add_52 0 rfl ?_
        refine ww_iadd C dX1_add_54 ?_
        refine ww_iload_n C dX1_add_55 rfl 4 rfl ?_
        refine ww_iast C dX1_add_56 T_5 E (fun _ E => ?_)
        refine ww_bd E (fun dy6 E => ?_)
        refine ww_aload_n C dX1_add_57 rfl 1 rfl ?_
        have T_7 : gs S (gr S a0 0) = (1, 8) := hG.1 _ 1 T0 0 (by decide)
        refine ww_getr (ci := 1) (k0 := 0) C dX1_add_58 rfl rfl inm1 (by decide) T0 q347 rfl T_7 (by decide) ?_
        refine ww_iload_n C dX1_add_61 rfl 2 rfl ?_
        refine ww_dup2 C dX1_add_62 rfl rfl ?_
        refine ww_iald C dX1_add_63 T_7 E (fun _ E => ?_)
        refine ww_iconst (v := 1) C dX1_add_64 (by decide) ?_
        refine ww_iadd C dX1_add_65 ?_
        refine ww_iast C dX1_add_66 T_7 E (fun _ E => ?_)
        refine ww_bd E (fun dy8 E => ?_)
        refine ww_iload C dX1_add_67 0 rfl ?_
        exact ww_iret C HR HL dX1_add_69 E
      · refine ww_iconst (v := (-1)) C dX1_add_21 (by decide) ?_
        exact ww_iret C HR HL dX1_add_22 E
section P_X1_copyFrom
variable {p : Program} {l : Launch} {e : Env} {s : State} {m : MethodId} {args : Array Value} {below : List Frame} {meth : Method} {c : Code} {G : GG} {A : Nat → Prop} {ad : Nat → Nat} {S : ST} {N : Nat} {dy' : DY}
end P_X1_copyFrom
set_option maxHeartbeats 4000000 in
set_option maxRecDepth 100000 in
theorem M_X1_copyFrom (l : Launch) (G : GG) (ad : Nat → Nat) {S : ST} (N : Nat) (hG : Good S) (a0 : Nat) (a1 : Nat) (dy : DY) (T0 : gs S a0 = (0, 1)) (T1 : gs S a1 = (0, 1)) {dy' : DY} (E : F_X1_copyFrom S N a0 a1 dy = some dy') : MC l yX1_copyFrom cX1_copyFrom 2 (Option.none : Option Jvm.ClassFile.FieldType) (1) G ad [.ref (ad a0), .ref (ad a1)] S dy (fun A => QV G ad A S dy') := by
  rw [F_X1_copyFrom_s] at E
  refine mc_of RX1 (by decide) rfl (Nat.le_of_ble_eq_true rfl) (fun p e s m args below meth c A C HR HL => ?_)
  refine ww_sub (lv' := [(0, .ref (ad a0)), (1, .ref (ad a1))]) [0, 1] rfl ?_
  refine ww_aload_n C dX1_copyFrom_0 rfl 1 rfl ?_
  have T_1 : gs S (gr S a1 0) = (1, 8) := hG.1 _ 1 T1 0 (by decide)
  refine ww_getr (ci := 1) (k0 := 0) C dX1_copyFrom_1 rfl rfl inm1 (by decide) T1 q347 rfl T_1 (by decide) ?_
  refine ww_iconst (v := 0) C dX1_copyFrom_4 (by decide) ?_
  refine ww_aload_n C dX1_copyFrom_5 rfl 0 rfl ?_
  have T_2 : gs S (gr S a0 0) = (1, 8) := hG.1 _ 1 T0 0 (by decide)
  refine ww_getr (ci := 1) (k0 := 0) C dX1_copyFrom_6 rfl rfl inm1 (by decide) T0 q347 rfl T_2 (by decide) ?_
  refine ww_iconst (v := 0) C dX1_copyFrom_9 (by decide) ?_
  refine ww_bipush (v := 8) C dX1_copyFrom_10 (by decide) ?_
  obtain ⟨g_4, E⟩ := gd_of E
  refine ww_copy (t := 1) C dX1_copyFrom_12 T_1 T_2 (by decide) (by decide) g_4.1 g_4.2 q1267 q790 q789 q124 (Nat.le_of_ble_eq_true rfl) (Nat.le_of_ble_eq_true rfl) (Nat.le_of_ble_eq_true rfl) ?_
  refine ww_bd E (fun dy3 E => ?_)
  refine ww_aload_n C dX1_copyFrom_15 rfl 1 rfl ?_
  have T_5 : gs S (gr S a1 1) = (1, 48) := hG.1 _ 1 T1 1 (by decide)
  refine ww_getr (ci := 1) (k0 := 1) C dX1_copyFrom_16 rfl rfl inm1 (by decide) T1 q349 rfl T_5 (by decide) ?_
  refine ww_iconst (v := 0) C dX1_copyFrom_19 (by decide) ?_
  refine ww_aload_n C dX1_copyFrom_20 rfl 0 rfl ?_
  have T_6 : gs S (gr S a0 1) = (1, 48) := hG.1 _ 1 T0 1 (by decide)
  refine ww_getr (ci := 1) (k0 := 1) C dX1_copyFrom_21 rfl rfl inm1 (by decide) T0 q349 rfl T_6 (by decide) ?_
  refine ww_iconst (v := 0) C dX1_copyFrom_24 (by decide) ?_
  refine ww_bipush (v := 48) C dX1_copyFrom_25 (by decide) ?_
  obtain ⟨g_8, E⟩ := gd_of E
  refine ww_copy (t := 1) C dX1_copyFrom_27 T_5 T_6 (by decide) (by decide) g_8.1 g_8.2 q1267 q790 q789 q124 (Nat.le_of_ble_eq_true rfl) (Nat.le_of_ble_eq_true rfl) (Nat.le_of_ble_eq_true rfl) ?_
  refine ww_bd E (fun dy7 E => ?_)
  refine ww_aload_n C dX1_copyFrom_30 rfl 1 rfl ?_
  have T_9 : gs S (gr S a1 2) = (1, 48) := hG.1 _ 1 T1 2 (by decide)
  refine ww_getr (ci := 1) (k0 := 2) C dX1_copyFrom_31 rfl rfl inm1 (by decide) T1 q351 rfl T_9 (by decide) ?_
  refine ww_iconst (v := 0) C dX1_copyFrom_34 (by decide) ?_
  refine ww_aload_n C dX1_copyFrom_35 rfl 0 rfl ?_
  have T_10 : gs S (gr S a0 2) = (1, 48) := hG.1 _ 1 T0 2 (by decide)
  refine ww_getr (ci := 1) (k0 := 2) C dX1_copyFrom_36 rfl rfl inm1 (by decide) T0 q351 rfl T_10 (by decide) ?_
  refine ww_iconst (v := 0) C dX1_copyFrom_39 (by decide) ?_
  refine ww_bipush (v := 48) C dX1_copyFrom_40 (by decide) ?_
  obtain ⟨g_12, E⟩ := gd_of E
  refine ww_copy (t := 1) C dX1_copyFrom_42 T_9 T_10 (by decide) (by decide) g_12.1 g_12.2 q1267 q790 q789 q124 (Nat.le_of_ble_eq_true rfl) (Nat.le_of_ble_eq_true rfl) (Nat.le_of_ble_eq_true rfl) ?_
  refine ww_bd E (fun dy11 E => ?_)
  exact ww_vret C HR HL dX1_copyFrom_45 E
section P_X1_coupled
variable {p : Program} {l : Launch} {e : Env} {s : State} {m : MethodId} {args : Array Value} {below : List Frame} {meth : Method} {c : Code} {G : GG} {A : Nat → Prop} {ad : Nat → Nat} {S : ST} {N : Nat} {r : Int32} {dy' : DY}
end P_X1_coupled
set_option maxHeartbeats 4000000 in
set_option maxRecDepth 100000 in
theorem M_X1_coupled (l : Launch) (G : GG) (ad : Nat → Nat) {S : ST} (N : Nat) (hG : Good S) (a0 : Nat) (a1 : Int32) (a2 : Int32) (a3 : Int32) (a4 : Int32) (dy : DY) (T0 : gs S a0 = (0, 1)) {r : Int32} {dy' : DY} (E : F_X1_coupled S N a0 a1 a2 a3 a4 dy = some (r, dy')) : MC l yX1_coupled cX1_coupled 8 (Option.some Jvm.ClassFile.FieldType.int) (1) G ad [.ref (ad a0), .int a1, .int a2, .int a3, .int a4] S dy (fun A => QI G ad A S r dy') := by
  rw [F_X1_coupled_s] at E
  refine mc_of RX1 (by decide) rfl (Nat.le_of_ble_eq_true rfl) (fun p e s m args below meth c A C HR HL => ?_)
  refine ww_sub (lv' := [(0, .ref (ad a0)), (1, .int a1), (2, .int a2), (3, .int a3), (4, .int a4)]) [0, 1, 2, 3, 4] rfl ?_
  refine ww_iload_n C dX1_coupled_0 rfl 1 rfl ?_
  refine ww_bipush (v := 6) C dX1_coupled_1 (by decide) ?_
  refine ww_imul C dX1_coupled_3 ?_
  refine ww_iload_n C dX1_coupled_4 rfl 2 rfl ?_
  refine ww_iadd C dX1_coupled_5 ?_
  refine ww_istore (lv' := [(5, .int ((a1 * (6 : Int32)) + a2)), (0, .ref (ad a0)), (1, .int a1), (2, .int a2), (3, .int a3), (4, .int a4)]) C dX1_coupled_6 (by decide) rfl ?_
  refine ww_iload_n C dX1_coupled_8 rfl 2 rfl ?_
  refine ww_iconst (v := 1) C dX1_coupled_9 (by decide) ?_
  refine ww_iadd C dX1_coupled_10 ?_
  refine ww_bipush (v := 6) C dX1_coupled_11 (by decide) ?_
  refine ww_imul C dX1_coupled_13 ?_
  refine ww_iload_n C dX1_coupled_14 rfl 4 rfl ?_
  refine ww_iadd C dX1_coupled_15 ?_
  refine ww_istore (lv' := [(6, .int (((a1 + (1 : Int32)) * (6 : Int32)) + a3)), (5, .int ((a1 * (6 : Int32)) + a2)), (0, .ref (ad a0)), (1, .int a1), (2, .int a2), (3, .int a3), (4, .int a4)]) C dX1_coupled_16 (by decide) rfl ?_
  refine ww_aload_n C dX1_coupled_18 rfl 2 rfl ?_
  have T_1 : gs S (gr S a0 1) = (1, 48) := hG.1 _ 1 T0 1 (by decide)
  refine ww_getr (ci := 1) (k0 := 1) C dX1_coupled_19 rfl rfl inm1 (by decide) T0 q349 rfl T_1 (by decide) ?_
  refine ww_iload C dX1_coupled_22 1 rfl ?_
  refine ww_iald C dX1_coupled_24 T_1 E (fun _ E => ?_)
  refine ww_aload_n C dX1_coupled_25 rfl 2 rfl ?_
  have T_2 : gs S (gr S a0 1) = (1, 48) := hG.1 _ 1 T0 1 (by decide)
  refine ww_getr (ci := 1) (k0 := 1) C dX1_coupled_26 rfl rfl inm1 (by decide) T0 q349 rfl T_2 (by decide) ?_
  refine ww_iload C dX1_coupled_29 0 rfl ?_
  refine ww_iald C dX1_coupled_31 T_2 E (fun _ E => ?_)
  refine ww_isub C dX1_coupled_32 ?_
  refine ww_mabs C dX1_coupled_33 q1225 q953 q119 q954 (Nat.le_of_ble_eq_true rfl) (Nat.le_of_ble_eq_true rfl) (Nat.le_of_ble_eq_true rfl) (Nat.zero_le _) (Nat.zero_le _) ?_
  refine ww_aload_n C dX1_coupled_36 rfl 2 rfl ?_
  have T_3 : gs S (gr S a0 2) = (1, 48) := hG.1 _ 1 T0 2 (by decide)
  refine ww_getr (ci := 1) (k0 := 2) C dX1_coupled_37 rfl rfl inm1 (by decide) T0 q351 rfl T_3 (by decide) ?_
  refine ww_iload C dX1_coupled_40 1 rfl ?_
  refine ww_iald C dX1_coupled_42 T_3 E (fun _ E => ?_)
  refine ww_aload_n C dX1_coupled_43 rfl 2 rfl ?_
  have T_4 : gs S (gr S a0 2) = (1, 48) := hG.1 _ 1 T0 2 (by decide)
  refine ww_getr (ci := 1) (k0 := 2) C dX1_coupled_44 rfl rfl inm1 (by decide) T0 q351 rfl T_4 (by decide) ?_
  refine ww_iload C dX1_coupled_47 0 rfl ?_
  refine ww_iald C dX1_coupled_49 T_4 E (fun _ E => ?_)
  refine ww_isub C dX1_coupled_50 ?_
  refine ww_mabs C dX1_coupled_51 q1225 q953 q119 q954 (Nat.le_of_ble_eq_true rfl) (Nat.le_of_ble_eq_true rfl) (Nat.le_of_ble_eq_true rfl) (Nat.zero_le _) (Nat.zero_le _) ?_
  refine ww_iadd C dX1_coupled_54 ?_
  refine ww_istore (lv' := [(7, .int ((if 0 ≤ ((gi dy (gr S a0 1) ((a1 * (6 : Int32)) + a2).toNatClampNeg) - (gi dy (gr S a0 1) (((a1 + (1 : Int32)) * (6 : Int32)) + a3).toNatClampNeg)) then ((gi dy (gr S a0 1) ((a1 * (6 : Int32)) + a2).toNatClampNeg) - (gi dy (gr S a0 1) (((a1 + (1 : Int32)) * (6 : Int32)) + a3).toNatClampNeg)) else 0 - ((gi dy (gr S a0 1) ((a1 * (6 : Int32)) + a2).toNatClampNeg) - (gi dy (gr S a0 1) (((a1 + (1 : Int32)) * (6 : Int32)) + a3).toNatClampNeg))) + (if 0 ≤ ((gi dy (gr S a0 2) ((a1 * (6 : Int32)) + a2).toNatClampNeg) - (gi dy (gr S a0 2) (((a1 + (1 : Int32)) * (6 : Int32)) + a3).toNatClampNeg)) then ((gi dy (gr S a0 2) ((a1 * (6 : Int32)) + a2).toNatClampNeg) - (gi dy (gr S a0 2) (((a1 + (1 : Int32)) * (6 : Int32)) + a3).toNatClampNeg)) else 0 - ((gi dy (gr S a0 2) ((a1 * (6 : Int32)) + a2).toNatClampNeg) - (gi dy (gr S a0 2) (((a1 + (1 : Int32)) * (6 : Int32)) + a3).toNatClampNeg))))), (6, .int (((a1 + (1 : Int32)) * (6 : Int32)) + a3)), (5, .int ((a1 * (6 : Int32)) + a2)), (0, .ref (ad a0)), (1, .int a1), (2, .int a2), (3, .int a3), (4, .int a4)]) C dX1_coupled_55 (by decide) rfl ?_
  refine ww_iload C dX1_coupled_57 0 rfl ?_
  refine ww_aload_n C dX1_coupled_59 rfl 3 rfl ?_
  have T_5 : gs S (gr S a0 4) = (1, 448) := hG.1 _ 1 T0 4 (by decide)
  refine ww_getr (ci := 1) (k0 := 4) C dX1_coupled_60 rfl rfl inm1 (by decide) T0 q355 rfl T_5 (by decide) ?_
  refine ww_iload_n C dX1_coupled_63 rfl 5 rfl ?_
  refine ww_iconst (v := 1) C dX1_coupled_64 (by decide) ?_
  refine ww_iadd C dX1_coupled_65 ?_
  refine ww_bipush (v := 64) C dX1_coupled_66 (by decide) ?_
  refine ww_imul C dX1_coupled_68 ?_
  refine ww_iload C dX1_coupled_69 7 rfl ?_
  refine ww_iconst (v := 1) C dX1_coupled_71 (by decide) ?_
  refine ww_iload_n C dX1_coupled_72 rfl 6 rfl ?_
  refine ww_ishl C dX1_coupled_73 ?_
  refine ww_ior C dX1_coupled_74 ?_
  refine ww_iadd C dX1_coupled_75 ?_
  refine ww_iald C dX1_coupled_76 T_5 E (fun _ E => ?_)
  refine ww_iadd C dX1_coupled_77 ?_
  exact ww_iret C HR HL dX1_coupled_78 E
section P_X1_has
variable {p : Program} {l : Launch} {e : Env} {s : State} {m : MethodId} {args : Array Value} {below : List Frame} {meth : Method} {c : Code} {G : GG} {A : Nat → Prop} {ad : Nat → Nat} {S : ST} {N : Nat} {r : Int32} {dy' : DY}
end P_X1_has
set_option maxHeartbeats 4000000 in
set_option maxRecDepth 100000 in
theorem M_X1_has (l : Launch) (G : GG) (ad : Nat → Nat) {S : ST} (N : Nat) (hG : Good S) (a0 : Nat) (a1 : Int32) (a2 : Int32) (dy : DY) (T0 : gs S a0 = (0, 1)) {r : Int32} {dy' : DY} (E : F_X1_has S N a0 a1 a2 dy = some (r, dy')) : MC l yX1_has cX1_has 3 (Option.some Jvm.ClassFile.FieldType.boolean) (1) G ad [.ref (ad a0), .int a1, .int a2] S dy (fun A => QI G ad A S r dy') := by
  rw [F_X1_has_s] at E
  refine mc_of RX1 (by decide) rfl (Nat.le_of_ble_eq_true rfl) (fun p e s m args below meth c A C HR HL => ?_)
  refine ww_sub (lv' := [(0, .ref (ad a0)), (1, .int a1), (2, .int a2)]) [0, 1, 2] rfl ?_
  refine ww_iload_n C dX1_has_0 rfl 1 rfl ?_
  refine ww_if_lt (tgt := 28) C dX1_has_1 (by decide) E (fun _ E => ?_) (fun _ E => ?_)
  · refine ww_iconst (v := 0) C dX1_has_28 (by decide) ?_
    exact ww_zret C HR HL dX1_has_29 (Or.inl rfl) E
  · refine ww_iload_n C dX1_has_4 rfl 1 rfl ?_
    refine ww_bipush (v := 8) C dX1_has_5 (by decide) ?_
    refine ww_icmp_ge (tgt := 28) C dX1_has_7 (by decide) E (fun _ E => ?_) (fun _ E => ?_)
    · refine ww_iconst (v := 0) C dX1_has_28 (by decide) ?_
      exact ww_zret C HR HL dX1_has_29 (Or.inl rfl) E
    · refine ww_iload_n C dX1_has_10 rfl 2 rfl ?_
      refine ww_if_lt (tgt := 28) C dX1_has_11 (by decide) E (fun _ E => ?_) (fun _ E => ?_)
      · refine ww_iconst (v := 0) C dX1_has_28 (by decide) ?_
        exact ww_zret C HR HL dX1_has_29 (Or.inl rfl) E
      · refine ww_iload_n C dX1_has_14 rfl 2 rfl ?_
        refine ww_aload_n C dX1_has_15 rfl 0 rfl ?_
        have T_1 : gs S (gr S a0 0) = (1, 8) := hG.1 _ 1 T0 0 (by decide)
        refine ww_getr (ci := 1) (k0 := 0) C dX1_has_16 rfl rfl inm1 (by decide) T0 q347 rfl T_1 (by decide) ?_
        refine ww_iload_n C dX1_has_19 rfl 1 rfl ?_
        refine ww_iald C dX1_has_20 T_1 E (fun _ E => ?_)
        refine ww_icmp_ge (tgt := 28) C dX1_has_21 (by decide) E (fun _ E => ?_) (fun _ E => ?_)
        · refine ww_iconst (v := 0) C dX1_has_28 (by decide) ?_
          exact ww_zret C HR HL dX1_has_29 (Or.inl rfl) E
        · refine ww_iconst (v := 1) C dX1_has_24 (by decide) ?_
          refine ww_goto (tgt := 29) C dX1_has_25 (by decide) ?_
          exact ww_zret C HR HL dX1_has_29 (Or.inr rfl) E
section P_X1_hasHat
variable {p : Program} {l : Launch} {e : Env} {s : State} {m : MethodId} {args : Array Value} {below : List Frame} {meth : Method} {c : Code} {G : GG} {A : Nat → Prop} {ad : Nat → Nat} {S : ST} {N : Nat} {r : Int32} {dy' : DY}
set_option maxHeartbeats 4000000 in
set_option maxRecDepth 100000 in
theorem B_X1_hasHat_3 (C : CX p s m args c cX1_hasHat 5 RX1 G A) (HR : meth.sig.returnType = (Option.some Jvm.ClassFile.FieldType.boolean)) (HL : meth.locks = false) (hG : Good S) : ∀ k : Nat, ∀ (x0 : Nat) (x1 : Int32) (x2 : Int32) (x3 : Int32) (x4 : Int32) (dy : DY), gs S x0 = (0, 1) → (F_X1_hasHat_3 S N k) x0 x1 x2 x3 x4 dy = some (r, dy') → WJ p l e (rmD (2)) s m args below meth c 5 G A 0 0 (MQ below (QI G ad A S r dy') args s 0 0 A) ad 3 [(0, .ref (ad x0)), (1, .int x1), (2, .int x2), (3, .int x3), (4, .int x4)] [] S dy := by
  intro k
  induction k with
  | zero => exact fun _ _ _ _ _ _ _ E => nomatch (show none = some (r, dy') from E)
  | succ k ih =>
    intro x0 x1 x2 x3 x4 dy Tx0 E
    rw [F_X1_hasHat_3_s] at E
    refine ww_iload C dX1_hasHat_3 4 rfl ?_
    refine ww_bipush (v := 6) C dX1_hasHat_5 (by decide) ?_
    refine ww_icmp_ge (tgt := 60) C dX1_hasHat_7 (by decide) E (fun _ E => ?_) (fun _ E => ?_)
    · refine ww_iconst (v := 0) C dX1_hasHat_60 (by decide) ?_
      exact ww_zret C HR HL dX1_hasHat_61 (Or.inl rfl) E
    · refine ww_aload_n C dX1_hasHat_10 rfl 0 rfl ?_
      refine ww_iload_n C dX1_hasHat_11 rfl 1 rfl ?_
      refine ww_iload C dX1_hasHat_12 4 rfl ?_
      obtain ⟨u1, e_2, E⟩ := bind_of E
      refine ww_callI C (runs_V (n := 2) (st := []) C [.int x1, .int x4] (M_X1_has l G ad N hG x0 x1 x4 dy Tx0 e_2) ⟨q1183, q113, by decide⟩ q1180 q1181 q1182 (ci := 1) rfl Tx0 rfl (Nat.le_of_ble_eq_true rfl) ⟨Nat.le_of_ble_eq_true rfl, Nat.le_of_ble_eq_true rfl⟩ ⟨Nat.zero_le _, Nat.zero_le _⟩ dX1_hasHat_14 rfl) ?_
      refine ww_if_eq (tgt := 60) C dX1_hasHat_17 (by decide) E (fun _ E => ?_) (fun _ E => ?_)
      · refine ww_iconst (v := 0) C dX1_hasHat_60 (by decide) ?_
        exact ww_zret C HR HL dX1_hasHat_61 (Or.inl rfl) E
      · refine ww_aload_n C dX1_hasHat_20 rfl 0 rfl ?_
        have T_3 : gs S (gr S x0 1) = (1, 48) := hG.1 _ 1 Tx0 1 (by decide)
        refine ww_getr (ci := 1) (k0 := 1) C dX1_hasHat_21 rfl rfl inm1 (by decide) Tx0 q349 rfl T_3 (by decide) ?_
        refine ww_iload_n C dX1_hasHat_24 rfl 1 rfl ?_
        refine ww_bipush (v := 6) C dX1_hasHat_25 (by decide) ?_
        refine ww_imul C dX1_hasHat_27 ?_
        refine ww_iload C dX1_hasHat_28 4 rfl ?_
        refine ww_iadd C dX1_hasHat_30 ?_
        refine ww_iald C dX1_hasHat_31 T_3 E (fun _ E => ?_)
        refine ww_iload_n C dX1_hasHat_32 rfl 2 rfl ?_
        refine ww_icmp_ne (tgt := 54) C dX1_hasHat_33 (by decide) E (fun _ E => ?_) (fun _ E => ?_)
        · refine ww_iinc (v := (x4 + (1 : Int32))) (lv' := [(4, .int (x4 + (1 : Int32))), (0, .ref (ad x0)), (1, .int x1), (2, .int x2), (3, .int x3)]) C dX1_hasHat_54 4 rfl rfl (by decide) rfl ?_
          refine ww_goto (tgt := 3) C dX1_hasHat_57 (by decide) ?_
          refine ww_sub (lv' := [(0, .ref (ad x0)), (1, .int x1), (2, .int x2), (3, .int x3), (4, .int (x4 + (1 : Int32)))]) [1, 2, 3, 4, 0] rfl ?_
          exact ih x0 x1 x2 x3 (x4 + (1 : Int32)) u1.2 Tx0 E
        · refine ww_aload_n C dX1_hasHat_36 rfl 0 rfl ?_
          have T_4 : gs S (gr S x0 2) = (1, 48) := hG.1 _ 1 Tx0 2 (by decide)
          refine ww_getr (ci := 1) (k0 := 2) C dX1_hasHat_37 rfl rfl inm1 (by decide) Tx0 q351 rfl T_4 (by decide) ?_
          refine ww_iload_n C dX1_hasHat_40 rfl 1 rfl ?_
          refine ww_bipush (v := 6) C dX1_hasHat_41 (by decide) ?_
          refine ww_imul C dX1_hasHat_43 ?_
          refine ww_iload C dX1_hasHat_44 4 rfl ?_
          refine ww_iadd C dX1_hasHat_46 ?_
          refine ww_iald C dX1_hasHat_47 T_4 E (fun _ E => ?_)
          refine ww_iload_n C dX1_hasHat_48 rfl 3 rfl ?_
          refine ww_icmp_ne (tgt := 54) C dX1_hasHat_49 (by decide) E (fun _ E => ?_) (fun _ E => ?_)
          · refine ww_iinc (v := (x4 + (1 : Int32))) (lv' := [(4, .int (x4 + (1 : Int32))), (0, .ref (ad x0)), (1, .int x1), (2, .int x2), (3, .int x3)]) C dX1_hasHat_54 4 rfl rfl (by decide) rfl ?_
            refine ww_goto (tgt := 3) C dX1_hasHat_57 (by decide) ?_
            refine ww_sub (lv' := [(0, .ref (ad x0)), (1, .int x1), (2, .int x2), (3, .int x3), (4, .int (x4 + (1 : Int32)))]) [1, 2, 3, 4, 0] rfl ?_
            exact ih x0 x1 x2 x3 (x4 + (1 : Int32)) u1.2 Tx0 E
          · refine ww_iconst (v := 1) C dX1_hasHat_52 (by decide) ?_
            exact ww_zret C HR HL dX1_hasHat_53 (Or.inr rfl) E
end P_X1_hasHat
set_option maxHeartbeats 4000000 in
set_option maxRecDepth 100000 in
theorem M_X1_hasHat (l : Launch) (G : GG) (ad : Nat → Nat) {S : ST} (N : Nat) (hG : Good S) (a0 : Nat) (a1 : Int32) (a2 : Int32) (a3 : Int32) (dy : DY) (T0 : gs S a0 = (0, 1)) {r : Int32} {dy' : DY} (E : F_X1_hasHat S N a0 a1 a2 a3 dy = some (r, dy')) : MC l yX1_hasHat cX1_hasHat 5 (Option.some Jvm.ClassFile.FieldType.boolean) (2) G ad [.ref (ad a0), .int a1, .int a2, .int a3] S dy (fun A => QI G ad A S r dy') := by
  rw [F_X1_hasHat_s] at E
  refine mc_of RX1 (by decide) rfl (Nat.le_of_ble_eq_true rfl) (fun p e s m args below meth c A C HR HL => ?_)
  refine ww_sub (lv' := [(0, .ref (ad a0)), (1, .int a1), (2, .int a2), (3, .int a3)]) [0, 1, 2, 3] rfl ?_
  refine ww_iconst (v := 0) C dX1_hasHat_0 (by decide) ?_
  refine ww_istore (lv' := [(4, .int (0 : Int32)), (0, .ref (ad a0)), (1, .int a1), (2, .int a2), (3, .int a3)]) C dX1_hasHat_1 (by decide) rfl ?_
  refine ww_sub (lv' := [(0, .ref (ad a0)), (1, .int a1), (2, .int a2), (3, .int a3), (4, .int (0 : Int32))]) [1, 2, 3, 4, 0] rfl ?_
  exact (B_X1_hasHat_3 C HR HL hG N) a0 a1 a2 a3 (0 : Int32) dy T0 E
section P_X1_leastFrom
variable {p : Program} {l : Launch} {e : Env} {s : State} {m : MethodId} {args : Array Value} {below : List Frame} {meth : Method} {c : Code} {G : GG} {A : Nat → Prop} {ad : Nat → Nat} {S : ST} {N : Nat} {r : Int32} {dy' : DY}
set_option maxHeartbeats 4000000 in
set_option maxRecDepth 100000 in
theorem B_X1_leastFrom_21 (C : CX p s m args c cX1_leastFrom 7 RX1 G A) (HR : meth.sig.returnType = (Option.some Jvm.ClassFile.FieldType.int)) (HL : meth.locks = false) (hG : Good S) : ∀ k : Nat, ∀ (x0 : Nat) (x1 : Int32) (x2 : Int32) (x3 : Int32) (x5 : Int32) (x6 : Int32) (dy : DY), gs S x0 = (0, 1) → (F_X1_leastFrom_21 S N k) x0 x1 x2 x3 x5 x6 dy = some (r, dy') → WJ p l e (rmD (2)) s m args below meth c 7 G A 0 0 (MQ below (QI G ad A S r dy') args s 0 0 A) ad 21 [(0, .ref (ad x0)), (1, .int x1), (2, .int x2), (3, .int x3), (5, .int x5), (6, .int x6)] [] S dy := by
  intro k
  induction k with
  | zero => exact fun _ _ _ _ _ _ _ _ E => nomatch (show none = some (r, dy') from E)
  | succ k ih =>
    intro x0 x1 x2 x3 x5 x6 dy Tx0 E
    rw [F_X1_leastFrom_21_s] at E
    refine ww_iload C dX1_leastFrom_21 5 rfl ?_
    refine ww_aload_n C dX1_leastFrom_23 rfl 0 rfl ?_
    have T_1 : gs S (gr S x0 0) = (1, 8) := hG.1 _ 1 Tx0 0 (by decide)
    refine ww_getr (ci := 1) (k0 := 0) C dX1_leastFrom_24 rfl rfl inm1 (by decide) Tx0 q347 rfl T_1 (by decide) ?_
    refine ww_iload_n C dX1_leastFrom_27 rfl 1 rfl ?_
    refine ww_iconst (v := 1) C dX1_leastFrom_28 (by decide) ?_
    refine ww_iadd C dX1_leastFrom_29 ?_
    refine ww_iald C dX1_leastFrom_30 T_1 E (fun _ E => ?_)
    refine ww_icmp_ge (tgt := 65) C dX1_leastFrom_31 (by decide) E (fun _ E => ?_) (fun _ E => ?_)
    · refine ww_iload C dX1_leastFrom_65 4 rfl ?_
      exact ww_iret C HR HL dX1_leastFrom_67 E
    · refine ww_iload_n C dX1_leastFrom_34 rfl 3 rfl ?_
      refine ww_iload C dX1_leastFrom_35 5 rfl ?_
      refine ww_ishr C dX1_leastFrom_37 ?_
      refine ww_iconst (v := 1) C dX1_leastFrom_38 (by decide) ?_
      refine ww_iand C dX1_leastFrom_39 ?_
      refine ww_if_ne (tgt := 59) C dX1_leastFrom_40 (by decide) E (fun _ E => ?_) (fun _ E => ?_)
      · refine ww_iinc (v := (x6 + (1 : Int32))) (lv' := [(6, .int (x6 + (1 : Int32))), (0, .ref (ad x0)), (1, .int x1), (2, .int x2), (3, .int x3), (5, .int x5)]) C dX1_leastFrom_59 5 rfl rfl (by decide) rfl ?_
        refine ww_goto (tgt := 21) C dX1_leastFrom_62 (by decide) ?_
        refine ww_sub (lv' := [(0, .ref (ad x0)), (1, .int x1), (2, .int x2), (3, .int x3), (5, .int x5), (6, .int (x6 + (1 : Int32)))]) [1, 2, 3, 4, 5, 0] rfl ?_
        exact ih x0 x1 x2 x3 x5 (x6 + (1 : Int32)) dy Tx0 E
      · refine ww_iload C dX1_leastFrom_43 4 rfl ?_
        refine ww_aload_n C dX1_leastFrom_45 rfl 0 rfl ?_
        refine ww_iload_n C dX1_leastFrom_46 rfl 1 rfl ?_
        refine ww_iload_n C dX1_leastFrom_47 rfl 2 rfl ?_
        refine ww_iload C dX1_leastFrom_48 5 rfl ?_
        refine ww_iload_n C dX1_leastFrom_50 rfl 3 rfl ?_
        obtain ⟨u2, e_3, E⟩ := bind_of E
        refine ww_callI C (runs_V (n := 4) (st := [.int x5]) C [.int x1, .int x2, .int x6, .int x3] (M_X1_coupled l G ad N hG x0 x1 x2 x6 x3 dy Tx0 e_3) ⟨q1224, q113, by decide⟩ q1221 q1223 q37 (ci := 1) rfl Tx0 rfl (Nat.le_of_ble_eq_true rfl) ⟨Nat.le_of_ble_eq_true rfl, Nat.le_of_ble_eq_true rfl⟩ ⟨Nat.zero_le _, Nat.zero_le _⟩ dX1_leastFrom_51 rfl) ?_
        refine ww_mmin C dX1_leastFrom_54 q1226 q587 q119 q588 (Nat.le_of_ble_eq_true rfl) (Nat.le_of_ble_eq_true rfl) (Nat.le_of_ble_eq_true rfl) (Nat.zero_le _) (Nat.zero_le _) ?_
        refine ww_istore (lv' := [(5, .int (if u2.1 < x5 then u2.1 else x5)), (0, .ref (ad x0)), (1, .int x1), (2, .int x2), (3, .int x3), (6, .int x6)]) C dX1_leastFrom_57 (by decide) rfl ?_
        refine ww_iinc (v := (x6 + (1 : Int32))) (lv' := [(6, .int (x6 + (1 : Int32))), (5, .int (if u2.1 < x5 then u2.1 else x5)), (0, .ref (ad x0)), (1, .int x1), (2, .int x2), (3, .int x3)]) C dX1_leastFrom_59 5 rfl rfl (by decide) rfl ?_
        refine ww_goto (tgt := 21) C dX1_leastFrom_62 (by decide) ?_
        refine ww_sub (lv' := [(0, .ref (ad x0)), (1, .int x1), (2, .int x2), (3, .int x3), (5, .int (if u2.1 < x5 then u2.1 else x5)), (6, .int (x6 + (1 : Int32)))]) [2, 3, 4, 5, 1, 0] rfl ?_
        exact ih x0 x1 x2 x3 (if u2.1 < x5 then u2.1 else x5) (x6 + (1 : Int32)) u2.2 Tx0 E
end P_X1_leastFrom
set_option maxHeartbeats 4000000 in
set_option maxRecDepth 100000 in
theorem M_X1_leastFrom (l : Launch) (G : GG) (ad : Nat → Nat) {S : ST} (N : Nat) (hG : Good S) (a0 : Nat) (a1 : Int32) (a2 : Int32) (a3 : Int32) (a4 : Int32) (dy : DY) (T0 : gs S a0 = (0, 1)) {r : Int32} {dy' : DY} (E : F_X1_leastFrom S N a0 a1 a2 a3 a4 dy = some (r, dy')) : MC l yX1_leastFrom cX1_leastFrom 7 (Option.some Jvm.ClassFile.FieldType.int) (2) G ad [.ref (ad a0), .int a1, .int a2, .int a3, .int a4] S dy (fun A => QI G ad A S r dy') := by
  rw [F_X1_leastFrom_s] at E
  refine mc_of RX1 (by decide) rfl (Nat.le_of_ble_eq_true rfl) (fun p e s m args below meth c A C HR HL => ?_)
  refine ww_sub (lv' := [(0, .ref (ad a0)), (1, .int a1), (2, .int a2), (3, .int a3), (4, .int a4)]) [0, 1, 2, 3, 4] rfl ?_
  refine ww_iload C dX1_leastFrom_0 4 rfl ?_
  refine ww_aload_n C dX1_leastFrom_2 rfl 0 rfl ?_
  have T_1 : gs S (gr S a0 4) = (1, 448) := hG.1 _ 1 T0 4 (by decide)
  refine ww_getr (ci := 1) (k0 := 4) C dX1_leastFrom_3 rfl rfl inm1 (by decide) T0 q355 rfl T_1 (by decide) ?_
  refine ww_iload_n C dX1_leastFrom_6 rfl 2 rfl ?_
  refine ww_iconst (v := 1) C dX1_leastFrom_7 (by decide) ?_
  refine ww_iadd C dX1_leastFrom_8 ?_
  refine ww_bipush (v := 64) C dX1_leastFrom_9 (by decide) ?_
  refine ww_imul C dX1_leastFrom_11 ?_
  refine ww_iload_n C dX1_leastFrom_12 rfl 3 rfl ?_
  refine ww_iadd C dX1_leastFrom_13 ?_
  refine ww_iald C dX1_leastFrom_14 T_1 E (fun _ E => ?_)
  refine ww_iadd C dX1_leastFrom_15 ?_
  refine ww_istore (lv' := [(5, .int (a4 + (gi dy (gr S a0 4) (((a2 + (1 : Int32)) * (64 : Int32)) + a3).toNatClampNeg))), (0, .ref (ad a0)), (1, .int a1), (2, .int a2), (3, .int a3), (4, .int a4)]) C dX1_leastFrom_16 (by decide) rfl ?_
  refine ww_iconst (v := 0) C dX1_leastFrom_18 (by decide) ?_
  refine ww_istore (lv' := [(6, .int (0 : Int32)), (5, .int (a4 + (gi dy (gr S a0 4) (((a2 + (1 : Int32)) * (64 : Int32)) + a3).toNatClampNeg))), (0, .ref (ad a0)), (1, .int a1), (2, .int a2), (3, .int a3), (4, .int a4)]) C dX1_leastFrom_19 (by decide) rfl ?_
  refine ww_sub (lv' := [(0, .ref (ad a0)), (1, .int a1), (2, .int a2), (3, .int a3), (5, .int (a4 + (gi dy (gr S a0 4) (((a2 + (1 : Int32)) * (64 : Int32)) + a3).toNatClampNeg))), (6, .int (0 : Int32))]) [2, 3, 4, 5, 1, 0] rfl ?_
  exact (B_X1_leastFrom_21 C HR HL hG N) a0 a1 a2 a3 (a4 + (gi dy (gr S a0 4) (((a2 + (1 : Int32)) * (64 : Int32)) + a3).toNatClampNeg)) (0 : Int32) dy T0 E
section P_X1_leastPartner
variable {p : Program} {l : Launch} {e : Env} {s : State} {m : MethodId} {args : Array Value} {below : List Frame} {meth : Method} {c : Code} {G : GG} {A : Nat → Prop} {ad : Nat → Nat} {S : ST} {N : Nat} {r : Int32} {dy' : DY}
set_option maxHeartbeats 4000000 in
set_option maxRecDepth 100000 in
theorem B_X1_leastPartner_30 (C : CX p s m args c cX1_leastPartner 6 RX1 G A) (HR : meth.sig.returnType = (Option.some Jvm.ClassFile.FieldType.int)) (HL : meth.locks = false) (hG : Good S) {K3 : Nat → Int32 → Int32 → Int32 → Int32 → DY → Option (Int32 × DY)} (hK3 : ∀ (x0 : Nat) (x1 : Int32) (x2 : Int32) (x3 : Int32) (x4 : Int32) (dy : DY), gs S x0 = (0, 1) → K3 x0 x1 x2 x3 x4 dy = some (r, dy') → WJ p l e (rmD (2)) s m args below meth c 6 G A 0 0 (MQ below (QI G ad A S r dy') args s 0 0 A) ad 3 [(0, .ref (ad x0)), (1, .int x1), (2, .int x2), (3, .int x3), (4, .int x4)] [] S dy) : ∀ (x0 : Nat) (x1 : Int32) (x2 : Int32) (x3 : Int32) (x4 : Int32) (y0 : Int32) (dy : DY), gs S x0 = (0, 1) → F_X1_leastPartner_30 S N K3 x0 x1 x2 x3 x4 y0 dy = some (r, dy') → WJ p l e (rmD (2)) s m args below meth c 6 G A 0 0 (MQ below (QI G ad A S r dy') args s 0 0 A) ad 30 [(0, .ref (ad x0)), (1, .int x1), (2, .int x2), (3, .int x3), (4, .int x4)] [.int y0] S dy := by
  intro x0 x1 x2 x3 x4 y0 dy Tx0 E
  rw [F_X1_leastPartner_30_s] at E
  refine ww_istore (lv' := [(5, .int y0), (0, .ref (ad x0)), (1, .int x1), (2, .int x2), (3, .int x3), (4, .int x4)]) C dX1_leastPartner_30 (by decide) rfl ?_
  refine ww_iload C dX1_leastPartner_32 0 rfl ?_
  refine ww_if_eq (tgt := 63) C dX1_leastPartner_34 (by decide) E (fun _ E => ?_) (fun _ E => ?_)
  · refine ww_iinc (v := (x4 + (1 : Int32))) (lv' := [(4, .int (x4 + (1 : Int32))), (5, .int y0), (0, .ref (ad x0)), (1, .int x1), (2, .int x2), (3, .int x3)]) C dX1_leastPartner_63 5 rfl rfl (by decide) rfl ?_
    refine ww_goto (tgt := 3) C dX1_leastPartner_66 (by decide) ?_
    refine ww_sub (lv' := [(0, .ref (ad x0)), (1, .int x1), (2, .int x2), (3, .int x3), (4, .int (x4 + (1 : Int32)))]) [2, 3, 4, 5, 0] rfl ?_
    exact hK3 x0 x1 x2 x3 (x4 + (1 : Int32)) dy Tx0 E
  · refine ww_aload_n C dX1_leastPartner_37 rfl 1 rfl ?_
    refine ww_iload_n C dX1_leastPartner_38 rfl 2 rfl ?_
    refine ww_iload_n C dX1_leastPartner_39 rfl 3 rfl ?_
    refine ww_iload C dX1_leastPartner_40 5 rfl ?_
    refine ww_iload_n C dX1_leastPartner_42 rfl 4 rfl ?_
    obtain ⟨u1, e_2, E⟩ := bind_of E
    refine ww_callI C (runs_V (n := 4) (st := []) C [.int x1, .int x2, .int x4, .int x3] (M_X1_coupled l G ad N hG x0 x1 x2 x4 x3 dy Tx0 e_2) ⟨q1224, q113, by decide⟩ q1221 q1223 q37 (ci := 1) rfl Tx0 rfl (Nat.le_of_ble_eq_true rfl) ⟨Nat.le_of_ble_eq_true rfl, Nat.le_of_ble_eq_true rfl⟩ ⟨Nat.zero_le _, Nat.zero_le _⟩ dX1_leastPartner_43 rfl) ?_
    refine ww_aload_n C dX1_leastPartner_46 rfl 1 rfl ?_
    have T_3 : gs S (gr S x0 4) = (1, 448) := hG.1 _ 1 Tx0 4 (by decide)
    refine ww_getr (ci := 1) (k0 := 4) C dX1_leastPartner_47 rfl rfl inm1 (by decide) Tx0 q355 rfl T_3 (by decide) ?_
    refine ww_iload_n C dX1_leastPartner_50 rfl 3 rfl ?_
    refine ww_bipush (v := 64) C dX1_leastPartner_51 (by decide) ?_
    refine ww_imul C dX1_leastPartner_53 ?_
    refine ww_iload_n C dX1_leastPartner_54 rfl 4 rfl ?_
    refine ww_iadd C dX1_leastPartner_55 ?_
    refine ww_iald C dX1_leastPartner_56 T_3 E (fun _ E => ?_)
    refine ww_icmp_ne (tgt := 63) C dX1_leastPartner_57 (by decide) E (fun _ E => ?_) (fun _ E => ?_)
    · refine ww_iinc (v := (x4 + (1 : Int32))) (lv' := [(4, .int (x4 + (1 : Int32))), (5, .int y0), (0, .ref (ad x0)), (1, .int x1), (2, .int x2), (3, .int x3)]) C dX1_leastPartner_63 5 rfl rfl (by decide) rfl ?_
      refine ww_goto (tgt := 3) C dX1_leastPartner_66 (by decide) ?_
      refine ww_sub (lv' := [(0, .ref (ad x0)), (1, .int x1), (2, .int x2), (3, .int x3), (4, .int (x4 + (1 : Int32)))]) [2, 3, 4, 5, 0] rfl ?_
      exact hK3 x0 x1 x2 x3 (x4 + (1 : Int32)) u1.2 Tx0 E
    · refine ww_iload C dX1_leastPartner_60 5 rfl ?_
      exact ww_iret C HR HL dX1_leastPartner_62 E
set_option maxHeartbeats 4000000 in
set_option maxRecDepth 100000 in
theorem B_X1_leastPartner_3 (C : CX p s m args c cX1_leastPartner 6 RX1 G A) (HR : meth.sig.returnType = (Option.some Jvm.ClassFile.FieldType.int)) (HL : meth.locks = false) (hG : Good S) : ∀ k : Nat, ∀ (x0 : Nat) (x1 : Int32) (x2 : Int32) (x3 : Int32) (x4 : Int32) (dy : DY), gs S x0 = (0, 1) → (F_X1_leastPartner_3 S N k) x0 x1 x2 x3 x4 dy = some (r, dy') → WJ p l e (rmD (2)) s m args below meth c 6 G A 0 0 (MQ below (QI G ad A S r dy') args s 0 0 A) ad 3 [(0, .ref (ad x0)), (1, .int x1), (2, .int x2), (3, .int x3), (4, .int x4)] [] S dy := by
  intro k
  induction k with
  | zero => exact fun _ _ _ _ _ _ _ E => nomatch (show none = some (r, dy') from E)
  | succ k ih =>
    intro x0 x1 x2 x3 x4 dy Tx0 E
    rw [F_X1_leastPartner_3_s] at E
    refine ww_iload C dX1_leastPartner_3 4 rfl ?_
    refine ww_aload_n C dX1_leastPartner_5 rfl 0 rfl ?_
    have T_1 : gs S (gr S x0 0) = (1, 8) := hG.1 _ 1 Tx0 0 (by decide)
    refine ww_getr (ci := 1) (k0 := 0) C dX1_leastPartner_6 rfl rfl inm1 (by decide) Tx0 q347 rfl T_1 (by decide) ?_
    refine ww_iload_n C dX1_leastPartner_9 rfl 1 rfl ?_
    refine ww_iconst (v := 1) C dX1_leastPartner_10 (by decide) ?_
    refine ww_iadd C dX1_leastPartner_11 ?_
    refine ww_iald C dX1_leastPartner_12 T_1 E (fun _ E => ?_)
    refine ww_icmp_ge (tgt := 69) C dX1_leastPartner_13 (by decide) E (fun _ E => ?_) (fun _ E => ?_)
    · refine ww_iconst (v := (-1)) C dX1_leastPartner_69 (by decide) ?_
      exact ww_iret C HR HL dX1_leastPartner_70 E
    · refine ww_iload_n C dX1_leastPartner_16 rfl 3 rfl ?_
      refine ww_iload C dX1_leastPartner_17 4 rfl ?_
      refine ww_ishr C dX1_leastPartner_19 ?_
      refine ww_iconst (v := 1) C dX1_leastPartner_20 (by decide) ?_
      refine ww_iand C dX1_leastPartner_21 ?_
      refine ww_if_ne (tgt := 29) C dX1_leastPartner_22 (by decide) E (fun _ E => ?_) (fun _ E => ?_)
      · refine ww_iconst (v := 0) C dX1_leastPartner_29 (by decide) ?_
        refine ww_sub (lv' := [(0, .ref (ad x0)), (1, .int x1), (2, .int x2), (3, .int x3), (4, .int x4)]) [0, 1, 2, 3, 4] rfl ?_
        exact (B_X1_leastPartner_30 C HR HL hG ih) x0 x1 x2 x3 x4 (0 : Int32) dy Tx0 E
      · refine ww_iconst (v := 1) C dX1_leastPartner_25 (by decide) ?_
        refine ww_goto (tgt := 30) C dX1_leastPartner_26 (by decide) ?_
        refine ww_sub (lv' := [(0, .ref (ad x0)), (1, .int x1), (2, .int x2), (3, .int x3), (4, .int x4)]) [0, 1, 2, 3, 4] rfl ?_
        exact (B_X1_leastPartner_30 C HR HL hG ih) x0 x1 x2 x3 x4 (1 : Int32) dy Tx0 E
end P_X1_leastPartner
set_option maxHeartbeats 4000000 in
set_option maxRecDepth 100000 in
theorem M_X1_leastPartner (l : Launch) (G : GG) (ad : Nat → Nat) {S : ST} (N : Nat) (hG : Good S) (a0 : Nat) (a1 : Int32) (a2 : Int32) (a3 : Int32) (dy : DY) (T0 : gs S a0 = (0, 1)) {r : Int32} {dy' : DY} (E : F_X1_leastPartner S N a0 a1 a2 a3 dy = some (r, dy')) : MC l yX1_leastPartner cX1_leastPartner 6 (Option.some Jvm.ClassFile.FieldType.int) (2) G ad [.ref (ad a0), .int a1, .int a2, .int a3] S dy (fun A => QI G ad A S r dy') := by
  rw [F_X1_leastPartner_s] at E
  refine mc_of RX1 (by decide) rfl (Nat.le_of_ble_eq_true rfl) (fun p e s m args below meth c A C HR HL => ?_)
  refine ww_sub (lv' := [(0, .ref (ad a0)), (1, .int a1), (2, .int a2), (3, .int a3)]) [0, 1, 2, 3] rfl ?_
  refine ww_iconst (v := 0) C dX1_leastPartner_0 (by decide) ?_
  refine ww_istore (lv' := [(4, .int (0 : Int32)), (0, .ref (ad a0)), (1, .int a1), (2, .int a2), (3, .int a3)]) C dX1_leastPartner_1 (by decide) rfl ?_
  refine ww_sub (lv' := [(0, .ref (ad a0)), (1, .int a1), (2, .int a2), (3, .int a3), (4, .int (0 : Int32))]) [1, 2, 3, 4, 0] rfl ?_
  exact (B_X1_leastPartner_3 C HR HL hG N) a0 a1 a2 a3 (0 : Int32) dy T0 E
section P_X1_pair
variable {p : Program} {l : Launch} {e : Env} {s : State} {m : MethodId} {args : Array Value} {below : List Frame} {meth : Method} {c : Code} {G : GG} {A : Nat → Prop} {ad : Nat → Nat} {S : ST} {N : Nat} {r : Int32} {dy' : DY}
set_option maxHeartbeats 4000000 in
set_option maxRecDepth 100000 in
theorem B_X1_pair_82 (C : CX p s m args c cX1_pair 6 RX1 G A) (HR : meth.sig.returnType = (Option.some Jvm.ClassFile.FieldType.int)) (HL : meth.locks = false) (hG : Good S) {K74 : Nat → Int32 → Int32 → Int32 → Int32 → DY → Option (Int32 × DY)} (hK74 : ∀ (x0 : Nat) (x1 : Int32) (x2 : Int32) (x3 : Int32) (x4 : Int32) (dy : DY), gs S x0 = (0, 1) → K74 x0 x1 x2 x3 x4 dy = some (r, dy') → WJ p l e (rmD (3)) s m args below meth c 6 G A 0 0 (MQ below (QI G ad A S r dy') args s 0 0 A) ad 74 [(0, .ref (ad x0)), (1, .int x1), (2, .int x2), (3, .int x3), (4, .int x4)] [] S dy) : ∀ k : Nat, ∀ (x0 : Nat) (x1 : Int32) (x2 : Int32) (x3 : Int32) (x4 : Int32) (x5 : Int32) (dy : DY), gs S x0 = (0, 1) → (F_X1_pair_82 S N K74 k) x0 x1 x2 x3 x4 x5 dy = some (r, dy') → WJ p l e (rmD (3)) s m args below meth c 6 G A 0 0 (MQ below (QI G ad A S r dy') args s 0 0 A) ad 82 [(0, .ref (ad x0)), (1, .int x1), (2, .int x2), (3, .int x3), (4, .int x4), (5, .int x5)] [] S dy := by
  intro k
  induction k with
  | zero => exact fun _ _ _ _ _ _ _ _ E => nomatch (show none = some (r, dy') from E)
  | succ k ih =>
    intro x0 x1 x2 x3 x4 x5 dy Tx0 E
    rw [F_X1_pair_82_s] at E
    refine ww_iload C dX1_pair_82 5 rfl ?_
    refine ww_iconst (v := 1) C dX1_pair_84 (by decide) ?_
    refine ww_iload_n C dX1_pair_85 rfl 3 rfl ?_
    refine ww_ishl C dX1_pair_86 ?_
    refine ww_icmp_ge (tgt := 119) C dX1_pair_87 (by decide) E (fun _ E => ?_) (fun _ E => ?_)
    · refine ww_iinc (v := (x4 + (-1 : Int32))) (lv' := [(4, .int (x4 + (-1 : Int32))), (0, .ref (ad x0)), (1, .int x1), (2, .int x2), (3, .int x3), (5, .int x5)]) C dX1_pair_119 4 rfl rfl (by decide) rfl ?_
      refine ww_goto (tgt := 74) C dX1_pair_122 (by decide) ?_
      refine ww_sub (lv' := [(0, .ref (ad x0)), (1, .int x1), (2, .int x2), (3, .int x3), (4, .int (x4 + (-1 : Int32)))]) [1, 2, 3, 4, 0] rfl ?_
      exact hK74 x0 x1 x2 x3 (x4 + (-1 : Int32)) dy Tx0 E
    · refine ww_aload_n C dX1_pair_90 rfl 0 rfl ?_
      have T_1 : gs S (gr S x0 4) = (1, 448) := hG.1 _ 1 Tx0 4 (by decide)
      refine ww_getr (ci := 1) (k0 := 4) C dX1_pair_91 rfl rfl inm1 (by decide) Tx0 q355 rfl T_1 (by decide) ?_
      refine ww_iload C dX1_pair_94 4 rfl ?_
      refine ww_bipush (v := 64) C dX1_pair_96 (by decide) ?_
      refine ww_imul C dX1_pair_98 ?_
      refine ww_iload C dX1_pair_99 5 rfl ?_
      refine ww_iadd C dX1_pair_101 ?_
      refine ww_aload_n C dX1_pair_102 rfl 0 rfl ?_
      refine ww_iload_n C dX1_pair_103 rfl 1 rfl ?_
      refine ww_iload C dX1_pair_104 4 rfl ?_
      refine ww_iload C dX1_pair_106 5 rfl ?_
      refine ww_iload_n C dX1_pair_108 rfl 2 rfl ?_
      obtain ⟨u2, e_3, E⟩ := bind_of E
      refine ww_callI C (runs_V (n := 4) (st := [.int ((x4 * (64 : Int32)) + x5), .ref (ad (gr S x0 4))]) C [.int x1, .int x4, .int x5, .int x2] (M_X1_leastFrom l G ad N hG x0 x1 x4 x5 x2 dy Tx0 e_3) ⟨q1220, q113, by decide⟩ q1217 q1219 q36 (ci := 1) rfl Tx0 rfl (Nat.le_of_ble_eq_true rfl) ⟨Nat.le_of_ble_eq_true rfl, Nat.le_of_ble_eq_true rfl⟩ ⟨Nat.zero_le _, Nat.zero_le _⟩ dX1_pair_109 rfl) ?_
      refine ww_iast C dX1_pair_112 T_1 E (fun _ E => ?_)
      refine ww_bd E (fun dy4 E => ?_)
      refine ww_iinc (v := (x5 + (1 : Int32))) (lv' := [(5, .int (x5 + (1 : Int32))), (0, .ref (ad x0)), (1, .int x1), (2, .int x2), (3, .int x3), (4, .int x4)]) C dX1_pair_113 5 rfl rfl (by decide) rfl ?_
      refine ww_goto (tgt := 82) C dX1_pair_116 (by decide) ?_
      refine ww_sub (lv' := [(0, .ref (ad x0)), (1, .int x1), (2, .int x2), (3, .int x3), (4, .int x4), (5, .int (x5 + (1 : Int32)))]) [1, 2, 3, 4, 5, 0] rfl ?_
      exact ih x0 x1 x2 x3 x4 (x5 + (1 : Int32)) dy4 Tx0 E
set_option maxHeartbeats 4000000 in
set_option maxRecDepth 100000 in
theorem B_X1_pair_131 (C : CX p s m args c cX1_pair 6 RX1 G A) (HR : meth.sig.returnType = (Option.some Jvm.ClassFile.FieldType.int)) (HL : meth.locks = false) (hG : Good S) : ∀ k : Nat, ∀ (x0 : Nat) (x1 : Int32) (x4 : Int32) (x5 : Int32) (dy : DY), gs S x0 = (0, 1) → (F_X1_pair_131 S N k) x0 x1 x4 x5 dy = some (r, dy') → WJ p l e (rmD (3)) s m args below meth c 6 G A 0 0 (MQ below (QI G ad A S r dy') args s 0 0 A) ad 131 [(0, .ref (ad x0)), (1, .int x1), (4, .int x4), (5, .int x5)] [] S dy := by
  intro k
  induction k with
  | zero => exact fun _ _ _ _ _ _ E => nomatch (show none = some (r, dy') from E)
  | succ k ih =>
    intro x0 x1 x4 x5 dy Tx0 E
    rw [F_X1_pair_131_s] at E
    refine ww_iload C dX1_pair_131 3 rfl ?_
    refine ww_aload_n C dX1_pair_133 rfl 0 rfl ?_
    have T_1 : gs S (gr S x0 0) = (1, 8) := hG.1 _ 1 Tx0 0 (by decide)
    refine ww_getr (ci := 1) (k0 := 0) C dX1_pair_134 rfl rfl inm1 (by decide) Tx0 q347 rfl T_1 (by decide) ?_
    refine ww_iload_n C dX1_pair_137 rfl 1 rfl ?_
    refine ww_iald C dX1_pair_138 T_1 E (fun _ E => ?_)
    refine ww_icmp_ge (tgt := 193) C dX1_pair_139 (by decide) E (fun _ E => ?_) (fun _ E => ?_)
    · refine ww_aload_n C dX1_pair_193 rfl 0 rfl ?_
      have T_2 : gs S (gr S x0 4) = (1, 448) := hG.1 _ 1 Tx0 4 (by decide)
      refine ww_getr (ci := 1) (k0 := 4) C dX1_pair_194 rfl rfl inm1 (by decide) Tx0 q355 rfl T_2 (by decide) ?_
      refine ww_iconst (v := 0) C dX1_pair_197 (by decide) ?_
      refine ww_iald C dX1_pair_198 T_2 E (fun _ E => ?_)
      exact ww_iret C HR HL dX1_pair_199 E
    · refine ww_aload_n C dX1_pair_142 rfl 0 rfl ?_
      have T_3 : gs S (gr S x0 3) = (1, 6) := hG.1 _ 1 Tx0 3 (by decide)
      refine ww_getr (ci := 1) (k0 := 3) C dX1_pair_143 rfl rfl inm1 (by decide) Tx0 q353 rfl T_3 (by decide) ?_
      refine ww_iload C dX1_pair_146 3 rfl ?_
      refine ww_aload_n C dX1_pair_148 rfl 0 rfl ?_
      refine ww_iload_n C dX1_pair_149 rfl 1 rfl ?_
      refine ww_iload C dX1_pair_150 3 rfl ?_
      refine ww_iload C dX1_pair_152 2 rfl ?_
      obtain ⟨u4, e_5, E⟩ := bind_of E
      refine ww_callI C (runs_V (n := 3) (st := [.int x5, .ref (ad (gr S x0 3))]) C [.int x1, .int x5, .int x4] (M_X1_leastPartner l G ad N hG x0 x1 x5 x4 dy Tx0 e_5) ⟨q1230, q113, by decide⟩ q1227 q1229 q38 (ci := 1) rfl Tx0 rfl (Nat.le_of_ble_eq_true rfl) ⟨Nat.le_of_ble_eq_true rfl, Nat.le_of_ble_eq_true rfl⟩ ⟨Nat.zero_le _, Nat.zero_le _⟩ dX1_pair_154 rfl) ?_
      refine ww_iast C dX1_pair_157 T_3 E (fun _ E => ?_)
      refine ww_bd E (fun dy6 E => ?_)
      refine ww_iload C dX1_pair_158 2 rfl ?_
      refine ww_aload_n C dX1_pair_160 rfl 0 rfl ?_
      have T_7 : gs S (gr S x0 3) = (1, 6) := hG.1 _ 1 Tx0 3 (by decide)
      refine ww_getr (ci := 1) (k0 := 3) C dX1_pair_161 rfl rfl inm1 (by decide) Tx0 q353 rfl T_7 (by decide) ?_
      refine ww_iload C dX1_pair_164 3 rfl ?_
      refine ww_iald C dX1_pair_166 T_7 E (fun _ E => ?_)
      refine ww_iconst (v := (-1)) C dX1_pair_167 (by decide) ?_
      refine ww_icmp_ne (tgt := 175) C dX1_pair_168 (by decide) E (fun _ E => ?_) (fun _ E => ?_)
      · refine ww_iconst (v := 1) C dX1_pair_175 (by decide) ?_
        refine ww_aload_n C dX1_pair_176 rfl 0 rfl ?_
        have T_8 : gs S (gr S x0 3) = (1, 6) := hG.1 _ 1 Tx0 3 (by decide)
        refine ww_getr (ci := 1) (k0 := 3) C dX1_pair_177 rfl rfl inm1 (by decide) Tx0 q353 rfl T_8 (by decide) ?_
        refine ww_iload C dX1_pair_180 3 rfl ?_
        refine ww_iald C dX1_pair_182 T_8 E (fun _ E => ?_)
        refine ww_ishl C dX1_pair_183 ?_
        refine ww_ior C dX1_pair_184 ?_
        refine ww_istore (lv' := [(4, .int (x4 ||| ((1 : Int32) <<< ((gi dy6 (gr S x0 3) x5.toNatClampNeg) &&& 31)))), (0, .ref (ad x0)), (1, .int x1), (5, .int x5)]) C dX1_pair_185 (by decide) rfl ?_
        refine ww_iinc (v := (x5 + (1 : Int32))) (lv' := [(5, .int (x5 + (1 : Int32))), (4, .int (x4 ||| ((1 : Int32) <<< ((gi dy6 (gr S x0 3) x5.toNatClampNeg) &&& 31)))), (0, .ref (ad x0)), (1, .int x1)]) C dX1_pair_187 3 rfl rfl (by decide) rfl ?_
        refine ww_goto (tgt := 131) C dX1_pair_190 (by decide) ?_
        refine ww_sub (lv' := [(0, .ref (ad x0)), (1, .int x1), (4, .int (x4 ||| ((1 : Int32) <<< ((gi dy6 (gr S x0 3) x5.toNatClampNeg) &&& 31)))), (5, .int (x5 + (1 : Int32)))]) [2, 3, 1, 0] rfl ?_
        exact ih x0 x1 (x4 ||| ((1 : Int32) <<< ((gi dy6 (gr S x0 3) x5.toNatClampNeg) &&& 31))) (x5 + (1 : Int32)) dy6 Tx0 E
      · refine ww_iconst (v := 0) C dX1_pair_171 (by decide) ?_
        refine ww_goto (tgt := 184) C dX1_pair_172 (by decide) ?_
        refine ww_ior C dX1_pair_184 ?_
        refine ww_istore (lv' := [(4, .int (x4 ||| (0 : Int32))), (0, .ref (ad x0)), (1, .int x1), (5, .int x5)]) C dX1_pair_185 (by decide) rfl ?_
        refine ww_iinc (v := (x5 + (1 : Int32))) (lv' := [(5, .int (x5 + (1 : Int32))), (4, .int (x4 ||| (0 : Int32))), (0, .ref (ad x0)), (1, .int x1)]) C dX1_pair_187 3 rfl rfl (by decide) rfl ?_
        refine ww_goto (tgt := 131) C dX1_pair_190 (by decide) ?_
        refine ww_sub (lv' := [(0, .ref (ad x0)), (1, .int x1), (4, .int (x4 ||| (0 : Int32))), (5, .int (x5 + (1 : Int32)))]) [2, 3, 1, 0] rfl ?_
        exact ih x0 x1 (x4 ||| (0 : Int32)) (x5 + (1 : Int32)) dy6 Tx0 E
set_option maxHeartbeats 4000000 in
set_option maxRecDepth 100000 in
theorem B_X1_pair_74 (C : CX p s m args c cX1_pair 6 RX1 G A) (HR : meth.sig.returnType = (Option.some Jvm.ClassFile.FieldType.int)) (HL : meth.locks = false) (hG : Good S) : ∀ k : Nat, ∀ (x0 : Nat) (x1 : Int32) (x2 : Int32) (x3 : Int32) (x4 : Int32) (dy : DY), gs S x0 = (0, 1) → (F_X1_pair_74 S N k) x0 x1 x2 x3 x4 dy = some (r, dy') → WJ p l e (rmD (3)) s m args below meth c 6 G A 0 0 (MQ below (QI G ad A S r dy') args s 0 0 A) ad 74 [(0, .ref (ad x0)), (1, .int x1), (2, .int x2), (3, .int x3), (4, .int x4)] [] S dy := by
  intro k
  induction k with
  | zero => exact fun _ _ _ _ _ _ _ E => nomatch (show none = some (r, dy') from E)
  | succ k ih =>
    intro x0 x1 x2 x3 x4 dy Tx0 E
    rw [F_X1_pair_74_s] at E
    refine ww_iload C dX1_pair_74 4 rfl ?_
    refine ww_if_lt (tgt := 125) C dX1_pair_76 (by decide) E (fun _ E => ?_) (fun _ E => ?_)
    · refine ww_iconst (v := 0) C dX1_pair_125 (by decide) ?_
      refine ww_istore (lv' := [(4, .int (0 : Int32)), (0, .ref (ad x0)), (1, .int x1), (2, .int x2), (3, .int x3)]) C dX1_pair_126 (by decide) rfl ?_
      refine ww_iconst (v := 0) C dX1_pair_128 (by decide) ?_
      refine ww_istore (lv' := [(5, .int (0 : Int32)), (4, .int (0 : Int32)), (0, .ref (ad x0)), (1, .int x1), (2, .int x2), (3, .int x3)]) C dX1_pair_129 (by decide) rfl ?_
      refine ww_sub (lv' := [(0, .ref (ad x0)), (1, .int x1), (4, .int (0 : Int32)), (5, .int (0 : Int32))]) [2, 3, 1, 0] rfl ?_
      exact (B_X1_pair_131 C HR HL hG N) x0 x1 (0 : Int32) (0 : Int32) dy Tx0 E
    · refine ww_iconst (v := 0) C dX1_pair_79 (by decide) ?_
      refine ww_istore (lv' := [(5, .int (0 : Int32)), (0, .ref (ad x0)), (1, .int x1), (2, .int x2), (3, .int x3), (4, .int x4)]) C dX1_pair_80 (by decide) rfl ?_
      refine ww_sub (lv' := [(0, .ref (ad x0)), (1, .int x1), (2, .int x2), (3, .int x3), (4, .int x4), (5, .int (0 : Int32))]) [1, 2, 3, 4, 5, 0] rfl ?_
      exact (B_X1_pair_82 C HR HL hG ih N) x0 x1 x2 x3 x4 (0 : Int32) dy Tx0 E
set_option maxHeartbeats 4000000 in
set_option maxRecDepth 100000 in
theorem B_X1_pair_24 (C : CX p s m args c cX1_pair 6 RX1 G A) (HR : meth.sig.returnType = (Option.some Jvm.ClassFile.FieldType.int)) (HL : meth.locks = false) (hG : Good S) : ∀ k : Nat, ∀ (x0 : Nat) (x1 : Int32) (x2 : Int32) (x3 : Int32) (x4 : Int32) (dy : DY), gs S x0 = (0, 1) → (F_X1_pair_24 S N k) x0 x1 x2 x3 x4 dy = some (r, dy') → WJ p l e (rmD (3)) s m args below meth c 6 G A 0 0 (MQ below (QI G ad A S r dy') args s 0 0 A) ad 24 [(0, .ref (ad x0)), (1, .int x1), (2, .int x2), (3, .int x3), (4, .int x4)] [] S dy := by
  intro k
  induction k with
  | zero => exact fun _ _ _ _ _ _ _ E => nomatch (show none = some (r, dy') from E)
  | succ k ih =>
    intro x0 x1 x2 x3 x4 dy Tx0 E
    rw [F_X1_pair_24_s] at E
    refine ww_iload C dX1_pair_24 4 rfl ?_
    refine ww_iconst (v := 1) C dX1_pair_26 (by decide) ?_
    refine ww_iload_n C dX1_pair_27 rfl 3 rfl ?_
    refine ww_ishl C dX1_pair_28 ?_
    refine ww_icmp_ge (tgt := 64) C dX1_pair_29 (by decide) E (fun _ E => ?_) (fun _ E => ?_)
    · refine ww_aload_n C dX1_pair_64 rfl 0 rfl ?_
      have T_1 : gs S (gr S x0 0) = (1, 8) := hG.1 _ 1 Tx0 0 (by decide)
      refine ww_getr (ci := 1) (k0 := 0) C dX1_pair_65 rfl rfl inm1 (by decide) Tx0 q347 rfl T_1 (by decide) ?_
      refine ww_iload_n C dX1_pair_68 rfl 1 rfl ?_
      refine ww_iald C dX1_pair_69 T_1 E (fun _ E => ?_)
      refine ww_iconst (v := 1) C dX1_pair_70 (by decide) ?_
      refine ww_isub C dX1_pair_71 ?_
      refine ww_istore (lv' := [(4, .int ((gi dy (gr S x0 0) x1.toNatClampNeg) - (1 : Int32))), (0, .ref (ad x0)), (1, .int x1), (2, .int x2), (3, .int x3)]) C dX1_pair_72 (by decide) rfl ?_
      refine ww_sub (lv' := [(0, .ref (ad x0)), (1, .int x1), (2, .int x2), (3, .int x3), (4, .int ((gi dy (gr S x0 0) x1.toNatClampNeg) - (1 : Int32)))]) [1, 2, 3, 4, 0] rfl ?_
      exact (B_X1_pair_74 C HR HL hG N) x0 x1 x2 x3 ((gi dy (gr S x0 0) x1.toNatClampNeg) - (1 : Int32)) dy Tx0 E
    · refine ww_aload_n C dX1_pair_32 rfl 0 rfl ?_
      have T_2 : gs S (gr S x0 4) = (1, 448) := hG.1 _ 1 Tx0 4 (by decide)
      refine ww_getr (ci := 1) (k0 := 4) C dX1_pair_33 rfl rfl inm1 (by decide) Tx0 q355 rfl T_2 (by decide) ?_
      refine ww_aload_n C dX1_pair_36 rfl 0 rfl ?_
      have T_3 : gs S (gr S x0 0) = (1, 8) := hG.1 _ 1 Tx0 0 (by decide)
      refine ww_getr (ci := 1) (k0 := 0) C dX1_pair_37 rfl rfl inm1 (by decide) Tx0 q347 rfl T_3 (by decide) ?_
      refine ww_iload_n C dX1_pair_40 rfl 1 rfl ?_
      refine ww_iald C dX1_pair_41 T_3 E (fun _ E => ?_)
      refine ww_bipush (v := 64) C dX1_pair_42 (by decide) ?_
      refine ww_imul C dX1_pair_44 ?_
      refine ww_iload C dX1_pair_45 4 rfl ?_
      refine ww_iadd C dX1_pair_47 ?_
      refine ww_iload_n C dX1_pair_48 rfl 2 rfl ?_
      refine ww_iload_n C dX1_pair_49 rfl 3 rfl ?_
      refine ww_iload C dX1_pair_50 4 rfl ?_
      obtain ⟨u4, e_5, E⟩ := bind_of E
      refine ww_callI C (runs_S (n := 1) (st := [.int x3, .int x2, .int (((gi dy (gr S x0 0) x1.toNatClampNeg) * (64 : Int32)) + x4), .ref (ad (gr S x0 4))]) C [.int x4] (M_J6_bitCount_0f7a4 l G ad N hG x4 dy e_5) ⟨q1213, q126, by decide⟩ q1211 q1212 rfl (Nat.le_of_ble_eq_true rfl) ⟨Nat.le_of_ble_eq_true rfl, Nat.le_of_ble_eq_true rfl⟩ ⟨Nat.zero_le _, Nat.zero_le _⟩ dX1_pair_52 rfl) ?_
      refine ww_isub C dX1_pair_55 ?_
      refine ww_imul C dX1_pair_56 ?_
      refine ww_iast C dX1_pair_57 T_2 E (fun _ E => ?_)
      refine ww_bd E (fun dy6 E => ?_)
      refine ww_iinc (v := (x4 + (1 : Int32))) (lv' := [(4, .int (x4 + (1 : Int32))), (0, .ref (ad x0)), (1, .int x1), (2, .int x2), (3, .int x3)]) C dX1_pair_58 4 rfl rfl (by decide) rfl ?_
      refine ww_goto (tgt := 24) C dX1_pair_61 (by decide) ?_
      refine ww_sub (lv' := [(0, .ref (ad x0)), (1, .int x1), (2, .int x2), (3, .int x3), (4, .int (x4 + (1 : Int32)))]) [1, 2, 3, 4, 0] rfl ?_
      exact ih x0 x1 x2 x3 (x4 + (1 : Int32)) dy6 Tx0 E
end P_X1_pair
set_option maxHeartbeats 4000000 in
set_option maxRecDepth 100000 in
theorem M_X1_pair (l : Launch) (G : GG) (ad : Nat → Nat) {S : ST} (N : Nat) (hG : Good S) (a0 : Nat) (a1 : Int32) (a2 : Int32) (dy : DY) (T0 : gs S a0 = (0, 1)) {r : Int32} {dy' : DY} (E : F_X1_pair S N a0 a1 a2 dy = some (r, dy')) : MC l yX1_pair cX1_pair 6 (Option.some Jvm.ClassFile.FieldType.int) (3) G ad [.ref (ad a0), .int a1, .int a2] S dy (fun A => QI G ad A S r dy') := by
  rw [F_X1_pair_s] at E
  refine mc_of RX1 (by decide) rfl (Nat.le_of_ble_eq_true rfl) (fun p e s m args below meth c A C HR HL => ?_)
  refine ww_sub (lv' := [(0, .ref (ad a0)), (1, .int a1), (2, .int a2)]) [0, 1, 2] rfl ?_
  refine ww_iload_n C dX1_pair_0 rfl 1 rfl ?_
  refine ww_if_lt (tgt := 10) C dX1_pair_1 (by decide) E (fun _ E => ?_) (fun _ E => ?_)
  · refine ww_iconst (v := (-1)) C dX1_pair_10 (by decide) ?_
    exact ww_iret C HR HL dX1_pair_11 E
  · refine ww_iload_n C dX1_pair_4 rfl 1 rfl ?_
    refine ww_bipush (v := 7) C dX1_pair_5 (by decide) ?_
    refine ww_icmp_lt (tgt := 12) C dX1_pair_7 (by decide) E (fun _ E => ?_) (fun _ E => ?_)
    · refine ww_aload_n C dX1_pair_12 rfl 0 rfl ?_
      have T_1 : gs S (gr S a0 0) = (1, 8) := hG.1 _ 1 T0 0 (by decide)
      refine ww_getr (ci := 1) (k0 := 0) C dX1_pair_13 rfl rfl inm1 (by decide) T0 q347 rfl T_1 (by decide) ?_
      refine ww_iload_n C dX1_pair_16 rfl 1 rfl ?_
      refine ww_iconst (v := 1) C dX1_pair_17 (by decide) ?_
      refine ww_iadd C dX1_pair_18 ?_
      refine ww_iald C dX1_pair_19 T_1 E (fun _ E => ?_)
      refine ww_istore_n (lv' := [(3, .int (gi dy (gr S a0 0) (a1 + (1 : Int32)).toNatClampNeg)), (0, .ref (ad a0)), (1, .int a1), (2, .int a2)]) C dX1_pair_20 rfl (by decide) rfl ?_
      refine ww_iconst (v := 0) C dX1_pair_21 (by decide) ?_
      refine ww_istore (lv' := [(4, .int (0 : Int32)), (3, .int (gi dy (gr S a0 0) (a1 + (1 : Int32)).toNatClampNeg)), (0, .ref (ad a0)), (1, .int a1), (2, .int a2)]) C dX1_pair_22 (by decide) rfl ?_
      refine ww_sub (lv' := [(0, .ref (ad a0)), (1, .int a1), (2, .int a2), (3, .int (gi dy (gr S a0 0) (a1 + (1 : Int32)).toNatClampNeg)), (4, .int (0 : Int32))]) [2, 3, 4, 1, 0] rfl ?_
      exact (B_X1_pair_24 C HR HL hG N) a0 a1 a2 (gi dy (gr S a0 0) (a1 + (1 : Int32)).toNatClampNeg) (0 : Int32) dy T0 E
    · refine ww_iconst (v := (-1)) C dX1_pair_10 (by decide) ?_
      exact ww_iret C HR HL dX1_pair_11 E
