noncomputable def F_X2_holds_143 (S : ST) (N : Nat) (n1 : Nat) (K2 : Nat → Int32 → Nat → Int32 → DY → Option (Int32 × DY)) (x0 : Nat) (x1 : Int32) (x2 : Nat) (x3 : Int32) (x4 : Int32) (x6 : Int32) (dy : DY) : Option (Int32 × DY) := if ib x4 64 then (if x6 = (nr 3 (gi dy (gr S x0 6) x4.toNatClampNeg)) then some ((0 : Int32), dy) else K2 x0 x1 x2 (x3 + (1 : Int32)) dy) else none
theorem F_X2_holds_143_s (S : ST) (N : Nat) (n1 : Nat) (K2 : Nat → Int32 → Nat → Int32 → DY → Option (Int32 × DY)) (x0 : Nat) (x1 : Int32) (x2 : Nat) (x3 : Int32) (x4 : Int32) (x6 : Int32) (dy : DY) : F_X2_holds_143 S N n1 K2 x0 x1 x2 x3 x4 x6 dy = (if ib x4 64 then (if x6 = (nr 3 (gi dy (gr S x0 6) x4.toNatClampNeg)) then some ((0 : Int32), dy) else K2 x0 x1 x2 (x3 + (1 : Int32)) dy) else none) := rfl
noncomputable def F_X2_holds_44 (S : ST) (N : Nat) (n1 : Nat) (K2 : Nat → Int32 → Nat → Int32 → DY → Option (Int32 × DY)) (x0 : Nat) (x1 : Int32) (x2 : Nat) (x3 : Int32) (x4 : Int32) (y0 : Int32) (dy : DY) : Option (Int32 × DY) := if ib x4 64 then (if (gi dy (gr S x0 4) x4.toNatClampNeg) = (0 : Int32) then if ib x4 64 then (if (gi dy (gr S x0 5) x4.toNatClampNeg) ≤ y0 then (F_X2_holds_143 S N n1 K2) x0 x1 x2 x3 x4 (0 : Int32) dy else (F_X2_holds_143 S N n1 K2) x0 x1 x2 x3 x4 (1 : Int32) dy) else none else if (gi dy (gr S x0 4) x4.toNatClampNeg) = (1 : Int32) then if ib x4 64 then (if y0 ≤ (gi dy (gr S x0 5) x4.toNatClampNeg) then (F_X2_holds_143 S N n1 K2) x0 x1 x2 x3 x4 (0 : Int32) dy else (F_X2_holds_143 S N n1 K2) x0 x1 x2 x3 x4 (1 : Int32) dy) else none else if ib x4 64 then (if y0 = (gi dy (gr S x0 5) x4.toNatClampNeg) then (F_X2_holds_143 S N n1 K2) x0 x1 x2 x3 x4 (1 : Int32) dy else (F_X2_holds_143 S N n1 K2) x0 x1 x2 x3 x4 (0 : Int32) dy) else none) else none
theorem F_X2_holds_44_s (S : ST) (N : Nat) (n1 : Nat) (K2 : Nat → Int32 → Nat → Int32 → DY → Option (Int32 × DY)) (x0 : Nat) (x1 : Int32) (x2 : Nat) (x3 : Int32) (x4 : Int32) (y0 : Int32) (dy : DY) : F_X2_holds_44 S N n1 K2 x0 x1 x2 x3 x4 y0 dy = (if ib x4 64 then (if (gi dy (gr S x0 4) x4.toNatClampNeg) = (0 : Int32) then if ib x4 64 then (if (gi dy (gr S x0 5) x4.toNatClampNeg) ≤ y0 then (F_X2_holds_143 S N n1 K2) x0 x1 x2 x3 x4 (0 : Int32) dy else (F_X2_holds_143 S N n1 K2) x0 x1 x2 x3 x4 (1 : Int32) dy) else none else if (gi dy (gr S x0 4) x4.toNatClampNeg) = (1 : Int32) then if ib x4 64 then (if y0 ≤ (gi dy (gr S x0 5) x4.toNatClampNeg) then (F_X2_holds_143 S N n1 K2) x0 x1 x2 x3 x4 (0 : Int32) dy else (F_X2_holds_143 S N n1 K2) x0 x1 x2 x3 x4 (1 : Int32) dy) else none else if ib x4 64 then (if y0 = (gi dy (gr S x0 5) x4.toNatClampNeg) then (F_X2_holds_143 S N n1 K2) x0 x1 x2 x3 x4 (1 : Int32) dy else (F_X2_holds_143 S N n1 K2) x0 x1 x2 x3 x4 (0 : Int32) dy) else none) else none) := rfl
noncomputable def F_X2_holds_2 (S : ST) (N : Nat) (n1 : Nat) : Nat → Nat → Int32 → Nat → Int32 → DY → Option (Int32 × DY) := fun k => Nat.rec (motive := fun _ => Nat → Int32 → Nat → Int32 → DY → Option (Int32 × DY)) (fun _ _ _ _ _ => none) (fun _ ih x0 x1 x2 x3 dy => if ib x1 16 then (if (gi dy (gr S x0 2) x1.toNatClampNeg) ≤ x3 then some ((1 : Int32), dy) else if ib ((x1 * (4 : Int32)) + x3) 64 then (if (Int32.ofNat n1) ≤ (gi dy (gr S x0 3) ((x1 * (4 : Int32)) + x3).toNatClampNeg) then (F_X2_holds_44 S N n1 ih) x0 x1 x2 x3 ((x1 * (4 : Int32)) + x3) (0 : Int32) dy else if ib ((x1 * (4 : Int32)) + x3) 64 then if ib (gi dy (gr S x0 3) ((x1 * (4 : Int32)) + x3).toNatClampNeg) n1 then (F_X2_holds_44 S N n1 ih) x0 x1 x2 x3 ((x1 * (4 : Int32)) + x3) (gi dy x2 (gi dy (gr S x0 3) ((x1 * (4 : Int32)) + x3).toNatClampNeg).toNatClampNeg) dy else none else none) else none) else none) k
theorem F_X2_holds_2_s (S : ST) (N : Nat) (n1 : Nat) (k : Nat) (x0 : Nat) (x1 : Int32) (x2 : Nat) (x3 : Int32) (dy : DY) : F_X2_holds_2 S N n1 (k + 1) x0 x1 x2 x3 dy = (if ib x1 16 then (if (gi dy (gr S x0 2) x1.toNatClampNeg) ≤ x3 then some ((1 : Int32), dy) else if ib ((x1 * (4 : Int32)) + x3) 64 then (if (Int32.ofNat n1) ≤ (gi dy (gr S x0 3) ((x1 * (4 : Int32)) + x3).toNatClampNeg) then (F_X2_holds_44 S N n1 (F_X2_holds_2 S N n1 k)) x0 x1 x2 x3 ((x1 * (4 : Int32)) + x3) (0 : Int32) dy else if ib ((x1 * (4 : Int32)) + x3) 64 then if ib (gi dy (gr S x0 3) ((x1 * (4 : Int32)) + x3).toNatClampNeg) n1 then (F_X2_holds_44 S N n1 (F_X2_holds_2 S N n1 k)) x0 x1 x2 x3 ((x1 * (4 : Int32)) + x3) (gi dy x2 (gi dy (gr S x0 3) ((x1 * (4 : Int32)) + x3).toNatClampNeg).toNatClampNeg) dy else none else none) else none) else none) := rfl
noncomputable def F_X2_holds (S : ST) (N : Nat) (n1 : Nat) (a0 : Nat) (a1 : Int32) (a2 : Nat) (dy : DY) : Option (Int32 × DY) := (F_X2_holds_2 S N n1 N) a0 a1 a2 (0 : Int32) dy
theorem F_X2_holds_s (S : ST) (N : Nat) (n1 : Nat) (a0 : Nat) (a1 : Int32) (a2 : Nat) (dy : DY) : F_X2_holds S N n1 a0 a1 a2 dy = ((F_X2_holds_2 S N n1 N) a0 a1 a2 (0 : Int32) dy) := rfl
noncomputable def F_X2_deedFor_2 (S : ST) (N : Nat) (n0 : Nat) : Nat → Nat → Nat → Int32 → DY → Option (Int32 × DY) := fun k => Nat.rec (motive := fun _ => Nat → Nat → Int32 → DY → Option (Int32 × DY)) (fun _ _ _ _ => none) (fun _ ih x0 x1 x2 dy => (if (gi dy x0 0) ≤ x2 then some ((5 : Int32), dy) else (F_X2_holds S N n0 x0 x2 x1 dy).bind fun u1 => (if u1.1 = 0 then ih x0 x1 (x2 + (1 : Int32)) u1.2 else if ib x2 16 then some ((gi u1.2 (gr S x0 1) x2.toNatClampNeg), u1.2) else none))) k
theorem F_X2_deedFor_2_s (S : ST) (N : Nat) (n0 : Nat) (k : Nat) (x0 : Nat) (x1 : Nat) (x2 : Int32) (dy : DY) : F_X2_deedFor_2 S N n0 (k + 1) x0 x1 x2 dy = (if (gi dy x0 0) ≤ x2 then some ((5 : Int32), dy) else (F_X2_holds S N n0 x0 x2 x1 dy).bind fun u1 => (if u1.1 = 0 then (F_X2_deedFor_2 S N n0 k) x0 x1 (x2 + (1 : Int32)) u1.2 else if ib x2 16 then some ((gi u1.2 (gr S x0 1) x2.toNatClampNeg), u1.2) else none)) := rfl
noncomputable def F_X2_deedFor (S : ST) (N : Nat) (n0 : Nat) (a0 : Nat) (a1 : Nat) (dy : DY) : Option (Int32 × DY) := (F_X2_deedFor_2 S N n0 N) a0 a1 (0 : Int32) dy
theorem F_X2_deedFor_s (S : ST) (N : Nat) (n0 : Nat) (a0 : Nat) (a1 : Nat) (dy : DY) : F_X2_deedFor S N n0 a0 a1 dy = ((F_X2_deedFor_2 S N n0 N) a0 a1 (0 : Int32) dy) := rfl
noncomputable def F_X2_weighs_12 (S : ST) (N : Nat) (K2 : Nat → Int32 → Int32 → DY → Option (Int32 × DY)) : Nat → Nat → Int32 → Int32 → Int32 → DY → Option (Int32 × DY) := fun k => Nat.rec (motive := fun _ => Nat → Int32 → Int32 → Int32 → DY → Option (Int32 × DY)) (fun _ _ _ _ _ => none) (fun _ ih x0 x1 x2 x3 dy => if ib x2 16 then (if (gi dy (gr S x0 2) x2.toNatClampNeg) ≤ x3 then K2 x0 x1 (x2 + (1 : Int32)) dy else if ib ((x2 * (4 : Int32)) + x3) 64 then (if (gi dy (gr S x0 3) ((x2 * (4 : Int32)) + x3).toNatClampNeg) = x1 then some ((1 : Int32), dy) else ih x0 x1 x2 (x3 + (1 : Int32)) dy) else none) else none) k
theorem F_X2_weighs_12_s (S : ST) (N : Nat) (K2 : Nat → Int32 → Int32 → DY → Option (Int32 × DY)) (k : Nat) (x0 : Nat) (x1 : Int32) (x2 : Int32) (x3 : Int32) (dy : DY) : F_X2_weighs_12 S N K2 (k + 1) x0 x1 x2 x3 dy = (if ib x2 16 then (if (gi dy (gr S x0 2) x2.toNatClampNeg) ≤ x3 then K2 x0 x1 (x2 + (1 : Int32)) dy else if ib ((x2 * (4 : Int32)) + x3) 64 then (if (gi dy (gr S x0 3) ((x2 * (4 : Int32)) + x3).toNatClampNeg) = x1 then some ((1 : Int32), dy) else (F_X2_weighs_12 S N K2 k) x0 x1 x2 (x3 + (1 : Int32)) dy) else none) else none) := rfl
noncomputable def F_X2_weighs_2 (S : ST) (N : Nat) : Nat → Nat → Int32 → Int32 → DY → Option (Int32 × DY) := fun k => Nat.rec (motive := fun _ => Nat → Int32 → Int32 → DY → Option (Int32 × DY)) (fun _ _ _ _ => none) (fun _ ih x0 x1 x2 dy => (if (gi dy x0 0) ≤ x2 then some ((0 : Int32), dy) else (F_X2_weighs_12 S N ih N) x0 x1 x2 (0 : Int32) dy)) k
theorem F_X2_weighs_2_s (S : ST) (N : Nat) (k : Nat) (x0 : Nat) (x1 : Int32) (x2 : Int32) (dy : DY) : F_X2_weighs_2 S N (k + 1) x0 x1 x2 dy = (if (gi dy x0 0) ≤ x2 then some ((0 : Int32), dy) else (F_X2_weighs_12 S N (F_X2_weighs_2 S N k) N) x0 x1 x2 (0 : Int32) dy) := rfl
noncomputable def F_X2_weighs (S : ST) (N : Nat) (a0 : Nat) (a1 : Int32) (dy : DY) : Option (Int32 × DY) := (F_X2_weighs_2 S N N) a0 a1 (0 : Int32) dy
theorem F_X2_weighs_s (S : ST) (N : Nat) (a0 : Nat) (a1 : Int32) (dy : DY) : F_X2_weighs S N a0 a1 dy = ((F_X2_weighs_2 S N N) a0 a1 (0 : Int32) dy) := rfl
noncomputable def F_X2_addRule (S : ST) (N : Nat) (a0 : Nat) (a1 : Int32) (a2 : Int32) (dy : DY) : Option DY := (if (16 : Int32) ≤ (gi dy a0 0) then some dy else if ib (gi dy a0 0) 16 then bd (si dy (gr S a0 1) (gi dy a0 0).toNatClampNeg a1) fun dy2 => if ib (gi dy2 a0 0) 16 then bd (si dy2 (gr S a0 2) (gi dy2 a0 0).toNatClampNeg (if (0 : Int32) < (if (4 : Int32) < a2 then (4 : Int32) else a2) then (if (4 : Int32) < a2 then (4 : Int32) else a2) else (0 : Int32))) fun dy4 => bd (si dy4 a0 0 ((gi dy4 a0 0) + (1 : Int32))) fun dy5 => some dy5 else none else none)
theorem F_X2_addRule_s (S : ST) (N : Nat) (a0 : Nat) (a1 : Int32) (a2 : Int32) (dy : DY) : F_X2_addRule S N a0 a1 a2 dy = (if (16 : Int32) ≤ (gi dy a0 0) then some dy else if ib (gi dy a0 0) 16 then bd (si dy (gr S a0 1) (gi dy a0 0).toNatClampNeg a1) fun dy2 => if ib (gi dy2 a0 0) 16 then bd (si dy2 (gr S a0 2) (gi dy2 a0 0).toNatClampNeg (if (0 : Int32) < (if (4 : Int32) < a2 then (4 : Int32) else a2) then (if (4 : Int32) < a2 then (4 : Int32) else a2) else (0 : Int32))) fun dy4 => bd (si dy4 a0 0 ((gi dy4 a0 0) + (1 : Int32))) fun dy5 => some dy5 else none else none) := rfl
noncomputable def F_X2_copyFrom (S : ST) (N : Nat) (a0 : Nat) (a1 : Nat) (dy : DY) : Option DY := bd (si dy a0 0 (gi dy a1 0)) fun dy1 => if ic (0 : Int32) (16 : Int32) 16 ∧ ic (0 : Int32) (16 : Int32) 16 then bd (cpi dy1 (gr S a1 1) (gr S a0 1) (0 : Int32).toNatClampNeg (0 : Int32).toNatClampNeg (16 : Int32).toNatClampNeg) fun dy4 => if ic (0 : Int32) (16 : Int32) 16 ∧ ic (0 : Int32) (16 : Int32) 16 then bd (cpi dy4 (gr S a1 2) (gr S a0 2) (0 : Int32).toNatClampNeg (0 : Int32).toNatClampNeg (16 : Int32).toNatClampNeg) fun dy8 => if ic (0 : Int32) (64 : Int32) 64 ∧ ic (0 : Int32) (64 : Int32) 64 then bd (cpi dy8 (gr S a1 3) (gr S a0 3) (0 : Int32).toNatClampNeg (0 : Int32).toNatClampNeg (64 : Int32).toNatClampNeg) fun dy12 => if ic (0 : Int32) (64 : Int32) 64 ∧ ic (0 : Int32) (64 : Int32) 64 then bd (cpi dy12 (gr S a1 4) (gr S a0 4) (0 : Int32).toNatClampNeg (0 : Int32).toNatClampNeg (64 : Int32).toNatClampNeg) fun dy16 => if ic (0 : Int32) (64 : Int32) 64 ∧ ic (0 : Int32) (64 : Int32) 64 then bd (cpi dy16 (gr S a1 5) (gr S a0 5) (0 : Int32).toNatClampNeg (0 : Int32).toNatClampNeg (64 : Int32).toNatClampNeg) fun dy20 => if ic (0 : Int32) (64 : Int32) 64 ∧ ic (0 : Int32) (64 : Int32) 64 then bd (cpi dy20 (gr S a1 6) (gr S a0 6) (0 : Int32).toNatClampNeg (0 : Int32).toNatClampNeg (64 : Int32).toNatClampNeg) fun dy24 => some dy24 else none else none else none else none else none else none
theorem F_X2_copyFrom_s (S : ST) (N : Nat) (a0 : Nat) (a1 : Nat) (dy : DY) : F_X2_copyFrom S N a0 a1 dy = (bd (si dy a0 0 (gi dy a1 0)) fun dy1 => if ic (0 : Int32) (16 : Int32) 16 ∧ ic (0 : Int32) (16 : Int32) 16 then bd (cpi dy1 (gr S a1 1) (gr S a0 1) (0 : Int32).toNatClampNeg (0 : Int32).toNatClampNeg (16 : Int32).toNatClampNeg) fun dy4 => if ic (0 : Int32) (16 : Int32) 16 ∧ ic (0 : Int32) (16 : Int32) 16 then bd (cpi dy4 (gr S a1 2) (gr S a0 2) (0 : Int32).toNatClampNeg (0 : Int32).toNatClampNeg (16 : Int32).toNatClampNeg) fun dy8 => if ic (0 : Int32) (64 : Int32) 64 ∧ ic (0 : Int32) (64 : Int32) 64 then bd (cpi dy8 (gr S a1 3) (gr S a0 3) (0 : Int32).toNatClampNeg (0 : Int32).toNatClampNeg (64 : Int32).toNatClampNeg) fun dy12 => if ic (0 : Int32) (64 : Int32) 64 ∧ ic (0 : Int32) (64 : Int32) 64 then bd (cpi dy12 (gr S a1 4) (gr S a0 4) (0 : Int32).toNatClampNeg (0 : Int32).toNatClampNeg (64 : Int32).toNatClampNeg) fun dy16 => if ic (0 : Int32) (64 : Int32) 64 ∧ ic (0 : Int32) (64 : Int32) 64 then bd (cpi dy16 (gr S a1 5) (gr S a0 5) (0 : Int32).toNatClampNeg (0 : Int32).toNatClampNeg (64 : Int32).toNatClampNeg) fun dy20 => if ic (0 : Int32) (64 : Int32) 64 ∧ ic (0 : Int32) (64 : Int32) 64 then bd (cpi dy20 (gr S a1 6) (gr S a0 6) (0 : Int32).toNatClampNeg (0 : Int32).toNatClampNeg (64 : Int32).toNatClampNeg) fun dy24 => some dy24 else none else none else none else none else none else none) := rfl
noncomputable def F_X2_setTest (S : ST) (N : Nat) (a0 : Nat) (a1 : Int32) (a2 : Int32) (a3 : Int32) (a4 : Int32) (a5 : Int32) (dy : DY) : Option DY := (if (16 : Int32) ≤ (gi dy a0 0) then some dy else (if a1 < 0 then some dy else (if (4 : Int32) ≤ a1 then some dy else (if a2 < 0 then some dy else (if (11 : Int32) ≤ a2 then some dy else if ib (((gi dy a0 0) * (4 : Int32)) + a1) 64 then bd (si dy (gr S a0 3) (((gi dy a0 0) * (4 : Int32)) + a1).toNatClampNeg a2) fun dy2 => if ib (((gi dy a0 0) * (4 : Int32)) + a1) 64 then bd (si dy2 (gr S a0 4) (((gi dy a0 0) * (4 : Int32)) + a1).toNatClampNeg a3) fun dy4 => if ib (((gi dy a0 0) * (4 : Int32)) + a1) 64 then bd (si dy4 (gr S a0 5) (((gi dy a0 0) * (4 : Int32)) + a1).toNatClampNeg a4) fun dy6 => if ib (((gi dy a0 0) * (4 : Int32)) + a1) 64 then bd (si dy6 (gr S a0 6) (((gi dy a0 0) * (4 : Int32)) + a1).toNatClampNeg a5) fun dy8 => some dy8 else none else none else none else none)))))
theorem F_X2_setTest_s (S : ST) (N : Nat) (a0 : Nat) (a1 : Int32) (a2 : Int32) (a3 : Int32) (a4 : Int32) (a5 : Int32) (dy : DY) : F_X2_setTest S N a0 a1 a2 a3 a4 a5 dy = (if (16 : Int32) ≤ (gi dy a0 0) then some dy else (if a1 < 0 then some dy else (if (4 : Int32) ≤ a1 then some dy else (if a2 < 0 then some dy else (if (11 : Int32) ≤ a2 then some dy else if ib (((gi dy a0 0) * (4 : Int32)) + a1) 64 then bd (si dy (gr S a0 3) (((gi dy a0 0) * (4 : Int32)) + a1).toNatClampNeg a2) fun dy2 => if ib (((gi dy a0 0) * (4 : Int32)) + a1) 64 then bd (si dy2 (gr S a0 4) (((gi dy a0 0) * (4 : Int32)) + a1).toNatClampNeg a3) fun dy4 => if ib (((gi dy a0 0) * (4 : Int32)) + a1) 64 then bd (si dy4 (gr S a0 5) (((gi dy a0 0) * (4 : Int32)) + a1).toNatClampNeg a4) fun dy6 => if ib (((gi dy a0 0) * (4 : Int32)) + a1) 64 then bd (si dy6 (gr S a0 6) (((gi dy a0 0) * (4 : Int32)) + a1).toNatClampNeg a5) fun dy8 => some dy8 else none else none else none else none))))) := rfl
theorem dX2_holds_0 : decode cX2_holds 0 = .ok (.iconst 0, 1) := by decide +kernel
theorem dX2_holds_1 : decode cX2_holds 1 = .ok (.istore_n 3, 1) := by decide +kernel
theorem dX2_holds_2 : decode cX2_holds 2 = .ok (.iload_n 3, 1) := by decide +kernel
theorem dX2_holds_3 : decode cX2_holds 3 = .ok (.aload_n 0, 1) := by decide +kernel
theorem dX2_holds_4 : decode cX2_holds 4 = .ok (.getfield 15, 3) := by decide +kernel
theorem dX2_holds_7 : decode cX2_holds 7 = .ok (.iload_n 1, 1) := by decide +kernel
theorem dX2_holds_8 : decode cX2_holds 8 = .ok (.iaload, 1) := by decide +kernel
theorem dX2_holds_9 : decode cX2_holds 9 = .ok (.if_icmp .ge 154, 3) := by decide +kernel
theorem dX2_holds_12 : decode cX2_holds 12 = .ok (.iload_n 1, 1) := by decide +kernel
theorem dX2_holds_13 : decode cX2_holds 13 = .ok (.iconst 4, 1) := by decide +kernel
theorem dX2_holds_14 : decode cX2_holds 14 = .ok (.imul, 1) := by decide +kernel
theorem dX2_holds_15 : decode cX2_holds 15 = .ok (.iload_n 3, 1) := by decide +kernel
theorem dX2_holds_16 : decode cX2_holds 16 = .ok (.iadd, 1) := by decide +kernel
theorem dX2_holds_17 : decode cX2_holds 17 = .ok (.istore 4, 2) := by decide +kernel
theorem dX2_holds_19 : decode cX2_holds 19 = .ok (.aload_n 0, 1) := by decide +kernel
theorem dX2_holds_20 : decode cX2_holds 20 = .ok (.getfield 18, 3) := by decide +kernel
theorem dX2_holds_23 : decode cX2_holds 23 = .ok (.iload 4, 2) := by decide +kernel
theorem dX2_holds_25 : decode cX2_holds 25 = .ok (.iaload, 1) := by decide +kernel
theorem dX2_holds_26 : decode cX2_holds 26 = .ok (.aload_n 2, 1) := by decide +kernel
theorem dX2_holds_27 : decode cX2_holds 27 = .ok (.arraylength, 1) := by decide +kernel
theorem dX2_holds_28 : decode cX2_holds 28 = .ok (.if_icmp .ge 15, 3) := by decide +kernel
theorem dX2_holds_31 : decode cX2_holds 31 = .ok (.aload_n 2, 1) := by decide +kernel
theorem dX2_holds_32 : decode cX2_holds 32 = .ok (.aload_n 0, 1) := by decide +kernel
theorem dX2_holds_33 : decode cX2_holds 33 = .ok (.getfield 18, 3) := by decide +kernel
theorem dX2_holds_36 : decode cX2_holds 36 = .ok (.iload 4, 2) := by decide +kernel
theorem dX2_holds_38 : decode cX2_holds 38 = .ok (.iaload, 1) := by decide +kernel
theorem dX2_holds_39 : decode cX2_holds 39 = .ok (.iaload, 1) := by decide +kernel
theorem dX2_holds_40 : decode cX2_holds 40 = .ok (.goto 4, 3) := by decide +kernel
theorem dX2_holds_43 : decode cX2_holds 43 = .ok (.iconst 0, 1) := by decide +kernel
theorem dX2_holds_44 : decode cX2_holds 44 = .ok (.istore 5, 2) := by decide +kernel
theorem dX2_holds_46 : decode cX2_holds 46 = .ok (.aload_n 0, 1) := by decide +kernel
theorem dX2_holds_47 : decode cX2_holds 47 = .ok (.getfield 21, 3) := by decide +kernel
theorem dX2_holds_50 : decode cX2_holds 50 = .ok (.iload 4, 2) := by decide +kernel
theorem dX2_holds_52 : decode cX2_holds 52 = .ok (.iaload, 1) := by decide +kernel
theorem dX2_holds_53 : decode cX2_holds 53 = .ok (.lookupswitch 71 #[(0, 27), (1, 49)], 27) := by decide +kernel
theorem dX2_holds_80 : decode cX2_holds 80 = .ok (.iload 5, 2) := by decide +kernel
theorem dX2_holds_82 : decode cX2_holds 82 = .ok (.aload_n 0, 1) := by decide +kernel
theorem dX2_holds_83 : decode cX2_holds 83 = .ok (.getfield 24, 3) := by decide +kernel
theorem dX2_holds_86 : decode cX2_holds 86 = .ok (.iload 4, 2) := by decide +kernel
theorem dX2_holds_88 : decode cX2_holds 88 = .ok (.iaload, 1) := by decide +kernel
theorem dX2_holds_89 : decode cX2_holds 89 = .ok (.if_icmp .ge 7, 3) := by decide +kernel
theorem dX2_holds_92 : decode cX2_holds 92 = .ok (.iconst 1, 1) := by decide +kernel
theorem dX2_holds_93 : decode cX2_holds 93 = .ok (.goto 4, 3) := by decide +kernel
theorem dX2_holds_96 : decode cX2_holds 96 = .ok (.iconst 0, 1) := by decide +kernel
theorem dX2_holds_97 : decode cX2_holds 97 = .ok (.istore 6, 2) := by decide +kernel
theorem dX2_holds_99 : decode cX2_holds 99 = .ok (.goto 44, 3) := by decide +kernel
theorem dX2_holds_102 : decode cX2_holds 102 = .ok (.iload 5, 2) := by decide +kernel
theorem dX2_holds_104 : decode cX2_holds 104 = .ok (.aload_n 0, 1) := by decide +kernel
theorem dX2_holds_105 : decode cX2_holds 105 = .ok (.getfield 24, 3) := by decide +kernel
theorem dX2_holds_108 : decode cX2_holds 108 = .ok (.iload 4, 2) := by decide +kernel
theorem dX2_holds_110 : decode cX2_holds 110 = .ok (.iaload, 1) := by decide +kernel
theorem dX2_holds_111 : decode cX2_holds 111 = .ok (.if_icmp .le 7, 3) := by decide +kernel
theorem dX2_holds_114 : decode cX2_holds 114 = .ok (.iconst 1, 1) := by decide +kernel
theorem dX2_holds_115 : decode cX2_holds 115 = .ok (.goto 4, 3) := by decide +kernel
theorem dX2_holds_118 : decode cX2_holds 118 = .ok (.iconst 0, 1) := by decide +kernel
theorem dX2_holds_119 : decode cX2_holds 119 = .ok (.istore 6, 2) := by decide +kernel
theorem dX2_holds_121 : decode cX2_holds 121 = .ok (.goto 22, 3) := by decide +kernel
theorem dX2_holds_124 : decode cX2_holds 124 = .ok (.iload 5, 2) := by decide +kernel
theorem dX2_holds_126 : decode cX2_holds 126 = .ok (.aload_n 0, 1) := by decide +kernel
theorem dX2_holds_127 : decode cX2_holds 127 = .ok (.getfield 24, 3) := by decide +kernel
theorem dX2_holds_130 : decode cX2_holds 130 = .ok (.iload 4, 2) := by decide +kernel
theorem dX2_holds_132 : decode cX2_holds 132 = .ok (.iaload, 1) := by decide +kernel
theorem dX2_holds_133 : decode cX2_holds 133 = .ok (.if_icmp .ne 7, 3) := by decide +kernel
theorem dX2_holds_136 : decode cX2_holds 136 = .ok (.iconst 1, 1) := by decide +kernel
theorem dX2_holds_137 : decode cX2_holds 137 = .ok (.goto 4, 3) := by decide +kernel
theorem dX2_holds_140 : decode cX2_holds 140 = .ok (.iconst 0, 1) := by decide +kernel
theorem dX2_holds_141 : decode cX2_holds 141 = .ok (.istore 6, 2) := by decide +kernel
theorem dX2_holds_143 : decode cX2_holds 143 = .ok (.iload 6, 2) := by decide +kernel
theorem dX2_holds_145 : decode cX2_holds 145 = .ok (.aload_n 0, 1) := by decide +kernel
theorem dX2_holds_146 : decode cX2_holds 146 = .ok (.getfield 27, 3) := by decide +kernel
theorem dX2_holds_149 : decode cX2_holds 149 = .ok (.iload 4, 2) := by decide +kernel
theorem dX2_holds_151 : decode cX2_holds 151 = .ok (.baload, 1) := by decide +kernel
theorem dX2_holds_152 : decode cX2_holds 152 = .ok (.if_icmp .ne 5, 3) := by decide +kernel
theorem dX2_holds_155 : decode cX2_holds 155 = .ok (.iconst 0, 1) := by decide +kernel
theorem dX2_holds_156 : decode cX2_holds 156 = .ok (.ireturn, 1) := by decide +kernel
theorem dX2_holds_157 : decode cX2_holds 157 = .ok (.iinc 3 1, 3) := by decide +kernel
theorem dX2_holds_160 : decode cX2_holds 160 = .ok (.goto (-158), 3) := by decide +kernel
theorem dX2_holds_163 : decode cX2_holds 163 = .ok (.iconst 1, 1) := by decide +kernel
theorem dX2_holds_164 : decode cX2_holds 164 = .ok (.ireturn, 1) := by decide +kernel
theorem dX2_deedFor_0 : decode cX2_deedFor 0 = .ok (.iconst 0, 1) := by decide +kernel
theorem dX2_deedFor_1 : decode cX2_deedFor 1 = .ok (.istore_n 2, 1) := by decide +kernel
theorem dX2_deedFor_2 : decode cX2_deedFor 2 = .ok (.iload_n 2, 1) := by decide +kernel
theorem dX2_deedFor_3 : decode cX2_deedFor 3 = .ok (.aload_n 0, 1) := by decide +kernel
theorem dX2_deedFor_4 : decode cX2_deedFor 4 = .ok (.getfield 31, 3) := by decide +kernel
theorem dX2_deedFor_7 : decode cX2_deedFor 7 = .ok (.if_icmp .ge 25, 3) := by decide +kernel
theorem dX2_deedFor_10 : decode cX2_deedFor 10 = .ok (.aload_n 0, 1) := by decide +kernel
theorem dX2_deedFor_11 : decode cX2_deedFor 11 = .ok (.iload_n 2, 1) := by decide +kernel
theorem dX2_deedFor_12 : decode cX2_deedFor 12 = .ok (.aload_n 1, 1) := by decide +kernel
theorem dX2_deedFor_13 : decode cX2_deedFor 13 = .ok (.invokevirtual 50, 3) := by decide +kernel
theorem dX2_deedFor_16 : decode cX2_deedFor 16 = .ok (.ifCond .eq 10, 3) := by decide +kernel
theorem dX2_deedFor_19 : decode cX2_deedFor 19 = .ok (.aload_n 0, 1) := by decide +kernel
theorem dX2_deedFor_20 : decode cX2_deedFor 20 = .ok (.getfield 9, 3) := by decide +kernel
theorem dX2_deedFor_23 : decode cX2_deedFor 23 = .ok (.iload_n 2, 1) := by decide +kernel
theorem dX2_deedFor_24 : decode cX2_deedFor 24 = .ok (.iaload, 1) := by decide +kernel
theorem dX2_deedFor_25 : decode cX2_deedFor 25 = .ok (.ireturn, 1) := by decide +kernel
theorem dX2_deedFor_26 : decode cX2_deedFor 26 = .ok (.iinc 2 1, 3) := by decide +kernel
theorem dX2_deedFor_29 : decode cX2_deedFor 29 = .ok (.goto (-27), 3) := by decide +kernel
theorem dX2_deedFor_32 : decode cX2_deedFor 32 = .ok (.iconst 5, 1) := by decide +kernel
theorem dX2_deedFor_33 : decode cX2_deedFor 33 = .ok (.ireturn, 1) := by decide +kernel
theorem dX2_weighs_0 : decode cX2_weighs 0 = .ok (.iconst 0, 1) := by decide +kernel
theorem dX2_weighs_1 : decode cX2_weighs 1 = .ok (.istore_n 2, 1) := by decide +kernel
theorem dX2_weighs_2 : decode cX2_weighs 2 = .ok (.iload_n 2, 1) := by decide +kernel
theorem dX2_weighs_3 : decode cX2_weighs 3 = .ok (.aload_n 0, 1) := by decide +kernel
theorem dX2_weighs_4 : decode cX2_weighs 4 = .ok (.getfield 31, 3) := by decide +kernel
theorem dX2_weighs_7 : decode cX2_weighs 7 = .ok (.if_icmp .ge 43, 3) := by decide +kernel
theorem dX2_weighs_10 : decode cX2_weighs 10 = .ok (.iconst 0, 1) := by decide +kernel
theorem dX2_weighs_11 : decode cX2_weighs 11 = .ok (.istore_n 3, 1) := by decide +kernel
theorem dX2_weighs_12 : decode cX2_weighs 12 = .ok (.iload_n 3, 1) := by decide +kernel
theorem dX2_weighs_13 : decode cX2_weighs 13 = .ok (.aload_n 0, 1) := by decide +kernel
theorem dX2_weighs_14 : decode cX2_weighs 14 = .ok (.getfield 15, 3) := by decide +kernel
theorem dX2_weighs_17 : decode cX2_weighs 17 = .ok (.iload_n 2, 1) := by decide +kernel
theorem dX2_weighs_18 : decode cX2_weighs 18 = .ok (.iaload, 1) := by decide +kernel
theorem dX2_weighs_19 : decode cX2_weighs 19 = .ok (.if_icmp .ge 25, 3) := by decide +kernel
theorem dX2_weighs_22 : decode cX2_weighs 22 = .ok (.aload_n 0, 1) := by decide +kernel
theorem dX2_weighs_23 : decode cX2_weighs 23 = .ok (.getfield 18, 3) := by decide +kernel
theorem dX2_weighs_26 : decode cX2_weighs 26 = .ok (.iload_n 2, 1) := by decide +kernel
theorem dX2_weighs_27 : decode cX2_weighs 27 = .ok (.iconst 4, 1) := by decide +kernel
theorem dX2_weighs_28 : decode cX2_weighs 28 = .ok (.imul, 1) := by decide +kernel
theorem dX2_weighs_29 : decode cX2_weighs 29 = .ok (.iload_n 3, 1) := by decide +kernel
theorem dX2_weighs_30 : decode cX2_weighs 30 = .ok (.iadd, 1) := by decide +kernel
theorem dX2_weighs_31 : decode cX2_weighs 31 = .ok (.iaload, 1) := by decide +kernel
theorem dX2_weighs_32 : decode cX2_weighs 32 = .ok (.iload_n 1, 1) := by decide +kernel
theorem dX2_weighs_33 : decode cX2_weighs 33 = .ok (.if_icmp .ne 5, 3) := by decide +kernel
theorem dX2_weighs_36 : decode cX2_weighs 36 = .ok (.iconst 1, 1) := by decide +kernel
theorem dX2_weighs_37 : decode cX2_weighs 37 = .ok (.ireturn, 1) := by decide +kernel
theorem dX2_weighs_38 : decode cX2_weighs 38 = .ok (.iinc 3 1, 3) := by decide +kernel
theorem dX2_weighs_41 : decode cX2_weighs 41 = .ok (.goto (-29), 3) := by decide +kernel
theorem dX2_weighs_44 : decode cX2_weighs 44 = .ok (.iinc 2 1, 3) := by decide +kernel
theorem dX2_weighs_47 : decode cX2_weighs 47 = .ok (.goto (-45), 3) := by decide +kernel
theorem dX2_weighs_50 : decode cX2_weighs 50 = .ok (.iconst 0, 1) := by decide +kernel
theorem dX2_weighs_51 : decode cX2_weighs 51 = .ok (.ireturn, 1) := by decide +kernel
theorem dX2_addRule_0 : decode cX2_addRule 0 = .ok (.aload_n 0, 1) := by decide +kernel
theorem dX2_addRule_1 : decode cX2_addRule 1 = .ok (.getfield 31, 3) := by decide +kernel
theorem dX2_addRule_4 : decode cX2_addRule 4 = .ok (.bipush 16, 2) := by decide +kernel
theorem dX2_addRule_6 : decode cX2_addRule 6 = .ok (.if_icmp .ge 41, 3) := by decide +kernel
theorem dX2_addRule_9 : decode cX2_addRule 9 = .ok (.aload_n 0, 1) := by decide +kernel
theorem dX2_addRule_10 : decode cX2_addRule 10 = .ok (.getfield 9, 3) := by decide +kernel
theorem dX2_addRule_13 : decode cX2_addRule 13 = .ok (.aload_n 0, 1) := by decide +kernel
theorem dX2_addRule_14 : decode cX2_addRule 14 = .ok (.getfield 31, 3) := by decide +kernel
theorem dX2_addRule_17 : decode cX2_addRule 17 = .ok (.iload_n 1, 1) := by decide +kernel
theorem dX2_addRule_18 : decode cX2_addRule 18 = .ok (.iastore, 1) := by decide +kernel
theorem dX2_addRule_19 : decode cX2_addRule 19 = .ok (.aload_n 0, 1) := by decide +kernel
theorem dX2_addRule_20 : decode cX2_addRule 20 = .ok (.getfield 15, 3) := by decide +kernel
theorem dX2_addRule_23 : decode cX2_addRule 23 = .ok (.aload_n 0, 1) := by decide +kernel
theorem dX2_addRule_24 : decode cX2_addRule 24 = .ok (.getfield 31, 3) := by decide +kernel
theorem dX2_addRule_27 : decode cX2_addRule 27 = .ok (.iconst 0, 1) := by decide +kernel
theorem dX2_addRule_28 : decode cX2_addRule 28 = .ok (.iload_n 2, 1) := by decide +kernel
theorem dX2_addRule_29 : decode cX2_addRule 29 = .ok (.iconst 4, 1) := by decide +kernel
theorem dX2_addRule_30 : decode cX2_addRule 30 = .ok (.invokestatic 41, 3) := by decide +kernel
theorem dX2_addRule_33 : decode cX2_addRule 33 = .ok (.invokestatic 47, 3) := by decide +kernel
theorem dX2_addRule_36 : decode cX2_addRule 36 = .ok (.iastore, 1) := by decide +kernel
theorem dX2_addRule_37 : decode cX2_addRule 37 = .ok (.aload_n 0, 1) := by decide +kernel
theorem dX2_addRule_38 : decode cX2_addRule 38 = .ok (.dup, 1) := by decide +kernel
theorem dX2_addRule_39 : decode cX2_addRule 39 = .ok (.getfield 31, 3) := by decide +kernel
theorem dX2_addRule_42 : decode cX2_addRule 42 = .ok (.iconst 1, 1) := by decide +kernel
theorem dX2_addRule_43 : decode cX2_addRule 43 = .ok (.iadd, 1) := by decide +kernel
theorem dX2_addRule_44 : decode cX2_addRule 44 = .ok (.putfield 31, 3) := by decide +kernel
theorem dX2_addRule_47 : decode cX2_addRule 47 = .ok (.return_, 1) := by decide +kernel
theorem dX2_copyFrom_0 : decode cX2_copyFrom 0 = .ok (.aload_n 0, 1) := by decide +kernel
theorem dX2_copyFrom_1 : decode cX2_copyFrom 1 = .ok (.aload_n 1, 1) := by decide +kernel
theorem dX2_copyFrom_2 : decode cX2_copyFrom 2 = .ok (.getfield 31, 3) := by decide +kernel
theorem dX2_copyFrom_5 : decode cX2_copyFrom 5 = .ok (.putfield 31, 3) := by decide +kernel
theorem dX2_copyFrom_8 : decode cX2_copyFrom 8 = .ok (.aload_n 1, 1) := by decide +kernel
theorem dX2_copyFrom_9 : decode cX2_copyFrom 9 = .ok (.getfield 9, 3) := by decide +kernel
theorem dX2_copyFrom_12 : decode cX2_copyFrom 12 = .ok (.iconst 0, 1) := by decide +kernel
theorem dX2_copyFrom_13 : decode cX2_copyFrom 13 = .ok (.aload_n 0, 1) := by decide +kernel
theorem dX2_copyFrom_14 : decode cX2_copyFrom 14 = .ok (.getfield 9, 3) := by decide +kernel
theorem dX2_copyFrom_17 : decode cX2_copyFrom 17 = .ok (.iconst 0, 1) := by decide +kernel
theorem dX2_copyFrom_18 : decode cX2_copyFrom 18 = .ok (.bipush 16, 2) := by decide +kernel
theorem dX2_copyFrom_20 : decode cX2_copyFrom 20 = .ok (.invokestatic 35, 3) := by decide +kernel
theorem dX2_copyFrom_23 : decode cX2_copyFrom 23 = .ok (.aload_n 1, 1) := by decide +kernel
theorem dX2_copyFrom_24 : decode cX2_copyFrom 24 = .ok (.getfield 15, 3) := by decide +kernel
theorem dX2_copyFrom_27 : decode cX2_copyFrom 27 = .ok (.iconst 0, 1) := by decide +kernel
theorem dX2_copyFrom_28 : decode cX2_copyFrom 28 = .ok (.aload_n 0, 1) := by decide +kernel
theorem dX2_copyFrom_29 : decode cX2_copyFrom 29 = .ok (.getfield 15, 3) := by decide +kernel
theorem dX2_copyFrom_32 : decode cX2_copyFrom 32 = .ok (.iconst 0, 1) := by decide +kernel
theorem dX2_copyFrom_33 : decode cX2_copyFrom 33 = .ok (.bipush 16, 2) := by decide +kernel
theorem dX2_copyFrom_35 : decode cX2_copyFrom 35 = .ok (.invokestatic 35, 3) := by decide +kernel
theorem dX2_copyFrom_38 : decode cX2_copyFrom 38 = .ok (.aload_n 1, 1) := by decide +kernel
theorem dX2_copyFrom_39 : decode cX2_copyFrom 39 = .ok (.getfield 18, 3) := by decide +kernel
theorem dX2_copyFrom_42 : decode cX2_copyFrom 42 = .ok (.iconst 0, 1) := by decide +kernel
theorem dX2_copyFrom_43 : decode cX2_copyFrom 43 = .ok (.aload_n 0, 1) := by decide +kernel
theorem dX2_copyFrom_44 : decode cX2_copyFrom 44 = .ok (.getfield 18, 3) := by decide +kernel
theorem dX2_copyFrom_47 : decode cX2_copyFrom 47 = .ok (.iconst 0, 1) := by decide +kernel
theorem dX2_copyFrom_48 : decode cX2_copyFrom 48 = .ok (.bipush 64, 2) := by decide +kernel
theorem dX2_copyFrom_50 : decode cX2_copyFrom 50 = .ok (.invokestatic 35, 3) := by decide +kernel
theorem dX2_copyFrom_53 : decode cX2_copyFrom 53 = .ok (.aload_n 1, 1) := by decide +kernel
theorem dX2_copyFrom_54 : decode cX2_copyFrom 54 = .ok (.getfield 21, 3) := by decide +kernel
theorem dX2_copyFrom_57 : decode cX2_copyFrom 57 = .ok (.iconst 0, 1) := by decide +kernel
theorem dX2_copyFrom_58 : decode cX2_copyFrom 58 = .ok (.aload_n 0, 1) := by decide +kernel
theorem dX2_copyFrom_59 : decode cX2_copyFrom 59 = .ok (.getfield 21, 3) := by decide +kernel
theorem dX2_copyFrom_62 : decode cX2_copyFrom 62 = .ok (.iconst 0, 1) := by decide +kernel
theorem dX2_copyFrom_63 : decode cX2_copyFrom 63 = .ok (.bipush 64, 2) := by decide +kernel
theorem dX2_copyFrom_65 : decode cX2_copyFrom 65 = .ok (.invokestatic 35, 3) := by decide +kernel
theorem dX2_copyFrom_68 : decode cX2_copyFrom 68 = .ok (.aload_n 1, 1) := by decide +kernel
theorem dX2_copyFrom_69 : decode cX2_copyFrom 69 = .ok (.getfield 24, 3) := by decide +kernel
theorem dX2_copyFrom_72 : decode cX2_copyFrom 72 = .ok (.iconst 0, 1) := by decide +kernel
theorem dX2_copyFrom_73 : decode cX2_copyFrom 73 = .ok (.aload_n 0, 1) := by decide +kernel
theorem dX2_copyFrom_74 : decode cX2_copyFrom 74 = .ok (.getfield 24, 3) := by decide +kernel
theorem dX2_copyFrom_77 : decode cX2_copyFrom 77 = .ok (.iconst 0, 1) := by decide +kernel
theorem dX2_copyFrom_78 : decode cX2_copyFrom 78 = .ok (.bipush 64, 2) := by decide +kernel
theorem dX2_copyFrom_80 : decode cX2_copyFrom 80 = .ok (.invokestatic 35, 3) := by decide +kernel
theorem dX2_copyFrom_83 : decode cX2_copyFrom 83 = .ok (.aload_n 1, 1) := by decide +kernel
theorem dX2_copyFrom_84 : decode cX2_copyFrom 84 = .ok (.getfield 27, 3) := by decide +kernel
theorem dX2_copyFrom_87 : decode cX2_copyFrom 87 = .ok (.iconst 0, 1) := by decide +kernel
theorem dX2_copyFrom_88 : decode cX2_copyFrom 88 = .ok (.aload_n 0, 1) := by decide +kernel
theorem dX2_copyFrom_89 : decode cX2_copyFrom 89 = .ok (.getfield 27, 3) := by decide +kernel
theorem dX2_copyFrom_92 : decode cX2_copyFrom 92 = .ok (.iconst 0, 1) := by decide +kernel
theorem dX2_copyFrom_93 : decode cX2_copyFrom 93 = .ok (.bipush 64, 2) := by decide +kernel
theorem dX2_copyFrom_95 : decode cX2_copyFrom 95 = .ok (.invokestatic 35, 3) := by decide +kernel
theorem dX2_copyFrom_98 : decode cX2_copyFrom 98 = .ok (.return_, 1) := by decide +kernel
theorem dX2_setTest_0 : decode cX2_setTest 0 = .ok (.aload_n 0, 1) := by decide +kernel
theorem dX2_setTest_1 : decode cX2_setTest 1 = .ok (.getfield 31, 3) := by decide +kernel
theorem dX2_setTest_4 : decode cX2_setTest 4 = .ok (.bipush 16, 2) := by decide +kernel
theorem dX2_setTest_6 : decode cX2_setTest 6 = .ok (.if_icmp .ge 66, 3) := by decide +kernel
theorem dX2_setTest_9 : decode cX2_setTest 9 = .ok (.iload_n 1, 1) := by decide +kernel
theorem dX2_setTest_10 : decode cX2_setTest 10 = .ok (.ifCond .lt 62, 3) := by decide +kernel
theorem dX2_setTest_13 : decode cX2_setTest 13 = .ok (.iload_n 1, 1) := by decide +kernel
theorem dX2_setTest_14 : decode cX2_setTest 14 = .ok (.iconst 4, 1) := by decide +kernel
theorem dX2_setTest_15 : decode cX2_setTest 15 = .ok (.if_icmp .ge 57, 3) := by decide +kernel
theorem dX2_setTest_18 : decode cX2_setTest 18 = .ok (.iload_n 2, 1) := by decide +kernel
theorem dX2_setTest_19 : decode cX2_setTest 19 = .ok (.ifCond .lt 53, 3) := by decide +kernel
theorem dX2_setTest_22 : decode cX2_setTest 22 = .ok (.iload_n 2, 1) := by decide +kernel
theorem dX2_setTest_23 : decode cX2_setTest 23 = .ok (.bipush 11, 2) := by decide +kernel
theorem dX2_setTest_25 : decode cX2_setTest 25 = .ok (.if_icmp .ge 47, 3) := by decide +kernel
theorem dX2_setTest_28 : decode cX2_setTest 28 = .ok (.aload_n 0, 1) := by decide +kernel
theorem dX2_setTest_29 : decode cX2_setTest 29 = .ok (.getfield 31, 3) := by decide +kernel
theorem dX2_setTest_32 : decode cX2_setTest 32 = .ok (.iconst 4, 1) := by decide +kernel
theorem dX2_setTest_33 : decode cX2_setTest 33 = .ok (.imul, 1) := by decide +kernel
theorem dX2_setTest_34 : decode cX2_setTest 34 = .ok (.iload_n 1, 1) := by decide +kernel
theorem dX2_setTest_35 : decode cX2_setTest 35 = .ok (.iadd, 1) := by decide +kernel
theorem dX2_setTest_36 : decode cX2_setTest 36 = .ok (.istore 6, 2) := by decide +kernel
theorem dX2_setTest_38 : decode cX2_setTest 38 = .ok (.aload_n 0, 1) := by decide +kernel
theorem dX2_setTest_39 : decode cX2_setTest 39 = .ok (.getfield 18, 3) := by decide +kernel
theorem dX2_setTest_42 : decode cX2_setTest 42 = .ok (.iload 6, 2) := by decide +kernel
theorem dX2_setTest_44 : decode cX2_setTest 44 = .ok (.iload_n 2, 1) := by decide +kernel
theorem dX2_setTest_45 : decode cX2_setTest 45 = .ok (.iastore, 1) := by decide +kernel
theorem dX2_setTest_46 : decode cX2_setTest 46 = .ok (.aload_n 0, 1) := by decide +kernel
theorem dX2_setTest_47 : decode cX2_setTest 47 = .ok (.getfield 21, 3) := by decide +kernel
theorem dX2_setTest_50 : decode cX2_setTest 50 = .ok (.iload 6, 2) := by decide +kernel
theorem dX2_setTest_52 : decode cX2_setTest 52 = .ok (.iload_n 3, 1) := by decide +kernel
theorem dX2_setTest_53 : decode cX2_setTest 53 = .ok (.iastore, 1) := by decide +kernel
theorem dX2_setTest_54 : decode cX2_setTest 54 = .ok (.aload_n 0, 1) := by decide +kernel
theorem dX2_setTest_55 : decode cX2_setTest 55 = .ok (.getfield 24, 3) := by decide +kernel
theorem dX2_setTest_58 : decode cX2_setTest 58 = .ok (.iload 6, 2) := by decide +kernel
theorem dX2_setTest_60 : decode cX2_setTest 60 = .ok (.iload 4, 2) := by decide +kernel
theorem dX2_setTest_62 : decode cX2_setTest 62 = .ok (.iastore, 1) := by decide +kernel
theorem dX2_setTest_63 : decode cX2_setTest 63 = .ok (.aload_n 0, 1) := by decide +kernel
theorem dX2_setTest_64 : decode cX2_setTest 64 = .ok (.getfield 27, 3) := by decide +kernel
theorem dX2_setTest_67 : decode cX2_setTest 67 = .ok (.iload 6, 2) := by decide +kernel
theorem dX2_setTest_69 : decode cX2_setTest 69 = .ok (.iload 5, 2) := by decide +kernel
theorem dX2_setTest_71 : decode cX2_setTest 71 = .ok (.bastore, 1) := by decide +kernel
theorem dX2_setTest_72 : decode cX2_setTest 72 = .ok (.return_, 1) := by decide +kernel
section P_X2_holds
variable {p : Program} {l : Launch} {e : Env} {s : State} {m : MethodId} {args : Array Value} {below : List Frame} {meth : Method} {c : Code} {G : GG} {A : Nat → Prop} {ad : Nat → Nat} {S : ST} {N : Nat} {r : Int32} {dy' : DY} {n1 : Nat}
set_option maxHeartbeats 4000000 in
set_option maxRecDepth 100000 in
theorem B_X2_holds_143 (C : CX p s m args c cX2_holds 7 RX2 G A) (HR : meth.sig.returnType = (Option.some Jvm.ClassFile.FieldType.boolean)) (HL : meth.locks = false) (hG : Good S) {K2 : Nat → Int32 → Nat → Int32 → DY → Option (Int32 × DY)} (hK2 : ∀ (x0 : Nat) (x1 : Int32) (x2 : Nat) (x3 : Int32) (dy : DY), gs S x0 = (0, 2) → gs S x2 = (1, n1) → K2 x0 x1 x2 x3 dy = some (r, dy') → WJ p l e (rmD (1)) s m args below meth c 7 G A 0 0 (MQ below (QI G ad A S r dy') args s 0 0 A) ad 2 [(0, .ref (ad x0)), (1, .int x1), (2, .ref (ad x2)), (3, .int x3)] [] S dy) : ∀ (x0 : Nat) (x1 : Int32) (x2 : Nat) (x3 : Int32) (x4 : Int32) (x6 : Int32) (dy : DY), gs S x0 = (0, 2) → gs S x2 = (1, n1) → F_X2_holds_143 S N n1 K2 x0 x1 x2 x3 x4 x6 dy = some (r, dy') → WJ p l e (rmD (1)) s m args below meth c 7 G A 0 0 (MQ below (QI G ad A S r dy') args s 0 0 A) ad 143 [(0, .ref (ad x0)), (1, .int x1), (2, .ref (ad x2)), (3, .int x3), (4, .int x4), (6, .int x6)] [] S dy := by
  intro x0 x1 x2 x3 x4 x6 dy Tx0 Tx2 E
  rw [F_X2_holds_143_s] at E
  refine ww_iload C dX2_holds_143 5 rfl ?_
  refine ww_aload_n C dX2_holds_145 rfl 0 rfl ?_
  have T_1 : gs S (gr S x0 6) = (3, 64) := hG.1 _ 2 Tx0 6 (by decide)
  refine ww_getr (ci := 2) (k0 := 6) C dX2_holds_146 rfl rfl inm2 (by decide) Tx0 q239 rfl T_1 (by decide) ?_
  refine ww_iload C dX2_holds_149 4 rfl ?_
  refine ww_zald C dX2_holds_151 T_1 E (fun _ E => ?_)
  refine ww_icmp_ne (tgt := 157) C dX2_holds_152 (by decide) E (fun _ E => ?_) (fun _ E => ?_)
  · refine ww_iinc (v := (x3 + (1 : Int32))) (lv' := [(3, .int (x3 + (1 : Int32))), (0, .ref (ad x0)), (1, .int x1), (2, .ref (ad x2)), (4, .int x4), (6, .int x6)]) C dX2_holds_157 3 rfl rfl (by decide) rfl ?_
    refine ww_goto (tgt := 2) C dX2_holds_160 (by decide) ?_
    refine ww_sub (lv' := [(0, .ref (ad x0)), (1, .int x1), (2, .ref (ad x2)), (3, .int (x3 + (1 : Int32)))]) [1, 2, 3, 0] rfl ?_
    exact hK2 x0 x1 x2 (x3 + (1 : Int32)) dy Tx0 Tx2 E
  · refine ww_iconst (v := 0) C dX2_holds_155 (by decide) ?_
    exact ww_zret C HR HL dX2_holds_156 (Or.inl rfl) E
set_option maxHeartbeats 4000000 in
set_option maxRecDepth 100000 in
theorem B_X2_holds_44 (C : CX p s m args c cX2_holds 7 RX2 G A) (HR : meth.sig.returnType = (Option.some Jvm.ClassFile.FieldType.boolean)) (HL : meth.locks = false) (hG : Good S) {K2 : Nat → Int32 → Nat → Int32 → DY → Option (Int32 × DY)} (hK2 : ∀ (x0 : Nat) (x1 : Int32) (x2 : Nat) (x3 : Int32) (dy : DY), gs S x0 = (0, 2) → gs S x2 = (1, n1) → K2 x0 x1 x2 x3 dy = some (r, dy') → WJ p l e (rmD (1)) s m args below meth c 7 G A 0 0 (MQ below (QI G ad A S r dy') args s 0 0 A) ad 2 [(0, .ref (ad x0)), (1, .int x1), (2, .ref (ad x2)), (3, .int x3)] [] S dy) : ∀ (x0 : Nat) (x1 : Int32) (x2 : Nat) (x3 : Int32) (x4 : Int32) (y0 : Int32) (dy : DY), gs S x0 = (0, 2) → gs S x2 = (1, n1) → F_X2_holds_44 S N n1 K2 x0 x1 x2 x3 x4 y0 dy = some (r, dy') → WJ p l e (rmD (1)) s m args below meth c 7 G A 0 0 (MQ below (QI G ad A S r dy') args s 0 0 A) ad 44 [(0, .ref (ad x0)), (1, .int x1), (2, .ref (ad x2)), (3, .int x3), (4, .int x4)] [.int y0] S dy := by
  intro x0 x1 x2 x3 x4 y0 dy Tx0 Tx2 E
  rw [F_X2_holds_44_s] at E
  refine ww_istore (lv' := [(5, .int y0), (0, .ref (ad x0)), (1, .int x1), (2, .ref (ad x2)), (3, .int x3), (4, .int x4)]) C dX2_holds_44 (by decide) rfl ?_
  refine ww_aload_n C dX2_holds_46 rfl 1 rfl ?_
  have T_1 : gs S (gr S x0 4) = (1, 64) := hG.1 _ 2 Tx0 4 (by decide)
  refine ww_getr (ci := 2) (k0 := 4) C dX2_holds_47 rfl rfl inm2 (by decide) Tx0 q237 rfl T_1 (by decide) ?_
  refine ww_iload C dX2_holds_50 5 rfl ?_
  refine ww_iald C dX2_holds_52 T_1 E (fun _ E => ?_)
  by_cases s_2 : (gi dy (gr S x0 4) x4.toNatClampNeg) = (0 : Int32)
  · rw [if_pos s_2] at E
    refine ww_lookup (tgt := 80) C dX2_holds_53 (by decide) (by rw [s_2] <;> rfl) (by decide) ?_
    refine ww_iload C dX2_holds_80 0 rfl ?_
    refine ww_aload_n C dX2_holds_82 rfl 1 rfl ?_
    have T_3 : gs S (gr S x0 5) = (1, 64) := hG.1 _ 2 Tx0 5 (by decide)
    refine ww_getr (ci := 2) (k0 := 5) C dX2_holds_83 rfl rfl inm2 (by decide) Tx0 q238 rfl T_3 (by decide) ?_
    refine ww_iload C dX2_holds_86 5 rfl ?_
    refine ww_iald C dX2_holds_88 T_3 E (fun _ E => ?_)
    refine ww_icmp_ge (tgt := 96) C dX2_holds_89 (by decide) E (fun _ E => ?_) (fun _ E => ?_)
    · refine ww_iconst (v := 0) C dX2_holds_96 (by decide) ?_
      refine ww_istore (lv' := [(6, .int (0 : Int32)), (5, .int y0), (0, .ref (ad x0)), (1, .int x1), (2, .ref (ad x2)), (3, .int x3), (4, .int x4)]) C dX2_holds_97 (by decide) rfl ?_
      refine ww_goto (tgt := 143) C dX2_holds_99 (by decide) ?_
      refine ww_sub (lv' := [(0, .ref (ad x0)), (1, .int x1), (2, .ref (ad x2)), (3, .int x3), (4, .int x4), (6, .int (0 : Int32))]) [2, 3, 4, 5, 6, 0] rfl ?_
      exact (B_X2_holds_143 C HR HL hG hK2) x0 x1 x2 x3 x4 (0 : Int32) dy Tx0 Tx2 E
    · refine ww_iconst (v := 1) C dX2_holds_92 (by decide) ?_
      refine ww_goto (tgt := 97) C dX2_holds_93 (by decide) ?_
      refine ww_istore (lv' := [(6, .int (1 : Int32)), (5, .int y0), (0, .ref (ad x0)), (1, .int x1), (2, .ref (ad x2)), (3, .int x3), (4, .int x4)]) C dX2_holds_97 (by decide) rfl ?_
      refine ww_goto (tgt := 143) C dX2_holds_99 (by decide) ?_
      refine ww_sub (lv' := [(0, .ref (ad x0)), (1, .int x1), (2, .ref (ad x2)), (3, .int x3), (4, .int x4), (6, .int (1 : Int32))]) [2, 3, 4, 5, 6, 0] rfl ?_
      exact (B_X2_holds_143 C HR HL hG hK2) x0 x1 x2 x3 x4 (1 : Int32) dy Tx0 Tx2 E
  rw [if_neg s_2] at E
  by_cases s_4 : (gi dy (gr S x0 4) x4.toNatClampNeg) = (1 : Int32)
  · rw [if_pos s_4] at E
    refine ww_lookup (tgt := 102) C dX2_holds_53 (by decide) (by rw [s_4] <;> rfl) (by decide) ?_
    refine ww_iload C dX2_holds_102 0 rfl ?_
    refine ww_aload_n C dX2_holds_104 rfl 1 rfl ?_
    have T_5 : gs S (gr S x0 5) = (1, 64) := hG.1 _ 2 Tx0 5 (by decide)
    refine ww_getr (ci := 2) (k0 := 5) C dX2_holds_105 rfl rfl inm2 (by decide) Tx0 q238 rfl T_5 (by decide) ?_
    refine ww_iload C dX2_holds_108 5 rfl ?_
    refine ww_iald C dX2_holds_110 T_5 E (fun _ E => ?_)
    refine ww_icmp_le (tgt := 118) C dX2_holds_111 (by decide) E (fun _ E => ?_) (fun _ E => ?_)
    · refine ww_iconst (v := 0) C dX2_holds_118 (by decide) ?_
      refine ww_istore (lv' := [(6, .int (0 : Int32)), (5, .int y0), (0, .ref (ad x0)), (1, .int x1), (2, .ref (ad x2)), (3, .int x3), (4, .int x4)]) C dX2_holds_119 (by decide) rfl ?_
      refine ww_goto (tgt := 143) C dX2_holds_121 (by decide) ?_
      refine ww_sub (lv' := [(0, .ref (ad x0)), (1, .int x1), (2, .ref (ad x2)), (3, .int x3), (4, .int x4), (6, .int (0 : Int32))]) [2, 3, 4, 5, 6, 0] rfl ?_
      exact (B_X2_holds_143 C HR HL hG hK2) x0 x1 x2 x3 x4 (0 : Int32) dy Tx0 Tx2 E
    · refine ww_iconst (v := 1) C dX2_holds_114 (by decide) ?_
      refine ww_goto (tgt := 119) C dX2_holds_115 (by decide) ?_
      refine ww_istore (lv' := [(6, .int (1 : Int32)), (5, .int y0), (0, .ref (ad x0)), (1, .int x1), (2, .ref (ad x2)), (3, .int x3), (4, .int x4)]) C dX2_holds_119 (by decide) rfl ?_
      refine ww_goto (tgt := 143) C dX2_holds_121 (by decide) ?_
      refine ww_sub (lv' := [(0, .ref (ad x0)), (1, .int x1), (2, .ref (ad x2)), (3, .int x3), (4, .int x4), (6, .int (1 : Int32))]) [2, 3, 4, 5, 6, 0] rfl ?_
      exact (B_X2_holds_143 C HR HL hG hK2) x0 x1 x2 x3 x4 (1 : Int32) dy Tx0 Tx2 E
  rw [if_neg s_4] at E
  refine ww_lookup (tgt := 124) (off := 71) C dX2_holds_53 (by decide) (lk_out2 (ti_ne s_2 (by decide)) (ti_ne s_4 (by decide))) (by decide) ?_
  refine ww_iload C dX2_holds_124 0 rfl ?_
  refine ww_aload_n C dX2_holds_126 rfl 1 rfl ?_
  have T_6 : gs S (gr S x0 5) = (1, 64) := hG.1 _ 2 Tx0 5 (by decide)
  refine ww_getr (ci := 2) (k0 := 5) C dX2_holds_127 rfl rfl inm2 (by decide) Tx0 q238 rfl T_6 (by decide) ?_
  refine ww_iload C dX2_holds_130 5 rfl ?_
  refine ww_iald C dX2_holds_132 T_6 E (fun _ E => ?_)
  refine ww_icmp_ne (tgt := 140) C dX2_holds_133 (by decide) E (fun _ E => ?_) (fun _ E => ?_)
  · refine ww_iconst (v := 0) C dX2_holds_140 (by decide) ?_
    refine ww_istore (lv' := [(6, .int (0 : Int32)), (5, .int y0), (0, .ref (ad x0)), (1, .int x1), (2, .ref (ad x2)), (3, .int x3), (4, .int x4)]) C dX2_holds_141 (by decide) rfl ?_
    refine ww_sub (lv' := [(0, .ref (ad x0)), (1, .int x1), (2, .ref (ad x2)), (3, .int x3), (4, .int x4), (6, .int (0 : Int32))]) [2, 3, 4, 5, 6, 0] rfl ?_
    exact (B_X2_holds_143 C HR HL hG hK2) x0 x1 x2 x3 x4 (0 : Int32) dy Tx0 Tx2 E
  · refine ww_iconst (v := 1) C dX2_holds_136 (by decide) ?_
    refine ww_goto (tgt := 141) C dX2_holds_137 (by decide) ?_
    refine ww_istore (lv' := [(6, .int (1 : Int32)), (5, .int y0), (0, .ref (ad x0)), (1, .int x1), (2, .ref (ad x2)), (3, .int x3), (4, .int x4)]) C dX2_holds_141 (by decide) rfl ?_
    refine ww_sub (lv' := [(0, .ref (ad x0)), (1, .int x1), (2, .ref (ad x2)), (3, .int x3), (4, .int x4), (6, .int (1 : Int32))]) [2, 3, 4, 5, 6, 0] rfl ?_
    exact (B_X2_holds_143 C HR HL hG hK2) x0 x1 x2 x3 x4 (1 : Int32) dy Tx0 Tx2 E
set_option maxHeartbeats 4000000 in
set_option maxRecDepth 100000 in
theorem B_X2_holds_2 (C : CX p s m args c cX2_holds 7 RX2 G A) (HR : meth.sig.returnType = (Option.some Jvm.ClassFile.FieldType.boolean)) (HL : meth.locks = false) (hG : Good S) : ∀ k : Nat, ∀ (x0 : Nat) (x1 : Int32) (x2 : Nat) (x3 : Int32) (dy : DY), gs S x0 = (0, 2) → gs S x2 = (1, n1) → (F_X2_holds_2 S N n1 k) x0 x1 x2 x3 dy = some (r, dy') → WJ p l e (rmD (1)) s m args below meth c 7 G A 0 0 (MQ below (QI G ad A S r dy') args s 0 0 A) ad 2 [(0, .ref (ad x0)), (1, .int x1), (2, .ref (ad x2)), (3, .int x3)] [] S dy := by
  intro k
  induction k with
  | zero => exact fun _ _ _ _ _ _ _ E => nomatch (show none = some (r, dy') from E)
  | succ k ih =>
    intro x0 x1 x2 x3 dy Tx0 Tx2 E
    rw [F_X2_holds_2_s] at E
    refine ww_iload_n C dX2_holds_2 rfl 3 rfl ?_
    refine ww_aload_n C dX2_holds_3 rfl 0 rfl ?_
    have T_1 : gs S (gr S x0 2) = (1, 16) := hG.1 _ 2 Tx0 2 (by decide)
    refine ww_getr (ci := 2) (k0 := 2) C dX2_holds_4 rfl rfl inm2 (by decide) Tx0 q235 rfl T_1 (by decide) ?_
    refine ww_iload_n C dX2_holds_7 rfl 1 rfl ?_
    refine ww_iald C dX2_holds_8 T_1 E (fun _ E => ?_)
    refine ww_icmp_ge (tgt := 163) C dX2_holds_9 (by decide) E (fun _ E => ?_) (fun _ E => ?_)
    · refine ww_iconst (v := 1) C dX2_holds_163 (by decide) ?_
      exact ww_zret C HR HL dX2_holds_164 (Or.inr rfl) E
    · refine ww_iload_n C dX2_holds_12 rfl 1 rfl ?_
      refine ww_iconst (v := 4) C dX2_holds_13 (by decide) ?_
      refine ww_imul C dX2_holds_14 ?_
      refine ww_iload_n C dX2_holds_15 rfl 3 rfl ?_
      refine ww_iadd C dX2_holds_16 ?_
      refine ww_istore (lv' := [(4, .int ((x1 * (4 : Int32)) + x3)), (0, .ref (ad x0)), (1, .int x1), (2, .ref (ad x2)), (3, .int x3)]) C dX2_holds_17 (by decide) rfl ?_
      refine ww_aload_n C dX2_holds_19 rfl 1 rfl ?_
      have T_2 : gs S (gr S x0 3) = (1, 64) := hG.1 _ 2 Tx0 3 (by decide)
      refine ww_getr (ci := 2) (k0 := 3) C dX2_holds_20 rfl rfl inm2 (by decide) Tx0 q236 rfl T_2 (by decide) ?_
      refine ww_iload C dX2_holds_23 0 rfl ?_
      refine ww_iald C dX2_holds_25 T_2 E (fun _ E => ?_)
      refine ww_aload_n C dX2_holds_26 rfl 3 rfl ?_
      refine ww_alen (v := (Int32.ofNat n1)) C dX2_holds_27 Tx2 (by decide) (by decide) rfl (by rfl) ?_
      refine ww_icmp_ge (tgt := 43) C dX2_holds_28 (by decide) E (fun _ E => ?_) (fun _ E => ?_)
      · refine ww_iconst (v := 0) C dX2_holds_43 (by decide) ?_
        refine ww_sub (lv' := [(0, .ref (ad x0)), (1, .int x1), (2, .ref (ad x2)), (3, .int x3), (4, .int ((x1 * (4 : Int32)) + x3))]) [1, 2, 3, 4, 0] rfl ?_
        exact (B_X2_holds_44 C HR HL hG ih) x0 x1 x2 x3 ((x1 * (4 : Int32)) + x3) (0 : Int32) dy Tx0 Tx2 E
      · refine ww_aload_n C dX2_holds_31 rfl 3 rfl ?_
        refine ww_aload_n C dX2_holds_32 rfl 1 rfl ?_
        have T_3 : gs S (gr S x0 3) = (1, 64) := hG.1 _ 2 Tx0 3 (by decide)
        refine ww_getr (ci := 2) (k0 := 3) C dX2_holds_33 rfl rfl inm2 (by decide) Tx0 q236 rfl T_3 (by decide) ?_
        refine ww_iload C dX2_holds_36 0 rfl ?_
        refine ww_iald C dX2_holds_38 T_3 E (fun _ E => ?_)
        refine ww_iald C dX2_holds_39 Tx2 E (fun _ E => ?_)
        refine ww_goto (tgt := 44) C dX2_holds_40 (by decide) ?_
        refine ww_sub (lv' := [(0, .ref (ad x0)), (1, .int x1), (2, .ref (ad x2)), (3, .int x3), (4, .int ((x1 * (4 : Int32)) + x3))]) [1, 2, 3, 4, 0] rfl ?_
        exact (B_X2_holds_44 C HR HL hG ih) x0 x1 x2 x3 ((x1 * (4 : Int32)) + x3) (gi dy x2 (gi dy (gr S x0 3) ((x1 * (4 : Int32)) + x3).toNatClampNeg).toNatClampNeg) dy Tx0 Tx2 E
end P_X2_holds
set_option maxHeartbeats 4000000 in
set_option maxRecDepth 100000 in
theorem M_X2_holds (l : Launch) (G : GG) (ad : Nat → Nat) {S : ST} (N : Nat) (n1 : Nat) (hG : Good S) (a0 : Nat) (a1 : Int32) (a2 : Nat) (dy : DY) (T0 : gs S a0 = (0, 2)) (T2 : gs S a2 = (1, n1)) {r : Int32} {dy' : DY} (E : F_X2_holds S N n1 a0 a1 a2 dy = some (r, dy')) : MC l yX2_holds cX2_holds 7 (Option.some Jvm.ClassFile.FieldType.boolean) (1) G ad [.ref (ad a0), .int a1, .ref (ad a2)] S dy (fun A => QI G ad A S r dy') := by
  rw [F_X2_holds_s] at E
  refine mc_of RX2 (by decide) rfl (Nat.le_of_ble_eq_true rfl) (fun p e s m args below meth c A C HR HL => ?_)
  refine ww_sub (lv' := [(0, .ref (ad a0)), (1, .int a1), (2, .ref (ad a2))]) [0, 1, 2] rfl ?_
  refine ww_iconst (v := 0) C dX2_holds_0 (by decide) ?_
  refine ww_istore_n (lv' := [(3, .int (0 : Int32)), (0, .ref (ad a0)), (1, .int a1), (2, .ref (ad a2))]) C dX2_holds_1 rfl (by decide) rfl ?_
  refine ww_sub (lv' := [(0, .ref (ad a0)), (1, .int a1), (2, .ref (ad a2)), (3, .int (0 : Int32))]) [1, 2, 3, 0] rfl ?_
  exact (B_X2_holds_2 C HR HL hG N) a0 a1 a2 (0 : Int32) dy T0 T2 E
section P_X2_deedFor
variable {p : Program} {l : Launch} {e : Env} {s : State} {m : MethodId} {args : Array Value} {below : List Frame} {meth : Method} {c : Code} {G : GG} {A : Nat → Prop} {ad : Nat → Nat} {S : ST} {N : Nat} {r : Int32} {dy' : DY} {n0 : Nat}
set_option maxHeartbeats 4000000 in
set_option maxRecDepth 100000 in
theorem B_X2_deedFor_2 (C : CX p s m args c cX2_deedFor 3 RX2 G A) (HR : meth.sig.returnType = (Option.some Jvm.ClassFile.FieldType.int)) (HL : meth.locks = false) (hG : Good S) : ∀ k : Nat, ∀ (x0 : Nat) (x1 : Nat) (x2 : Int32) (dy : DY), gs S x0 = (0, 2) → gs S x1 = (1, n0) → (F_X2_deedFor_2 S N n0 k) x0 x1 x2 dy = some (r, dy') → WJ p l e (rmD (2)) s m args below meth c 3 G A 0 0 (MQ below (QI G ad A S r dy') args s 0 0 A) ad 2 [(0, .ref (ad x0)), (1, .ref (ad x1)), (2, .int x2)] [] S dy := by
  intro k
  induction k with
  | zero => exact fun _ _ _ _ _ _ E => nomatch (show none = some (r, dy') from E)
  | succ k ih =>
    intro x0 x1 x2 dy Tx0 Tx1 E
    rw [F_X2_deedFor_2_s] at E
    refine ww_iload_n C dX2_deedFor_2 rfl 2 rfl ?_
    refine ww_aload_n C dX2_deedFor_3 rfl 0 rfl ?_
    refine ww_geti (ci := 2) (k0 := 0) C dX2_deedFor_4 rfl rfl inm2 (by decide) Tx0 q231 rfl ?_
    refine ww_icmp_ge (tgt := 32) C dX2_deedFor_7 (by decide) E (fun _ E => ?_) (fun _ E => ?_)
    · refine ww_iconst (v := 5) C dX2_deedFor_32 (by decide) ?_
      exact ww_iret C HR HL dX2_deedFor_33 E
    · refine ww_aload_n C dX2_deedFor_10 rfl 0 rfl ?_
      refine ww_iload_n C dX2_deedFor_11 rfl 2 rfl ?_
      refine ww_aload_n C dX2_deedFor_12 rfl 1 rfl ?_
      obtain ⟨u1, e_2, E⟩ := bind_of E
      refine ww_callI C (runs_V (n := 2) (st := []) C [.int x2, .ref (ad x1)] (M_X2_holds l G ad N n0 hG x0 x2 x1 dy Tx0 Tx1 e_2) ⟨q962, q111, by decide⟩ q959 q961 q19 (ci := 2) rfl Tx0 rfl (Nat.le_of_ble_eq_true rfl) ⟨Nat.le_of_ble_eq_true rfl, Nat.le_of_ble_eq_true rfl⟩ ⟨Nat.zero_le _, Nat.zero_le _⟩ dX2_deedFor_13 rfl) ?_
      refine ww_if_eq (tgt := 26) C dX2_deedFor_16 (by decide) E (fun _ E => ?_) (fun _ E => ?_)
      · refine ww_iinc (v := (x2 + (1 : Int32))) (lv' := [(2, .int (x2 + (1 : Int32))), (0, .ref (ad x0)), (1, .ref (ad x1))]) C dX2_deedFor_26 2 rfl rfl (by decide) rfl ?_
        refine ww_goto (tgt := 2) C dX2_deedFor_29 (by decide) ?_
        refine ww_sub (lv' := [(0, .ref (ad x0)), (1, .ref (ad x1)), (2, .int (x2 + (1 : Int32)))]) [1, 2, 0] rfl ?_
        exact ih x0 x1 (x2 + (1 : Int32)) u1.2 Tx0 Tx1 E
      · refine ww_aload_n C dX2_deedFor_19 rfl 0 rfl ?_
        have T_3 : gs S (gr S x0 1) = (1, 16) := hG.1 _ 2 Tx0 1 (by decide)
        refine ww_getr (ci := 2) (k0 := 1) C dX2_deedFor_20 rfl rfl inm2 (by decide) Tx0 q234 rfl T_3 (by decide) ?_
        refine ww_iload_n C dX2_deedFor_23 rfl 2 rfl ?_
        refine ww_iald C dX2_deedFor_24 T_3 E (fun _ E => ?_)
        exact ww_iret C HR HL dX2_deedFor_25 E
end P_X2_deedFor
set_option maxHeartbeats 4000000 in
set_option maxRecDepth 100000 in
theorem M_X2_deedFor (l : Launch) (G : GG) (ad : Nat → Nat) {S : ST} (N : Nat) (n0 : Nat) (hG : Good S) (a0 : Nat) (a1 : Nat) (dy : DY) (T0 : gs S a0 = (0, 2)) (T1 : gs S a1 = (1, n0)) {r : Int32} {dy' : DY} (E : F_X2_deedFor S N n0 a0 a1 dy = some (r, dy')) : MC l yX2_deedFor cX2_deedFor 3 (Option.some Jvm.ClassFile.FieldType.int) (2) G ad [.ref (ad a0), .ref (ad a1)] S dy (fun A => QI G ad A S r dy') := by
  rw [F_X2_deedFor_s] at E
  refine mc_of RX2 (by decide) rfl (Nat.le_of_ble_eq_true rfl) (fun p e s m args below meth c A C HR HL => ?_)
  refine ww_sub (lv' := [(0, .ref (ad a0)), (1, .ref (ad a1))]) [0, 1] rfl ?_
  refine ww_iconst (v := 0) C dX2_deedFor_0 (by decide) ?_
  refine ww_istore_n (lv' := [(2, .int (0 : Int32)), (0, .ref (ad a0)), (1, .ref (ad a1))]) C dX2_deedFor_1 rfl (by decide) rfl ?_
  refine ww_sub (lv' := [(0, .ref (ad a0)), (1, .ref (ad a1)), (2, .int (0 : Int32))]) [1, 2, 0] rfl ?_
  exact (B_X2_deedFor_2 C HR HL hG N) a0 a1 (0 : Int32) dy T0 T1 E
section P_X2_weighs
variable {p : Program} {l : Launch} {e : Env} {s : State} {m : MethodId} {args : Array Value} {below : List Frame} {meth : Method} {c : Code} {G : GG} {A : Nat → Prop} {ad : Nat → Nat} {S : ST} {N : Nat} {r : Int32} {dy' : DY}
set_option maxHeartbeats 4000000 in
set_option maxRecDepth 100000 in
theorem B_X2_weighs_12 (C : CX p s m args c cX2_weighs 4 RX2 G A) (HR : meth.sig.returnType = (Option.some Jvm.ClassFile.FieldType.boolean)) (HL : meth.locks = false) (hG : Good S) {K2 : Nat → Int32 → Int32 → DY → Option (Int32 × DY)} (hK2 : ∀ (x0 : Nat) (x1 : Int32) (x2 : Int32) (dy : DY), gs S x0 = (0, 2) → K2 x0 x1 x2 dy = some (r, dy') → WJ p l e (rmD (1)) s m args below meth c 4 G A 0 0 (MQ below (QI G ad A S r dy') args s 0 0 A) ad 2 [(0, .ref (ad x0)), (1, .int x1), (2, .int x2)] [] S dy) : ∀ k : Nat, ∀ (x0 : Nat) (x1 : Int32) (x2 : Int32) (x3 : Int32) (dy : DY), gs S x0 = (0, 2) → (F_X2_weighs_12 S N K2 k) x0 x1 x2 x3 dy = some (r, dy') → WJ p l e (rmD (1)) s m args below meth c 4 G A 0 0 (MQ below (QI G ad A S r dy') args s 0 0 A) ad 12 [(0, .ref (ad x0)), (1, .int x1), (2, .int x2), (3, .int x3)] [] S dy := by
  intro k
  induction k with
  | zero => exact fun _ _ _ _ _ _ E => nomatch (show none = some (r, dy') from E)
  | succ k ih =>
    intro x0 x1 x2 x3 dy Tx0 E
    rw [F_X2_weighs_12_s] at E
    refine ww_iload_n C dX2_weighs_12 rfl 3 rfl ?_
    refine ww_aload_n C dX2_weighs_13 rfl 0 rfl ?_
    have T_1 : gs S (gr S x0 2) = (1, 16) := hG.1 _ 2 Tx0 2 (by decide)
    refine ww_getr (ci := 2) (k0 := 2) C dX2_weighs_14 rfl rfl inm2 (by decide) Tx0 q235 rfl T_1 (by decide) ?_
    refine ww_iload_n C dX2_weighs_17 rfl 2 rfl ?_
    refine ww_iald C dX2_weighs_18 T_1 E (fun _ E => ?_)
    refine ww_icmp_ge (tgt := 44) C dX2_weighs_19 (by decide) E (fun _ E => ?_) (fun _ E => ?_)
    · refine ww_iinc (v := (x2 + (1 : Int32))) (lv' := [(2, .int (x2 + (1 : Int32))), (0, .ref (ad x0)), (1, .int x1), (3, .int x3)]) C dX2_weighs_44 2 rfl rfl (by decide) rfl ?_
      refine ww_goto (tgt := 2) C dX2_weighs_47 (by decide) ?_
      refine ww_sub (lv' := [(0, .ref (ad x0)), (1, .int x1), (2, .int (x2 + (1 : Int32)))]) [1, 2, 0] rfl ?_
      exact hK2 x0 x1 (x2 + (1 : Int32)) dy Tx0 E
    · refine ww_aload_n C dX2_weighs_22 rfl 0 rfl ?_
      have T_2 : gs S (gr S x0 3) = (1, 64) := hG.1 _ 2 Tx0 3 (by decide)
      refine ww_getr (ci := 2) (k0 := 3) C dX2_weighs_23 rfl rfl inm2 (by decide) Tx0 q236 rfl T_2 (by decide) ?_
      refine ww_iload_n C dX2_weighs_26 rfl 2 rfl ?_
      refine ww_iconst (v := 4) C dX2_weighs_27 (by decide) ?_
      refine ww_imul C dX2_weighs_28 ?_
      refine ww_iload_n C dX2_weighs_29 rfl 3 rfl ?_
      refine ww_iadd C dX2_weighs_30 ?_
      refine ww_iald C dX2_weighs_31 T_2 E (fun _ E => ?_)
      refine ww_iload_n C dX2_weighs_32 rfl 1 rfl ?_
      refine ww_icmp_ne (tgt := 38) C dX2_weighs_33 (by decide) E (fun _ E => ?_) (fun _ E => ?_)
      · refine ww_iinc (v := (x3 + (1 : Int32))) (lv' := [(3, .int (x3 + (1 : Int32))), (0, .ref (ad x0)), (1, .int x1), (2, .int x2)]) C dX2_weighs_38 3 rfl rfl (by decide) rfl ?_
        refine ww_goto (tgt := 12) C dX2_weighs_41 (by decide) ?_
        refine ww_sub (lv' := [(0, .ref (ad x0)), (1, .int x1), (2, .int x2), (3, .int (x3 + (1 : Int32)))]) [1, 2, 3, 0] rfl ?_
        exact ih x0 x1 x2 (x3 + (1 : Int32)) dy Tx0 E
      · refine ww_iconst (v := 1) C dX2_weighs_36 (by decide) ?_
        exact ww_zret C HR HL dX2_weighs_37 (Or.inr rfl) E
set_option maxHeartbeats 4000000 in
set_option maxRecDepth 100000 in
theorem B_X2_weighs_2 (C : CX p s m args c cX2_weighs 4 RX2 G A) (HR : meth.sig.returnType = (Option.some Jvm.ClassFile.FieldType.boolean)) (HL : meth.locks = false) (hG : Good S) : ∀ k : Nat, ∀ (x0 : Nat) (x1 : Int32) (x2 : Int32) (dy : DY), gs S x0 = (0, 2) → (F_X2_weighs_2 S N k) x0 x1 x2 dy = some (r, dy') → WJ p l e (rmD (1)) s m args below meth c 4 G A 0 0 (MQ below (QI G ad A S r dy') args s 0 0 A) ad 2 [(0, .ref (ad x0)), (1, .int x1), (2, .int x2)] [] S dy := by
  intro k
  induction k with
  | zero => exact fun _ _ _ _ _ E => nomatch (show none = some (r, dy') from E)
  | succ k ih =>
    intro x0 x1 x2 dy Tx0 E
    rw [F_X2_weighs_2_s] at E
    refine ww_iload_n C dX2_weighs_2 rfl 2 rfl ?_
    refine ww_aload_n C dX2_weighs_3 rfl 0 rfl ?_
    refine ww_geti (ci := 2) (k0 := 0) C dX2_weighs_4 rfl rfl inm2 (by decide) Tx0 q231 rfl ?_
    refine ww_icmp_ge (tgt := 50) C dX2_weighs_7 (by decide) E (fun _ E => ?_) (fun _ E => ?_)
    · refine ww_iconst (v := 0) C dX2_weighs_50 (by decide) ?_
      exact ww_zret C HR HL dX2_weighs_51 (Or.inl rfl) E
    · refine ww_iconst (v := 0) C dX2_weighs_10 (by decide) ?_
      refine ww_istore_n (lv' := [(3, .int (0 : Int32)), (0, .ref (ad x0)), (1, .int x1), (2, .int x2)]) C dX2_weighs_11 rfl (by decide) rfl ?_
      refine ww_sub (lv' := [(0, .ref (ad x0)), (1, .int x1), (2, .int x2), (3, .int (0 : Int32))]) [1, 2, 3, 0] rfl ?_
      exact (B_X2_weighs_12 C HR HL hG ih N) x0 x1 x2 (0 : Int32) dy Tx0 E
end P_X2_weighs
set_option maxHeartbeats 4000000 in
set_option maxRecDepth 100000 in
theorem M_X2_weighs (l : Launch) (G : GG) (ad : Nat → Nat) {S : ST} (N : Nat) (hG : Good S) (a0 : Nat) (a1 : Int32) (dy : DY) (T0 : gs S a0 = (0, 2)) {r : Int32} {dy' : DY} (E : F_X2_weighs S N a0 a1 dy = some (r, dy')) : MC l yX2_weighs cX2_weighs 4 (Option.some Jvm.ClassFile.FieldType.boolean) (1) G ad [.ref (ad a0), .int a1] S dy (fun A => QI G ad A S r dy') := by
  rw [F_X2_weighs_s] at E
  refine mc_of RX2 (by decide) rfl (Nat.le_of_ble_eq_true rfl) (fun p e s m args below meth c A C HR HL => ?_)
  refine ww_sub (lv' := [(0, .ref (ad a0)), (1, .int a1)]) [0, 1] rfl ?_
  refine ww_iconst (v := 0) C dX2_weighs_0 (by decide) ?_
  refine ww_istore_n (lv' := [(2, .int (0 : Int32)), (0, .ref (ad a0)), (1, .int a1)]) C dX2_weighs_1 rfl (by decide) rfl ?_
  refine ww_sub (lv' := [(0, .ref (ad a0)), (1, .int a1), (2, .int (0 : Int32))]) [1, 2, 0] rfl ?_
  exact (B_X2_weighs_2 C HR HL hG N) a0 a1 (0 : Int32) dy T0 E
section P_X2_addRule
variable {p : Program} {l : Launch} {e : Env} {s : State} {m : MethodId} {args : Array Value} {below : List Frame} {meth : Method} {c : Code} {G : GG} {A : Nat → Prop} {ad : Nat → Nat} {S : ST} {N : Nat} {dy' : DY}
end P_X2_addRule
set_option maxHeartbeats 4000000 in
set_option maxRecDepth 100000 in
theorem M_X2_addRule (l : Launch) (G : GG) (ad : Nat → Nat) {S : ST} (N : Nat) (hG : Good S) (a0 : Nat) (a1 : Int32) (a2 : Int32) (dy : DY) (T0 : gs S a0 = (0, 2)) {dy' : DY} (E : F_X2_addRule S N a0 a1 a2 dy = some dy') : MC l yX2_addRule cX2_addRule 3 (Option.none : Option Jvm.ClassFile.FieldType) (1) G ad [.ref (ad a0), .int a1, .int a2] S dy (fun A => QV G ad A S dy') := by
  rw [F_X2_addRule_s] at E
  refine mc_of RX2 (by decide) rfl (Nat.le_of_ble_eq_true rfl) (fun p e s m args below meth c A C HR HL => ?_)
  refine ww_sub (lv' := [(0, .ref (ad a0)), (1, .int a1), (2, .int a2)]) [0, 1, 2] rfl ?_
  refine ww_aload_n C dX2_addRule_0 rfl 0 rfl ?_
  refine ww_geti (ci := 2) (k0 := 0) C dX2_addRule_1 rfl rfl inm2 (by decide) T0 q231 rfl ?_
  refine ww_bipush (v := 16) C dX2_addRule_4 (by decide) ?_
  refine ww_icmp_ge (tgt := 47) C dX2_addRule_6 (by decide) E (fun _ E => ?_) (fun _ E => ?_)
  · exact ww_vret C HR HL dX2_addRule_47 E
  · refine ww_aload_n C dX2_addRule_9 rfl 0 rfl ?_
    have T_1 : gs S (gr S a0 1) = (1, 16) := hG.1 _ 2 T0 1 (by decide)
    refine ww_getr (ci := 2) (k0 := 1) C dX2_addRule_10 rfl rfl inm2 (by decide) T0 q234 rfl T_1 (by decide) ?_
    refine ww_aload_n C dX2_addRule_13 rfl 0 rfl ?_
    refine ww_geti (ci := 2) (k0 := 0) C dX2_addRule_14 rfl rfl inm2 (by decide) T0 q231 rfl ?_
    refine ww_iload_n C dX2_addRule_17 rfl 1 rfl ?_
    refine ww_iast C dX2_addRule_18 T_1 E (fun _ E => ?_)
    refine ww_bd E (fun dy2 E => ?_)
    refine ww_aload_n C dX2_addRule_19 rfl 0 rfl ?_
    have T_3 : gs S (gr S a0 2) = (1, 16) := hG.1 _ 2 T0 2 (by decide)
    refine ww_getr (ci := 2) (k0 := 2) C dX2_addRule_20 rfl rfl inm2 (by decide) T0 q235 rfl T_3 (by decide) ?_
    refine ww_aload_n C dX2_addRule_23 rfl 0 rfl ?_
    refine ww_geti (ci := 2) (k0 := 0) C dX2_addRule_24 rfl rfl inm2 (by decide) T0 q231 rfl ?_
    refine ww_iconst (v := 0) C dX2_addRule_27 (by decide) ?_
    refine ww_iload_n C dX2_addRule_28 rfl 2 rfl ?_
    refine ww_iconst (v := 4) C dX2_addRule_29 (by decide) ?_
    refine ww_mmin C dX2_addRule_30 q862 q587 q119 q588 (Nat.le_of_ble_eq_true rfl) (Nat.le_of_ble_eq_true rfl) (Nat.le_of_ble_eq_true rfl) (Nat.zero_le _) (Nat.zero_le _) ?_
    refine ww_mmax C dX2_addRule_33 q863 q590 q119 q591 (Nat.le_of_ble_eq_true rfl) (Nat.le_of_ble_eq_true rfl) (Nat.le_of_ble_eq_true rfl) (Nat.zero_le _) (Nat.zero_le _) ?_
    refine ww_iast C dX2_addRule_36 T_3 E (fun _ E => ?_)
    refine ww_bd E (fun dy4 E => ?_)
    refine ww_aload_n C dX2_addRule_37 rfl 0 rfl ?_
    refine ww_dup C dX2_addRule_38 rfl ?_
    refine ww_geti (ci := 2) (k0 := 0) C dX2_addRule_39 rfl rfl inm2 (by decide) T0 q231 rfl ?_
    refine ww_iconst (v := 1) C dX2_addRule_42 (by decide) ?_
    refine ww_iadd C dX2_addRule_43 ?_
    refine ww_puti (ci := 2) (k0 := 0) C dX2_addRule_44 rfl rfl inm2 tyX2_ok nmX2 (by decide) T0 q231 rfl rfl rfl ?_
    refine ww_bd E (fun dy5 E => ?_)
    exact ww_vret C HR HL dX2_addRule_47 E
section P_X2_copyFrom
variable {p : Program} {l : Launch} {e : Env} {s : State} {m : MethodId} {args : Array Value} {below : List Frame} {meth : Method} {c : Code} {G : GG} {A : Nat → Prop} {ad : Nat → Nat} {S : ST} {N : Nat} {dy' : DY}
end P_X2_copyFrom
set_option maxHeartbeats 4000000 in
set_option maxRecDepth 100000 in
theorem M_X2_copyFrom (l : Launch) (G : GG) (ad : Nat → Nat) {S : ST} (N : Nat) (hG : Good S) (a0 : Nat) (a1 : Nat) (dy : DY) (T0 : gs S a0 = (0, 2)) (T1 : gs S a1 = (0, 2)) {dy' : DY} (E : F_X2_copyFrom S N a0 a1 dy = some dy') : MC l yX2_copyFrom cX2_copyFrom 2 (Option.none : Option Jvm.ClassFile.FieldType) (1) G ad [.ref (ad a0), .ref (ad a1)] S dy (fun A => QV G ad A S dy') := by
  rw [F_X2_copyFrom_s] at E
  refine mc_of RX2 (by decide) rfl (Nat.le_of_ble_eq_true rfl) (fun p e s m args below meth c A C HR HL => ?_)
  refine ww_sub (lv' := [(0, .ref (ad a0)), (1, .ref (ad a1))]) [0, 1] rfl ?_
  refine ww_aload_n C dX2_copyFrom_0 rfl 0 rfl ?_
  refine ww_aload_n C dX2_copyFrom_1 rfl 1 rfl ?_
  refine ww_geti (ci := 2) (k0 := 0) C dX2_copyFrom_2 rfl rfl inm2 (by decide) T1 q231 rfl ?_
  refine ww_puti (ci := 2) (k0 := 0) C dX2_copyFrom_5 rfl rfl inm2 tyX2_ok nmX2 (by decide) T0 q231 rfl rfl rfl ?_
  refine ww_bd E (fun dy1 E => ?_)
  refine ww_aload_n C dX2_copyFrom_8 rfl 1 rfl ?_
  have T_2 : gs S (gr S a1 1) = (1, 16) := hG.1 _ 2 T1 1 (by decide)
  refine ww_getr (ci := 2) (k0 := 1) C dX2_copyFrom_9 rfl rfl inm2 (by decide) T1 q234 rfl T_2 (by decide) ?_
  refine ww_iconst (v := 0) C dX2_copyFrom_12 (by decide) ?_
  refine ww_aload_n C dX2_copyFrom_13 rfl 0 rfl ?_
  have T_3 : gs S (gr S a0 1) = (1, 16) := hG.1 _ 2 T0 1 (by decide)
  refine ww_getr (ci := 2) (k0 := 1) C dX2_copyFrom_14 rfl rfl inm2 (by decide) T0 q234 rfl T_3 (by decide) ?_
  refine ww_iconst (v := 0) C dX2_copyFrom_17 (by decide) ?_
  refine ww_bipush (v := 16) C dX2_copyFrom_18 (by decide) ?_
  obtain ⟨g_5, E⟩ := gd_of E
  refine ww_copy (t := 1) C dX2_copyFrom_20 T_2 T_3 (by decide) (by decide) g_5.1 g_5.2 q872 q790 q789 q124 (Nat.le_of_ble_eq_true rfl) (Nat.le_of_ble_eq_true rfl) (Nat.le_of_ble_eq_true rfl) ?_
  refine ww_bd E (fun dy4 E => ?_)
  refine ww_aload_n C dX2_copyFrom_23 rfl 1 rfl ?_
  have T_6 : gs S (gr S a1 2) = (1, 16) := hG.1 _ 2 T1 2 (by decide)
  refine ww_getr (ci := 2) (k0 := 2) C dX2_copyFrom_24 rfl rfl inm2 (by decide) T1 q235 rfl T_6 (by decide) ?_
  refine ww_iconst (v := 0) C dX2_copyFrom_27 (by decide) ?_
  refine ww_aload_n C dX2_copyFrom_28 rfl 0 rfl ?_
  have T_7 : gs S (gr S a0 2) = (1, 16) := hG.1 _ 2 T0 2 (by decide)
  refine ww_getr (ci := 2) (k0 := 2) C dX2_copyFrom_29 rfl rfl inm2 (by decide) T0 q235 rfl T_7 (by decide) ?_
  refine ww_iconst (v := 0) C dX2_copyFrom_32 (by decide) ?_
  refine ww_bipush (v := 16) C dX2_copyFrom_33 (by decide) ?_
  obtain ⟨g_9, E⟩ := gd_of E
  refine ww_copy (t := 1) C dX2_copyFrom_35 T_6 T_7 (by decide) (by decide) g_9.1 g_9.2 q872 q790 q789 q124 (Nat.le_of_ble_eq_true rfl) (Nat.le_of_ble_eq_true rfl) (Nat.le_of_ble_eq_true rfl) ?_
  refine ww_bd E (fun dy8 E => ?_)
  refine ww_aload_n C dX2_copyFrom_38 rfl 1 rfl ?_
  have T_10 : gs S (gr S a1 3) = (1, 64) := hG.1 _ 2 T1 3 (by decide)
  refine ww_getr (ci := 2) (k0 := 3) C dX2_copyFrom_39 rfl rfl inm2 (by decide) T1 q236 rfl T_10 (by decide) ?_
  refine ww_iconst (v := 0) C dX2_copyFrom_42 (by decide) ?_
  refine ww_aload_n C dX2_copyFrom_43 rfl 0 rfl ?_
  have T_11 : gs S (gr S a0 3) = (1, 64) := hG.1 _ 2 T0 3 (by decide)
  refine ww_getr (ci := 2) (k0 := 3) C dX2_copyFrom_44 rfl rfl inm2 (by decide) T0 q236 rfl T_11 (by decide) ?_
  refine ww_iconst (v := 0) C dX2_copyFrom_47 (by decide) ?_
  refine ww_bipush (v := 64) C dX2_copyFrom_48 (by decide) ?_
  obtain ⟨g_13, E⟩ := gd_of E
  refine ww_copy (t := 1) C dX2_copyFrom_50 T_10 T_11 (by decide) (by decide) g_13.1 g_13.2 q872 q790 q789 q124 (Nat.le_of_ble_eq_true rfl) (Nat.le_of_ble_eq_true rfl) (Nat.le_of_ble_eq_true rfl) ?_
  refine ww_bd E (fun dy12 E => ?_)
  refine ww_aload_n C dX2_copyFrom_53 rfl 1 rfl ?_
  have T_14 : gs S (gr S a1 4) = (1, 64) := hG.1 _ 2 T1 4 (by decide)
  refine ww_getr (ci := 2) (k0 := 4) C dX2_copyFrom_54 rfl rfl inm2 (by decide) T1 q237 rfl T_14 (by decide) ?_
  refine ww_iconst (v := 0) C dX2_copyFrom_57 (by decide) ?_
  refine ww_aload_n C dX2_copyFrom_58 rfl 0 rfl ?_
  have T_15 : gs S (gr S a0 4) = (1, 64) := hG.1 _ 2 T0 4 (by decide)
  refine ww_getr (ci := 2) (k0 := 4) C dX2_copyFrom_59 rfl rfl inm2 (by decide) T0 q237 rfl T_15 (by decide) ?_
  refine ww_iconst (v := 0) C dX2_copyFrom_62 (by decide) ?_
  refine ww_bipush (v := 64) C dX2_copyFrom_63 (by decide) ?_
  obtain ⟨g_17, E⟩ := gd_of E
  refine ww_copy (t := 1) C dX2_copyFrom_65 T_14 T_15 (by decide) (by decide) g_17.1 g_17.2 q872 q790 q789 q124 (Nat.le_of_ble_eq_true rfl) (Nat.le_of_ble_eq_true rfl) (Nat.le_of_ble_eq_true rfl) ?_
  refine ww_bd E (fun dy16 E => ?_)
  refine ww_aload_n C dX2_copyFrom_68 rfl 1 rfl ?_
  have T_18 : gs S (gr S a1 5) = (1, 64) := hG.1 _ 2 T1 5 (by decide)
  refine ww_getr (ci := 2) (k0 := 5) C dX2_copyFrom_69 rfl rfl inm2 (by decide) T1 q238 rfl T_18 (by decide) ?_
  refine ww_iconst (v := 0) C dX2_copyFrom_72 (by decide) ?_
  refine ww_aload_n C dX2_copyFrom_73 rfl 0 rfl ?_
  have T_19 : gs S (gr S a0 5) = (1, 64) := hG.1 _ 2 T0 5 (by decide)
  refine ww_getr (ci := 2) (k0 := 5) C dX2_copyFrom_74 rfl rfl inm2 (by decide) T0 q238 rfl T_19 (by decide) ?_
  refine ww_iconst (v := 0) C dX2_copyFrom_77 (by decide) ?_
  refine ww_bipush (v := 64) C dX2_copyFrom_78 (by decide) ?_
  obtain ⟨g_21, E⟩ := gd_of E
  refine ww_copy (t := 1) C dX2_copyFrom_80 T_18 T_19 (by decide) (by decide) g_21.1 g_21.2 q872 q790 q789 q124 (Nat.le_of_ble_eq_true rfl) (Nat.le_of_ble_eq_true rfl) (Nat.le_of_ble_eq_true rfl) ?_
  refine ww_bd E (fun dy20 E => ?_)
  refine ww_aload_n C dX2_copyFrom_83 rfl 1 rfl ?_
  have T_22 : gs S (gr S a1 6) = (3, 64) := hG.1 _ 2 T1 6 (by decide)
  refine ww_getr (ci := 2) (k0 := 6) C dX2_copyFrom_84 rfl rfl inm2 (by decide) T1 q239 rfl T_22 (by decide) ?_
  refine ww_iconst (v := 0) C dX2_copyFrom_87 (by decide) ?_
  refine ww_aload_n C dX2_copyFrom_88 rfl 0 rfl ?_
  have T_23 : gs S (gr S a0 6) = (3, 64) := hG.1 _ 2 T0 6 (by decide)
  refine ww_getr (ci := 2) (k0 := 6) C dX2_copyFrom_89 rfl rfl inm2 (by decide) T0 q239 rfl T_23 (by decide) ?_
  refine ww_iconst (v := 0) C dX2_copyFrom_92 (by decide) ?_
  refine ww_bipush (v := 64) C dX2_copyFrom_93 (by decide) ?_
  obtain ⟨g_25, E⟩ := gd_of E
  refine ww_copy (t := 3) C dX2_copyFrom_95 T_22 T_23 (by decide) (by decide) g_25.1 g_25.2 q872 q790 q789 q124 (Nat.le_of_ble_eq_true rfl) (Nat.le_of_ble_eq_true rfl) (Nat.le_of_ble_eq_true rfl) ?_
  refine ww_bd E (fun dy24 E => ?_)
  exact ww_vret C HR HL dX2_copyFrom_98 E
section P_X2_setTest
variable {p : Program} {l : Launch} {e : Env} {s : State} {m : MethodId} {args : Array Value} {below : List Frame} {meth : Method} {c : Code} {G : GG} {A : Nat → Prop} {ad : Nat → Nat} {S : ST} {N : Nat} {dy' : DY}
end P_X2_setTest
set_option maxHeartbeats 4000000 in
set_option maxRecDepth 100000 in
theorem M_X2_setTest (l : Launch) (G : GG) (ad : Nat → Nat) {S : ST} (N : Nat) (hG : Good S) (a0 : Nat) (a1 : Int32) (a2 : Int32) (a3 : Int32) (a4 : Int32) (a5 : Int32) (dy : DY) (T0 : gs S a0 = (0, 2)) {dy' : DY} (E : F_X2_setTest S N a0 a1 a2 a3 a4 a5 dy = some dy') : MC l yX2_setTest cX2_setTest 7 (Option.none : Option Jvm.ClassFile.FieldType) (1) G ad [.ref (ad a0), .int a1, .int a2, .int a3, .int a4, .int a5] S dy (fun A => QV G ad A S dy') := by
  rw [F_X2_setTest_s] at E
  refine mc_of RX2 (by decide) rfl (Nat.le_of_ble_eq_true rfl) (fun p e s m args below meth c A C HR HL => ?_)
  refine ww_sub (lv' := [(0, .ref (ad a0)), (1, .int a1), (2, .int a2), (3, .int a3), (4, .int a4), (5, .int a5)]) [0, 1, 2, 3, 4, 5] rfl ?_
  refine ww_aload_n C dX2_setTest_0 rfl 0 rfl ?_
  refine ww_geti (ci := 2) (k0 := 0) C dX2_setTest_1 rfl rfl inm2 (by decide) T0 q231 rfl ?_
  refine ww_bipush (v := 16) C dX2_setTest_4 (by decide) ?_
  refine ww_icmp_ge (tgt := 72) C dX2_setTest_6 (by decide) E (fun _ E => ?_) (fun _ E => ?_)
  · exact ww_vret C HR HL dX2_setTest_72 E
  · refine ww_iload_n C dX2_setTest_9 rfl 1 rfl ?_
    refine ww_if_lt (tgt := 72) C dX2_setTest_10 (by decide) E (fun _ E => ?_) (fun _ E => ?_)
    · exact ww_vret C HR HL dX2_setTest_72 E
    · refine ww_iload_n C dX2_setTest_13 rfl 1 rfl ?_
      refine ww_iconst (v := 4) C dX2_setTest_14 (by decide) ?_
      refine ww_icmp_ge (tgt := 72) C dX2_setTest_15 (by decide) E (fun _ E => ?_) (fun _ E => ?_)
      · exact ww_vret C HR HL dX2_setTest_72 E
      · refine ww_iload_n C dX2_setTest_18 rfl 2 rfl ?_
        refine ww_if_lt (tgt := 72) C dX2_setTest_19 (by decide) E (fun _ E => ?_) (fun _ E => ?_)
        · exact ww_vret C HR HL dX2_setTest_72 E
        · refine ww_iload_n C dX2_setTest_22 rfl 2 rfl ?_
          refine ww_bipush (v := 11) C dX2_setTest_23 (by decide) ?_
          refine ww_icmp_ge (tgt := 72) C dX2_setTest_25 (by decide) E (fun _ E => ?_) (fun _ E => ?_)
          · exact ww_vret C HR HL dX2_setTest_72 E
          · refine ww_aload_n C dX2_setTest_28 rfl 0 rfl ?_
            refine ww_geti (ci := 2) (k0 := 0) C dX2_setTest_29 rfl rfl inm2 (by decide) T0 q231 rfl ?_
            refine ww_iconst (v := 4) C dX2_setTest_32 (by decide) ?_
            refine ww_imul C dX2_setTest_33 ?_
            refine ww_iload_n C dX2_setTest_34 rfl 1 rfl ?_
            refine ww_iadd C dX2_setTest_35 ?_
            refine ww_istore (lv' := [(6, .int (((gi dy a0 0) * (4 : Int32)) + a1)), (0, .ref (ad a0)), (1, .int a1), (2, .int a2), (3, .int a3), (4, .int a4), (5, .int a5)]) C dX2_setTest_36 (by decide) rfl ?_
            refine ww_aload_n C dX2_setTest_38 rfl 1 rfl ?_
            have T_1 : gs S (gr S a0 3) = (1, 64) := hG.1 _ 2 T0 3 (by decide)
            refine ww_getr (ci := 2) (k0 := 3) C dX2_setTest_39 rfl rfl inm2 (by decide) T0 q236 rfl T_1 (by decide) ?_
            refine ww_iload C dX2_setTest_42 0 rfl ?_
            refine ww_iload_n C dX2_setTest_44 rfl 3 rfl ?_
            refine ww_iast C dX2_setTest_45 T_1 E (fun _ E => ?_)
            refine ww_bd E (fun dy2 E => ?_)
            refine ww_aload_n C dX2_setTest_46 rfl 1 rfl ?_
            have T_3 : gs S (gr S a0 4) = (1, 64) := hG.1 _ 2 T0 4 (by decide)
            refine ww_getr (ci := 2) (k0 := 4) C dX2_setTest_47 rfl rfl inm2 (by decide) T0 q237 rfl T_3 (by decide) ?_
            refine ww_iload C dX2_setTest_50 0 rfl ?_
            refine ww_iload_n C dX2_setTest_52 rfl 4 rfl ?_
            refine ww_iast C dX2_setTest_53 T_3 E (fun _ E => ?_)
            refine ww_bd E (fun dy4 E => ?_)
            refine ww_aload_n C dX2_setTest_54 rfl 1 rfl ?_
            have T_5 : gs S (gr S a0 5) = (1, 64) := hG.1 _ 2 T0 5 (by decide)
            refine ww_getr (ci := 2) (k0 := 5) C dX2_setTest_55 rfl rfl inm2 (by decide) T0 q238 rfl T_5 (by decide) ?_
            refine ww_iload C dX2_setTest_58 0 rfl ?_
            refine ww_iload C dX2_setTest_60 5 rfl ?_
            refine ww_iast C dX2_setTest_62 T_5 E (fun _ E => ?_)
            refine ww_bd E (fun dy6 E => ?_)
            refine ww_aload_n C dX2_setTest_63 rfl 1 rfl ?_
            have T_7 : gs S (gr S a0 6) = (3, 64) := hG.1 _ 2 T0 6 (by decide)
            refine ww_getr (ci := 2) (k0 := 6) C dX2_setTest_64 rfl rfl inm2 (by decide) T0 q239 rfl T_7 (by decide) ?_
            refine ww_iload C dX2_setTest_67 0 rfl ?_
            refine ww_iload C dX2_setTest_69 6 rfl ?_
            refine ww_zast C dX2_setTest_71 T_7 E (fun _ E => ?_)
            refine ww_bd E (fun dy8 E => ?_)
            exact ww_vret C HR HL dX2_setTest_72 E
