noncomputable def F_X9_about (S : ST) (N : Nat) (a0 : Nat) (a1 : Int32) (a2 : Int32) (dy : DY) : Option (Int32 × DY) := (F_X7_passageOf S N (gr S a0 0) a1 dy).bind fun u2 => if u2.1 = 0 then some ((-1 : Int32), u2.2) else if gs S u2.1 = (0, 4) then (if a2 = (0 : Int32) then some ((gi u2.2 u2.1 0), u2.2) else if a2 = (1 : Int32) then some ((gi u2.2 u2.1 1), u2.2) else if a2 = (2 : Int32) then some ((gi u2.2 u2.1 3), u2.2) else if a2 = (3 : Int32) then some ((gi u2.2 u2.1 2), u2.2) else some ((-1 : Int32), u2.2)) else none
theorem F_X9_about_s (S : ST) (N : Nat) (a0 : Nat) (a1 : Int32) (a2 : Int32) (dy : DY) : F_X9_about S N a0 a1 a2 dy = ((F_X7_passageOf S N (gr S a0 0) a1 dy).bind fun u2 => if u2.1 = 0 then some ((-1 : Int32), u2.2) else if gs S u2.1 = (0, 4) then (if a2 = (0 : Int32) then some ((gi u2.2 u2.1 0), u2.2) else if a2 = (1 : Int32) then some ((gi u2.2 u2.1 1), u2.2) else if a2 = (2 : Int32) then some ((gi u2.2 u2.1 3), u2.2) else if a2 = (3 : Int32) then some ((gi u2.2 u2.1 2), u2.2) else some ((-1 : Int32), u2.2)) else none) := rfl
noncomputable def F_X9_again (S : ST) (N : Nat) (a0 : Nat) (a1 : Int32) (dy : DY) : Option (Int32 × DY) := (if a1 < 0 then some ((0 : Int32), dy) else (if (3 : Int32) ≤ a1 then some ((0 : Int32), dy) else if ib a1 3 then (if (nr 3 (gi dy (gr S a0 2) a1.toNatClampNeg)) = 0 then some ((0 : Int32), dy) else if ib a1 3 then (F_X7_copyFrom S N (gr S a0 0) (gr S (gr S a0 1) a1.toNatClampNeg) dy).bind fun u5 => some ((1 : Int32), u5) else none) else none))
theorem F_X9_again_s (S : ST) (N : Nat) (a0 : Nat) (a1 : Int32) (dy : DY) : F_X9_again S N a0 a1 dy = (if a1 < 0 then some ((0 : Int32), dy) else (if (3 : Int32) ≤ a1 then some ((0 : Int32), dy) else if ib a1 3 then (if (nr 3 (gi dy (gr S a0 2) a1.toNatClampNeg)) = 0 then some ((0 : Int32), dy) else if ib a1 3 then (F_X7_copyFrom S N (gr S a0 0) (gr S (gr S a0 1) a1.toNatClampNeg) dy).bind fun u5 => some ((1 : Int32), u5) else none) else none)) := rfl
noncomputable def F_X9_areHatsOfTrial_63 (S : ST) (N : Nat) : Nat → Nat → Int32 → Nat → Int32 → DY → Option (Int32 × DY) := fun k => Nat.rec (motive := fun _ => Nat → Int32 → Nat → Int32 → DY → Option (Int32 × DY)) (fun _ _ _ _ _ => none) (fun _ ih x0 x1 x2 x3 dy => (if (gi dy (gr S x0 4) 3) ≤ x3 then some ((1 : Int32), dy) else (F_X8_isThere S N (gr S x0 6) x3 dy).bind fun u3 => (if u3.1 = 0 then ih x0 x1 x2 (x3 + (1 : Int32)) u3.2 else if ib x3 48 then if ib x3 48 then (F_X1_hasHat S N x2 x1 (gi u3.2 (gr S (gr S x0 6) 9) x3.toNatClampNeg) (gi u3.2 (gr S (gr S x0 6) 10) x3.toNatClampNeg) u3.2).bind fun u9 => (if u9.1 = 0 then some ((0 : Int32), u9.2) else ih x0 x1 x2 (x3 + (1 : Int32)) u9.2) else none else none))) k
theorem F_X9_areHatsOfTrial_63_s (S : ST) (N : Nat) (k : Nat) (x0 : Nat) (x1 : Int32) (x2 : Nat) (x3 : Int32) (dy : DY) : F_X9_areHatsOfTrial_63 S N (k + 1) x0 x1 x2 x3 dy = (if (gi dy (gr S x0 4) 3) ≤ x3 then some ((1 : Int32), dy) else (F_X8_isThere S N (gr S x0 6) x3 dy).bind fun u3 => (if u3.1 = 0 then (F_X9_areHatsOfTrial_63 S N k) x0 x1 x2 (x3 + (1 : Int32)) u3.2 else if ib x3 48 then if ib x3 48 then (F_X1_hasHat S N x2 x1 (gi u3.2 (gr S (gr S x0 6) 9) x3.toNatClampNeg) (gi u3.2 (gr S (gr S x0 6) 10) x3.toNatClampNeg) u3.2).bind fun u9 => (if u9.1 = 0 then some ((0 : Int32), u9.2) else (F_X9_areHatsOfTrial_63 S N k) x0 x1 x2 (x3 + (1 : Int32)) u9.2) else none else none)) := rfl
noncomputable def F_X9_areHatsOfTrial_10 (S : ST) (N : Nat) : Nat → Nat → Int32 → Nat → Int32 → DY → Option (Int32 × DY) := fun k => Nat.rec (motive := fun _ => Nat → Int32 → Nat → Int32 → DY → Option (Int32 × DY)) (fun _ _ _ _ _ => none) (fun _ ih x0 x1 x2 x3 dy => if ib x1 8 then (if (gi dy (gr S x2 0) x1.toNatClampNeg) ≤ x3 then (F_X9_areHatsOfTrial_63 S N N) x0 x1 x2 (0 : Int32) dy else if ib ((x1 * (6 : Int32)) + x3) 48 then if ib ((x1 * (6 : Int32)) + x3) 48 then (F_X8_whoIsOn S N (gr S x0 6) (gi dy (gr S x2 1) ((x1 * (6 : Int32)) + x3).toNatClampNeg) (gi dy (gr S x2 2) ((x1 * (6 : Int32)) + x3).toNatClampNeg) dy).bind fun u5 => (if u5.1 = (-1 : Int32) then some ((0 : Int32), u5.2) else ih x0 x1 x2 (x3 + (1 : Int32)) u5.2) else none else none) else none) k
theorem F_X9_areHatsOfTrial_10_s (S : ST) (N : Nat) (k : Nat) (x0 : Nat) (x1 : Int32) (x2 : Nat) (x3 : Int32) (dy : DY) : F_X9_areHatsOfTrial_10 S N (k + 1) x0 x1 x2 x3 dy = (if ib x1 8 then (if (gi dy (gr S x2 0) x1.toNatClampNeg) ≤ x3 then (F_X9_areHatsOfTrial_63 S N N) x0 x1 x2 (0 : Int32) dy else if ib ((x1 * (6 : Int32)) + x3) 48 then if ib ((x1 * (6 : Int32)) + x3) 48 then (F_X8_whoIsOn S N (gr S x0 6) (gi dy (gr S x2 1) ((x1 * (6 : Int32)) + x3).toNatClampNeg) (gi dy (gr S x2 2) ((x1 * (6 : Int32)) + x3).toNatClampNeg) dy).bind fun u5 => (if u5.1 = (-1 : Int32) then some ((0 : Int32), u5.2) else (F_X9_areHatsOfTrial_10 S N k) x0 x1 x2 (x3 + (1 : Int32)) u5.2) else none else none) else none) := rfl
noncomputable def F_X9_areHatsOfTrial (S : ST) (N : Nat) (a0 : Nat) (a1 : Int32) (dy : DY) : Option (Int32 × DY) := (F_X9_areHatsOfTrial_10 S N N) a0 a1 (gr S (gr S a0 0) 12) (0 : Int32) dy
theorem F_X9_areHatsOfTrial_s (S : ST) (N : Nat) (a0 : Nat) (a1 : Int32) (dy : DY) : F_X9_areHatsOfTrial S N a0 a1 dy = ((F_X9_areHatsOfTrial_10 S N N) a0 a1 (gr S (gr S a0 0) 12) (0 : Int32) dy) := rfl
noncomputable def F_X9_arrivals_10 (S : ST) (N : Nat) : Nat → Nat → Int32 → Int32 → DY → Option (Int32 × DY) := fun k => Nat.rec (motive := fun _ => Nat → Int32 → Int32 → DY → Option (Int32 × DY)) (fun _ _ _ _ => none) (fun _ ih x0 x2 x3 dy => (if x2 ≤ x3 then some ((gi dy (gr S x0 6) 5), dy) else (if (gi dy (gr S x0 4) 3) ≤ (gi dy (gr S x0 6) 5) then some ((gi dy (gr S x0 6) 5), dy) else (F_X8_pass S N (gr S x0 6) dy).bind fun u6 => ih x0 x2 (x3 + (1 : Int32)) u6.2))) k
theorem F_X9_arrivals_10_s (S : ST) (N : Nat) (k : Nat) (x0 : Nat) (x2 : Int32) (x3 : Int32) (dy : DY) : F_X9_arrivals_10 S N (k + 1) x0 x2 x3 dy = (if x2 ≤ x3 then some ((gi dy (gr S x0 6) 5), dy) else (if (gi dy (gr S x0 4) 3) ≤ (gi dy (gr S x0 6) 5) then some ((gi dy (gr S x0 6) 5), dy) else (F_X8_pass S N (gr S x0 6) dy).bind fun u6 => (F_X9_arrivals_10 S N k) x0 x2 (x3 + (1 : Int32)) u6.2)) := rfl
noncomputable def F_X9_arrivals (S : ST) (N : Nat) (a0 : Nat) (a1 : Int32) (a2 : Int32) (dy : DY) : Option (Int32 × DY) := (F_X8_begin S N (gr S a0 6) a1 dy).bind fun u2 => (F_X9_arrivals_10 S N N) a0 a2 (0 : Int32) u2
theorem F_X9_arrivals_s (S : ST) (N : Nat) (a0 : Nat) (a1 : Int32) (a2 : Int32) (dy : DY) : F_X9_arrivals S N a0 a1 a2 dy = ((F_X8_begin S N (gr S a0 6) a1 dy).bind fun u2 => (F_X9_arrivals_10 S N N) a0 a2 (0 : Int32) u2) := rfl
noncomputable def F_X9_bestChange_152 (S : ST) (N : Nat) (K41 : Nat → Int32 → Int32 → Int32 → Int32 → Int32 → Int32 → Int32 → DY → Option (Int32 × DY)) (x0 : Nat) (x1 : Int32) (x2 : Int32) (x3 : Int32) (x4 : Int32) (x5 : Int32) (x6 : Int32) (x7 : Int32) (x9 : Int32) (y0 : Nat) (y1 : Int32) (y2 : Int32) (y3 : Int32) (dy : DY) : Option (Int32 × DY) := (F_X4_setWall S N y0 y1 y2 y3 dy).bind fun u1 => (if x9 ≤ x4 then K41 x0 x1 x2 x3 x4 x5 x6 (x7 + (1 : Int32)) u1 else K41 x0 x1 x2 x3 x9 (((100 : Int32) * x6) + x7) x6 (x7 + (1 : Int32)) u1)
theorem F_X9_bestChange_152_s (S : ST) (N : Nat) (K41 : Nat → Int32 → Int32 → Int32 → Int32 → Int32 → Int32 → Int32 → DY → Option (Int32 × DY)) (x0 : Nat) (x1 : Int32) (x2 : Int32) (x3 : Int32) (x4 : Int32) (x5 : Int32) (x6 : Int32) (x7 : Int32) (x9 : Int32) (y0 : Nat) (y1 : Int32) (y2 : Int32) (y3 : Int32) (dy : DY) : F_X9_bestChange_152 S N K41 x0 x1 x2 x3 x4 x5 x6 x7 x9 y0 y1 y2 y3 dy = ((F_X4_setWall S N y0 y1 y2 y3 dy).bind fun u1 => (if x9 ≤ x4 then K41 x0 x1 x2 x3 x4 x5 x6 (x7 + (1 : Int32)) u1 else K41 x0 x1 x2 x3 x9 (((100 : Int32) * x6) + x7) x6 (x7 + (1 : Int32)) u1)) := rfl
noncomputable def F_X9_bestChange_115 (S : ST) (N : Nat) (K41 : Nat → Int32 → Int32 → Int32 → Int32 → Int32 → Int32 → Int32 → DY → Option (Int32 × DY)) (x0 : Nat) (x1 : Int32) (x2 : Int32) (x3 : Int32) (x4 : Int32) (x5 : Int32) (x6 : Int32) (x7 : Int32) (dy : DY) : Option (Int32 × DY) := (F_X4_setWall S N (gr S x0 4) x6 x7 x3 dy).bind fun u2 => (F_X9_arrivals S N x0 x1 x2 u2).bind fun u4 => (if x3 = 0 then (F_X9_bestChange_152 S N K41) x0 x1 x2 x3 x4 x5 x6 x7 u4.1 (gr S x0 4) x6 x7 (1 : Int32) u4.2 else (F_X9_bestChange_152 S N K41) x0 x1 x2 x3 x4 x5 x6 x7 u4.1 (gr S x0 4) x6 x7 (0 : Int32) u4.2)
theorem F_X9_bestChange_115_s (S : ST) (N : Nat) (K41 : Nat → Int32 → Int32 → Int32 → Int32 → Int32 → Int32 → Int32 → DY → Option (Int32 × DY)) (x0 : Nat) (x1 : Int32) (x2 : Int32) (x3 : Int32) (x4 : Int32) (x5 : Int32) (x6 : Int32) (x7 : Int32) (dy : DY) : F_X9_bestChange_115 S N K41 x0 x1 x2 x3 x4 x5 x6 x7 dy = ((F_X4_setWall S N (gr S x0 4) x6 x7 x3 dy).bind fun u2 => (F_X9_arrivals S N x0 x1 x2 u2).bind fun u4 => (if x3 = 0 then (F_X9_bestChange_152 S N K41) x0 x1 x2 x3 x4 x5 x6 x7 u4.1 (gr S x0 4) x6 x7 (1 : Int32) u4.2 else (F_X9_bestChange_152 S N K41) x0 x1 x2 x3 x4 x5 x6 x7 u4.1 (gr S x0 4) x6 x7 (0 : Int32) u4.2)) := rfl
noncomputable def F_X9_bestChange_84 (S : ST) (N : Nat) (K41 : Nat → Int32 → Int32 → Int32 → Int32 → Int32 → Int32 → Int32 → DY → Option (Int32 × DY)) (x0 : Nat) (x1 : Int32) (x2 : Int32) (x3 : Int32) (x4 : Int32) (x5 : Int32) (x6 : Int32) (x7 : Int32) (y0 : Int32) (dy : DY) : Option (Int32 × DY) := (if x3 = 0 then (F_X4_isWall S N (gr S x0 4) x6 x7 dy).bind fun u2 => (if u2.1 = 0 then K41 x0 x1 x2 x3 x4 x5 x6 (x7 + (1 : Int32)) u2.2 else (F_X9_bestChange_115 S N K41) x0 x1 x2 x3 x4 x5 x6 x7 u2.2) else (if y0 = 0 then K41 x0 x1 x2 x3 x4 x5 x6 (x7 + (1 : Int32)) dy else (F_X9_bestChange_115 S N K41) x0 x1 x2 x3 x4 x5 x6 x7 dy))
theorem F_X9_bestChange_84_s (S : ST) (N : Nat) (K41 : Nat → Int32 → Int32 → Int32 → Int32 → Int32 → Int32 → Int32 → DY → Option (Int32 × DY)) (x0 : Nat) (x1 : Int32) (x2 : Int32) (x3 : Int32) (x4 : Int32) (x5 : Int32) (x6 : Int32) (x7 : Int32) (y0 : Int32) (dy : DY) : F_X9_bestChange_84 S N K41 x0 x1 x2 x3 x4 x5 x6 x7 y0 dy = (if x3 = 0 then (F_X4_isWall S N (gr S x0 4) x6 x7 dy).bind fun u2 => (if u2.1 = 0 then K41 x0 x1 x2 x3 x4 x5 x6 (x7 + (1 : Int32)) u2.2 else (F_X9_bestChange_115 S N K41) x0 x1 x2 x3 x4 x5 x6 x7 u2.2) else (if y0 = 0 then K41 x0 x1 x2 x3 x4 x5 x6 (x7 + (1 : Int32)) dy else (F_X9_bestChange_115 S N K41) x0 x1 x2 x3 x4 x5 x6 x7 dy)) := rfl
noncomputable def F_X9_bestChange_41 (S : ST) (N : Nat) (K14 : Nat → Int32 → Int32 → Int32 → Int32 → Int32 → Int32 → DY → Option (Int32 × DY)) : Nat → Nat → Int32 → Int32 → Int32 → Int32 → Int32 → Int32 → Int32 → DY → Option (Int32 × DY) := fun k => Nat.rec (motive := fun _ => Nat → Int32 → Int32 → Int32 → Int32 → Int32 → Int32 → Int32 → DY → Option (Int32 × DY)) (fun _ _ _ _ _ _ _ _ _ => none) (fun _ ih x0 x1 x2 x3 x4 x5 x6 x7 dy => (if (gi dy (gr S x0 4) 1) ≤ x7 then K14 x0 x1 x2 x3 x4 x5 (x6 + (1 : Int32)) dy else (if (gi dy (gr S x0 4) 3) ≤ x4 then K14 x0 x1 x2 x3 x4 x5 (x6 + (1 : Int32)) dy else (F_X4_isTaken S N (gr S x0 4) x6 x7 dy).bind fun u4 => (if u4.1 = 0 then (F_X9_bestChange_84 S N ih) x0 x1 x2 x3 x4 x5 x6 x7 (1 : Int32) u4.2 else (F_X9_bestChange_84 S N ih) x0 x1 x2 x3 x4 x5 x6 x7 (0 : Int32) u4.2)))) k
theorem F_X9_bestChange_41_s (S : ST) (N : Nat) (K14 : Nat → Int32 → Int32 → Int32 → Int32 → Int32 → Int32 → DY → Option (Int32 × DY)) (k : Nat) (x0 : Nat) (x1 : Int32) (x2 : Int32) (x3 : Int32) (x4 : Int32) (x5 : Int32) (x6 : Int32) (x7 : Int32) (dy : DY) : F_X9_bestChange_41 S N K14 (k + 1) x0 x1 x2 x3 x4 x5 x6 x7 dy = (if (gi dy (gr S x0 4) 1) ≤ x7 then K14 x0 x1 x2 x3 x4 x5 (x6 + (1 : Int32)) dy else (if (gi dy (gr S x0 4) 3) ≤ x4 then K14 x0 x1 x2 x3 x4 x5 (x6 + (1 : Int32)) dy else (F_X4_isTaken S N (gr S x0 4) x6 x7 dy).bind fun u4 => (if u4.1 = 0 then (F_X9_bestChange_84 S N (F_X9_bestChange_41 S N K14 k)) x0 x1 x2 x3 x4 x5 x6 x7 (1 : Int32) u4.2 else (F_X9_bestChange_84 S N (F_X9_bestChange_41 S N K14 k)) x0 x1 x2 x3 x4 x5 x6 x7 (0 : Int32) u4.2))) := rfl
noncomputable def F_X9_bestChange_14 (S : ST) (N : Nat) : Nat → Nat → Int32 → Int32 → Int32 → Int32 → Int32 → Int32 → DY → Option (Int32 × DY) := fun k => Nat.rec (motive := fun _ => Nat → Int32 → Int32 → Int32 → Int32 → Int32 → Int32 → DY → Option (Int32 × DY)) (fun _ _ _ _ _ _ _ _ => none) (fun _ ih x0 x1 x2 x3 x4 x5 x6 dy => (if (gi dy (gr S x0 4) 0) ≤ x6 then some (x5, dy) else (if (gi dy (gr S x0 4) 3) ≤ x4 then some (x5, dy) else (F_X9_bestChange_41 S N ih N) x0 x1 x2 x3 x4 x5 x6 (0 : Int32) dy))) k
theorem F_X9_bestChange_14_s (S : ST) (N : Nat) (k : Nat) (x0 : Nat) (x1 : Int32) (x2 : Int32) (x3 : Int32) (x4 : Int32) (x5 : Int32) (x6 : Int32) (dy : DY) : F_X9_bestChange_14 S N (k + 1) x0 x1 x2 x3 x4 x5 x6 dy = (if (gi dy (gr S x0 4) 0) ≤ x6 then some (x5, dy) else (if (gi dy (gr S x0 4) 3) ≤ x4 then some (x5, dy) else (F_X9_bestChange_41 S N (F_X9_bestChange_14 S N k) N) x0 x1 x2 x3 x4 x5 x6 (0 : Int32) dy)) := rfl
noncomputable def F_X9_bestChange (S : ST) (N : Nat) (a0 : Nat) (a1 : Int32) (a2 : Int32) (a3 : Int32) (dy : DY) : Option (Int32 × DY) := (F_X9_arrivals S N a0 a1 a2 dy).bind fun u1 => (F_X9_bestChange_14 S N N) a0 a1 a2 a3 u1.1 (-1 : Int32) (0 : Int32) u1.2
theorem F_X9_bestChange_s (S : ST) (N : Nat) (a0 : Nat) (a1 : Int32) (a2 : Int32) (a3 : Int32) (dy : DY) : F_X9_bestChange S N a0 a1 a2 a3 dy = ((F_X9_arrivals S N a0 a1 a2 dy).bind fun u1 => (F_X9_bestChange_14 S N N) a0 a1 a2 a3 u1.1 (-1 : Int32) (0 : Int32) u1.2) := rfl
noncomputable def F_X9_isTime (S : ST) (N : Nat) (a0 : Int32) (a1 : Int32) (dy : DY) : Option (Int32 × DY) := (if a0 < (1 : Int32) then some ((0 : Int32), dy) else (if a1 < a0 then some ((0 : Int32), dy) else some ((1 : Int32), dy)))
theorem F_X9_isTime_s (S : ST) (N : Nat) (a0 : Int32) (a1 : Int32) (dy : DY) : F_X9_isTime S N a0 a1 dy = (if a0 < (1 : Int32) then some ((0 : Int32), dy) else (if a1 < a0 then some ((0 : Int32), dy) else some ((1 : Int32), dy))) := rfl
noncomputable def F_X9_prepare (S : ST) (N : Nat) (a0 : Nat) (a1 : Int32) (a2 : Int32) (dy : DY) : Option (Int32 × DY) := (F_X7_passageOf S N (gr S a0 0) a1 dy).bind fun u2 => if u2.1 = 0 then (F_X7_lawOf S N (gr S a0 0) a2 u2.2).bind fun u7 => if u7.1 = 0 then some ((0 : Int32), u7.2) else if gs S u7.1 = (0, 2) then some ((0 : Int32), u7.2) else none else if gs S u2.1 = (0, 4) then (F_X7_lawOf S N (gr S a0 0) a2 u2.2).bind fun u12 => if u12.1 = 0 then some ((0 : Int32), u12.2) else if gs S u12.1 = (0, 2) then (F_X4_copyFrom S N (gr S a0 4) u2.1 u12.2).bind fun u17 => (F_X2_copyFrom S N (gr S a0 5) u12.1 u17).bind fun u20 => some ((1 : Int32), u20) else none else none
theorem F_X9_prepare_s (S : ST) (N : Nat) (a0 : Nat) (a1 : Int32) (a2 : Int32) (dy : DY) : F_X9_prepare S N a0 a1 a2 dy = ((F_X7_passageOf S N (gr S a0 0) a1 dy).bind fun u2 => if u2.1 = 0 then (F_X7_lawOf S N (gr S a0 0) a2 u2.2).bind fun u7 => if u7.1 = 0 then some ((0 : Int32), u7.2) else if gs S u7.1 = (0, 2) then some ((0 : Int32), u7.2) else none else if gs S u2.1 = (0, 4) then (F_X7_lawOf S N (gr S a0 0) a2 u2.2).bind fun u12 => if u12.1 = 0 then some ((0 : Int32), u12.2) else if gs S u12.1 = (0, 2) then (F_X4_copyFrom S N (gr S a0 4) u2.1 u12.2).bind fun u17 => (F_X2_copyFrom S N (gr S a0 5) u12.1 u17).bind fun u20 => some ((1 : Int32), u20) else none else none) := rfl
noncomputable def F_X9_better_21 (S : ST) (N : Nat) : Nat → Nat → Int32 → Int32 → Int32 → Int32 → Int32 → Int32 → DY → Option (Int32 × DY) := fun k => Nat.rec (motive := fun _ => Nat → Int32 → Int32 → Int32 → Int32 → Int32 → Int32 → DY → Option (Int32 × DY)) (fun _ _ _ _ _ _ _ _ => none) (fun _ ih x0 x1 x2 x3 x4 x5 x6 dy => (if (gi dy (gr S x0 0) 7) ≤ x6 then some (x5, dy) else (F_X9_prepare S N x0 x1 x6 dy).bind fun u2 => (if u2.1 = 0 then some ((-1 : Int32), u2.2) else (F_X9_arrivals S N x0 x2 x3 u2.2).bind fun u4 => (if u4.1 ≤ x4 then ih x0 x1 x2 x3 x4 x5 (x6 + (1 : Int32)) u4.2 else ih x0 x1 x2 x3 u4.1 x6 (x6 + (1 : Int32)) u4.2)))) k
theorem F_X9_better_21_s (S : ST) (N : Nat) (k : Nat) (x0 : Nat) (x1 : Int32) (x2 : Int32) (x3 : Int32) (x4 : Int32) (x5 : Int32) (x6 : Int32) (dy : DY) : F_X9_better_21 S N (k + 1) x0 x1 x2 x3 x4 x5 x6 dy = (if (gi dy (gr S x0 0) 7) ≤ x6 then some (x5, dy) else (F_X9_prepare S N x0 x1 x6 dy).bind fun u2 => (if u2.1 = 0 then some ((-1 : Int32), u2.2) else (F_X9_arrivals S N x0 x2 x3 u2.2).bind fun u4 => (if u4.1 ≤ x4 then (F_X9_better_21 S N k) x0 x1 x2 x3 x4 x5 (x6 + (1 : Int32)) u4.2 else (F_X9_better_21 S N k) x0 x1 x2 x3 u4.1 x6 (x6 + (1 : Int32)) u4.2))) := rfl
noncomputable def F_X9_better (S : ST) (N : Nat) (a0 : Nat) (a1 : Int32) (a2 : Int32) (a3 : Int32) (dy : DY) : Option (Int32 × DY) := (F_X9_isTime S N a3 (200 : Int32) dy).bind fun u1 => (if u1.1 = 0 then some ((-1 : Int32), u1.2) else (F_X9_better_21 S N N) a0 a1 a2 a3 (-1 : Int32) (-1 : Int32) (0 : Int32) u1.2)
theorem F_X9_better_s (S : ST) (N : Nat) (a0 : Nat) (a1 : Int32) (a2 : Int32) (a3 : Int32) (dy : DY) : F_X9_better S N a0 a1 a2 a3 dy = ((F_X9_isTime S N a3 (200 : Int32) dy).bind fun u1 => (if u1.1 = 0 then some ((-1 : Int32), u1.2) else (F_X9_better_21 S N N) a0 a1 a2 a3 (-1 : Int32) (-1 : Int32) (0 : Int32) u1.2)) := rfl
noncomputable def F_X9_tenthsOfOthers_13 (S : ST) (N : Nat) : Nat → Nat → Int32 → Int32 → Int32 → Int32 → DY → Option (Int32 × DY) := fun k => Nat.rec (motive := fun _ => Nat → Int32 → Int32 → Int32 → Int32 → DY → Option (Int32 × DY)) (fun _ _ _ _ _ _ => none) (fun _ ih x0 x2 x3 x4 x5 dy => (if (gi dy (gr S x0 4) 3) ≤ x5 then some (x4, dy) else (if x5 = x3 then ih x0 x2 x3 x4 (x5 + (1 : Int32)) dy else if ib x5 12 then (if (gi dy (gr S (gr S x0 6) 11) x5.toNatClampNeg) = (-1 : Int32) then ih x0 x2 x3 (x4 + x2) (x5 + (1 : Int32)) dy else if ib x5 12 then ih x0 x2 x3 (x4 + ((gi dy (gr S (gr S x0 6) 11) x5.toNatClampNeg) + (1 : Int32))) (x5 + (1 : Int32)) dy else none) else none))) k
theorem F_X9_tenthsOfOthers_13_s (S : ST) (N : Nat) (k : Nat) (x0 : Nat) (x2 : Int32) (x3 : Int32) (x4 : Int32) (x5 : Int32) (dy : DY) : F_X9_tenthsOfOthers_13 S N (k + 1) x0 x2 x3 x4 x5 dy = (if (gi dy (gr S x0 4) 3) ≤ x5 then some (x4, dy) else (if x5 = x3 then (F_X9_tenthsOfOthers_13 S N k) x0 x2 x3 x4 (x5 + (1 : Int32)) dy else if ib x5 12 then (if (gi dy (gr S (gr S x0 6) 11) x5.toNatClampNeg) = (-1 : Int32) then (F_X9_tenthsOfOthers_13 S N k) x0 x2 x3 (x4 + x2) (x5 + (1 : Int32)) dy else if ib x5 12 then (F_X9_tenthsOfOthers_13 S N k) x0 x2 x3 (x4 + ((gi dy (gr S (gr S x0 6) 11) x5.toNatClampNeg) + (1 : Int32))) (x5 + (1 : Int32)) dy else none) else none)) := rfl
noncomputable def F_X9_tenthsOfOthers (S : ST) (N : Nat) (a0 : Nat) (a1 : Int32) (a2 : Int32) (a3 : Int32) (dy : DY) : Option (Int32 × DY) := (F_X9_arrivals S N a0 a1 a2 dy).bind fun u1 => (F_X9_tenthsOfOthers_13 S N N) a0 a2 a3 (0 : Int32) (0 : Int32) u1.2
theorem F_X9_tenthsOfOthers_s (S : ST) (N : Nat) (a0 : Nat) (a1 : Int32) (a2 : Int32) (a3 : Int32) (dy : DY) : F_X9_tenthsOfOthers S N a0 a1 a2 a3 dy = ((F_X9_arrivals S N a0 a1 a2 dy).bind fun u1 => (F_X9_tenthsOfOthers_13 S N N) a0 a2 a3 (0 : Int32) (0 : Int32) u1.2) := rfl
noncomputable def F_X9_cost (S : ST) (N : Nat) (a0 : Nat) (a1 : Int32) (a2 : Int32) (a3 : Int32) (a4 : Int32) (a5 : Int32) (dy : DY) : Option (Int32 × DY) := (F_X9_isTime S N a4 (200 : Int32) dy).bind fun u1 => (if u1.1 = 0 then some ((-100000 : Int32), u1.2) else (F_X9_prepare S N a0 a1 a2 u1.2).bind fun u3 => (if u3.1 = 0 then some ((-100000 : Int32), u3.2) else (F_X4_has S N (gr S a0 4) a5 u3.2).bind fun u6 => (if u6.1 = 0 then some ((-100000 : Int32), u6.2) else (F_X9_tenthsOfOthers S N a0 a3 a4 a5 u6.2).bind fun u8 => (F_X4_drop S N (gr S a0 4) a5 u8.2).bind fun u11 => (F_X9_tenthsOfOthers S N a0 a3 a4 (-1 : Int32) u11).bind fun u13 => some ((u8.1 - u13.1), u13.2))))
theorem F_X9_cost_s (S : ST) (N : Nat) (a0 : Nat) (a1 : Int32) (a2 : Int32) (a3 : Int32) (a4 : Int32) (a5 : Int32) (dy : DY) : F_X9_cost S N a0 a1 a2 a3 a4 a5 dy = ((F_X9_isTime S N a4 (200 : Int32) dy).bind fun u1 => (if u1.1 = 0 then some ((-100000 : Int32), u1.2) else (F_X9_prepare S N a0 a1 a2 u1.2).bind fun u3 => (if u3.1 = 0 then some ((-100000 : Int32), u3.2) else (F_X4_has S N (gr S a0 4) a5 u3.2).bind fun u6 => (if u6.1 = 0 then some ((-100000 : Int32), u6.2) else (F_X9_tenthsOfOthers S N a0 a3 a4 a5 u6.2).bind fun u8 => (F_X4_drop S N (gr S a0 4) a5 u8.2).bind fun u11 => (F_X9_tenthsOfOthers S N a0 a3 a4 (-1 : Int32) u11).bind fun u13 => some ((u8.1 - u13.1), u13.2))))) := rfl
noncomputable def F_X9_count (S : ST) (N : Nat) (a0 : Nat) (a1 : Int32) (dy : DY) : Option (Int32 × DY) := (if a1 = 0 then some ((gi dy (gr S a0 0) 5), dy) else (if a1 = (1 : Int32) then some ((gi dy (gr S a0 0) 7), dy) else (if a1 < (2 : Int32) then some ((-2 : Int32), dy) else (if (10 : Int32) ≤ a1 then some ((-2 : Int32), dy) else if ib (a1 - (2 : Int32)) 8 then some ((gi dy (gr S (gr S (gr S a0 0) 12) 0) (a1 - (2 : Int32)).toNatClampNeg), dy) else none))))
theorem F_X9_count_s (S : ST) (N : Nat) (a0 : Nat) (a1 : Int32) (dy : DY) : F_X9_count S N a0 a1 dy = (if a1 = 0 then some ((gi dy (gr S a0 0) 5), dy) else (if a1 = (1 : Int32) then some ((gi dy (gr S a0 0) 7), dy) else (if a1 < (2 : Int32) then some ((-2 : Int32), dy) else (if (10 : Int32) ≤ a1 then some ((-2 : Int32), dy) else if ib (a1 - (2 : Int32)) 8 then some ((gi dy (gr S (gr S (gr S a0 0) 12) 0) (a1 - (2 : Int32)).toNatClampNeg), dy) else none)))) := rfl
noncomputable def F_X9_dark_4 (S : ST) (N : Nat) : Nat → Nat → Int32 → Int32 → DY → Option (Int32 × DY) := fun k => Nat.rec (motive := fun _ => Nat → Int32 → Int32 → DY → Option (Int32 × DY)) (fun _ _ _ _ => none) (fun _ ih x0 x1 x2 dy => (if (8 : Int32) ≤ x2 then some (x1, dy) else if ib x2 8 then if ib x2 8 then bd (si dy (gr S (gr S (gr S x0 0) 12) 0) x2.toNatClampNeg (0 : Int32)) fun dy7 => ih x0 (x1 + (gi dy (gr S (gr S (gr S x0 0) 12) 0) x2.toNatClampNeg)) (x2 + (1 : Int32)) dy7 else none else none)) k
theorem F_X9_dark_4_s (S : ST) (N : Nat) (k : Nat) (x0 : Nat) (x1 : Int32) (x2 : Int32) (dy : DY) : F_X9_dark_4 S N (k + 1) x0 x1 x2 dy = (if (8 : Int32) ≤ x2 then some (x1, dy) else if ib x2 8 then if ib x2 8 then bd (si dy (gr S (gr S (gr S x0 0) 12) 0) x2.toNatClampNeg (0 : Int32)) fun dy7 => (F_X9_dark_4 S N k) x0 (x1 + (gi dy (gr S (gr S (gr S x0 0) 12) 0) x2.toNatClampNeg)) (x2 + (1 : Int32)) dy7 else none else none) := rfl
noncomputable def F_X9_dark (S : ST) (N : Nat) (a0 : Nat) (dy : DY) : Option (Int32 × DY) := (F_X9_dark_4 S N N) a0 (0 : Int32) (0 : Int32) dy
theorem F_X9_dark_s (S : ST) (N : Nat) (a0 : Nat) (dy : DY) : F_X9_dark S N a0 dy = ((F_X9_dark_4 S N N) a0 (0 : Int32) (0 : Int32) dy) := rfl
noncomputable def F_X9_does_29 (S : ST) (N : Nat) (x0 : Nat) (x1 : Int32) (y0 : Int32) (dy : DY) : Option (Int32 × DY) := (if y0 = 0 then some ((-1 : Int32), dy) else (F_X8_deed S N (gr S (gr S x0 0) 10) x1 dy).bind fun u3 => some (u3.1, u3.2))
theorem F_X9_does_29_s (S : ST) (N : Nat) (x0 : Nat) (x1 : Int32) (y0 : Int32) (dy : DY) : F_X9_does_29 S N x0 x1 y0 dy = (if y0 = 0 then some ((-1 : Int32), dy) else (F_X8_deed S N (gr S (gr S x0 0) 10) x1 dy).bind fun u3 => some (u3.1, u3.2)) := rfl
noncomputable def F_X9_does (S : ST) (N : Nat) (a0 : Nat) (a1 : Int32) (dy : DY) : Option (Int32 × DY) := (if (nr 3 (gi dy (gr S a0 0) 11)) = 0 then (F_X9_does_29 S N) a0 a1 (0 : Int32) dy else (F_X8_isThere S N (gr S (gr S a0 0) 10) a1 dy).bind fun u4 => (if u4.1 = 0 then (F_X9_does_29 S N) a0 a1 (0 : Int32) u4.2 else (F_X9_does_29 S N) a0 a1 (1 : Int32) u4.2))
theorem F_X9_does_s (S : ST) (N : Nat) (a0 : Nat) (a1 : Int32) (dy : DY) : F_X9_does S N a0 a1 dy = (if (nr 3 (gi dy (gr S a0 0) 11)) = 0 then (F_X9_does_29 S N) a0 a1 (0 : Int32) dy else (F_X8_isThere S N (gr S (gr S a0 0) 10) a1 dy).bind fun u4 => (if u4.1 = 0 then (F_X9_does_29 S N) a0 a1 (0 : Int32) u4.2 else (F_X9_does_29 S N) a0 a1 (1 : Int32) u4.2)) := rfl
noncomputable def F_X9_door (S : ST) (N : Nat) (a0 : Nat) (a1 : Int32) (a2 : Int32) (dy : DY) : Option (Int32 × DY) := (if (nr 3 (gi dy (gr S a0 0) 11)) = 0 then some ((-1 : Int32), dy) else (if a1 < 0 then some ((-1 : Int32), dy) else (if ((gi dy (gr S (gr S a0 0) 8) 0) - (2 : Int32)) < a1 then some ((-1 : Int32), dy) else (if a2 < 0 then some ((-1 : Int32), dy) else (if a2 ≤ (2 : Int32) then (F_X8_doorOf S N (gr S (gr S a0 0) 10) a1 a2 dy).bind fun u6 => some (u6.1, u6.2) else some ((-1 : Int32), dy))))))
theorem F_X9_door_s (S : ST) (N : Nat) (a0 : Nat) (a1 : Int32) (a2 : Int32) (dy : DY) : F_X9_door S N a0 a1 a2 dy = (if (nr 3 (gi dy (gr S a0 0) 11)) = 0 then some ((-1 : Int32), dy) else (if a1 < 0 then some ((-1 : Int32), dy) else (if ((gi dy (gr S (gr S a0 0) 8) 0) - (2 : Int32)) < a1 then some ((-1 : Int32), dy) else (if a2 < 0 then some ((-1 : Int32), dy) else (if a2 ≤ (2 : Int32) then (F_X8_doorOf S N (gr S (gr S a0 0) 10) a1 a2 dy).bind fun u6 => some (u6.1, u6.2) else some ((-1 : Int32), dy)))))) := rfl
noncomputable def F_X9_end (S : ST) (N : Nat) (a0 : Nat) (a1 : Int32) (dy : DY) : Option (Int32 × DY) := (if a1 < 0 then some ((-1 : Int32), dy) else (if a1 ≤ (gi dy (gr S a0 0) 1) then bd (si dy (gr S a0 0) 1 a1) fun dy3 => some (a1, dy3) else some ((-1 : Int32), dy)))
theorem F_X9_end_s (S : ST) (N : Nat) (a0 : Nat) (a1 : Int32) (dy : DY) : F_X9_end S N a0 a1 dy = (if a1 < 0 then some ((-1 : Int32), dy) else (if a1 ≤ (gi dy (gr S a0 0) 1) then bd (si dy (gr S a0 0) 1 a1) fun dy3 => some (a1, dy3) else some ((-1 : Int32), dy))) := rfl
noncomputable def F_X9_fault (S : ST) (N : Nat) (a0 : Nat) (a1 : Int32) (dy : DY) : Option (Int32 × DY) := (if a1 = (0 : Int32) then some ((gi dy (gr S a0 0) 2), dy) else if a1 = (1 : Int32) then some ((gi dy (gr S a0 0) 3), dy) else some ((-1 : Int32), dy))
theorem F_X9_fault_s (S : ST) (N : Nat) (a0 : Nat) (a1 : Int32) (dy : DY) : F_X9_fault S N a0 a1 dy = (if a1 = (0 : Int32) then some ((gi dy (gr S a0 0) 2), dy) else if a1 = (1 : Int32) then some ((gi dy (gr S a0 0) 3), dy) else some ((-1 : Int32), dy)) := rfl
noncomputable def F_X9_feed (S : ST) (N : Nat) (a0 : Nat) (a1 : Int32) (a2 : Int32) (a3 : Int32) (a4 : Int32) (a5 : Int32) (dy : DY) : Option (Int32 × DY) := (if ((gi dy (gr S a0 0) 1) + (20 : Int32)) ≤ (500 : Int32) then (F_X7_append S N (gr S a0 0) a1 dy).bind fun u3 => (F_X7_append S N (gr S a0 0) a2 u3).bind fun u6 => (F_X7_append S N (gr S a0 0) a3 u6).bind fun u9 => (F_X7_append S N (gr S a0 0) a4 u9).bind fun u12 => (F_X7_append S N (gr S a0 0) a5 u12).bind fun u15 => some ((gi u15 (gr S a0 0) 1), u15) else some ((-1 : Int32), dy))
theorem F_X9_feed_s (S : ST) (N : Nat) (a0 : Nat) (a1 : Int32) (a2 : Int32) (a3 : Int32) (a4 : Int32) (a5 : Int32) (dy : DY) : F_X9_feed S N a0 a1 a2 a3 a4 a5 dy = (if ((gi dy (gr S a0 0) 1) + (20 : Int32)) ≤ (500 : Int32) then (F_X7_append S N (gr S a0 0) a1 dy).bind fun u3 => (F_X7_append S N (gr S a0 0) a2 u3).bind fun u6 => (F_X7_append S N (gr S a0 0) a3 u6).bind fun u9 => (F_X7_append S N (gr S a0 0) a4 u9).bind fun u12 => (F_X7_append S N (gr S a0 0) a5 u12).bind fun u15 => some ((gi u15 (gr S a0 0) 1), u15) else some ((-1 : Int32), dy)) := rfl
noncomputable def F_X9_finds (S : ST) (N : Nat) (a0 : Nat) (a1 : Int32) (a2 : Int32) (dy : DY) : Option (Int32 × DY) := (if (nr 3 (gi dy (gr S a0 0) 11)) = 0 then some ((-2 : Int32), dy) else (F_X8_isThere S N (gr S (gr S a0 0) 10) a1 dy).bind fun u4 => (if u4.1 = 0 then some ((-2 : Int32), u4.2) else (if a2 < 0 then some ((-2 : Int32), u4.2) else (if a2 < (11 : Int32) then (F_X8_look S N (gr S (gr S a0 0) 10) a1 u4.2).bind fun u8 => if ib a2 11 then some ((gi u8 (gr S (gr S (gr S a0 0) 10) 18) a2.toNatClampNeg), u8) else none else some ((-2 : Int32), u4.2)))))
theorem F_X9_finds_s (S : ST) (N : Nat) (a0 : Nat) (a1 : Int32) (a2 : Int32) (dy : DY) : F_X9_finds S N a0 a1 a2 dy = (if (nr 3 (gi dy (gr S a0 0) 11)) = 0 then some ((-2 : Int32), dy) else (F_X8_isThere S N (gr S (gr S a0 0) 10) a1 dy).bind fun u4 => (if u4.1 = 0 then some ((-2 : Int32), u4.2) else (if a2 < 0 then some ((-2 : Int32), u4.2) else (if a2 < (11 : Int32) then (F_X8_look S N (gr S (gr S a0 0) 10) a1 u4.2).bind fun u8 => if ib a2 11 then some ((gi u8 (gr S (gr S (gr S a0 0) 10) 18) a2.toNatClampNeg), u8) else none else some ((-2 : Int32), u4.2))))) := rfl
noncomputable def F_X9_fits_60 (S : ST) (N : Nat) (K25 : Nat → Int32 → Int32 → DY → Option (Int32 × DY)) (x0 : Nat) (x4 : Int32) (x5 : Int32) (dy : DY) : Option (Int32 × DY) := (F_X8_pass S N (gr S x0 6) dy).bind fun u2 => K25 x0 x4 (x5 + (1 : Int32)) u2.2
theorem F_X9_fits_60_s (S : ST) (N : Nat) (K25 : Nat → Int32 → Int32 → DY → Option (Int32 × DY)) (x0 : Nat) (x4 : Int32) (x5 : Int32) (dy : DY) : F_X9_fits_60 S N K25 x0 x4 x5 dy = ((F_X8_pass S N (gr S x0 6) dy).bind fun u2 => K25 x0 x4 (x5 + (1 : Int32)) u2.2) := rfl
noncomputable def F_X9_fits_25 (S : ST) (N : Nat) : Nat → Nat → Int32 → Int32 → DY → Option (Int32 × DY) := fun k => Nat.rec (motive := fun _ => Nat → Int32 → Int32 → DY → Option (Int32 × DY)) (fun _ _ _ _ => none) (fun _ ih x0 x4 x5 dy => (if (8 : Int32) ≤ x5 then some (x4, dy) else if ib x5 8 then (if (gi dy (gr S (gr S (gr S x0 0) 12) 0) x5.toNatClampNeg) ≤ 0 then (F_X9_fits_60 S N ih) x0 x4 x5 dy else (F_X9_areHatsOfTrial S N x0 x5 dy).bind fun u4 => (if u4.1 = 0 then (F_X9_fits_60 S N ih) x0 x4 x5 u4.2 else (F_X9_fits_60 S N ih) x0 (x4 + (1 : Int32)) x5 u4.2)) else none)) k
theorem F_X9_fits_25_s (S : ST) (N : Nat) (k : Nat) (x0 : Nat) (x4 : Int32) (x5 : Int32) (dy : DY) : F_X9_fits_25 S N (k + 1) x0 x4 x5 dy = (if (8 : Int32) ≤ x5 then some (x4, dy) else if ib x5 8 then (if (gi dy (gr S (gr S (gr S x0 0) 12) 0) x5.toNatClampNeg) ≤ 0 then (F_X9_fits_60 S N (F_X9_fits_25 S N k)) x0 x4 x5 dy else (F_X9_areHatsOfTrial S N x0 x5 dy).bind fun u4 => (if u4.1 = 0 then (F_X9_fits_60 S N (F_X9_fits_25 S N k)) x0 x4 x5 u4.2 else (F_X9_fits_60 S N (F_X9_fits_25 S N k)) x0 (x4 + (1 : Int32)) x5 u4.2)) else none) := rfl
noncomputable def F_X9_fits (S : ST) (N : Nat) (a0 : Nat) (a1 : Int32) (a2 : Int32) (a3 : Int32) (dy : DY) : Option (Int32 × DY) := (F_X9_prepare S N a0 a1 a2 dy).bind fun u1 => (if u1.1 = 0 then some ((-1 : Int32), u1.2) else (F_X8_begin S N (gr S a0 6) a3 u1.2).bind fun u4 => (F_X9_fits_25 S N N) a0 (0 : Int32) (0 : Int32) u4)
theorem F_X9_fits_s (S : ST) (N : Nat) (a0 : Nat) (a1 : Int32) (a2 : Int32) (a3 : Int32) (dy : DY) : F_X9_fits S N a0 a1 a2 a3 dy = ((F_X9_prepare S N a0 a1 a2 dy).bind fun u1 => (if u1.1 = 0 then some ((-1 : Int32), u1.2) else (F_X8_begin S N (gr S a0 6) a3 u1.2).bind fun u4 => (F_X9_fits_25 S N N) a0 (0 : Int32) (0 : Int32) u4)) := rfl
noncomputable def F_X9_flow (S : ST) (N : Nat) (a0 : Nat) (a1 : Int32) (a2 : Int32) (a3 : Int32) (a4 : Int32) (dy : DY) : Option (Int32 × DY) := (F_X9_isTime S N a4 (200 : Int32) dy).bind fun u1 => (if u1.1 = 0 then some ((-1 : Int32), u1.2) else (F_X9_prepare S N a0 a1 a2 u1.2).bind fun u3 => (if u3.1 = 0 then some ((-1 : Int32), u3.2) else (F_X9_arrivals S N a0 a3 a4 u3.2).bind fun u5 => (F_X8_mostArrivals S N (gr S a0 6) u5.2).bind fun u8 => some (u8.1, u8.2)))
theorem F_X9_flow_s (S : ST) (N : Nat) (a0 : Nat) (a1 : Int32) (a2 : Int32) (a3 : Int32) (a4 : Int32) (dy : DY) : F_X9_flow S N a0 a1 a2 a3 a4 dy = ((F_X9_isTime S N a4 (200 : Int32) dy).bind fun u1 => (if u1.1 = 0 then some ((-1 : Int32), u1.2) else (F_X9_prepare S N a0 a1 a2 u1.2).bind fun u3 => (if u3.1 = 0 then some ((-1 : Int32), u3.2) else (F_X9_arrivals S N a0 a3 a4 u3.2).bind fun u5 => (F_X8_mostArrivals S N (gr S a0 6) u5.2).bind fun u8 => some (u8.1, u8.2)))) := rfl
noncomputable def F_X9_fullest_34 (S : ST) (N : Nat) : Nat → Nat → Int32 → Int32 → Int32 → Int32 → DY → Option (Int32 × DY) := fun k => Nat.rec (motive := fun _ => Nat → Int32 → Int32 → Int32 → Int32 → DY → Option (Int32 × DY)) (fun _ _ _ _ _ _ => none) (fun _ ih x0 x3 x4 x5 x6 dy => (if x5 < x6 then some ((-1 : Int32), dy) else (F_X4_keepFirst S N (gr S x0 4) x6 x5 dy).bind fun u2 => (F_X9_arrivals S N x0 x3 x4 u2).bind fun u4 => (if x6 ≤ u4.1 then ih x0 x3 x4 x5 (x6 + (1 : Int32)) u4.2 else some (x6, u4.2)))) k
theorem F_X9_fullest_34_s (S : ST) (N : Nat) (k : Nat) (x0 : Nat) (x3 : Int32) (x4 : Int32) (x5 : Int32) (x6 : Int32) (dy : DY) : F_X9_fullest_34 S N (k + 1) x0 x3 x4 x5 x6 dy = (if x5 < x6 then some ((-1 : Int32), dy) else (F_X4_keepFirst S N (gr S x0 4) x6 x5 dy).bind fun u2 => (F_X9_arrivals S N x0 x3 x4 u2).bind fun u4 => (if x6 ≤ u4.1 then (F_X9_fullest_34 S N k) x0 x3 x4 x5 (x6 + (1 : Int32)) u4.2 else some (x6, u4.2))) := rfl
noncomputable def F_X9_fullest (S : ST) (N : Nat) (a0 : Nat) (a1 : Int32) (a2 : Int32) (a3 : Int32) (a4 : Int32) (dy : DY) : Option (Int32 × DY) := (F_X9_isTime S N a4 (200 : Int32) dy).bind fun u1 => (if u1.1 = 0 then some ((-1 : Int32), u1.2) else (F_X9_prepare S N a0 a1 a2 u1.2).bind fun u3 => (if u3.1 = 0 then some ((-1 : Int32), u3.2) else (F_X9_fullest_34 S N N) a0 a3 a4 (gi u3.2 (gr S a0 4) 3) (1 : Int32) u3.2))
theorem F_X9_fullest_s (S : ST) (N : Nat) (a0 : Nat) (a1 : Int32) (a2 : Int32) (a3 : Int32) (a4 : Int32) (dy : DY) : F_X9_fullest S N a0 a1 a2 a3 a4 dy = ((F_X9_isTime S N a4 (200 : Int32) dy).bind fun u1 => (if u1.1 = 0 then some ((-1 : Int32), u1.2) else (F_X9_prepare S N a0 a1 a2 u1.2).bind fun u3 => (if u3.1 = 0 then some ((-1 : Int32), u3.2) else (F_X9_fullest_34 S N N) a0 a3 a4 (gi u3.2 (gr S a0 4) 3) (1 : Int32) u3.2))) := rfl
noncomputable def F_X9_go_27 (S : ST) (N : Nat) : Nat → Nat → Int32 → Int32 → Int32 → DY → Option (Int32 × DY) := fun k => Nat.rec (motive := fun _ => Nat → Int32 → Int32 → Int32 → DY → Option (Int32 × DY)) (fun _ _ _ _ _ => none) (fun _ ih x0 x1 x2 x3 dy => (if x1 ≤ x3 then some (x2, dy) else (F_X8_pass S N (gr S (gr S x0 0) 10) dy).bind fun u3 => ih x0 x1 (x2 + u3.1) (x3 + (1 : Int32)) u3.2)) k
theorem F_X9_go_27_s (S : ST) (N : Nat) (k : Nat) (x0 : Nat) (x1 : Int32) (x2 : Int32) (x3 : Int32) (dy : DY) : F_X9_go_27 S N (k + 1) x0 x1 x2 x3 dy = (if x1 ≤ x3 then some (x2, dy) else (F_X8_pass S N (gr S (gr S x0 0) 10) dy).bind fun u3 => (F_X9_go_27 S N k) x0 x1 (x2 + u3.1) (x3 + (1 : Int32)) u3.2) := rfl
noncomputable def F_X9_go (S : ST) (N : Nat) (a0 : Nat) (a1 : Int32) (dy : DY) : Option (Int32 × DY) := (if (nr 3 (gi dy (gr S a0 0) 11)) = 0 then some ((-1 : Int32), dy) else (if a1 < 0 then some ((-1 : Int32), dy) else (if a1 ≤ (200 : Int32) then (F_X9_go_27 S N N) a0 a1 (0 : Int32) (0 : Int32) dy else some ((-1 : Int32), dy))))
theorem F_X9_go_s (S : ST) (N : Nat) (a0 : Nat) (a1 : Int32) (dy : DY) : F_X9_go S N a0 a1 dy = (if (nr 3 (gi dy (gr S a0 0) 11)) = 0 then some ((-1 : Int32), dy) else (if a1 < 0 then some ((-1 : Int32), dy) else (if a1 ≤ (200 : Int32) then (F_X9_go_27 S N N) a0 a1 (0 : Int32) (0 : Int32) dy else some ((-1 : Int32), dy)))) := rfl
noncomputable def F_X9_habitParts_17 (S : ST) (N : Nat) (rec : Int32 → Int32 → Int32 → Int32 → Int32 → Int32 → DY → Option (Int64 × DY)) (x1 : Int32) (x5 : Int32) (dy : DY) : Option (Int64 × DY) := (if x1 = x5 then some ((1 : Int64), dy) else some ((0 : Int64), dy))
theorem F_X9_habitParts_17_s (S : ST) (N : Nat) (rec : Int32 → Int32 → Int32 → Int32 → Int32 → Int32 → DY → Option (Int64 × DY)) (x1 : Int32) (x5 : Int32) (dy : DY) : F_X9_habitParts_17 S N rec x1 x5 dy = (if x1 = x5 then some ((1 : Int64), dy) else some ((0 : Int64), dy)) := rfl
noncomputable def F_X9_habitParts (S : ST) (N : Nat) : Nat → Int32 → Int32 → Int32 → Int32 → Int32 → Int32 → DY → Option (Int64 × DY) := fun k => Nat.rec (motive := fun _ => Int32 → Int32 → Int32 → Int32 → Int32 → Int32 → DY → Option (Int64 × DY)) (fun _ _ _ _ _ _ _ => none) (fun _ rec a0 a1 a2 a3 a4 a5 dy => (if a4 ≤ 0 then (F_X9_habitParts_17 S N rec) a1 a5 dy else (if (if 0 ≤ (a5 - a1) then (a5 - a1) else 0 - (a5 - a1)) ≤ a4 then (rec a0 a1 a2 a3 (a4 - (1 : Int32)) a5 dy).bind fun u1 => (if (lg_cmp ((a1).toInt64 * ((a0 - a1)).toInt64) (0 : Int64)) ≤ 0 then some ((((((6 : Int64) * (a0).toInt64) * ((a0 - (1 : Int32))).toInt64) - (((a2 + a3)).toInt64 * ((a1).toInt64 * ((a0 - a1)).toInt64))) * u1.1), u1.2) else (rec a0 (a1 + (1 : Int32)) a2 a3 (a4 - (1 : Int32)) a5 u1.2).bind fun u3 => (rec a0 (a1 - (1 : Int32)) a2 a3 (a4 - (1 : Int32)) a5 u3.2).bind fun u5 => some ((((((((6 : Int64) * (a0).toInt64) * ((a0 - (1 : Int32))).toInt64) - (((a2 + a3)).toInt64 * ((a1).toInt64 * ((a0 - a1)).toInt64))) * u1.1) + (((a2).toInt64 * ((a1).toInt64 * ((a0 - a1)).toInt64)) * u3.1)) + (((a3).toInt64 * ((a1).toInt64 * ((a0 - a1)).toInt64)) * u5.1)), u5.2)) else (F_X9_habitParts_17 S N rec) a1 a5 dy))) k
theorem F_X9_habitParts_s (S : ST) (N : Nat) (dep : Nat) (a0 : Int32) (a1 : Int32) (a2 : Int32) (a3 : Int32) (a4 : Int32) (a5 : Int32) (dy : DY) : F_X9_habitParts S N (dep + 1) a0 a1 a2 a3 a4 a5 dy = (if a4 ≤ 0 then (F_X9_habitParts_17 S N (F_X9_habitParts S N dep)) a1 a5 dy else (if (if 0 ≤ (a5 - a1) then (a5 - a1) else 0 - (a5 - a1)) ≤ a4 then ((F_X9_habitParts S N dep) a0 a1 a2 a3 (a4 - (1 : Int32)) a5 dy).bind fun u1 => (if (lg_cmp ((a1).toInt64 * ((a0 - a1)).toInt64) (0 : Int64)) ≤ 0 then some ((((((6 : Int64) * (a0).toInt64) * ((a0 - (1 : Int32))).toInt64) - (((a2 + a3)).toInt64 * ((a1).toInt64 * ((a0 - a1)).toInt64))) * u1.1), u1.2) else ((F_X9_habitParts S N dep) a0 (a1 + (1 : Int32)) a2 a3 (a4 - (1 : Int32)) a5 u1.2).bind fun u3 => ((F_X9_habitParts S N dep) a0 (a1 - (1 : Int32)) a2 a3 (a4 - (1 : Int32)) a5 u3.2).bind fun u5 => some ((((((((6 : Int64) * (a0).toInt64) * ((a0 - (1 : Int32))).toInt64) - (((a2 + a3)).toInt64 * ((a1).toInt64 * ((a0 - a1)).toInt64))) * u1.1) + (((a2).toInt64 * ((a1).toInt64 * ((a0 - a1)).toInt64)) * u3.1)) + (((a3).toInt64 * ((a1).toInt64 * ((a0 - a1)).toInt64)) * u5.1)), u5.2)) else (F_X9_habitParts_17 S N (F_X9_habitParts S N dep)) a1 a5 dy)) := rfl
noncomputable def F_X9_habit_67 (S : ST) (N : Nat) (x1 : Int32) (x2 : Int32) (x3 : Int32) (x4 : Int32) (x5 : Int32) (x6 : Int32) (x7 : Int32) (y0 : Int32) (dy : DY) : Option (Int64 × DY) := (if x7 = 0 then some ((-1 : Int64), dy) else (if y0 = 0 then some ((-1 : Int64), dy) else (if x5 < 0 then some ((-1 : Int64), dy) else (if x5 ≤ (6 : Int32) then (F_X9_habitParts S N 8 x1 x2 x3 x4 x5 x6 dy).bind fun u1 => some (u1.1, u1.2) else some ((-1 : Int64), dy)))))
theorem F_X9_habit_67_s (S : ST) (N : Nat) (x1 : Int32) (x2 : Int32) (x3 : Int32) (x4 : Int32) (x5 : Int32) (x6 : Int32) (x7 : Int32) (y0 : Int32) (dy : DY) : F_X9_habit_67 S N x1 x2 x3 x4 x5 x6 x7 y0 dy = (if x7 = 0 then some ((-1 : Int64), dy) else (if y0 = 0 then some ((-1 : Int64), dy) else (if x5 < 0 then some ((-1 : Int64), dy) else (if x5 ≤ (6 : Int32) then (F_X9_habitParts S N 8 x1 x2 x3 x4 x5 x6 dy).bind fun u1 => some (u1.1, u1.2) else some ((-1 : Int64), dy))))) := rfl
noncomputable def F_X9_habit_36 (S : ST) (N : Nat) (x1 : Int32) (x2 : Int32) (x3 : Int32) (x4 : Int32) (x5 : Int32) (x6 : Int32) (y0 : Int32) (dy : DY) : Option (Int64 × DY) := (if x3 < 0 then (F_X9_habit_67 S N) x1 x2 x3 x4 x5 x6 y0 (0 : Int32) dy else (if (12 : Int32) < x3 then (F_X9_habit_67 S N) x1 x2 x3 x4 x5 x6 y0 (0 : Int32) dy else (if x4 < 0 then (F_X9_habit_67 S N) x1 x2 x3 x4 x5 x6 y0 (0 : Int32) dy else (if ((12 : Int32) - x3) < x4 then (F_X9_habit_67 S N) x1 x2 x3 x4 x5 x6 y0 (0 : Int32) dy else (F_X9_habit_67 S N) x1 x2 x3 x4 x5 x6 y0 (1 : Int32) dy))))
theorem F_X9_habit_36_s (S : ST) (N : Nat) (x1 : Int32) (x2 : Int32) (x3 : Int32) (x4 : Int32) (x5 : Int32) (x6 : Int32) (y0 : Int32) (dy : DY) : F_X9_habit_36 S N x1 x2 x3 x4 x5 x6 y0 dy = (if x3 < 0 then (F_X9_habit_67 S N) x1 x2 x3 x4 x5 x6 y0 (0 : Int32) dy else (if (12 : Int32) < x3 then (F_X9_habit_67 S N) x1 x2 x3 x4 x5 x6 y0 (0 : Int32) dy else (if x4 < 0 then (F_X9_habit_67 S N) x1 x2 x3 x4 x5 x6 y0 (0 : Int32) dy else (if ((12 : Int32) - x3) < x4 then (F_X9_habit_67 S N) x1 x2 x3 x4 x5 x6 y0 (0 : Int32) dy else (F_X9_habit_67 S N) x1 x2 x3 x4 x5 x6 y0 (1 : Int32) dy)))) := rfl
noncomputable def F_X9_habit (S : ST) (N : Nat) (a0 : Nat) (a1 : Int32) (a2 : Int32) (a3 : Int32) (a4 : Int32) (a5 : Int32) (a6 : Int32) (dy : DY) : Option (Int64 × DY) := (if a1 < (2 : Int32) then (F_X9_habit_36 S N) a1 a2 a3 a4 a5 a6 (0 : Int32) dy else (if (8 : Int32) < a1 then (F_X9_habit_36 S N) a1 a2 a3 a4 a5 a6 (0 : Int32) dy else (if a2 < 0 then (F_X9_habit_36 S N) a1 a2 a3 a4 a5 a6 (0 : Int32) dy else (if a1 < a2 then (F_X9_habit_36 S N) a1 a2 a3 a4 a5 a6 (0 : Int32) dy else (if a6 < 0 then (F_X9_habit_36 S N) a1 a2 a3 a4 a5 a6 (0 : Int32) dy else (if a1 < a6 then (F_X9_habit_36 S N) a1 a2 a3 a4 a5 a6 (0 : Int32) dy else (F_X9_habit_36 S N) a1 a2 a3 a4 a5 a6 (1 : Int32) dy))))))
theorem F_X9_habit_s (S : ST) (N : Nat) (a0 : Nat) (a1 : Int32) (a2 : Int32) (a3 : Int32) (a4 : Int32) (a5 : Int32) (a6 : Int32) (dy : DY) : F_X9_habit S N a0 a1 a2 a3 a4 a5 a6 dy = (if a1 < (2 : Int32) then (F_X9_habit_36 S N) a1 a2 a3 a4 a5 a6 (0 : Int32) dy else (if (8 : Int32) < a1 then (F_X9_habit_36 S N) a1 a2 a3 a4 a5 a6 (0 : Int32) dy else (if a2 < 0 then (F_X9_habit_36 S N) a1 a2 a3 a4 a5 a6 (0 : Int32) dy else (if a1 < a2 then (F_X9_habit_36 S N) a1 a2 a3 a4 a5 a6 (0 : Int32) dy else (if a6 < 0 then (F_X9_habit_36 S N) a1 a2 a3 a4 a5 a6 (0 : Int32) dy else (if a1 < a6 then (F_X9_habit_36 S N) a1 a2 a3 a4 a5 a6 (0 : Int32) dy else (F_X9_habit_36 S N) a1 a2 a3 a4 a5 a6 (1 : Int32) dy)))))) := rfl
noncomputable def F_X9_isFrame (S : ST) (N : Nat) (a0 : Int32) (a1 : Int32) (dy : DY) : Option (Int32 × DY) := (if a0 < 0 then some ((0 : Int32), dy) else (if a1 ≤ a0 then some ((0 : Int32), dy) else some ((1 : Int32), dy)))
theorem F_X9_isFrame_s (S : ST) (N : Nat) (a0 : Int32) (a1 : Int32) (dy : DY) : F_X9_isFrame S N a0 a1 dy = (if a0 < 0 then some ((0 : Int32), dy) else (if a1 ≤ a0 then some ((0 : Int32), dy) else some ((1 : Int32), dy))) := rfl
noncomputable def F_X9_hat_25 (S : ST) (N : Nat) (x0 : Nat) (x1 : Int32) (x2 : Int32) (x3 : Int32) (y0 : Int32) (dy : DY) : Option (Int32 × DY) := (if y0 = 0 then some ((-1 : Int32), dy) else (F_X9_isFrame S N x1 (8 : Int32) dy).bind fun u1 => (if u1.1 = 0 then some ((-1 : Int32), u1.2) else (F_X1_add S N (gr S (gr S x0 0) 12) x1 x2 x3 u1.2).bind fun u5 => some (u5.1, u5.2)))
theorem F_X9_hat_25_s (S : ST) (N : Nat) (x0 : Nat) (x1 : Int32) (x2 : Int32) (x3 : Int32) (y0 : Int32) (dy : DY) : F_X9_hat_25 S N x0 x1 x2 x3 y0 dy = (if y0 = 0 then some ((-1 : Int32), dy) else (F_X9_isFrame S N x1 (8 : Int32) dy).bind fun u1 => (if u1.1 = 0 then some ((-1 : Int32), u1.2) else (F_X1_add S N (gr S (gr S x0 0) 12) x1 x2 x3 u1.2).bind fun u5 => some (u5.1, u5.2))) := rfl
noncomputable def F_X9_hat (S : ST) (N : Nat) (a0 : Nat) (a1 : Int32) (a2 : Int32) (a3 : Int32) (dy : DY) : Option (Int32 × DY) := (if a2 < 0 then (F_X9_hat_25 S N) a0 a1 a2 a3 (0 : Int32) dy else (if (100 : Int32) ≤ a2 then (F_X9_hat_25 S N) a0 a1 a2 a3 (0 : Int32) dy else (if a3 < 0 then (F_X9_hat_25 S N) a0 a1 a2 a3 (0 : Int32) dy else (if (100 : Int32) ≤ a3 then (F_X9_hat_25 S N) a0 a1 a2 a3 (0 : Int32) dy else (F_X9_hat_25 S N) a0 a1 a2 a3 (1 : Int32) dy))))
theorem F_X9_hat_s (S : ST) (N : Nat) (a0 : Nat) (a1 : Int32) (a2 : Int32) (a3 : Int32) (dy : DY) : F_X9_hat S N a0 a1 a2 a3 dy = (if a2 < 0 then (F_X9_hat_25 S N) a0 a1 a2 a3 (0 : Int32) dy else (if (100 : Int32) ≤ a2 then (F_X9_hat_25 S N) a0 a1 a2 a3 (0 : Int32) dy else (if a3 < 0 then (F_X9_hat_25 S N) a0 a1 a2 a3 (0 : Int32) dy else (if (100 : Int32) ≤ a3 then (F_X9_hat_25 S N) a0 a1 a2 a3 (0 : Int32) dy else (F_X9_hat_25 S N) a0 a1 a2 a3 (1 : Int32) dy)))) := rfl
noncomputable def F_X9_image (S : ST) (N : Nat) (a0 : Nat) (a1 : Int32) (dy : DY) : Option (Int32 × DY) := (if a1 < 0 then some ((0 : Int32), dy) else (if a1 < (3 : Int32) then if ib a1 3 then (F_X7_copyFrom S N (gr S (gr S a0 1) a1.toNatClampNeg) (gr S a0 0) dy).bind fun u4 => if ib a1 3 then bd (si u4 (gr S a0 2) a1.toNatClampNeg (1 : Int32)) fun dy7 => some ((1 : Int32), dy7) else none else none else some ((0 : Int32), dy)))
theorem F_X9_image_s (S : ST) (N : Nat) (a0 : Nat) (a1 : Int32) (dy : DY) : F_X9_image S N a0 a1 dy = (if a1 < 0 then some ((0 : Int32), dy) else (if a1 < (3 : Int32) then if ib a1 3 then (F_X7_copyFrom S N (gr S (gr S a0 1) a1.toNatClampNeg) (gr S a0 0) dy).bind fun u4 => if ib a1 3 then bd (si u4 (gr S a0 2) a1.toNatClampNeg (1 : Int32)) fun dy7 => some ((1 : Int32), dy7) else none else none else some ((0 : Int32), dy))) := rfl
noncomputable def F_X9_isPrice (S : ST) (N : Nat) (a0 : Int32) (dy : DY) : Option (Int32 × DY) := (if a0 < 0 then some ((0 : Int32), dy) else (if (99 : Int32) < a0 then some ((0 : Int32), dy) else some ((1 : Int32), dy)))
theorem F_X9_isPrice_s (S : ST) (N : Nat) (a0 : Int32) (dy : DY) : F_X9_isPrice S N a0 dy = (if a0 < 0 then some ((0 : Int32), dy) else (if (99 : Int32) < a0 then some ((0 : Int32), dy) else some ((1 : Int32), dy))) := rfl
noncomputable def F_X9_slotFor (S : ST) (N : Nat) (a0 : Int32) (a1 : Int32) (dy : DY) : Option (Int32 × DY) := (if a0 = (-1 : Int32) then (if (3 : Int32) ≤ a1 then some ((-2 : Int32), dy) else some (a1, dy)) else (if a0 < 0 then some ((-2 : Int32), dy) else (if a1 ≤ a0 then some ((-2 : Int32), dy) else some (a0, dy))))
theorem F_X9_slotFor_s (S : ST) (N : Nat) (a0 : Int32) (a1 : Int32) (dy : DY) : F_X9_slotFor S N a0 a1 dy = (if a0 = (-1 : Int32) then (if (3 : Int32) ≤ a1 then some ((-2 : Int32), dy) else some (a1, dy)) else (if a0 < 0 then some ((-2 : Int32), dy) else (if a1 ≤ a0 then some ((-2 : Int32), dy) else some (a0, dy)))) := rfl
noncomputable def F_X9_law (S : ST) (N : Nat) (a0 : Nat) (a1 : Int32) (dy : DY) : Option (Int32 × DY) := (F_X7_takeTape S N (gr S a0 0) dy).bind fun u2 => (F_X9_slotFor S N a1 (gi u2.2 (gr S a0 0) 7) u2.2).bind fun u5 => (if u5.1 = (-2 : Int32) then some ((-2 : Int32), u5.2) else (F_X3_read S N (gr S a0 9) u2.1 u5.2).bind fun u8 => bd (si u8.2 (gr S a0 0) 2 (gi u8.2 (gr S a0 3) 6)) fun dy12 => bd (si dy12 (gr S a0 0) 3 (gi dy12 (gr S a0 3) 7)) fun dy15 => (if u8.1 = 0 then some ((-1 : Int32), dy15) else (F_X7_keepLaw S N (gr S a0 0) u5.1 (gr S a0 5) dy15).bind fun u18 => some (u5.1, u18)))
theorem F_X9_law_s (S : ST) (N : Nat) (a0 : Nat) (a1 : Int32) (dy : DY) : F_X9_law S N a0 a1 dy = ((F_X7_takeTape S N (gr S a0 0) dy).bind fun u2 => (F_X9_slotFor S N a1 (gi u2.2 (gr S a0 0) 7) u2.2).bind fun u5 => (if u5.1 = (-2 : Int32) then some ((-2 : Int32), u5.2) else (F_X3_read S N (gr S a0 9) u2.1 u5.2).bind fun u8 => bd (si u8.2 (gr S a0 0) 2 (gi u8.2 (gr S a0 3) 6)) fun dy12 => bd (si dy12 (gr S a0 0) 3 (gi dy12 (gr S a0 3) 7)) fun dy15 => (if u8.1 = 0 then some ((-1 : Int32), dy15) else (F_X7_keepLaw S N (gr S a0 0) u5.1 (gr S a0 5) dy15).bind fun u18 => some (u5.1, u18)))) := rfl
noncomputable def F_X9_match (S : ST) (N : Nat) (a0 : Nat) (a1 : Int32) (a2 : Int32) (a3 : Int32) (dy : DY) : Option (Int32 × DY) := (F_X9_isFrame S N a1 (7 : Int32) dy).bind fun u1 => (if u1.1 = 0 then some ((-1 : Int32), u1.2) else (F_X9_isPrice S N a2 u1.2).bind fun u3 => (if u3.1 = 0 then some ((-1 : Int32), u3.2) else (F_X1_has S N (gr S (gr S a0 0) 12) a1 a3 u3.2).bind fun u7 => (if u7.1 = 0 then some ((-1 : Int32), u7.2) else (F_X1_pair S N (gr S (gr S a0 0) 12) a1 a2 u7.2).bind fun u11 => if ib a3 6 then some ((gi u11.2 (gr S (gr S (gr S a0 0) 12) 3) a3.toNatClampNeg), u11.2) else none)))
theorem F_X9_match_s (S : ST) (N : Nat) (a0 : Nat) (a1 : Int32) (a2 : Int32) (a3 : Int32) (dy : DY) : F_X9_match S N a0 a1 a2 a3 dy = ((F_X9_isFrame S N a1 (7 : Int32) dy).bind fun u1 => (if u1.1 = 0 then some ((-1 : Int32), u1.2) else (F_X9_isPrice S N a2 u1.2).bind fun u3 => (if u3.1 = 0 then some ((-1 : Int32), u3.2) else (F_X1_has S N (gr S (gr S a0 0) 12) a1 a3 u3.2).bind fun u7 => (if u7.1 = 0 then some ((-1 : Int32), u7.2) else (F_X1_pair S N (gr S (gr S a0 0) 12) a1 a2 u7.2).bind fun u11 => if ib a3 6 then some ((gi u11.2 (gr S (gr S (gr S a0 0) 12) 3) a3.toNatClampNeg), u11.2) else none)))) := rfl
noncomputable def F_X9_on (S : ST) (N : Nat) (a0 : Nat) (a1 : Int32) (a2 : Int32) (dy : DY) : Option (Int32 × DY) := (if (nr 3 (gi dy (gr S a0 0) 11)) = 0 then some ((-1 : Int32), dy) else (F_X4_isWall S N (gr S (gr S a0 0) 8) a1 a2 dy).bind fun u4 => (if u4.1 = 0 then (F_X8_whoIsOn S N (gr S (gr S a0 0) 10) a1 a2 u4.2).bind fun u8 => some (u8.1, u8.2) else some ((100 : Int32), u4.2)))
theorem F_X9_on_s (S : ST) (N : Nat) (a0 : Nat) (a1 : Int32) (a2 : Int32) (dy : DY) : F_X9_on S N a0 a1 a2 dy = (if (nr 3 (gi dy (gr S a0 0) 11)) = 0 then some ((-1 : Int32), dy) else (F_X4_isWall S N (gr S (gr S a0 0) 8) a1 a2 dy).bind fun u4 => (if u4.1 = 0 then (F_X8_whoIsOn S N (gr S (gr S a0 0) 10) a1 a2 u4.2).bind fun u8 => some (u8.1, u8.2) else some ((100 : Int32), u4.2))) := rfl
noncomputable def F_X9_opened (S : ST) (N : Nat) (a0 : Nat) (a1 : Int32) (a2 : Int32) (a3 : Int32) (a4 : Int32) (dy : DY) : Option (Int32 × DY) := (F_X9_isTime S N a4 (100 : Int32) dy).bind fun u1 => (if u1.1 = 0 then some ((-1 : Int32), u1.2) else (F_X9_prepare S N a0 a1 a2 u1.2).bind fun u3 => (if u3.1 = 0 then some ((-1 : Int32), u3.2) else (F_X9_bestChange S N a0 a3 a4 (0 : Int32) u3.2).bind fun u5 => some (u5.1, u5.2)))
theorem F_X9_opened_s (S : ST) (N : Nat) (a0 : Nat) (a1 : Int32) (a2 : Int32) (a3 : Int32) (a4 : Int32) (dy : DY) : F_X9_opened S N a0 a1 a2 a3 a4 dy = ((F_X9_isTime S N a4 (100 : Int32) dy).bind fun u1 => (if u1.1 = 0 then some ((-1 : Int32), u1.2) else (F_X9_prepare S N a0 a1 a2 u1.2).bind fun u3 => (if u3.1 = 0 then some ((-1 : Int32), u3.2) else (F_X9_bestChange S N a0 a3 a4 (0 : Int32) u3.2).bind fun u5 => some (u5.1, u5.2)))) := rfl
noncomputable def F_X9_passage (S : ST) (N : Nat) (a0 : Nat) (a1 : Int32) (dy : DY) : Option (Int32 × DY) := (F_X7_takeTape S N (gr S a0 0) dy).bind fun u2 => (F_X9_slotFor S N a1 (gi u2.2 (gr S a0 0) 5) u2.2).bind fun u5 => (if u5.1 = (-2 : Int32) then some ((-2 : Int32), u5.2) else (F_X5_read S N (gr S a0 8) u2.1 u5.2).bind fun u8 => bd (si u8.2 (gr S a0 0) 2 (gi u8.2 (gr S a0 3) 6)) fun dy12 => bd (si dy12 (gr S a0 0) 3 (gi dy12 (gr S a0 3) 7)) fun dy15 => (if u8.1 = 0 then some ((-1 : Int32), dy15) else (F_X7_keepPassage S N (gr S a0 0) u5.1 (gr S a0 4) dy15).bind fun u18 => some (u5.1, u18)))
theorem F_X9_passage_s (S : ST) (N : Nat) (a0 : Nat) (a1 : Int32) (dy : DY) : F_X9_passage S N a0 a1 dy = ((F_X7_takeTape S N (gr S a0 0) dy).bind fun u2 => (F_X9_slotFor S N a1 (gi u2.2 (gr S a0 0) 5) u2.2).bind fun u5 => (if u5.1 = (-2 : Int32) then some ((-2 : Int32), u5.2) else (F_X5_read S N (gr S a0 8) u2.1 u5.2).bind fun u8 => bd (si u8.2 (gr S a0 0) 2 (gi u8.2 (gr S a0 3) 6)) fun dy12 => bd (si dy12 (gr S a0 0) 3 (gi dy12 (gr S a0 3) 7)) fun dy15 => (if u8.1 = 0 then some ((-1 : Int32), dy15) else (F_X7_keepPassage S N (gr S a0 0) u5.1 (gr S a0 4) dy15).bind fun u18 => some (u5.1, u18)))) := rfl
noncomputable def F_X9_pillar (S : ST) (N : Nat) (a0 : Nat) (a1 : Int32) (a2 : Int32) (a3 : Int32) (a4 : Int32) (dy : DY) : Option (Int32 × DY) := (F_X9_isTime S N a4 (100 : Int32) dy).bind fun u1 => (if u1.1 = 0 then some ((-1 : Int32), u1.2) else (F_X9_prepare S N a0 a1 a2 u1.2).bind fun u3 => (if u3.1 = 0 then some ((-1 : Int32), u3.2) else (F_X9_bestChange S N a0 a3 a4 (1 : Int32) u3.2).bind fun u5 => some (u5.1, u5.2)))
theorem F_X9_pillar_s (S : ST) (N : Nat) (a0 : Nat) (a1 : Int32) (a2 : Int32) (a3 : Int32) (a4 : Int32) (dy : DY) : F_X9_pillar S N a0 a1 a2 a3 a4 dy = ((F_X9_isTime S N a4 (100 : Int32) dy).bind fun u1 => (if u1.1 = 0 then some ((-1 : Int32), u1.2) else (F_X9_prepare S N a0 a1 a2 u1.2).bind fun u3 => (if u3.1 = 0 then some ((-1 : Int32), u3.2) else (F_X9_bestChange S N a0 a3 a4 (1 : Int32) u3.2).bind fun u5 => some (u5.1, u5.2)))) := rfl
noncomputable def F_X9_ran (S : ST) (N : Nat) (a0 : Nat) (a1 : Int32) (a2 : Int32) (dy : DY) : Option (Int32 × DY) := (if (nr 3 (gi dy (gr S a0 0) 11)) = 0 then some ((-2 : Int32), dy) else (F_X4_has S N (gr S (gr S a0 0) 8) a1 dy).bind fun u4 => (if u4.1 = 0 then some ((-2 : Int32), u4.2) else (if a2 = (0 : Int32) then if ib a1 48 then some ((gi u4.2 (gr S (gr S (gr S a0 0) 10) 9) a1.toNatClampNeg), u4.2) else none else if a2 = (1 : Int32) then if ib a1 48 then some ((gi u4.2 (gr S (gr S (gr S a0 0) 10) 10) a1.toNatClampNeg), u4.2) else none else if a2 = (2 : Int32) then if ib a1 12 then some ((gi u4.2 (gr S (gr S (gr S a0 0) 10) 11) a1.toNatClampNeg), u4.2) else none else if a2 = (3 : Int32) then if ib a1 12 then some ((gi u4.2 (gr S (gr S (gr S a0 0) 10) 12) a1.toNatClampNeg), u4.2) else none else if a2 = (4 : Int32) then if ib a1 12 then some ((gi u4.2 (gr S (gr S (gr S a0 0) 10) 13) a1.toNatClampNeg), u4.2) else none else if a2 = (5 : Int32) then if ib a1 12 then some ((gi u4.2 (gr S (gr S (gr S a0 0) 10) 14) a1.toNatClampNeg), u4.2) else none else if a2 = (6 : Int32) then if ib a1 12 then some ((gi u4.2 (gr S (gr S (gr S a0 0) 10) 15) a1.toNatClampNeg), u4.2) else none else some ((-2 : Int32), u4.2))))
theorem F_X9_ran_s (S : ST) (N : Nat) (a0 : Nat) (a1 : Int32) (a2 : Int32) (dy : DY) : F_X9_ran S N a0 a1 a2 dy = (if (nr 3 (gi dy (gr S a0 0) 11)) = 0 then some ((-2 : Int32), dy) else (F_X4_has S N (gr S (gr S a0 0) 8) a1 dy).bind fun u4 => (if u4.1 = 0 then some ((-2 : Int32), u4.2) else (if a2 = (0 : Int32) then if ib a1 48 then some ((gi u4.2 (gr S (gr S (gr S a0 0) 10) 9) a1.toNatClampNeg), u4.2) else none else if a2 = (1 : Int32) then if ib a1 48 then some ((gi u4.2 (gr S (gr S (gr S a0 0) 10) 10) a1.toNatClampNeg), u4.2) else none else if a2 = (2 : Int32) then if ib a1 12 then some ((gi u4.2 (gr S (gr S (gr S a0 0) 10) 11) a1.toNatClampNeg), u4.2) else none else if a2 = (3 : Int32) then if ib a1 12 then some ((gi u4.2 (gr S (gr S (gr S a0 0) 10) 12) a1.toNatClampNeg), u4.2) else none else if a2 = (4 : Int32) then if ib a1 12 then some ((gi u4.2 (gr S (gr S (gr S a0 0) 10) 13) a1.toNatClampNeg), u4.2) else none else if a2 = (5 : Int32) then if ib a1 12 then some ((gi u4.2 (gr S (gr S (gr S a0 0) 10) 14) a1.toNatClampNeg), u4.2) else none else if a2 = (6 : Int32) then if ib a1 12 then some ((gi u4.2 (gr S (gr S (gr S a0 0) 10) 15) a1.toNatClampNeg), u4.2) else none else some ((-2 : Int32), u4.2)))) := rfl
noncomputable def F_X9_rules (S : ST) (N : Nat) (a0 : Nat) (a1 : Int32) (dy : DY) : Option (Int32 × DY) := (F_X7_lawOf S N (gr S a0 0) a1 dy).bind fun u2 => if u2.1 = 0 then some ((-1 : Int32), u2.2) else if gs S u2.1 = (0, 2) then some ((gi u2.2 u2.1 0), u2.2) else none
theorem F_X9_rules_s (S : ST) (N : Nat) (a0 : Nat) (a1 : Int32) (dy : DY) : F_X9_rules S N a0 a1 dy = ((F_X7_lawOf S N (gr S a0 0) a1 dy).bind fun u2 => if u2.1 = 0 then some ((-1 : Int32), u2.2) else if gs S u2.1 = (0, 2) then some ((gi u2.2 u2.1 0), u2.2) else none) := rfl
noncomputable def F_X9_run (S : ST) (N : Nat) (a0 : Nat) (a1 : Int32) (a2 : Int32) (a3 : Int32) (dy : DY) : Option (Int32 × DY) := (F_X7_passageOf S N (gr S a0 0) a1 dy).bind fun u2 => if u2.1 = 0 then (F_X7_lawOf S N (gr S a0 0) a2 u2.2).bind fun u7 => if u7.1 = 0 then some ((0 : Int32), u7.2) else if gs S u7.1 = (0, 2) then some ((0 : Int32), u7.2) else none else if gs S u2.1 = (0, 4) then (F_X7_lawOf S N (gr S a0 0) a2 u2.2).bind fun u12 => if u12.1 = 0 then some ((0 : Int32), u12.2) else if gs S u12.1 = (0, 2) then (F_X4_copyFrom S N (gr S (gr S a0 0) 8) u2.1 u12.2).bind fun u18 => (F_X2_copyFrom S N (gr S (gr S a0 0) 9) u12.1 u18).bind fun u22 => (F_X8_begin S N (gr S (gr S a0 0) 10) a3 u22).bind fun u26 => bd (si u26 (gr S a0 0) 11 (1 : Int32)) fun dy29 => some ((1 : Int32), dy29) else none else none
theorem F_X9_run_s (S : ST) (N : Nat) (a0 : Nat) (a1 : Int32) (a2 : Int32) (a3 : Int32) (dy : DY) : F_X9_run S N a0 a1 a2 a3 dy = ((F_X7_passageOf S N (gr S a0 0) a1 dy).bind fun u2 => if u2.1 = 0 then (F_X7_lawOf S N (gr S a0 0) a2 u2.2).bind fun u7 => if u7.1 = 0 then some ((0 : Int32), u7.2) else if gs S u7.1 = (0, 2) then some ((0 : Int32), u7.2) else none else if gs S u2.1 = (0, 4) then (F_X7_lawOf S N (gr S a0 0) a2 u2.2).bind fun u12 => if u12.1 = 0 then some ((0 : Int32), u12.2) else if gs S u12.1 = (0, 2) then (F_X4_copyFrom S N (gr S (gr S a0 0) 8) u2.1 u12.2).bind fun u18 => (F_X2_copyFrom S N (gr S (gr S a0 0) 9) u12.1 u18).bind fun u22 => (F_X8_begin S N (gr S (gr S a0 0) 10) a3 u22).bind fun u26 => bd (si u26 (gr S a0 0) 11 (1 : Int32)) fun dy29 => some ((1 : Int32), dy29) else none else none) := rfl
noncomputable def F_X9_slack_37 (S : ST) (N : Nat) : Nat → Nat → Int32 → Int32 → Int32 → Int32 → DY → Option (Int32 × DY) := fun k => Nat.rec (motive := fun _ => Nat → Int32 → Int32 → Int32 → Int32 → DY → Option (Int32 × DY)) (fun _ _ _ _ _ _ => none) (fun _ ih x0 x3 x4 x5 x6 dy => (if x6 < 0 then some ((-1 : Int32), dy) else if ib x5 12 then bd (si dy (gr S (gr S x0 4) 9) x5.toNatClampNeg x6) fun dy3 => (F_X9_arrivals S N x0 x3 x4 dy3).bind fun u4 => (if u4.1 = (gi u4.2 (gr S x0 4) 3) then some (x6, u4.2) else ih x0 x3 x4 x5 (x6 + (-1 : Int32)) u4.2) else none)) k
theorem F_X9_slack_37_s (S : ST) (N : Nat) (k : Nat) (x0 : Nat) (x3 : Int32) (x4 : Int32) (x5 : Int32) (x6 : Int32) (dy : DY) : F_X9_slack_37 S N (k + 1) x0 x3 x4 x5 x6 dy = (if x6 < 0 then some ((-1 : Int32), dy) else if ib x5 12 then bd (si dy (gr S (gr S x0 4) 9) x5.toNatClampNeg x6) fun dy3 => (F_X9_arrivals S N x0 x3 x4 dy3).bind fun u4 => (if u4.1 = (gi u4.2 (gr S x0 4) 3) then some (x6, u4.2) else (F_X9_slack_37 S N k) x0 x3 x4 x5 (x6 + (-1 : Int32)) u4.2) else none) := rfl
noncomputable def F_X9_slack (S : ST) (N : Nat) (a0 : Nat) (a1 : Int32) (a2 : Int32) (a3 : Int32) (a4 : Int32) (a5 : Int32) (dy : DY) : Option (Int32 × DY) := (F_X9_isTime S N a4 (200 : Int32) dy).bind fun u1 => (if u1.1 = 0 then some ((-1 : Int32), u1.2) else (F_X9_prepare S N a0 a1 a2 u1.2).bind fun u3 => (if u3.1 = 0 then some ((-1 : Int32), u3.2) else (F_X4_has S N (gr S a0 4) a5 u3.2).bind fun u6 => (if u6.1 = 0 then some ((-1 : Int32), u6.2) else (F_X9_slack_37 S N N) a0 a3 a4 a5 (3 : Int32) u6.2)))
theorem F_X9_slack_s (S : ST) (N : Nat) (a0 : Nat) (a1 : Int32) (a2 : Int32) (a3 : Int32) (a4 : Int32) (a5 : Int32) (dy : DY) : F_X9_slack S N a0 a1 a2 a3 a4 a5 dy = ((F_X9_isTime S N a4 (200 : Int32) dy).bind fun u1 => (if u1.1 = 0 then some ((-1 : Int32), u1.2) else (F_X9_prepare S N a0 a1 a2 u1.2).bind fun u3 => (if u3.1 = 0 then some ((-1 : Int32), u3.2) else (F_X4_has S N (gr S a0 4) a5 u3.2).bind fun u6 => (if u6.1 = 0 then some ((-1 : Int32), u6.2) else (F_X9_slack_37 S N N) a0 a3 a4 a5 (3 : Int32) u6.2)))) := rfl
noncomputable def F_X9_state (S : ST) (N : Nat) (a0 : Nat) (a1 : Int32) (dy : DY) : Option (Int32 × DY) := (if (nr 3 (gi dy (gr S a0 0) 11)) = 0 then some ((-1 : Int32), dy) else (if a1 = (0 : Int32) then some ((gi dy (gr S (gr S a0 0) 10) 2), dy) else if a1 = (1 : Int32) then some ((gi dy (gr S (gr S a0 0) 10) 5), dy) else if a1 = (2 : Int32) then (if (gi dy (gr S (gr S a0 0) 10) 7) < (10 : Int32) then some ((0 : Int32), dy) else some ((1 : Int32), dy)) else if a1 = (3 : Int32) then some ((gi dy (gr S (gr S a0 0) 10) 6), dy) else if a1 = (4 : Int32) then (F_X8_lanes S N (gr S (gr S a0 0) 10) dy).bind fun u9 => some (u9.1, u9.2) else if a1 = (5 : Int32) then (F_X8_mixedRows S N (gr S (gr S a0 0) 10) dy).bind fun u12 => some (u12.1, u12.2) else if a1 = (6 : Int32) then some ((gi dy (gr S (gr S a0 0) 10) 4), dy) else some ((-1 : Int32), dy)))
theorem F_X9_state_s (S : ST) (N : Nat) (a0 : Nat) (a1 : Int32) (dy : DY) : F_X9_state S N a0 a1 dy = (if (nr 3 (gi dy (gr S a0 0) 11)) = 0 then some ((-1 : Int32), dy) else (if a1 = (0 : Int32) then some ((gi dy (gr S (gr S a0 0) 10) 2), dy) else if a1 = (1 : Int32) then some ((gi dy (gr S (gr S a0 0) 10) 5), dy) else if a1 = (2 : Int32) then (if (gi dy (gr S (gr S a0 0) 10) 7) < (10 : Int32) then some ((0 : Int32), dy) else some ((1 : Int32), dy)) else if a1 = (3 : Int32) then some ((gi dy (gr S (gr S a0 0) 10) 6), dy) else if a1 = (4 : Int32) then (F_X8_lanes S N (gr S (gr S a0 0) 10) dy).bind fun u9 => some (u9.1, u9.2) else if a1 = (5 : Int32) then (F_X8_mixedRows S N (gr S (gr S a0 0) 10) dy).bind fun u12 => some (u12.1, u12.2) else if a1 = (6 : Int32) then some ((gi dy (gr S (gr S a0 0) 10) 4), dy) else some ((-1 : Int32), dy))) := rfl
noncomputable def F_X9_touch_66 (S : ST) (N : Nat) : Nat → Nat → Int32 → Int32 → Int32 → Int32 → DY → Option (Int32 × DY) := fun k => Nat.rec (motive := fun _ => Nat → Int32 → Int32 → Int32 → Int32 → DY → Option (Int32 × DY)) (fun _ _ _ _ _ _ => none) (fun _ ih x0 x4 x5 x6 x7 dy => (if x4 ≤ x7 then some ((-1 : Int32), dy) else (F_X8_touches S N (gr S x0 6) x5 x6 dy).bind fun u2 => (if u2.1 = 0 then (F_X8_pass S N (gr S x0 6) u2.2).bind fun u5 => ih x0 x4 x5 x6 (x7 + (1 : Int32)) u5.2 else some (x7, u2.2)))) k
theorem F_X9_touch_66_s (S : ST) (N : Nat) (k : Nat) (x0 : Nat) (x4 : Int32) (x5 : Int32) (x6 : Int32) (x7 : Int32) (dy : DY) : F_X9_touch_66 S N (k + 1) x0 x4 x5 x6 x7 dy = (if x4 ≤ x7 then some ((-1 : Int32), dy) else (F_X8_touches S N (gr S x0 6) x5 x6 dy).bind fun u2 => (if u2.1 = 0 then (F_X8_pass S N (gr S x0 6) u2.2).bind fun u5 => (F_X9_touch_66 S N k) x0 x4 x5 x6 (x7 + (1 : Int32)) u5.2 else some (x7, u2.2))) := rfl
noncomputable def F_X9_touch (S : ST) (N : Nat) (a0 : Nat) (a1 : Int32) (a2 : Int32) (a3 : Int32) (a4 : Int32) (a5 : Int32) (a6 : Int32) (dy : DY) : Option (Int32 × DY) := (F_X9_isTime S N a4 (200 : Int32) dy).bind fun u1 => (if u1.1 = 0 then some ((-1 : Int32), u1.2) else (F_X9_prepare S N a0 a1 a2 u1.2).bind fun u3 => (if u3.1 = 0 then some ((-1 : Int32), u3.2) else (F_X4_has S N (gr S a0 4) a5 u3.2).bind fun u6 => (if u6.1 = 0 then some ((-1 : Int32), u6.2) else (F_X4_has S N (gr S a0 4) a6 u6.2).bind fun u9 => (if u9.1 = 0 then some ((-1 : Int32), u9.2) else (if a5 = a6 then some ((-1 : Int32), u9.2) else (F_X8_begin S N (gr S a0 6) a3 u9.2).bind fun u12 => (F_X9_touch_66 S N N) a0 a4 a5 a6 (0 : Int32) u12)))))
theorem F_X9_touch_s (S : ST) (N : Nat) (a0 : Nat) (a1 : Int32) (a2 : Int32) (a3 : Int32) (a4 : Int32) (a5 : Int32) (a6 : Int32) (dy : DY) : F_X9_touch S N a0 a1 a2 a3 a4 a5 a6 dy = ((F_X9_isTime S N a4 (200 : Int32) dy).bind fun u1 => (if u1.1 = 0 then some ((-1 : Int32), u1.2) else (F_X9_prepare S N a0 a1 a2 u1.2).bind fun u3 => (if u3.1 = 0 then some ((-1 : Int32), u3.2) else (F_X4_has S N (gr S a0 4) a5 u3.2).bind fun u6 => (if u6.1 = 0 then some ((-1 : Int32), u6.2) else (F_X4_has S N (gr S a0 4) a6 u6.2).bind fun u9 => (if u9.1 = 0 then some ((-1 : Int32), u9.2) else (if a5 = a6 then some ((-1 : Int32), u9.2) else (F_X8_begin S N (gr S a0 6) a3 u9.2).bind fun u12 => (F_X9_touch_66 S N N) a0 a4 a5 a6 (0 : Int32) u12)))))) := rfl
noncomputable def F_X9_track_67 (S : ST) (N : Nat) : Nat → Nat → Int32 → Int32 → Int32 → Int32 → DY → Option (Int32 × DY) := fun k => Nat.rec (motive := fun _ => Nat → Int32 → Int32 → Int32 → Int32 → DY → Option (Int32 × DY)) (fun _ _ _ _ _ _ => none) (fun _ ih x0 x3 x4 x6 x7 dy => (if x4 ≤ x7 then some (x6, dy) else (if x6 = (-1 : Int32) then some (x6, dy) else (F_X1_pair S N (gr S (gr S x0 0) 12) x7 x3 dy).bind fun u3 => (if x6 < 0 then ih x0 x3 x4 (-1 : Int32) (x7 + (1 : Int32)) u3.2 else (if (6 : Int32) ≤ x6 then ih x0 x3 x4 (-1 : Int32) (x7 + (1 : Int32)) u3.2 else if ib x6 6 then ih x0 x3 x4 (gi u3.2 (gr S (gr S (gr S x0 0) 12) 3) x6.toNatClampNeg) (x7 + (1 : Int32)) u3.2 else none))))) k
theorem F_X9_track_67_s (S : ST) (N : Nat) (k : Nat) (x0 : Nat) (x3 : Int32) (x4 : Int32) (x6 : Int32) (x7 : Int32) (dy : DY) : F_X9_track_67 S N (k + 1) x0 x3 x4 x6 x7 dy = (if x4 ≤ x7 then some (x6, dy) else (if x6 = (-1 : Int32) then some (x6, dy) else (F_X1_pair S N (gr S (gr S x0 0) 12) x7 x3 dy).bind fun u3 => (if x6 < 0 then (F_X9_track_67 S N k) x0 x3 x4 (-1 : Int32) (x7 + (1 : Int32)) u3.2 else (if (6 : Int32) ≤ x6 then (F_X9_track_67 S N k) x0 x3 x4 (-1 : Int32) (x7 + (1 : Int32)) u3.2 else if ib x6 6 then (F_X9_track_67 S N k) x0 x3 x4 (gi u3.2 (gr S (gr S (gr S x0 0) 12) 3) x6.toNatClampNeg) (x7 + (1 : Int32)) u3.2 else none)))) := rfl
noncomputable def F_X9_track_30 (S : ST) (N : Nat) (x0 : Nat) (x1 : Int32) (x2 : Int32) (x3 : Int32) (x4 : Int32) (y0 : Int32) (dy : DY) : Option (Int32 × DY) := (if y0 = 0 then some ((-1 : Int32), dy) else (F_X9_isPrice S N x3 dy).bind fun u1 => (if u1.1 = 0 then some ((-1 : Int32), u1.2) else (F_X1_has S N (gr S (gr S x0 0) 12) x1 x2 u1.2).bind fun u5 => (if u5.1 = 0 then some ((-1 : Int32), u5.2) else (F_X9_track_67 S N N) x0 x3 x4 x2 x1 u5.2)))
theorem F_X9_track_30_s (S : ST) (N : Nat) (x0 : Nat) (x1 : Int32) (x2 : Int32) (x3 : Int32) (x4 : Int32) (y0 : Int32) (dy : DY) : F_X9_track_30 S N x0 x1 x2 x3 x4 y0 dy = (if y0 = 0 then some ((-1 : Int32), dy) else (F_X9_isPrice S N x3 dy).bind fun u1 => (if u1.1 = 0 then some ((-1 : Int32), u1.2) else (F_X1_has S N (gr S (gr S x0 0) 12) x1 x2 u1.2).bind fun u5 => (if u5.1 = 0 then some ((-1 : Int32), u5.2) else (F_X9_track_67 S N N) x0 x3 x4 x2 x1 u5.2))) := rfl
noncomputable def F_X9_track (S : ST) (N : Nat) (a0 : Nat) (a1 : Int32) (a2 : Int32) (a3 : Int32) (a4 : Int32) (dy : DY) : Option (Int32 × DY) := (F_X9_isFrame S N a1 (8 : Int32) dy).bind fun u1 => (if u1.1 = 0 then (F_X9_track_30 S N) a0 a1 a2 a3 a4 (0 : Int32) u1.2 else (F_X9_isFrame S N a4 (8 : Int32) u1.2).bind fun u3 => (if u3.1 = 0 then (F_X9_track_30 S N) a0 a1 a2 a3 a4 (0 : Int32) u3.2 else (if a4 < a1 then (F_X9_track_30 S N) a0 a1 a2 a3 a4 (0 : Int32) u3.2 else (F_X9_track_30 S N) a0 a1 a2 a3 a4 (1 : Int32) u3.2)))
theorem F_X9_track_s (S : ST) (N : Nat) (a0 : Nat) (a1 : Int32) (a2 : Int32) (a3 : Int32) (a4 : Int32) (dy : DY) : F_X9_track S N a0 a1 a2 a3 a4 dy = ((F_X9_isFrame S N a1 (8 : Int32) dy).bind fun u1 => (if u1.1 = 0 then (F_X9_track_30 S N) a0 a1 a2 a3 a4 (0 : Int32) u1.2 else (F_X9_isFrame S N a4 (8 : Int32) u1.2).bind fun u3 => (if u3.1 = 0 then (F_X9_track_30 S N) a0 a1 a2 a3 a4 (0 : Int32) u3.2 else (if a4 < a1 then (F_X9_track_30 S N) a0 a1 a2 a3 a4 (0 : Int32) u3.2 else (F_X9_track_30 S N) a0 a1 a2 a3 a4 (1 : Int32) u3.2)))) := rfl
noncomputable def F_X9_two_84 (S : ST) (N : Nat) (y0 : Nat) (y1 : Int32) (y2 : Int32) (dy : DY) : Option (Int32 × DY) := (F_X0_parts S N y0 y1 y2 dy).bind fun u1 => some (u1.1, u1.2)
theorem F_X9_two_84_s (S : ST) (N : Nat) (y0 : Nat) (y1 : Int32) (y2 : Int32) (dy : DY) : F_X9_two_84 S N y0 y1 y2 dy = ((F_X0_parts S N y0 y1 y2 dy).bind fun u1 => some (u1.1, u1.2)) := rfl
noncomputable def F_X9_two_24 (S : ST) (N : Nat) (x0 : Nat) (x1 : Int32) (x2 : Int32) (x3 : Int32) (x4 : Int32) (y0 : Int32) (dy : DY) : Option (Int32 × DY) := (if y0 = 0 then some ((-1 : Int32), dy) else (if x3 < 0 then some ((-1 : Int32), dy) else (if (8 : Int32) < x3 then some ((-1 : Int32), dy) else (F_X9_prepare S N x0 x1 x2 dy).bind fun u1 => (if u1.1 = 0 then some ((-1 : Int32), u1.2) else (if (gi u1.2 (gr S x0 4) 3) = (2 : Int32) then (if x4 = 0 then (F_X9_two_84 S N) (gr S x0 7) x3 (0 : Int32) u1.2 else (F_X9_two_84 S N) (gr S x0 7) x3 (x4 - (9 : Int32)) u1.2) else some ((-1 : Int32), u1.2))))))
theorem F_X9_two_24_s (S : ST) (N : Nat) (x0 : Nat) (x1 : Int32) (x2 : Int32) (x3 : Int32) (x4 : Int32) (y0 : Int32) (dy : DY) : F_X9_two_24 S N x0 x1 x2 x3 x4 y0 dy = (if y0 = 0 then some ((-1 : Int32), dy) else (if x3 < 0 then some ((-1 : Int32), dy) else (if (8 : Int32) < x3 then some ((-1 : Int32), dy) else (F_X9_prepare S N x0 x1 x2 dy).bind fun u1 => (if u1.1 = 0 then some ((-1 : Int32), u1.2) else (if (gi u1.2 (gr S x0 4) 3) = (2 : Int32) then (if x4 = 0 then (F_X9_two_84 S N) (gr S x0 7) x3 (0 : Int32) u1.2 else (F_X9_two_84 S N) (gr S x0 7) x3 (x4 - (9 : Int32)) u1.2) else some ((-1 : Int32), u1.2)))))) := rfl
noncomputable def F_X9_two (S : ST) (N : Nat) (a0 : Nat) (a1 : Int32) (a2 : Int32) (a3 : Int32) (a4 : Int32) (dy : DY) : Option (Int32 × DY) := (if a4 = 0 then (F_X9_two_24 S N) a0 a1 a2 a3 a4 (1 : Int32) dy else (if a4 < (10 : Int32) then (F_X9_two_24 S N) a0 a1 a2 a3 a4 (0 : Int32) dy else (if (19 : Int32) ≤ a4 then (F_X9_two_24 S N) a0 a1 a2 a3 a4 (0 : Int32) dy else (F_X9_two_24 S N) a0 a1 a2 a3 a4 (1 : Int32) dy)))
theorem F_X9_two_s (S : ST) (N : Nat) (a0 : Nat) (a1 : Int32) (a2 : Int32) (a3 : Int32) (a4 : Int32) (dy : DY) : F_X9_two S N a0 a1 a2 a3 a4 dy = (if a4 = 0 then (F_X9_two_24 S N) a0 a1 a2 a3 a4 (1 : Int32) dy else (if a4 < (10 : Int32) then (F_X9_two_24 S N) a0 a1 a2 a3 a4 (0 : Int32) dy else (if (19 : Int32) ≤ a4 then (F_X9_two_24 S N) a0 a1 a2 a3 a4 (0 : Int32) dy else (F_X9_two_24 S N) a0 a1 a2 a3 a4 (1 : Int32) dy))) := rfl
noncomputable def F_X9_walker (S : ST) (N : Nat) (a0 : Nat) (a1 : Int32) (a2 : Int32) (a3 : Int32) (dy : DY) : Option (Int32 × DY) := (F_X7_passageOf S N (gr S a0 0) a1 dy).bind fun u2 => if u2.1 = 0 then some ((-2 : Int32), u2.2) else if gs S u2.1 = (0, 4) then (F_X4_has S N u2.1 a2 u2.2).bind fun u6 => (if u6.1 = 0 then some ((-2 : Int32), u6.2) else (if a3 = (0 : Int32) then if ib a2 12 then some ((gi u6.2 (gr S u2.1 5) a2.toNatClampNeg), u6.2) else none else if a3 = (1 : Int32) then if ib a2 12 then some ((gi u6.2 (gr S u2.1 6) a2.toNatClampNeg), u6.2) else none else if a3 = (2 : Int32) then if ib a2 12 then (if (gi u6.2 (gr S u2.1 7) a2.toNatClampNeg) ≤ 0 then some ((0 : Int32), u6.2) else some ((1 : Int32), u6.2)) else none else if a3 = (3 : Int32) then if ib a2 12 then some ((gi u6.2 (gr S u2.1 8) a2.toNatClampNeg), u6.2) else none else if a3 = (4 : Int32) then if ib a2 12 then some ((gi u6.2 (gr S u2.1 9) a2.toNatClampNeg), u6.2) else none else if a3 = (5 : Int32) then if ib a2 12 then some ((gi u6.2 (gr S u2.1 10) a2.toNatClampNeg), u6.2) else none else if a3 = (6 : Int32) then if ib a2 12 then some ((gi u6.2 (gr S u2.1 11) a2.toNatClampNeg), u6.2) else none else if a3 = (7 : Int32) then if ib a2 12 then some ((gi u6.2 (gr S u2.1 12) a2.toNatClampNeg), u6.2) else none else some ((-2 : Int32), u6.2))) else none
theorem F_X9_walker_s (S : ST) (N : Nat) (a0 : Nat) (a1 : Int32) (a2 : Int32) (a3 : Int32) (dy : DY) : F_X9_walker S N a0 a1 a2 a3 dy = ((F_X7_passageOf S N (gr S a0 0) a1 dy).bind fun u2 => if u2.1 = 0 then some ((-2 : Int32), u2.2) else if gs S u2.1 = (0, 4) then (F_X4_has S N u2.1 a2 u2.2).bind fun u6 => (if u6.1 = 0 then some ((-2 : Int32), u6.2) else (if a3 = (0 : Int32) then if ib a2 12 then some ((gi u6.2 (gr S u2.1 5) a2.toNatClampNeg), u6.2) else none else if a3 = (1 : Int32) then if ib a2 12 then some ((gi u6.2 (gr S u2.1 6) a2.toNatClampNeg), u6.2) else none else if a3 = (2 : Int32) then if ib a2 12 then (if (gi u6.2 (gr S u2.1 7) a2.toNatClampNeg) ≤ 0 then some ((0 : Int32), u6.2) else some ((1 : Int32), u6.2)) else none else if a3 = (3 : Int32) then if ib a2 12 then some ((gi u6.2 (gr S u2.1 8) a2.toNatClampNeg), u6.2) else none else if a3 = (4 : Int32) then if ib a2 12 then some ((gi u6.2 (gr S u2.1 9) a2.toNatClampNeg), u6.2) else none else if a3 = (5 : Int32) then if ib a2 12 then some ((gi u6.2 (gr S u2.1 10) a2.toNatClampNeg), u6.2) else none else if a3 = (6 : Int32) then if ib a2 12 then some ((gi u6.2 (gr S u2.1 11) a2.toNatClampNeg), u6.2) else none else if a3 = (7 : Int32) then if ib a2 12 then some ((gi u6.2 (gr S u2.1 12) a2.toNatClampNeg), u6.2) else none else some ((-2 : Int32), u6.2))) else none) := rfl
noncomputable def F_X9_worth (S : ST) (N : Nat) (a0 : Nat) (a1 : Int32) (a2 : Int32) (dy : DY) : Option (Int32 × DY) := (F_X9_isFrame S N a1 (7 : Int32) dy).bind fun u1 => (if u1.1 = 0 then some ((-1 : Int32), u1.2) else (F_X9_isPrice S N a2 u1.2).bind fun u3 => (if u3.1 = 0 then some ((-1 : Int32), u3.2) else (F_X1_pair S N (gr S (gr S a0 0) 12) a1 a2 u3.2).bind fun u7 => some (u7.1, u7.2)))
theorem F_X9_worth_s (S : ST) (N : Nat) (a0 : Nat) (a1 : Int32) (a2 : Int32) (dy : DY) : F_X9_worth S N a0 a1 a2 dy = ((F_X9_isFrame S N a1 (7 : Int32) dy).bind fun u1 => (if u1.1 = 0 then some ((-1 : Int32), u1.2) else (F_X9_isPrice S N a2 u1.2).bind fun u3 => (if u3.1 = 0 then some ((-1 : Int32), u3.2) else (F_X1_pair S N (gr S (gr S a0 0) 12) a1 a2 u3.2).bind fun u7 => some (u7.1, u7.2)))) := rfl
theorem dX9_about_0 : decode cX9_about 0 = .ok (.aload_n 0, 1) := by decide +kernel
theorem dX9_about_1 : decode cX9_about 1 = .ok (.getfield 10, 3) := by decide +kernel
theorem dX9_about_4 : decode cX9_about 4 = .ok (.iload_n 1, 1) := by decide +kernel
theorem dX9_about_5 : decode cX9_about 5 = .ok (.invokevirtual 128, 3) := by decide +kernel
theorem dX9_about_8 : decode cX9_about 8 = .ok (.astore_n 3, 1) := by decide +kernel
theorem dX9_about_9 : decode cX9_about 9 = .ok (.aload_n 3, 1) := by decide +kernel
theorem dX9_about_10 : decode cX9_about 10 = .ok (.ifnonnull 5, 3) := by decide +kernel
theorem dX9_about_13 : decode cX9_about 13 = .ok (.iconst (-1), 1) := by decide +kernel
theorem dX9_about_14 : decode cX9_about 14 = .ok (.ireturn, 1) := by decide +kernel
theorem dX9_about_15 : decode cX9_about 15 = .ok (.iload_n 2, 1) := by decide +kernel
theorem dX9_about_16 : decode cX9_about 16 = .ok (.tableswitch 52 0 3 #[32, 37, 42, 47], 32) := by decide +kernel
theorem dX9_about_48 : decode cX9_about 48 = .ok (.aload_n 3, 1) := by decide +kernel
theorem dX9_about_49 : decode cX9_about 49 = .ok (.getfield 132, 3) := by decide +kernel
theorem dX9_about_52 : decode cX9_about 52 = .ok (.ireturn, 1) := by decide +kernel
theorem dX9_about_53 : decode cX9_about 53 = .ok (.aload_n 3, 1) := by decide +kernel
theorem dX9_about_54 : decode cX9_about 54 = .ok (.getfield 135, 3) := by decide +kernel
theorem dX9_about_57 : decode cX9_about 57 = .ok (.ireturn, 1) := by decide +kernel
theorem dX9_about_58 : decode cX9_about 58 = .ok (.aload_n 3, 1) := by decide +kernel
theorem dX9_about_59 : decode cX9_about 59 = .ok (.getfield 138, 3) := by decide +kernel
theorem dX9_about_62 : decode cX9_about 62 = .ok (.ireturn, 1) := by decide +kernel
theorem dX9_about_63 : decode cX9_about 63 = .ok (.aload_n 3, 1) := by decide +kernel
theorem dX9_about_64 : decode cX9_about 64 = .ok (.getfield 141, 3) := by decide +kernel
theorem dX9_about_67 : decode cX9_about 67 = .ok (.ireturn, 1) := by decide +kernel
theorem dX9_about_68 : decode cX9_about 68 = .ok (.iconst (-1), 1) := by decide +kernel
theorem dX9_about_69 : decode cX9_about 69 = .ok (.ireturn, 1) := by decide +kernel
theorem dX9_again_0 : decode cX9_again 0 = .ok (.iload_n 1, 1) := by decide +kernel
theorem dX9_again_1 : decode cX9_again 1 = .ok (.ifCond .lt 17, 3) := by decide +kernel
theorem dX9_again_4 : decode cX9_again 4 = .ok (.iload_n 1, 1) := by decide +kernel
theorem dX9_again_5 : decode cX9_again 5 = .ok (.iconst 3, 1) := by decide +kernel
theorem dX9_again_6 : decode cX9_again 6 = .ok (.if_icmp .ge 12, 3) := by decide +kernel
theorem dX9_again_9 : decode cX9_again 9 = .ok (.aload_n 0, 1) := by decide +kernel
theorem dX9_again_10 : decode cX9_again 10 = .ok (.getfield 20, 3) := by decide +kernel
theorem dX9_again_13 : decode cX9_again 13 = .ok (.iload_n 1, 1) := by decide +kernel
theorem dX9_again_14 : decode cX9_again 14 = .ok (.baload, 1) := by decide +kernel
theorem dX9_again_15 : decode cX9_again 15 = .ok (.ifCond .ne 5, 3) := by decide +kernel
theorem dX9_again_18 : decode cX9_again 18 = .ok (.iconst 0, 1) := by decide +kernel
theorem dX9_again_19 : decode cX9_again 19 = .ok (.ireturn, 1) := by decide +kernel
theorem dX9_again_20 : decode cX9_again 20 = .ok (.aload_n 0, 1) := by decide +kernel
theorem dX9_again_21 : decode cX9_again 21 = .ok (.getfield 10, 3) := by decide +kernel
theorem dX9_again_24 : decode cX9_again 24 = .ok (.aload_n 0, 1) := by decide +kernel
theorem dX9_again_25 : decode cX9_again 25 = .ok (.getfield 16, 3) := by decide +kernel
theorem dX9_again_28 : decode cX9_again 28 = .ok (.iload_n 1, 1) := by decide +kernel
theorem dX9_again_29 : decode cX9_again 29 = .ok (.aaload, 1) := by decide +kernel
theorem dX9_again_30 : decode cX9_again 30 = .ok (.invokevirtual 351, 3) := by decide +kernel
theorem dX9_again_33 : decode cX9_again 33 = .ok (.iconst 1, 1) := by decide +kernel
theorem dX9_again_34 : decode cX9_again 34 = .ok (.ireturn, 1) := by decide +kernel
theorem dX9_areHatsOfTrial_0 : decode cX9_areHatsOfTrial 0 = .ok (.aload_n 0, 1) := by decide +kernel
theorem dX9_areHatsOfTrial_1 : decode cX9_areHatsOfTrial 1 = .ok (.getfield 10, 3) := by decide +kernel
theorem dX9_areHatsOfTrial_4 : decode cX9_areHatsOfTrial 4 = .ok (.getfield 296, 3) := by decide +kernel
theorem dX9_areHatsOfTrial_7 : decode cX9_areHatsOfTrial 7 = .ok (.astore_n 2, 1) := by decide +kernel
theorem dX9_areHatsOfTrial_8 : decode cX9_areHatsOfTrial 8 = .ok (.iconst 0, 1) := by decide +kernel
theorem dX9_areHatsOfTrial_9 : decode cX9_areHatsOfTrial 9 = .ok (.istore_n 3, 1) := by decide +kernel
theorem dX9_areHatsOfTrial_10 : decode cX9_areHatsOfTrial 10 = .ok (.iload_n 3, 1) := by decide +kernel
theorem dX9_areHatsOfTrial_11 : decode cX9_areHatsOfTrial 11 = .ok (.aload_n 2, 1) := by decide +kernel
theorem dX9_areHatsOfTrial_12 : decode cX9_areHatsOfTrial 12 = .ok (.getfield 300, 3) := by decide +kernel
theorem dX9_areHatsOfTrial_15 : decode cX9_areHatsOfTrial 15 = .ok (.iload_n 1, 1) := by decide +kernel
theorem dX9_areHatsOfTrial_16 : decode cX9_areHatsOfTrial 16 = .ok (.iaload, 1) := by decide +kernel
theorem dX9_areHatsOfTrial_17 : decode cX9_areHatsOfTrial 17 = .ok (.if_icmp .ge 44, 3) := by decide +kernel
theorem dX9_areHatsOfTrial_20 : decode cX9_areHatsOfTrial 20 = .ok (.iload_n 1, 1) := by decide +kernel
theorem dX9_areHatsOfTrial_21 : decode cX9_areHatsOfTrial 21 = .ok (.bipush 6, 2) := by decide +kernel
theorem dX9_areHatsOfTrial_23 : decode cX9_areHatsOfTrial 23 = .ok (.imul, 1) := by decide +kernel
theorem dX9_areHatsOfTrial_24 : decode cX9_areHatsOfTrial 24 = .ok (.iload_n 3, 1) := by decide +kernel
theorem dX9_areHatsOfTrial_25 : decode cX9_areHatsOfTrial 25 = .ok (.iadd, 1) := by decide +kernel
theorem dX9_areHatsOfTrial_26 : decode cX9_areHatsOfTrial 26 = .ok (.istore 4, 2) := by decide +kernel
theorem dX9_areHatsOfTrial_28 : decode cX9_areHatsOfTrial 28 = .ok (.aload_n 0, 1) := by decide +kernel
theorem dX9_areHatsOfTrial_29 : decode cX9_areHatsOfTrial 29 = .ok (.getfield 56, 3) := by decide +kernel
theorem dX9_areHatsOfTrial_32 : decode cX9_areHatsOfTrial 32 = .ok (.aload_n 2, 1) := by decide +kernel
theorem dX9_areHatsOfTrial_33 : decode cX9_areHatsOfTrial 33 = .ok (.getfield 315, 3) := by decide +kernel
theorem dX9_areHatsOfTrial_36 : decode cX9_areHatsOfTrial 36 = .ok (.iload 4, 2) := by decide +kernel
theorem dX9_areHatsOfTrial_38 : decode cX9_areHatsOfTrial 38 = .ok (.iaload, 1) := by decide +kernel
theorem dX9_areHatsOfTrial_39 : decode cX9_areHatsOfTrial 39 = .ok (.aload_n 2, 1) := by decide +kernel
theorem dX9_areHatsOfTrial_40 : decode cX9_areHatsOfTrial 40 = .ok (.getfield 316, 3) := by decide +kernel
theorem dX9_areHatsOfTrial_43 : decode cX9_areHatsOfTrial 43 = .ok (.iload 4, 2) := by decide +kernel
theorem dX9_areHatsOfTrial_45 : decode cX9_areHatsOfTrial 45 = .ok (.iaload, 1) := by decide +kernel
theorem dX9_areHatsOfTrial_46 : decode cX9_areHatsOfTrial 46 = .ok (.invokevirtual 235, 3) := by decide +kernel
theorem dX9_areHatsOfTrial_49 : decode cX9_areHatsOfTrial 49 = .ok (.iconst (-1), 1) := by decide +kernel
theorem dX9_areHatsOfTrial_50 : decode cX9_areHatsOfTrial 50 = .ok (.if_icmp .ne 5, 3) := by decide +kernel
theorem dX9_areHatsOfTrial_53 : decode cX9_areHatsOfTrial 53 = .ok (.iconst 0, 1) := by decide +kernel
theorem dX9_areHatsOfTrial_54 : decode cX9_areHatsOfTrial 54 = .ok (.ireturn, 1) := by decide +kernel
theorem dX9_areHatsOfTrial_55 : decode cX9_areHatsOfTrial 55 = .ok (.iinc 3 1, 3) := by decide +kernel
theorem dX9_areHatsOfTrial_58 : decode cX9_areHatsOfTrial 58 = .ok (.goto (-48), 3) := by decide +kernel
theorem dX9_areHatsOfTrial_61 : decode cX9_areHatsOfTrial 61 = .ok (.iconst 0, 1) := by decide +kernel
theorem dX9_areHatsOfTrial_62 : decode cX9_areHatsOfTrial 62 = .ok (.istore_n 3, 1) := by decide +kernel
theorem dX9_areHatsOfTrial_63 : decode cX9_areHatsOfTrial 63 = .ok (.iload_n 3, 1) := by decide +kernel
theorem dX9_areHatsOfTrial_64 : decode cX9_areHatsOfTrial 64 = .ok (.aload_n 0, 1) := by decide +kernel
theorem dX9_areHatsOfTrial_65 : decode cX9_areHatsOfTrial 65 = .ok (.getfield 40, 3) := by decide +kernel
theorem dX9_areHatsOfTrial_68 : decode cX9_areHatsOfTrial 68 = .ok (.getfield 138, 3) := by decide +kernel
theorem dX9_areHatsOfTrial_71 : decode cX9_areHatsOfTrial 71 = .ok (.if_icmp .ge 48, 3) := by decide +kernel
theorem dX9_areHatsOfTrial_74 : decode cX9_areHatsOfTrial 74 = .ok (.aload_n 0, 1) := by decide +kernel
theorem dX9_areHatsOfTrial_75 : decode cX9_areHatsOfTrial 75 = .ok (.getfield 56, 3) := by decide +kernel
theorem dX9_areHatsOfTrial_78 : decode cX9_areHatsOfTrial 78 = .ok (.iload_n 3, 1) := by decide +kernel
theorem dX9_areHatsOfTrial_79 : decode cX9_areHatsOfTrial 79 = .ok (.invokevirtual 218, 3) := by decide +kernel
theorem dX9_areHatsOfTrial_82 : decode cX9_areHatsOfTrial 82 = .ok (.ifCond .eq 31, 3) := by decide +kernel
theorem dX9_areHatsOfTrial_85 : decode cX9_areHatsOfTrial 85 = .ok (.aload_n 2, 1) := by decide +kernel
theorem dX9_areHatsOfTrial_86 : decode cX9_areHatsOfTrial 86 = .ok (.iload_n 1, 1) := by decide +kernel
theorem dX9_areHatsOfTrial_87 : decode cX9_areHatsOfTrial 87 = .ok (.aload_n 0, 1) := by decide +kernel
theorem dX9_areHatsOfTrial_88 : decode cX9_areHatsOfTrial 88 = .ok (.getfield 56, 3) := by decide +kernel
theorem dX9_areHatsOfTrial_91 : decode cX9_areHatsOfTrial 91 = .ok (.getfield 201, 3) := by decide +kernel
theorem dX9_areHatsOfTrial_94 : decode cX9_areHatsOfTrial 94 = .ok (.iload_n 3, 1) := by decide +kernel
theorem dX9_areHatsOfTrial_95 : decode cX9_areHatsOfTrial 95 = .ok (.iaload, 1) := by decide +kernel
theorem dX9_areHatsOfTrial_96 : decode cX9_areHatsOfTrial 96 = .ok (.aload_n 0, 1) := by decide +kernel
theorem dX9_areHatsOfTrial_97 : decode cX9_areHatsOfTrial 97 = .ok (.getfield 56, 3) := by decide +kernel
theorem dX9_areHatsOfTrial_100 : decode cX9_areHatsOfTrial 100 = .ok (.getfield 202, 3) := by decide +kernel
theorem dX9_areHatsOfTrial_103 : decode cX9_areHatsOfTrial 103 = .ok (.iload_n 3, 1) := by decide +kernel
theorem dX9_areHatsOfTrial_104 : decode cX9_areHatsOfTrial 104 = .ok (.iaload, 1) := by decide +kernel
theorem dX9_areHatsOfTrial_105 : decode cX9_areHatsOfTrial 105 = .ok (.invokevirtual 317, 3) := by decide +kernel
theorem dX9_areHatsOfTrial_108 : decode cX9_areHatsOfTrial 108 = .ok (.ifCond .ne 5, 3) := by decide +kernel
theorem dX9_areHatsOfTrial_111 : decode cX9_areHatsOfTrial 111 = .ok (.iconst 0, 1) := by decide +kernel
theorem dX9_areHatsOfTrial_112 : decode cX9_areHatsOfTrial 112 = .ok (.ireturn, 1) := by decide +kernel
theorem dX9_areHatsOfTrial_113 : decode cX9_areHatsOfTrial 113 = .ok (.iinc 3 1, 3) := by decide +kernel
theorem dX9_areHatsOfTrial_116 : decode cX9_areHatsOfTrial 116 = .ok (.goto (-53), 3) := by decide +kernel
theorem dX9_areHatsOfTrial_119 : decode cX9_areHatsOfTrial 119 = .ok (.iconst 1, 1) := by decide +kernel
theorem dX9_areHatsOfTrial_120 : decode cX9_areHatsOfTrial 120 = .ok (.ireturn, 1) := by decide +kernel
theorem dX9_arrivals_0 : decode cX9_arrivals 0 = .ok (.aload_n 0, 1) := by decide +kernel
theorem dX9_arrivals_1 : decode cX9_arrivals 1 = .ok (.getfield 56, 3) := by decide +kernel
theorem dX9_arrivals_4 : decode cX9_arrivals 4 = .ok (.iload_n 1, 1) := by decide +kernel
theorem dX9_arrivals_5 : decode cX9_arrivals 5 = .ok (.invokevirtual 191, 3) := by decide +kernel
theorem dX9_arrivals_8 : decode cX9_arrivals 8 = .ok (.iconst 0, 1) := by decide +kernel
theorem dX9_arrivals_9 : decode cX9_arrivals 9 = .ok (.istore_n 3, 1) := by decide +kernel
theorem dX9_arrivals_10 : decode cX9_arrivals 10 = .ok (.iload_n 3, 1) := by decide +kernel
theorem dX9_arrivals_11 : decode cX9_arrivals 11 = .ok (.iload_n 2, 1) := by decide +kernel
theorem dX9_arrivals_12 : decode cX9_arrivals 12 = .ok (.if_icmp .ge 34, 3) := by decide +kernel
theorem dX9_arrivals_15 : decode cX9_arrivals 15 = .ok (.aload_n 0, 1) := by decide +kernel
theorem dX9_arrivals_16 : decode cX9_arrivals 16 = .ok (.getfield 56, 3) := by decide +kernel
theorem dX9_arrivals_19 : decode cX9_arrivals 19 = .ok (.getfield 241, 3) := by decide +kernel
theorem dX9_arrivals_22 : decode cX9_arrivals 22 = .ok (.aload_n 0, 1) := by decide +kernel
theorem dX9_arrivals_23 : decode cX9_arrivals 23 = .ok (.getfield 40, 3) := by decide +kernel
theorem dX9_arrivals_26 : decode cX9_arrivals 26 = .ok (.getfield 138, 3) := by decide +kernel
theorem dX9_arrivals_29 : decode cX9_arrivals 29 = .ok (.if_icmp .ge 17, 3) := by decide +kernel
theorem dX9_arrivals_32 : decode cX9_arrivals 32 = .ok (.aload_n 0, 1) := by decide +kernel
theorem dX9_arrivals_33 : decode cX9_arrivals 33 = .ok (.getfield 56, 3) := by decide +kernel
theorem dX9_arrivals_36 : decode cX9_arrivals 36 = .ok (.invokevirtual 198, 3) := by decide +kernel
theorem dX9_arrivals_39 : decode cX9_arrivals 39 = .ok (.pop, 1) := by decide +kernel
theorem dX9_arrivals_40 : decode cX9_arrivals 40 = .ok (.iinc 3 1, 3) := by decide +kernel
theorem dX9_arrivals_43 : decode cX9_arrivals 43 = .ok (.goto (-33), 3) := by decide +kernel
theorem dX9_arrivals_46 : decode cX9_arrivals 46 = .ok (.aload_n 0, 1) := by decide +kernel
theorem dX9_arrivals_47 : decode cX9_arrivals 47 = .ok (.getfield 56, 3) := by decide +kernel
theorem dX9_arrivals_50 : decode cX9_arrivals 50 = .ok (.getfield 241, 3) := by decide +kernel
theorem dX9_arrivals_53 : decode cX9_arrivals 53 = .ok (.ireturn, 1) := by decide +kernel
theorem dX9_bestChange_0 : decode cX9_bestChange 0 = .ok (.aload_n 0, 1) := by decide +kernel
theorem dX9_bestChange_1 : decode cX9_bestChange 1 = .ok (.iload_n 1, 1) := by decide +kernel
theorem dX9_bestChange_2 : decode cX9_bestChange 2 = .ok (.iload_n 2, 1) := by decide +kernel
theorem dX9_bestChange_3 : decode cX9_bestChange 3 = .ok (.invokevirtual 275, 3) := by decide +kernel
theorem dX9_bestChange_6 : decode cX9_bestChange 6 = .ok (.istore 4, 2) := by decide +kernel
theorem dX9_bestChange_8 : decode cX9_bestChange 8 = .ok (.iconst (-1), 1) := by decide +kernel
theorem dX9_bestChange_9 : decode cX9_bestChange 9 = .ok (.istore 5, 2) := by decide +kernel
theorem dX9_bestChange_11 : decode cX9_bestChange 11 = .ok (.iconst 0, 1) := by decide +kernel
theorem dX9_bestChange_12 : decode cX9_bestChange 12 = .ok (.istore 6, 2) := by decide +kernel
theorem dX9_bestChange_14 : decode cX9_bestChange 14 = .ok (.iload 6, 2) := by decide +kernel
theorem dX9_bestChange_16 : decode cX9_bestChange 16 = .ok (.aload_n 0, 1) := by decide +kernel
theorem dX9_bestChange_17 : decode cX9_bestChange 17 = .ok (.getfield 40, 3) := by decide +kernel
theorem dX9_bestChange_20 : decode cX9_bestChange 20 = .ok (.getfield 132, 3) := by decide +kernel
theorem dX9_bestChange_23 : decode cX9_bestChange 23 = .ok (.if_icmp .ge 165, 3) := by decide +kernel
theorem dX9_bestChange_26 : decode cX9_bestChange 26 = .ok (.iload 4, 2) := by decide +kernel
theorem dX9_bestChange_28 : decode cX9_bestChange 28 = .ok (.aload_n 0, 1) := by decide +kernel
theorem dX9_bestChange_29 : decode cX9_bestChange 29 = .ok (.getfield 40, 3) := by decide +kernel
theorem dX9_bestChange_32 : decode cX9_bestChange 32 = .ok (.getfield 138, 3) := by decide +kernel
theorem dX9_bestChange_35 : decode cX9_bestChange 35 = .ok (.if_icmp .ge 153, 3) := by decide +kernel
theorem dX9_bestChange_38 : decode cX9_bestChange 38 = .ok (.iconst 0, 1) := by decide +kernel
theorem dX9_bestChange_39 : decode cX9_bestChange 39 = .ok (.istore 7, 2) := by decide +kernel
theorem dX9_bestChange_41 : decode cX9_bestChange 41 = .ok (.iload 7, 2) := by decide +kernel
theorem dX9_bestChange_43 : decode cX9_bestChange 43 = .ok (.aload_n 0, 1) := by decide +kernel
theorem dX9_bestChange_44 : decode cX9_bestChange 44 = .ok (.getfield 40, 3) := by decide +kernel
theorem dX9_bestChange_47 : decode cX9_bestChange 47 = .ok (.getfield 135, 3) := by decide +kernel
theorem dX9_bestChange_50 : decode cX9_bestChange 50 = .ok (.if_icmp .ge 132, 3) := by decide +kernel
theorem dX9_bestChange_53 : decode cX9_bestChange 53 = .ok (.iload 4, 2) := by decide +kernel
theorem dX9_bestChange_55 : decode cX9_bestChange 55 = .ok (.aload_n 0, 1) := by decide +kernel
theorem dX9_bestChange_56 : decode cX9_bestChange 56 = .ok (.getfield 40, 3) := by decide +kernel
theorem dX9_bestChange_59 : decode cX9_bestChange 59 = .ok (.getfield 138, 3) := by decide +kernel
theorem dX9_bestChange_62 : decode cX9_bestChange 62 = .ok (.if_icmp .ge 120, 3) := by decide +kernel
theorem dX9_bestChange_65 : decode cX9_bestChange 65 = .ok (.aload_n 0, 1) := by decide +kernel
theorem dX9_bestChange_66 : decode cX9_bestChange 66 = .ok (.getfield 40, 3) := by decide +kernel
theorem dX9_bestChange_69 : decode cX9_bestChange 69 = .ok (.iload 6, 2) := by decide +kernel
theorem dX9_bestChange_71 : decode cX9_bestChange 71 = .ok (.iload 7, 2) := by decide +kernel
theorem dX9_bestChange_73 : decode cX9_bestChange 73 = .ok (.invokevirtual 308, 3) := by decide +kernel
theorem dX9_bestChange_76 : decode cX9_bestChange 76 = .ok (.ifCond .ne 7, 3) := by decide +kernel
theorem dX9_bestChange_79 : decode cX9_bestChange 79 = .ok (.iconst 1, 1) := by decide +kernel
theorem dX9_bestChange_80 : decode cX9_bestChange 80 = .ok (.goto 4, 3) := by decide +kernel
theorem dX9_bestChange_83 : decode cX9_bestChange 83 = .ok (.iconst 0, 1) := by decide +kernel
theorem dX9_bestChange_84 : decode cX9_bestChange 84 = .ok (.istore 8, 2) := by decide +kernel
theorem dX9_bestChange_86 : decode cX9_bestChange 86 = .ok (.iload_n 3, 1) := by decide +kernel
theorem dX9_bestChange_87 : decode cX9_bestChange 87 = .ok (.ifCond .eq 11, 3) := by decide +kernel
theorem dX9_bestChange_90 : decode cX9_bestChange 90 = .ok (.iload 8, 2) := by decide +kernel
theorem dX9_bestChange_92 : decode cX9_bestChange 92 = .ok (.ifCond .ne 23, 3) := by decide +kernel
theorem dX9_bestChange_95 : decode cX9_bestChange 95 = .ok (.goto 81, 3) := by decide +kernel
theorem dX9_bestChange_98 : decode cX9_bestChange 98 = .ok (.aload_n 0, 1) := by decide +kernel
theorem dX9_bestChange_99 : decode cX9_bestChange 99 = .ok (.getfield 40, 3) := by decide +kernel
theorem dX9_bestChange_102 : decode cX9_bestChange 102 = .ok (.iload 6, 2) := by decide +kernel
theorem dX9_bestChange_104 : decode cX9_bestChange 104 = .ok (.iload 7, 2) := by decide +kernel
theorem dX9_bestChange_106 : decode cX9_bestChange 106 = .ok (.invokevirtual 231, 3) := by decide +kernel
theorem dX9_bestChange_109 : decode cX9_bestChange 109 = .ok (.ifCond .ne 6, 3) := by decide +kernel
theorem dX9_bestChange_112 : decode cX9_bestChange 112 = .ok (.goto 64, 3) := by decide +kernel
theorem dX9_bestChange_115 : decode cX9_bestChange 115 = .ok (.aload_n 0, 1) := by decide +kernel
theorem dX9_bestChange_116 : decode cX9_bestChange 116 = .ok (.getfield 40, 3) := by decide +kernel
theorem dX9_bestChange_119 : decode cX9_bestChange 119 = .ok (.iload 6, 2) := by decide +kernel
theorem dX9_bestChange_121 : decode cX9_bestChange 121 = .ok (.iload 7, 2) := by decide +kernel
theorem dX9_bestChange_123 : decode cX9_bestChange 123 = .ok (.iload_n 3, 1) := by decide +kernel
theorem dX9_bestChange_124 : decode cX9_bestChange 124 = .ok (.invokevirtual 311, 3) := by decide +kernel
theorem dX9_bestChange_127 : decode cX9_bestChange 127 = .ok (.aload_n 0, 1) := by decide +kernel
theorem dX9_bestChange_128 : decode cX9_bestChange 128 = .ok (.iload_n 1, 1) := by decide +kernel
theorem dX9_bestChange_129 : decode cX9_bestChange 129 = .ok (.iload_n 2, 1) := by decide +kernel
theorem dX9_bestChange_130 : decode cX9_bestChange 130 = .ok (.invokevirtual 275, 3) := by decide +kernel
theorem dX9_bestChange_133 : decode cX9_bestChange 133 = .ok (.istore 9, 2) := by decide +kernel
theorem dX9_bestChange_135 : decode cX9_bestChange 135 = .ok (.aload_n 0, 1) := by decide +kernel
theorem dX9_bestChange_136 : decode cX9_bestChange 136 = .ok (.getfield 40, 3) := by decide +kernel
theorem dX9_bestChange_139 : decode cX9_bestChange 139 = .ok (.iload 6, 2) := by decide +kernel
theorem dX9_bestChange_141 : decode cX9_bestChange 141 = .ok (.iload 7, 2) := by decide +kernel
theorem dX9_bestChange_143 : decode cX9_bestChange 143 = .ok (.iload_n 3, 1) := by decide +kernel
theorem dX9_bestChange_144 : decode cX9_bestChange 144 = .ok (.ifCond .ne 7, 3) := by decide +kernel
theorem dX9_bestChange_147 : decode cX9_bestChange 147 = .ok (.iconst 1, 1) := by decide +kernel
theorem dX9_bestChange_148 : decode cX9_bestChange 148 = .ok (.goto 4, 3) := by decide +kernel
theorem dX9_bestChange_151 : decode cX9_bestChange 151 = .ok (.iconst 0, 1) := by decide +kernel
theorem dX9_bestChange_152 : decode cX9_bestChange 152 = .ok (.invokevirtual 311, 3) := by decide +kernel
theorem dX9_bestChange_155 : decode cX9_bestChange 155 = .ok (.iload 9, 2) := by decide +kernel
theorem dX9_bestChange_157 : decode cX9_bestChange 157 = .ok (.iload 4, 2) := by decide +kernel
theorem dX9_bestChange_159 : decode cX9_bestChange 159 = .ok (.if_icmp .le 17, 3) := by decide +kernel
theorem dX9_bestChange_162 : decode cX9_bestChange 162 = .ok (.iload 9, 2) := by decide +kernel
theorem dX9_bestChange_164 : decode cX9_bestChange 164 = .ok (.istore 4, 2) := by decide +kernel
theorem dX9_bestChange_166 : decode cX9_bestChange 166 = .ok (.bipush 100, 2) := by decide +kernel
theorem dX9_bestChange_168 : decode cX9_bestChange 168 = .ok (.iload 6, 2) := by decide +kernel
theorem dX9_bestChange_170 : decode cX9_bestChange 170 = .ok (.imul, 1) := by decide +kernel
theorem dX9_bestChange_171 : decode cX9_bestChange 171 = .ok (.iload 7, 2) := by decide +kernel
theorem dX9_bestChange_173 : decode cX9_bestChange 173 = .ok (.iadd, 1) := by decide +kernel
theorem dX9_bestChange_174 : decode cX9_bestChange 174 = .ok (.istore 5, 2) := by decide +kernel
theorem dX9_bestChange_176 : decode cX9_bestChange 176 = .ok (.iinc 7 1, 3) := by decide +kernel
theorem dX9_bestChange_179 : decode cX9_bestChange 179 = .ok (.goto (-138), 3) := by decide +kernel
theorem dX9_bestChange_182 : decode cX9_bestChange 182 = .ok (.iinc 6 1, 3) := by decide +kernel
theorem dX9_bestChange_185 : decode cX9_bestChange 185 = .ok (.goto (-171), 3) := by decide +kernel
theorem dX9_bestChange_188 : decode cX9_bestChange 188 = .ok (.iload 5, 2) := by decide +kernel
theorem dX9_bestChange_190 : decode cX9_bestChange 190 = .ok (.ireturn, 1) := by decide +kernel
theorem dX9_isTime_0 : decode cX9_isTime 0 = .ok (.iload_n 0, 1) := by decide +kernel
theorem dX9_isTime_1 : decode cX9_isTime 1 = .ok (.iconst 1, 1) := by decide +kernel
theorem dX9_isTime_2 : decode cX9_isTime 2 = .ok (.if_icmp .lt 12, 3) := by decide +kernel
theorem dX9_isTime_5 : decode cX9_isTime 5 = .ok (.iload_n 0, 1) := by decide +kernel
theorem dX9_isTime_6 : decode cX9_isTime 6 = .ok (.iload_n 1, 1) := by decide +kernel
theorem dX9_isTime_7 : decode cX9_isTime 7 = .ok (.if_icmp .gt 7, 3) := by decide +kernel
theorem dX9_isTime_10 : decode cX9_isTime 10 = .ok (.iconst 1, 1) := by decide +kernel
theorem dX9_isTime_11 : decode cX9_isTime 11 = .ok (.goto 4, 3) := by decide +kernel
theorem dX9_isTime_14 : decode cX9_isTime 14 = .ok (.iconst 0, 1) := by decide +kernel
theorem dX9_isTime_15 : decode cX9_isTime 15 = .ok (.ireturn, 1) := by decide +kernel
theorem dX9_prepare_0 : decode cX9_prepare 0 = .ok (.aload_n 0, 1) := by decide +kernel
theorem dX9_prepare_1 : decode cX9_prepare 1 = .ok (.getfield 10, 3) := by decide +kernel
theorem dX9_prepare_4 : decode cX9_prepare 4 = .ok (.iload_n 1, 1) := by decide +kernel
theorem dX9_prepare_5 : decode cX9_prepare 5 = .ok (.invokevirtual 128, 3) := by decide +kernel
theorem dX9_prepare_8 : decode cX9_prepare 8 = .ok (.astore_n 3, 1) := by decide +kernel
theorem dX9_prepare_9 : decode cX9_prepare 9 = .ok (.aload_n 0, 1) := by decide +kernel
theorem dX9_prepare_10 : decode cX9_prepare 10 = .ok (.getfield 10, 3) := by decide +kernel
theorem dX9_prepare_13 : decode cX9_prepare 13 = .ok (.iload_n 2, 1) := by decide +kernel
theorem dX9_prepare_14 : decode cX9_prepare 14 = .ok (.invokevirtual 172, 3) := by decide +kernel
theorem dX9_prepare_17 : decode cX9_prepare 17 = .ok (.astore 4, 2) := by decide +kernel
theorem dX9_prepare_19 : decode cX9_prepare 19 = .ok (.aload_n 3, 1) := by decide +kernel
theorem dX9_prepare_20 : decode cX9_prepare 20 = .ok (.ifnull 8, 3) := by decide +kernel
theorem dX9_prepare_23 : decode cX9_prepare 23 = .ok (.aload 4, 2) := by decide +kernel
theorem dX9_prepare_25 : decode cX9_prepare 25 = .ok (.ifnonnull 5, 3) := by decide +kernel
theorem dX9_prepare_28 : decode cX9_prepare 28 = .ok (.iconst 0, 1) := by decide +kernel
theorem dX9_prepare_29 : decode cX9_prepare 29 = .ok (.ireturn, 1) := by decide +kernel
theorem dX9_prepare_30 : decode cX9_prepare 30 = .ok (.aload_n 0, 1) := by decide +kernel
theorem dX9_prepare_31 : decode cX9_prepare 31 = .ok (.getfield 40, 3) := by decide +kernel
theorem dX9_prepare_34 : decode cX9_prepare 34 = .ok (.aload_n 3, 1) := by decide +kernel
theorem dX9_prepare_35 : decode cX9_prepare 35 = .ok (.invokevirtual 180, 3) := by decide +kernel
theorem dX9_prepare_38 : decode cX9_prepare 38 = .ok (.aload_n 0, 1) := by decide +kernel
theorem dX9_prepare_39 : decode cX9_prepare 39 = .ok (.getfield 47, 3) := by decide +kernel
theorem dX9_prepare_42 : decode cX9_prepare 42 = .ok (.aload 4, 2) := by decide +kernel
theorem dX9_prepare_44 : decode cX9_prepare 44 = .ok (.invokevirtual 185, 3) := by decide +kernel
theorem dX9_prepare_47 : decode cX9_prepare 47 = .ok (.iconst 1, 1) := by decide +kernel
theorem dX9_prepare_48 : decode cX9_prepare 48 = .ok (.ireturn, 1) := by decide +kernel
theorem dX9_better_0 : decode cX9_better 0 = .ok (.iload_n 3, 1) := by decide +kernel
theorem dX9_better_1 : decode cX9_better 1 = .ok (.sipush 200, 3) := by decide +kernel
theorem dX9_better_4 : decode cX9_better 4 = .ok (.invokestatic 268, 3) := by decide +kernel
theorem dX9_better_7 : decode cX9_better 7 = .ok (.ifCond .ne 5, 3) := by decide +kernel
theorem dX9_better_10 : decode cX9_better 10 = .ok (.iconst (-1), 1) := by decide +kernel
theorem dX9_better_11 : decode cX9_better 11 = .ok (.ireturn, 1) := by decide +kernel
theorem dX9_better_12 : decode cX9_better 12 = .ok (.iconst (-1), 1) := by decide +kernel
theorem dX9_better_13 : decode cX9_better 13 = .ok (.istore 4, 2) := by decide +kernel
theorem dX9_better_15 : decode cX9_better 15 = .ok (.iconst (-1), 1) := by decide +kernel
theorem dX9_better_16 : decode cX9_better 16 = .ok (.istore 5, 2) := by decide +kernel
theorem dX9_better_18 : decode cX9_better 18 = .ok (.iconst 0, 1) := by decide +kernel
theorem dX9_better_19 : decode cX9_better 19 = .ok (.istore 6, 2) := by decide +kernel
theorem dX9_better_21 : decode cX9_better 21 = .ok (.iload 6, 2) := by decide +kernel
theorem dX9_better_23 : decode cX9_better 23 = .ok (.aload_n 0, 1) := by decide +kernel
theorem dX9_better_24 : decode cX9_better 24 = .ok (.getfield 10, 3) := by decide +kernel
theorem dX9_better_27 : decode cX9_better 27 = .ok (.getfield 120, 3) := by decide +kernel
theorem dX9_better_30 : decode cX9_better 30 = .ok (.if_icmp .ge 44, 3) := by decide +kernel
theorem dX9_better_33 : decode cX9_better 33 = .ok (.aload_n 0, 1) := by decide +kernel
theorem dX9_better_34 : decode cX9_better 34 = .ok (.iload_n 1, 1) := by decide +kernel
theorem dX9_better_35 : decode cX9_better 35 = .ok (.iload 6, 2) := by decide +kernel
theorem dX9_better_37 : decode cX9_better 37 = .ok (.invokevirtual 262, 3) := by decide +kernel
theorem dX9_better_40 : decode cX9_better 40 = .ok (.ifCond .ne 5, 3) := by decide +kernel
theorem dX9_better_43 : decode cX9_better 43 = .ok (.iconst (-1), 1) := by decide +kernel
theorem dX9_better_44 : decode cX9_better 44 = .ok (.ireturn, 1) := by decide +kernel
theorem dX9_better_45 : decode cX9_better 45 = .ok (.aload_n 0, 1) := by decide +kernel
theorem dX9_better_46 : decode cX9_better 46 = .ok (.iload_n 2, 1) := by decide +kernel
theorem dX9_better_47 : decode cX9_better 47 = .ok (.iload_n 3, 1) := by decide +kernel
theorem dX9_better_48 : decode cX9_better 48 = .ok (.invokevirtual 275, 3) := by decide +kernel
theorem dX9_better_51 : decode cX9_better 51 = .ok (.istore 7, 2) := by decide +kernel
theorem dX9_better_53 : decode cX9_better 53 = .ok (.iload 7, 2) := by decide +kernel
theorem dX9_better_55 : decode cX9_better 55 = .ok (.iload 4, 2) := by decide +kernel
theorem dX9_better_57 : decode cX9_better 57 = .ok (.if_icmp .le 11, 3) := by decide +kernel
theorem dX9_better_60 : decode cX9_better 60 = .ok (.iload 7, 2) := by decide +kernel
theorem dX9_better_62 : decode cX9_better 62 = .ok (.istore 4, 2) := by decide +kernel
theorem dX9_better_64 : decode cX9_better 64 = .ok (.iload 6, 2) := by decide +kernel
theorem dX9_better_66 : decode cX9_better 66 = .ok (.istore 5, 2) := by decide +kernel
theorem dX9_better_68 : decode cX9_better 68 = .ok (.iinc 6 1, 3) := by decide +kernel
theorem dX9_better_71 : decode cX9_better 71 = .ok (.goto (-50), 3) := by decide +kernel
theorem dX9_better_74 : decode cX9_better 74 = .ok (.iload 5, 2) := by decide +kernel
theorem dX9_better_76 : decode cX9_better 76 = .ok (.ireturn, 1) := by decide +kernel
theorem dX9_tenthsOfOthers_0 : decode cX9_tenthsOfOthers 0 = .ok (.aload_n 0, 1) := by decide +kernel
theorem dX9_tenthsOfOthers_1 : decode cX9_tenthsOfOthers 1 = .ok (.iload_n 1, 1) := by decide +kernel
theorem dX9_tenthsOfOthers_2 : decode cX9_tenthsOfOthers 2 = .ok (.iload_n 2, 1) := by decide +kernel
theorem dX9_tenthsOfOthers_3 : decode cX9_tenthsOfOthers 3 = .ok (.invokevirtual 275, 3) := by decide +kernel
theorem dX9_tenthsOfOthers_6 : decode cX9_tenthsOfOthers 6 = .ok (.pop, 1) := by decide +kernel
theorem dX9_tenthsOfOthers_7 : decode cX9_tenthsOfOthers 7 = .ok (.iconst 0, 1) := by decide +kernel
theorem dX9_tenthsOfOthers_8 : decode cX9_tenthsOfOthers 8 = .ok (.istore 4, 2) := by decide +kernel
theorem dX9_tenthsOfOthers_10 : decode cX9_tenthsOfOthers 10 = .ok (.iconst 0, 1) := by decide +kernel
theorem dX9_tenthsOfOthers_11 : decode cX9_tenthsOfOthers 11 = .ok (.istore 5, 2) := by decide +kernel
theorem dX9_tenthsOfOthers_13 : decode cX9_tenthsOfOthers 13 = .ok (.iload 5, 2) := by decide +kernel
theorem dX9_tenthsOfOthers_15 : decode cX9_tenthsOfOthers 15 = .ok (.aload_n 0, 1) := by decide +kernel
theorem dX9_tenthsOfOthers_16 : decode cX9_tenthsOfOthers 16 = .ok (.getfield 40, 3) := by decide +kernel
theorem dX9_tenthsOfOthers_19 : decode cX9_tenthsOfOthers 19 = .ok (.getfield 138, 3) := by decide +kernel
theorem dX9_tenthsOfOthers_22 : decode cX9_tenthsOfOthers 22 = .ok (.if_icmp .ge 50, 3) := by decide +kernel
theorem dX9_tenthsOfOthers_25 : decode cX9_tenthsOfOthers 25 = .ok (.iload 5, 2) := by decide +kernel
theorem dX9_tenthsOfOthers_27 : decode cX9_tenthsOfOthers 27 = .ok (.iload_n 3, 1) := by decide +kernel
theorem dX9_tenthsOfOthers_28 : decode cX9_tenthsOfOthers 28 = .ok (.if_icmp .eq 38, 3) := by decide +kernel
theorem dX9_tenthsOfOthers_31 : decode cX9_tenthsOfOthers 31 = .ok (.iload 4, 2) := by decide +kernel
theorem dX9_tenthsOfOthers_33 : decode cX9_tenthsOfOthers 33 = .ok (.aload_n 0, 1) := by decide +kernel
theorem dX9_tenthsOfOthers_34 : decode cX9_tenthsOfOthers 34 = .ok (.getfield 56, 3) := by decide +kernel
theorem dX9_tenthsOfOthers_37 : decode cX9_tenthsOfOthers 37 = .ok (.getfield 203, 3) := by decide +kernel
theorem dX9_tenthsOfOthers_40 : decode cX9_tenthsOfOthers 40 = .ok (.iload 5, 2) := by decide +kernel
theorem dX9_tenthsOfOthers_42 : decode cX9_tenthsOfOthers 42 = .ok (.iaload, 1) := by decide +kernel
theorem dX9_tenthsOfOthers_43 : decode cX9_tenthsOfOthers 43 = .ok (.iconst (-1), 1) := by decide +kernel
theorem dX9_tenthsOfOthers_44 : decode cX9_tenthsOfOthers 44 = .ok (.if_icmp .ne 7, 3) := by decide +kernel
theorem dX9_tenthsOfOthers_47 : decode cX9_tenthsOfOthers 47 = .ok (.iload_n 2, 1) := by decide +kernel
theorem dX9_tenthsOfOthers_48 : decode cX9_tenthsOfOthers 48 = .ok (.goto 15, 3) := by decide +kernel
theorem dX9_tenthsOfOthers_51 : decode cX9_tenthsOfOthers 51 = .ok (.aload_n 0, 1) := by decide +kernel
theorem dX9_tenthsOfOthers_52 : decode cX9_tenthsOfOthers 52 = .ok (.getfield 56, 3) := by decide +kernel
theorem dX9_tenthsOfOthers_55 : decode cX9_tenthsOfOthers 55 = .ok (.getfield 203, 3) := by decide +kernel
theorem dX9_tenthsOfOthers_58 : decode cX9_tenthsOfOthers 58 = .ok (.iload 5, 2) := by decide +kernel
theorem dX9_tenthsOfOthers_60 : decode cX9_tenthsOfOthers 60 = .ok (.iaload, 1) := by decide +kernel
theorem dX9_tenthsOfOthers_61 : decode cX9_tenthsOfOthers 61 = .ok (.iconst 1, 1) := by decide +kernel
theorem dX9_tenthsOfOthers_62 : decode cX9_tenthsOfOthers 62 = .ok (.iadd, 1) := by decide +kernel
theorem dX9_tenthsOfOthers_63 : decode cX9_tenthsOfOthers 63 = .ok (.iadd, 1) := by decide +kernel
theorem dX9_tenthsOfOthers_64 : decode cX9_tenthsOfOthers 64 = .ok (.istore 4, 2) := by decide +kernel
theorem dX9_tenthsOfOthers_66 : decode cX9_tenthsOfOthers 66 = .ok (.iinc 5 1, 3) := by decide +kernel
theorem dX9_tenthsOfOthers_69 : decode cX9_tenthsOfOthers 69 = .ok (.goto (-56), 3) := by decide +kernel
theorem dX9_tenthsOfOthers_72 : decode cX9_tenthsOfOthers 72 = .ok (.iload 4, 2) := by decide +kernel
theorem dX9_tenthsOfOthers_74 : decode cX9_tenthsOfOthers 74 = .ok (.ireturn, 1) := by decide +kernel
theorem dX9_cost_0 : decode cX9_cost 0 = .ok (.iload 4, 2) := by decide +kernel
theorem dX9_cost_2 : decode cX9_cost 2 = .ok (.sipush 200, 3) := by decide +kernel
theorem dX9_cost_5 : decode cX9_cost 5 = .ok (.invokestatic 268, 3) := by decide +kernel
theorem dX9_cost_8 : decode cX9_cost 8 = .ok (.ifCond .eq 24, 3) := by decide +kernel
theorem dX9_cost_11 : decode cX9_cost 11 = .ok (.aload_n 0, 1) := by decide +kernel
theorem dX9_cost_12 : decode cX9_cost 12 = .ok (.iload_n 1, 1) := by decide +kernel
theorem dX9_cost_13 : decode cX9_cost 13 = .ok (.iload_n 2, 1) := by decide +kernel
theorem dX9_cost_14 : decode cX9_cost 14 = .ok (.invokevirtual 262, 3) := by decide +kernel
theorem dX9_cost_17 : decode cX9_cost 17 = .ok (.ifCond .eq 15, 3) := by decide +kernel
theorem dX9_cost_20 : decode cX9_cost 20 = .ok (.aload_n 0, 1) := by decide +kernel
theorem dX9_cost_21 : decode cX9_cost 21 = .ok (.getfield 40, 3) := by decide +kernel
theorem dX9_cost_24 : decode cX9_cost 24 = .ok (.iload 5, 2) := by decide +kernel
theorem dX9_cost_26 : decode cX9_cost 26 = .ok (.invokevirtual 144, 3) := by decide +kernel
theorem dX9_cost_29 : decode cX9_cost 29 = .ok (.ifCond .ne 7, 3) := by decide +kernel
theorem dX9_cost_32 : decode cX9_cost 32 = .ok (.ldc_w 282, 3) := by decide +kernel
theorem dX9_cost_35 : decode cX9_cost 35 = .ok (.ireturn, 1) := by decide +kernel
theorem dX9_cost_36 : decode cX9_cost 36 = .ok (.aload_n 0, 1) := by decide +kernel
theorem dX9_cost_37 : decode cX9_cost 37 = .ok (.iload_n 3, 1) := by decide +kernel
theorem dX9_cost_38 : decode cX9_cost 38 = .ok (.iload 4, 2) := by decide +kernel
theorem dX9_cost_40 : decode cX9_cost 40 = .ok (.iload 5, 2) := by decide +kernel
theorem dX9_cost_42 : decode cX9_cost 42 = .ok (.invokevirtual 283, 3) := by decide +kernel
theorem dX9_cost_45 : decode cX9_cost 45 = .ok (.istore 6, 2) := by decide +kernel
theorem dX9_cost_47 : decode cX9_cost 47 = .ok (.aload_n 0, 1) := by decide +kernel
theorem dX9_cost_48 : decode cX9_cost 48 = .ok (.getfield 40, 3) := by decide +kernel
theorem dX9_cost_51 : decode cX9_cost 51 = .ok (.iload 5, 2) := by decide +kernel
theorem dX9_cost_53 : decode cX9_cost 53 = .ok (.invokevirtual 287, 3) := by decide +kernel
theorem dX9_cost_56 : decode cX9_cost 56 = .ok (.iload 6, 2) := by decide +kernel
theorem dX9_cost_58 : decode cX9_cost 58 = .ok (.aload_n 0, 1) := by decide +kernel
theorem dX9_cost_59 : decode cX9_cost 59 = .ok (.iload_n 3, 1) := by decide +kernel
theorem dX9_cost_60 : decode cX9_cost 60 = .ok (.iload 4, 2) := by decide +kernel
theorem dX9_cost_62 : decode cX9_cost 62 = .ok (.iconst (-1), 1) := by decide +kernel
theorem dX9_cost_63 : decode cX9_cost 63 = .ok (.invokevirtual 283, 3) := by decide +kernel
theorem dX9_cost_66 : decode cX9_cost 66 = .ok (.isub, 1) := by decide +kernel
theorem dX9_cost_67 : decode cX9_cost 67 = .ok (.ireturn, 1) := by decide +kernel
theorem dX9_count_0 : decode cX9_count 0 = .ok (.iload_n 1, 1) := by decide +kernel
theorem dX9_count_1 : decode cX9_count 1 = .ok (.ifCond .ne 11, 3) := by decide +kernel
theorem dX9_count_4 : decode cX9_count 4 = .ok (.aload_n 0, 1) := by decide +kernel
theorem dX9_count_5 : decode cX9_count 5 = .ok (.getfield 10, 3) := by decide +kernel
theorem dX9_count_8 : decode cX9_count 8 = .ok (.getfield 97, 3) := by decide +kernel
theorem dX9_count_11 : decode cX9_count 11 = .ok (.ireturn, 1) := by decide +kernel
theorem dX9_count_12 : decode cX9_count 12 = .ok (.iload_n 1, 1) := by decide +kernel
theorem dX9_count_13 : decode cX9_count 13 = .ok (.iconst 1, 1) := by decide +kernel
theorem dX9_count_14 : decode cX9_count 14 = .ok (.if_icmp .ne 11, 3) := by decide +kernel
theorem dX9_count_17 : decode cX9_count 17 = .ok (.aload_n 0, 1) := by decide +kernel
theorem dX9_count_18 : decode cX9_count 18 = .ok (.getfield 10, 3) := by decide +kernel
theorem dX9_count_21 : decode cX9_count 21 = .ok (.getfield 120, 3) := by decide +kernel
theorem dX9_count_24 : decode cX9_count 24 = .ok (.ireturn, 1) := by decide +kernel
theorem dX9_count_25 : decode cX9_count 25 = .ok (.iload_n 1, 1) := by decide +kernel
theorem dX9_count_26 : decode cX9_count 26 = .ok (.iconst 2, 1) := by decide +kernel
theorem dX9_count_27 : decode cX9_count 27 = .ok (.if_icmp .lt 26, 3) := by decide +kernel
theorem dX9_count_30 : decode cX9_count 30 = .ok (.iload_n 1, 1) := by decide +kernel
theorem dX9_count_31 : decode cX9_count 31 = .ok (.bipush 10, 2) := by decide +kernel
theorem dX9_count_33 : decode cX9_count 33 = .ok (.if_icmp .ge 20, 3) := by decide +kernel
theorem dX9_count_36 : decode cX9_count 36 = .ok (.aload_n 0, 1) := by decide +kernel
theorem dX9_count_37 : decode cX9_count 37 = .ok (.getfield 10, 3) := by decide +kernel
theorem dX9_count_40 : decode cX9_count 40 = .ok (.getfield 296, 3) := by decide +kernel
theorem dX9_count_43 : decode cX9_count 43 = .ok (.getfield 300, 3) := by decide +kernel
theorem dX9_count_46 : decode cX9_count 46 = .ok (.iload_n 1, 1) := by decide +kernel
theorem dX9_count_47 : decode cX9_count 47 = .ok (.iconst 2, 1) := by decide +kernel
theorem dX9_count_48 : decode cX9_count 48 = .ok (.isub, 1) := by decide +kernel
theorem dX9_count_49 : decode cX9_count 49 = .ok (.iaload, 1) := by decide +kernel
theorem dX9_count_50 : decode cX9_count 50 = .ok (.goto 5, 3) := by decide +kernel
theorem dX9_count_53 : decode cX9_count 53 = .ok (.bipush (-2), 2) := by decide +kernel
theorem dX9_count_55 : decode cX9_count 55 = .ok (.ireturn, 1) := by decide +kernel
theorem dX9_dark_0 : decode cX9_dark 0 = .ok (.iconst 0, 1) := by decide +kernel
theorem dX9_dark_1 : decode cX9_dark 1 = .ok (.istore_n 1, 1) := by decide +kernel
theorem dX9_dark_2 : decode cX9_dark 2 = .ok (.iconst 0, 1) := by decide +kernel
theorem dX9_dark_3 : decode cX9_dark 3 = .ok (.istore_n 2, 1) := by decide +kernel
theorem dX9_dark_4 : decode cX9_dark 4 = .ok (.iload_n 2, 1) := by decide +kernel
theorem dX9_dark_5 : decode cX9_dark 5 = .ok (.bipush 8, 2) := by decide +kernel
theorem dX9_dark_7 : decode cX9_dark 7 = .ok (.if_icmp .ge 37, 3) := by decide +kernel
theorem dX9_dark_10 : decode cX9_dark 10 = .ok (.iload_n 1, 1) := by decide +kernel
theorem dX9_dark_11 : decode cX9_dark 11 = .ok (.aload_n 0, 1) := by decide +kernel
theorem dX9_dark_12 : decode cX9_dark 12 = .ok (.getfield 10, 3) := by decide +kernel
theorem dX9_dark_15 : decode cX9_dark 15 = .ok (.getfield 296, 3) := by decide +kernel
theorem dX9_dark_18 : decode cX9_dark 18 = .ok (.getfield 300, 3) := by decide +kernel
theorem dX9_dark_21 : decode cX9_dark 21 = .ok (.iload_n 2, 1) := by decide +kernel
theorem dX9_dark_22 : decode cX9_dark 22 = .ok (.iaload, 1) := by decide +kernel
theorem dX9_dark_23 : decode cX9_dark 23 = .ok (.iadd, 1) := by decide +kernel
theorem dX9_dark_24 : decode cX9_dark 24 = .ok (.istore_n 1, 1) := by decide +kernel
theorem dX9_dark_25 : decode cX9_dark 25 = .ok (.aload_n 0, 1) := by decide +kernel
theorem dX9_dark_26 : decode cX9_dark 26 = .ok (.getfield 10, 3) := by decide +kernel
theorem dX9_dark_29 : decode cX9_dark 29 = .ok (.getfield 296, 3) := by decide +kernel
theorem dX9_dark_32 : decode cX9_dark 32 = .ok (.getfield 300, 3) := by decide +kernel
theorem dX9_dark_35 : decode cX9_dark 35 = .ok (.iload_n 2, 1) := by decide +kernel
theorem dX9_dark_36 : decode cX9_dark 36 = .ok (.iconst 0, 1) := by decide +kernel
theorem dX9_dark_37 : decode cX9_dark 37 = .ok (.iastore, 1) := by decide +kernel
theorem dX9_dark_38 : decode cX9_dark 38 = .ok (.iinc 2 1, 3) := by decide +kernel
theorem dX9_dark_41 : decode cX9_dark 41 = .ok (.goto (-37), 3) := by decide +kernel
theorem dX9_dark_44 : decode cX9_dark 44 = .ok (.iload_n 1, 1) := by decide +kernel
theorem dX9_dark_45 : decode cX9_dark 45 = .ok (.ireturn, 1) := by decide +kernel
theorem dX9_does_0 : decode cX9_does 0 = .ok (.aload_n 0, 1) := by decide +kernel
theorem dX9_does_1 : decode cX9_does 1 = .ok (.getfield 10, 3) := by decide +kernel
theorem dX9_does_4 : decode cX9_does 4 = .ok (.getfield 194, 3) := by decide +kernel
theorem dX9_does_7 : decode cX9_does 7 = .ok (.ifCond .eq 21, 3) := by decide +kernel
theorem dX9_does_10 : decode cX9_does 10 = .ok (.aload_n 0, 1) := by decide +kernel
theorem dX9_does_11 : decode cX9_does 11 = .ok (.getfield 10, 3) := by decide +kernel
theorem dX9_does_14 : decode cX9_does 14 = .ok (.getfield 188, 3) := by decide +kernel
theorem dX9_does_17 : decode cX9_does 17 = .ok (.iload_n 1, 1) := by decide +kernel
theorem dX9_does_18 : decode cX9_does 18 = .ok (.invokevirtual 218, 3) := by decide +kernel
theorem dX9_does_21 : decode cX9_does 21 = .ok (.ifCond .eq 7, 3) := by decide +kernel
theorem dX9_does_24 : decode cX9_does 24 = .ok (.iconst 1, 1) := by decide +kernel
theorem dX9_does_25 : decode cX9_does 25 = .ok (.goto 4, 3) := by decide +kernel
theorem dX9_does_28 : decode cX9_does 28 = .ok (.iconst 0, 1) := by decide +kernel
theorem dX9_does_29 : decode cX9_does 29 = .ok (.istore_n 2, 1) := by decide +kernel
theorem dX9_does_30 : decode cX9_does 30 = .ok (.iload_n 2, 1) := by decide +kernel
theorem dX9_does_31 : decode cX9_does 31 = .ok (.ifCond .eq 17, 3) := by decide +kernel
theorem dX9_does_34 : decode cX9_does 34 = .ok (.aload_n 0, 1) := by decide +kernel
theorem dX9_does_35 : decode cX9_does 35 = .ok (.getfield 10, 3) := by decide +kernel
theorem dX9_does_38 : decode cX9_does 38 = .ok (.getfield 188, 3) := by decide +kernel
theorem dX9_does_41 : decode cX9_does 41 = .ok (.iload_n 1, 1) := by decide +kernel
theorem dX9_does_42 : decode cX9_does 42 = .ok (.invokevirtual 227, 3) := by decide +kernel
theorem dX9_does_45 : decode cX9_does 45 = .ok (.goto 4, 3) := by decide +kernel
theorem dX9_does_48 : decode cX9_does 48 = .ok (.iconst (-1), 1) := by decide +kernel
theorem dX9_does_49 : decode cX9_does 49 = .ok (.ireturn, 1) := by decide +kernel
theorem dX9_door_0 : decode cX9_door 0 = .ok (.aload_n 0, 1) := by decide +kernel
theorem dX9_door_1 : decode cX9_door 1 = .ok (.getfield 10, 3) := by decide +kernel
theorem dX9_door_4 : decode cX9_door 4 = .ok (.getfield 194, 3) := by decide +kernel
theorem dX9_door_7 : decode cX9_door 7 = .ok (.ifCond .eq 32, 3) := by decide +kernel
theorem dX9_door_10 : decode cX9_door 10 = .ok (.iload_n 1, 1) := by decide +kernel
theorem dX9_door_11 : decode cX9_door 11 = .ok (.ifCond .lt 28, 3) := by decide +kernel
theorem dX9_door_14 : decode cX9_door 14 = .ok (.iload_n 1, 1) := by decide +kernel
theorem dX9_door_15 : decode cX9_door 15 = .ok (.aload_n 0, 1) := by decide +kernel
theorem dX9_door_16 : decode cX9_door 16 = .ok (.getfield 10, 3) := by decide +kernel
theorem dX9_door_19 : decode cX9_door 19 = .ok (.getfield 179, 3) := by decide +kernel
theorem dX9_door_22 : decode cX9_door 22 = .ok (.getfield 132, 3) := by decide +kernel
theorem dX9_door_25 : decode cX9_door 25 = .ok (.iconst 2, 1) := by decide +kernel
theorem dX9_door_26 : decode cX9_door 26 = .ok (.isub, 1) := by decide +kernel
theorem dX9_door_27 : decode cX9_door 27 = .ok (.if_icmp .gt 12, 3) := by decide +kernel
theorem dX9_door_30 : decode cX9_door 30 = .ok (.iload_n 2, 1) := by decide +kernel
theorem dX9_door_31 : decode cX9_door 31 = .ok (.ifCond .lt 8, 3) := by decide +kernel
theorem dX9_door_34 : decode cX9_door 34 = .ok (.iload_n 2, 1) := by decide +kernel
theorem dX9_door_35 : decode cX9_door 35 = .ok (.iconst 2, 1) := by decide +kernel
theorem dX9_door_36 : decode cX9_door 36 = .ok (.if_icmp .le 5, 3) := by decide +kernel
theorem dX9_door_39 : decode cX9_door 39 = .ok (.iconst (-1), 1) := by decide +kernel
theorem dX9_door_40 : decode cX9_door 40 = .ok (.ireturn, 1) := by decide +kernel
theorem dX9_door_41 : decode cX9_door 41 = .ok (.aload_n 0, 1) := by decide +kernel
theorem dX9_door_42 : decode cX9_door 42 = .ok (.getfield 10, 3) := by decide +kernel
theorem dX9_door_45 : decode cX9_door 45 = .ok (.getfield 188, 3) := by decide +kernel
theorem dX9_door_48 : decode cX9_door 48 = .ok (.iload_n 1, 1) := by decide +kernel
theorem dX9_door_49 : decode cX9_door 49 = .ok (.iload_n 2, 1) := by decide +kernel
theorem dX9_door_50 : decode cX9_door 50 = .ok (.invokevirtual 259, 3) := by decide +kernel
theorem dX9_door_53 : decode cX9_door 53 = .ok (.ireturn, 1) := by decide +kernel
theorem dX9_end_0 : decode cX9_end 0 = .ok (.iload_n 1, 1) := by decide +kernel
theorem dX9_end_1 : decode cX9_end 1 = .ok (.ifCond .lt 14, 3) := by decide +kernel
theorem dX9_end_4 : decode cX9_end 4 = .ok (.iload_n 1, 1) := by decide +kernel
theorem dX9_end_5 : decode cX9_end 5 = .ok (.aload_n 0, 1) := by decide +kernel
theorem dX9_end_6 : decode cX9_end 6 = .ok (.getfield 10, 3) := by decide +kernel
theorem dX9_end_9 : decode cX9_end 9 = .ok (.getfield 85, 3) := by decide +kernel
theorem dX9_end_12 : decode cX9_end 12 = .ok (.if_icmp .le 5, 3) := by decide +kernel
theorem dX9_end_15 : decode cX9_end 15 = .ok (.iconst (-1), 1) := by decide +kernel
theorem dX9_end_16 : decode cX9_end 16 = .ok (.ireturn, 1) := by decide +kernel
theorem dX9_end_17 : decode cX9_end 17 = .ok (.aload_n 0, 1) := by decide +kernel
theorem dX9_end_18 : decode cX9_end 18 = .ok (.getfield 10, 3) := by decide +kernel
theorem dX9_end_21 : decode cX9_end 21 = .ok (.iload_n 1, 1) := by decide +kernel
theorem dX9_end_22 : decode cX9_end 22 = .ok (.putfield 85, 3) := by decide +kernel
theorem dX9_end_25 : decode cX9_end 25 = .ok (.iload_n 1, 1) := by decide +kernel
theorem dX9_end_26 : decode cX9_end 26 = .ok (.ireturn, 1) := by decide +kernel
theorem dX9_fault_0 : decode cX9_fault 0 = .ok (.iload_n 1, 1) := by decide +kernel
theorem dX9_fault_1 : decode cX9_fault 1 = .ok (.lookupswitch 43 #[(0, 27), (1, 35)], 27) := by decide +kernel
theorem dX9_fault_28 : decode cX9_fault 28 = .ok (.aload_n 0, 1) := by decide +kernel
theorem dX9_fault_29 : decode cX9_fault 29 = .ok (.getfield 10, 3) := by decide +kernel
theorem dX9_fault_32 : decode cX9_fault 32 = .ok (.getfield 111, 3) := by decide +kernel
theorem dX9_fault_35 : decode cX9_fault 35 = .ok (.ireturn, 1) := by decide +kernel
theorem dX9_fault_36 : decode cX9_fault 36 = .ok (.aload_n 0, 1) := by decide +kernel
theorem dX9_fault_37 : decode cX9_fault 37 = .ok (.getfield 10, 3) := by decide +kernel
theorem dX9_fault_40 : decode cX9_fault 40 = .ok (.getfield 115, 3) := by decide +kernel
theorem dX9_fault_43 : decode cX9_fault 43 = .ok (.ireturn, 1) := by decide +kernel
theorem dX9_fault_44 : decode cX9_fault 44 = .ok (.iconst (-1), 1) := by decide +kernel
theorem dX9_fault_45 : decode cX9_fault 45 = .ok (.ireturn, 1) := by decide +kernel
theorem dX9_feed_0 : decode cX9_feed 0 = .ok (.aload_n 0, 1) := by decide +kernel
theorem dX9_feed_1 : decode cX9_feed 1 = .ok (.getfield 10, 3) := by decide +kernel
theorem dX9_feed_4 : decode cX9_feed 4 = .ok (.getfield 85, 3) := by decide +kernel
theorem dX9_feed_7 : decode cX9_feed 7 = .ok (.bipush 20, 2) := by decide +kernel
theorem dX9_feed_9 : decode cX9_feed 9 = .ok (.iadd, 1) := by decide +kernel
theorem dX9_feed_10 : decode cX9_feed 10 = .ok (.sipush 500, 3) := by decide +kernel
theorem dX9_feed_13 : decode cX9_feed 13 = .ok (.if_icmp .le 5, 3) := by decide +kernel
theorem dX9_feed_16 : decode cX9_feed 16 = .ok (.iconst (-1), 1) := by decide +kernel
theorem dX9_feed_17 : decode cX9_feed 17 = .ok (.ireturn, 1) := by decide +kernel
theorem dX9_feed_18 : decode cX9_feed 18 = .ok (.aload_n 0, 1) := by decide +kernel
theorem dX9_feed_19 : decode cX9_feed 19 = .ok (.getfield 10, 3) := by decide +kernel
theorem dX9_feed_22 : decode cX9_feed 22 = .ok (.iload_n 1, 1) := by decide +kernel
theorem dX9_feed_23 : decode cX9_feed 23 = .ok (.invokevirtual 89, 3) := by decide +kernel
theorem dX9_feed_26 : decode cX9_feed 26 = .ok (.aload_n 0, 1) := by decide +kernel
theorem dX9_feed_27 : decode cX9_feed 27 = .ok (.getfield 10, 3) := by decide +kernel
theorem dX9_feed_30 : decode cX9_feed 30 = .ok (.iload_n 2, 1) := by decide +kernel
theorem dX9_feed_31 : decode cX9_feed 31 = .ok (.invokevirtual 89, 3) := by decide +kernel
theorem dX9_feed_34 : decode cX9_feed 34 = .ok (.aload_n 0, 1) := by decide +kernel
theorem dX9_feed_35 : decode cX9_feed 35 = .ok (.getfield 10, 3) := by decide +kernel
theorem dX9_feed_38 : decode cX9_feed 38 = .ok (.iload_n 3, 1) := by decide +kernel
theorem dX9_feed_39 : decode cX9_feed 39 = .ok (.invokevirtual 89, 3) := by decide +kernel
theorem dX9_feed_42 : decode cX9_feed 42 = .ok (.aload_n 0, 1) := by decide +kernel
theorem dX9_feed_43 : decode cX9_feed 43 = .ok (.getfield 10, 3) := by decide +kernel
theorem dX9_feed_46 : decode cX9_feed 46 = .ok (.iload 4, 2) := by decide +kernel
theorem dX9_feed_48 : decode cX9_feed 48 = .ok (.invokevirtual 89, 3) := by decide +kernel
theorem dX9_feed_51 : decode cX9_feed 51 = .ok (.aload_n 0, 1) := by decide +kernel
theorem dX9_feed_52 : decode cX9_feed 52 = .ok (.getfield 10, 3) := by decide +kernel
theorem dX9_feed_55 : decode cX9_feed 55 = .ok (.iload 5, 2) := by decide +kernel
theorem dX9_feed_57 : decode cX9_feed 57 = .ok (.invokevirtual 89, 3) := by decide +kernel
theorem dX9_feed_60 : decode cX9_feed 60 = .ok (.aload_n 0, 1) := by decide +kernel
theorem dX9_feed_61 : decode cX9_feed 61 = .ok (.getfield 10, 3) := by decide +kernel
theorem dX9_feed_64 : decode cX9_feed 64 = .ok (.getfield 85, 3) := by decide +kernel
theorem dX9_feed_67 : decode cX9_feed 67 = .ok (.ireturn, 1) := by decide +kernel
theorem dX9_finds_0 : decode cX9_finds 0 = .ok (.aload_n 0, 1) := by decide +kernel
theorem dX9_finds_1 : decode cX9_finds 1 = .ok (.getfield 10, 3) := by decide +kernel
theorem dX9_finds_4 : decode cX9_finds 4 = .ok (.getfield 194, 3) := by decide +kernel
theorem dX9_finds_7 : decode cX9_finds 7 = .ok (.ifCond .eq 27, 3) := by decide +kernel
theorem dX9_finds_10 : decode cX9_finds 10 = .ok (.aload_n 0, 1) := by decide +kernel
theorem dX9_finds_11 : decode cX9_finds 11 = .ok (.getfield 10, 3) := by decide +kernel
theorem dX9_finds_14 : decode cX9_finds 14 = .ok (.getfield 188, 3) := by decide +kernel
theorem dX9_finds_17 : decode cX9_finds 17 = .ok (.iload_n 1, 1) := by decide +kernel
theorem dX9_finds_18 : decode cX9_finds 18 = .ok (.invokevirtual 218, 3) := by decide +kernel
theorem dX9_finds_21 : decode cX9_finds 21 = .ok (.ifCond .eq 13, 3) := by decide +kernel
theorem dX9_finds_24 : decode cX9_finds 24 = .ok (.iload_n 2, 1) := by decide +kernel
theorem dX9_finds_25 : decode cX9_finds 25 = .ok (.ifCond .lt 9, 3) := by decide +kernel
theorem dX9_finds_28 : decode cX9_finds 28 = .ok (.iload_n 2, 1) := by decide +kernel
theorem dX9_finds_29 : decode cX9_finds 29 = .ok (.bipush 11, 2) := by decide +kernel
theorem dX9_finds_31 : decode cX9_finds 31 = .ok (.if_icmp .lt 6, 3) := by decide +kernel
theorem dX9_finds_34 : decode cX9_finds 34 = .ok (.bipush (-2), 2) := by decide +kernel
theorem dX9_finds_36 : decode cX9_finds 36 = .ok (.ireturn, 1) := by decide +kernel
theorem dX9_finds_37 : decode cX9_finds 37 = .ok (.aload_n 0, 1) := by decide +kernel
theorem dX9_finds_38 : decode cX9_finds 38 = .ok (.getfield 10, 3) := by decide +kernel
theorem dX9_finds_41 : decode cX9_finds 41 = .ok (.getfield 188, 3) := by decide +kernel
theorem dX9_finds_44 : decode cX9_finds 44 = .ok (.iload_n 1, 1) := by decide +kernel
theorem dX9_finds_45 : decode cX9_finds 45 = .ok (.invokevirtual 221, 3) := by decide +kernel
theorem dX9_finds_48 : decode cX9_finds 48 = .ok (.aload_n 0, 1) := by decide +kernel
theorem dX9_finds_49 : decode cX9_finds 49 = .ok (.getfield 10, 3) := by decide +kernel
theorem dX9_finds_52 : decode cX9_finds 52 = .ok (.getfield 188, 3) := by decide +kernel
theorem dX9_finds_55 : decode cX9_finds 55 = .ok (.getfield 224, 3) := by decide +kernel
theorem dX9_finds_58 : decode cX9_finds 58 = .ok (.iload_n 2, 1) := by decide +kernel
theorem dX9_finds_59 : decode cX9_finds 59 = .ok (.iaload, 1) := by decide +kernel
theorem dX9_finds_60 : decode cX9_finds 60 = .ok (.ireturn, 1) := by decide +kernel
theorem dX9_fits_0 : decode cX9_fits 0 = .ok (.aload_n 0, 1) := by decide +kernel
theorem dX9_fits_1 : decode cX9_fits 1 = .ok (.iload_n 1, 1) := by decide +kernel
theorem dX9_fits_2 : decode cX9_fits 2 = .ok (.iload_n 2, 1) := by decide +kernel
theorem dX9_fits_3 : decode cX9_fits 3 = .ok (.invokevirtual 262, 3) := by decide +kernel
theorem dX9_fits_6 : decode cX9_fits 6 = .ok (.ifCond .ne 5, 3) := by decide +kernel
theorem dX9_fits_9 : decode cX9_fits 9 = .ok (.iconst (-1), 1) := by decide +kernel
theorem dX9_fits_10 : decode cX9_fits 10 = .ok (.ireturn, 1) := by decide +kernel
theorem dX9_fits_11 : decode cX9_fits 11 = .ok (.iconst 0, 1) := by decide +kernel
theorem dX9_fits_12 : decode cX9_fits 12 = .ok (.istore 4, 2) := by decide +kernel
theorem dX9_fits_14 : decode cX9_fits 14 = .ok (.aload_n 0, 1) := by decide +kernel
theorem dX9_fits_15 : decode cX9_fits 15 = .ok (.getfield 56, 3) := by decide +kernel
theorem dX9_fits_18 : decode cX9_fits 18 = .ok (.iload_n 3, 1) := by decide +kernel
theorem dX9_fits_19 : decode cX9_fits 19 = .ok (.invokevirtual 191, 3) := by decide +kernel
theorem dX9_fits_22 : decode cX9_fits 22 = .ok (.iconst 0, 1) := by decide +kernel
theorem dX9_fits_23 : decode cX9_fits 23 = .ok (.istore 5, 2) := by decide +kernel
theorem dX9_fits_25 : decode cX9_fits 25 = .ok (.iload 5, 2) := by decide +kernel
theorem dX9_fits_27 : decode cX9_fits 27 = .ok (.bipush 8, 2) := by decide +kernel
theorem dX9_fits_29 : decode cX9_fits 29 = .ok (.if_icmp .ge 45, 3) := by decide +kernel
theorem dX9_fits_32 : decode cX9_fits 32 = .ok (.aload_n 0, 1) := by decide +kernel
theorem dX9_fits_33 : decode cX9_fits 33 = .ok (.getfield 10, 3) := by decide +kernel
theorem dX9_fits_36 : decode cX9_fits 36 = .ok (.getfield 296, 3) := by decide +kernel
theorem dX9_fits_39 : decode cX9_fits 39 = .ok (.getfield 300, 3) := by decide +kernel
theorem dX9_fits_42 : decode cX9_fits 42 = .ok (.iload 5, 2) := by decide +kernel
theorem dX9_fits_44 : decode cX9_fits 44 = .ok (.iaload, 1) := by decide +kernel
theorem dX9_fits_45 : decode cX9_fits 45 = .ok (.ifCond .le 15, 3) := by decide +kernel
theorem dX9_fits_48 : decode cX9_fits 48 = .ok (.aload_n 0, 1) := by decide +kernel
theorem dX9_fits_49 : decode cX9_fits 49 = .ok (.iload 5, 2) := by decide +kernel
theorem dX9_fits_51 : decode cX9_fits 51 = .ok (.invokevirtual 305, 3) := by decide +kernel
theorem dX9_fits_54 : decode cX9_fits 54 = .ok (.ifCond .eq 6, 3) := by decide +kernel
theorem dX9_fits_57 : decode cX9_fits 57 = .ok (.iinc 4 1, 3) := by decide +kernel
theorem dX9_fits_60 : decode cX9_fits 60 = .ok (.aload_n 0, 1) := by decide +kernel
theorem dX9_fits_61 : decode cX9_fits 61 = .ok (.getfield 56, 3) := by decide +kernel
theorem dX9_fits_64 : decode cX9_fits 64 = .ok (.invokevirtual 198, 3) := by decide +kernel
theorem dX9_fits_67 : decode cX9_fits 67 = .ok (.pop, 1) := by decide +kernel
theorem dX9_fits_68 : decode cX9_fits 68 = .ok (.iinc 5 1, 3) := by decide +kernel
theorem dX9_fits_71 : decode cX9_fits 71 = .ok (.goto (-46), 3) := by decide +kernel
theorem dX9_fits_74 : decode cX9_fits 74 = .ok (.iload 4, 2) := by decide +kernel
theorem dX9_fits_76 : decode cX9_fits 76 = .ok (.ireturn, 1) := by decide +kernel
theorem dX9_flow_0 : decode cX9_flow 0 = .ok (.iload 4, 2) := by decide +kernel
theorem dX9_flow_2 : decode cX9_flow 2 = .ok (.sipush 200, 3) := by decide +kernel
theorem dX9_flow_5 : decode cX9_flow 5 = .ok (.invokestatic 268, 3) := by decide +kernel
theorem dX9_flow_8 : decode cX9_flow 8 = .ok (.ifCond .eq 12, 3) := by decide +kernel
theorem dX9_flow_11 : decode cX9_flow 11 = .ok (.aload_n 0, 1) := by decide +kernel
theorem dX9_flow_12 : decode cX9_flow 12 = .ok (.iload_n 1, 1) := by decide +kernel
theorem dX9_flow_13 : decode cX9_flow 13 = .ok (.iload_n 2, 1) := by decide +kernel
theorem dX9_flow_14 : decode cX9_flow 14 = .ok (.invokevirtual 262, 3) := by decide +kernel
theorem dX9_flow_17 : decode cX9_flow 17 = .ok (.ifCond .ne 5, 3) := by decide +kernel
theorem dX9_flow_20 : decode cX9_flow 20 = .ok (.iconst (-1), 1) := by decide +kernel
theorem dX9_flow_21 : decode cX9_flow 21 = .ok (.ireturn, 1) := by decide +kernel
theorem dX9_flow_22 : decode cX9_flow 22 = .ok (.aload_n 0, 1) := by decide +kernel
theorem dX9_flow_23 : decode cX9_flow 23 = .ok (.iload_n 3, 1) := by decide +kernel
theorem dX9_flow_24 : decode cX9_flow 24 = .ok (.iload 4, 2) := by decide +kernel
theorem dX9_flow_26 : decode cX9_flow 26 = .ok (.invokevirtual 275, 3) := by decide +kernel
theorem dX9_flow_29 : decode cX9_flow 29 = .ok (.pop, 1) := by decide +kernel
theorem dX9_flow_30 : decode cX9_flow 30 = .ok (.aload_n 0, 1) := by decide +kernel
theorem dX9_flow_31 : decode cX9_flow 31 = .ok (.getfield 56, 3) := by decide +kernel
theorem dX9_flow_34 : decode cX9_flow 34 = .ok (.invokevirtual 290, 3) := by decide +kernel
theorem dX9_flow_37 : decode cX9_flow 37 = .ok (.ireturn, 1) := by decide +kernel
theorem dX9_fullest_0 : decode cX9_fullest 0 = .ok (.iload 4, 2) := by decide +kernel
theorem dX9_fullest_2 : decode cX9_fullest 2 = .ok (.sipush 200, 3) := by decide +kernel
theorem dX9_fullest_5 : decode cX9_fullest 5 = .ok (.invokestatic 268, 3) := by decide +kernel
theorem dX9_fullest_8 : decode cX9_fullest 8 = .ok (.ifCond .eq 12, 3) := by decide +kernel
theorem dX9_fullest_11 : decode cX9_fullest 11 = .ok (.aload_n 0, 1) := by decide +kernel
theorem dX9_fullest_12 : decode cX9_fullest 12 = .ok (.iload_n 1, 1) := by decide +kernel
theorem dX9_fullest_13 : decode cX9_fullest 13 = .ok (.iload_n 2, 1) := by decide +kernel
theorem dX9_fullest_14 : decode cX9_fullest 14 = .ok (.invokevirtual 262, 3) := by decide +kernel
theorem dX9_fullest_17 : decode cX9_fullest 17 = .ok (.ifCond .ne 5, 3) := by decide +kernel
theorem dX9_fullest_20 : decode cX9_fullest 20 = .ok (.iconst (-1), 1) := by decide +kernel
theorem dX9_fullest_21 : decode cX9_fullest 21 = .ok (.ireturn, 1) := by decide +kernel
theorem dX9_fullest_22 : decode cX9_fullest 22 = .ok (.aload_n 0, 1) := by decide +kernel
theorem dX9_fullest_23 : decode cX9_fullest 23 = .ok (.getfield 40, 3) := by decide +kernel
theorem dX9_fullest_26 : decode cX9_fullest 26 = .ok (.getfield 138, 3) := by decide +kernel
theorem dX9_fullest_29 : decode cX9_fullest 29 = .ok (.istore 5, 2) := by decide +kernel
theorem dX9_fullest_31 : decode cX9_fullest 31 = .ok (.iconst 1, 1) := by decide +kernel
theorem dX9_fullest_32 : decode cX9_fullest 32 = .ok (.istore 6, 2) := by decide +kernel
theorem dX9_fullest_34 : decode cX9_fullest 34 = .ok (.iload 6, 2) := by decide +kernel
theorem dX9_fullest_36 : decode cX9_fullest 36 = .ok (.iload 5, 2) := by decide +kernel
theorem dX9_fullest_38 : decode cX9_fullest 38 = .ok (.if_icmp .gt 35, 3) := by decide +kernel
theorem dX9_fullest_41 : decode cX9_fullest 41 = .ok (.aload_n 0, 1) := by decide +kernel
theorem dX9_fullest_42 : decode cX9_fullest 42 = .ok (.getfield 40, 3) := by decide +kernel
theorem dX9_fullest_45 : decode cX9_fullest 45 = .ok (.iload 6, 2) := by decide +kernel
theorem dX9_fullest_47 : decode cX9_fullest 47 = .ok (.iload 5, 2) := by decide +kernel
theorem dX9_fullest_49 : decode cX9_fullest 49 = .ok (.invokevirtual 271, 3) := by decide +kernel
theorem dX9_fullest_52 : decode cX9_fullest 52 = .ok (.aload_n 0, 1) := by decide +kernel
theorem dX9_fullest_53 : decode cX9_fullest 53 = .ok (.iload_n 3, 1) := by decide +kernel
theorem dX9_fullest_54 : decode cX9_fullest 54 = .ok (.iload 4, 2) := by decide +kernel
theorem dX9_fullest_56 : decode cX9_fullest 56 = .ok (.invokevirtual 275, 3) := by decide +kernel
theorem dX9_fullest_59 : decode cX9_fullest 59 = .ok (.iload 6, 2) := by decide +kernel
theorem dX9_fullest_61 : decode cX9_fullest 61 = .ok (.if_icmp .ge 6, 3) := by decide +kernel
theorem dX9_fullest_64 : decode cX9_fullest 64 = .ok (.iload 6, 2) := by decide +kernel
theorem dX9_fullest_66 : decode cX9_fullest 66 = .ok (.ireturn, 1) := by decide +kernel
theorem dX9_fullest_67 : decode cX9_fullest 67 = .ok (.iinc 6 1, 3) := by decide +kernel
theorem dX9_fullest_70 : decode cX9_fullest 70 = .ok (.goto (-36), 3) := by decide +kernel
theorem dX9_fullest_73 : decode cX9_fullest 73 = .ok (.iconst (-1), 1) := by decide +kernel
theorem dX9_fullest_74 : decode cX9_fullest 74 = .ok (.ireturn, 1) := by decide +kernel
theorem dX9_go_0 : decode cX9_go 0 = .ok (.aload_n 0, 1) := by decide +kernel
theorem dX9_go_1 : decode cX9_go 1 = .ok (.getfield 10, 3) := by decide +kernel
theorem dX9_go_4 : decode cX9_go 4 = .ok (.getfield 194, 3) := by decide +kernel
theorem dX9_go_7 : decode cX9_go 7 = .ok (.ifCond .eq 14, 3) := by decide +kernel
theorem dX9_go_10 : decode cX9_go 10 = .ok (.iload_n 1, 1) := by decide +kernel
theorem dX9_go_11 : decode cX9_go 11 = .ok (.ifCond .lt 10, 3) := by decide +kernel
theorem dX9_go_14 : decode cX9_go 14 = .ok (.iload_n 1, 1) := by decide +kernel
theorem dX9_go_15 : decode cX9_go 15 = .ok (.sipush 200, 3) := by decide +kernel
theorem dX9_go_18 : decode cX9_go 18 = .ok (.if_icmp .le 5, 3) := by decide +kernel
theorem dX9_go_21 : decode cX9_go 21 = .ok (.iconst (-1), 1) := by decide +kernel
theorem dX9_go_22 : decode cX9_go 22 = .ok (.ireturn, 1) := by decide +kernel
theorem dX9_go_23 : decode cX9_go 23 = .ok (.iconst 0, 1) := by decide +kernel
theorem dX9_go_24 : decode cX9_go 24 = .ok (.istore_n 2, 1) := by decide +kernel
theorem dX9_go_25 : decode cX9_go 25 = .ok (.iconst 0, 1) := by decide +kernel
theorem dX9_go_26 : decode cX9_go 26 = .ok (.istore_n 3, 1) := by decide +kernel
theorem dX9_go_27 : decode cX9_go 27 = .ok (.iload_n 3, 1) := by decide +kernel
theorem dX9_go_28 : decode cX9_go 28 = .ok (.iload_n 1, 1) := by decide +kernel
theorem dX9_go_29 : decode cX9_go 29 = .ok (.if_icmp .ge 22, 3) := by decide +kernel
theorem dX9_go_32 : decode cX9_go 32 = .ok (.iload_n 2, 1) := by decide +kernel
theorem dX9_go_33 : decode cX9_go 33 = .ok (.aload_n 0, 1) := by decide +kernel
theorem dX9_go_34 : decode cX9_go 34 = .ok (.getfield 10, 3) := by decide +kernel
theorem dX9_go_37 : decode cX9_go 37 = .ok (.getfield 188, 3) := by decide +kernel
theorem dX9_go_40 : decode cX9_go 40 = .ok (.invokevirtual 198, 3) := by decide +kernel
theorem dX9_go_43 : decode cX9_go 43 = .ok (.iadd, 1) := by decide +kernel
theorem dX9_go_44 : decode cX9_go 44 = .ok (.istore_n 2, 1) := by decide +kernel
theorem dX9_go_45 : decode cX9_go 45 = .ok (.iinc 3 1, 3) := by decide +kernel
theorem dX9_go_48 : decode cX9_go 48 = .ok (.goto (-21), 3) := by decide +kernel
theorem dX9_go_51 : decode cX9_go 51 = .ok (.iload_n 2, 1) := by decide +kernel
theorem dX9_go_52 : decode cX9_go 52 = .ok (.ireturn, 1) := by decide +kernel
theorem dX9_habitParts_0 : decode cX9_habitParts 0 = .ok (.iload 4, 2) := by decide +kernel
theorem dX9_habitParts_2 : decode cX9_habitParts 2 = .ok (.ifCond .le 15, 3) := by decide +kernel
theorem dX9_habitParts_5 : decode cX9_habitParts 5 = .ok (.iload 5, 2) := by decide +kernel
theorem dX9_habitParts_7 : decode cX9_habitParts 7 = .ok (.iload_n 1, 1) := by decide +kernel
theorem dX9_habitParts_8 : decode cX9_habitParts 8 = .ok (.isub, 1) := by decide +kernel
theorem dX9_habitParts_9 : decode cX9_habitParts 9 = .ok (.invokestatic 344, 3) := by decide +kernel
theorem dX9_habitParts_12 : decode cX9_habitParts 12 = .ok (.iload 4, 2) := by decide +kernel
theorem dX9_habitParts_14 : decode cX9_habitParts 14 = .ok (.if_icmp .le 15, 3) := by decide +kernel
theorem dX9_habitParts_17 : decode cX9_habitParts 17 = .ok (.iload_n 1, 1) := by decide +kernel
theorem dX9_habitParts_18 : decode cX9_habitParts 18 = .ok (.iload 5, 2) := by decide +kernel
theorem dX9_habitParts_20 : decode cX9_habitParts 20 = .ok (.if_icmp .ne 7, 3) := by decide +kernel
theorem dX9_habitParts_23 : decode cX9_habitParts 23 = .ok (.lconst 1, 1) := by decide +kernel
theorem dX9_habitParts_24 : decode cX9_habitParts 24 = .ok (.goto 4, 3) := by decide +kernel
theorem dX9_habitParts_27 : decode cX9_habitParts 27 = .ok (.lconst 0, 1) := by decide +kernel
theorem dX9_habitParts_28 : decode cX9_habitParts 28 = .ok (.lreturn, 1) := by decide +kernel
theorem dX9_habitParts_29 : decode cX9_habitParts 29 = .ok (.iload_n 1, 1) := by decide +kernel
theorem dX9_habitParts_30 : decode cX9_habitParts 30 = .ok (.i2l, 1) := by decide +kernel
theorem dX9_habitParts_31 : decode cX9_habitParts 31 = .ok (.iload_n 0, 1) := by decide +kernel
theorem dX9_habitParts_32 : decode cX9_habitParts 32 = .ok (.iload_n 1, 1) := by decide +kernel
theorem dX9_habitParts_33 : decode cX9_habitParts 33 = .ok (.isub, 1) := by decide +kernel
theorem dX9_habitParts_34 : decode cX9_habitParts 34 = .ok (.i2l, 1) := by decide +kernel
theorem dX9_habitParts_35 : decode cX9_habitParts 35 = .ok (.lmul, 1) := by decide +kernel
theorem dX9_habitParts_36 : decode cX9_habitParts 36 = .ok (.lstore 6, 2) := by decide +kernel
theorem dX9_habitParts_38 : decode cX9_habitParts 38 = .ok (.ldc2_w 349, 3) := by decide +kernel
theorem dX9_habitParts_41 : decode cX9_habitParts 41 = .ok (.iload_n 0, 1) := by decide +kernel
theorem dX9_habitParts_42 : decode cX9_habitParts 42 = .ok (.i2l, 1) := by decide +kernel
theorem dX9_habitParts_43 : decode cX9_habitParts 43 = .ok (.lmul, 1) := by decide +kernel
theorem dX9_habitParts_44 : decode cX9_habitParts 44 = .ok (.iload_n 0, 1) := by decide +kernel
theorem dX9_habitParts_45 : decode cX9_habitParts 45 = .ok (.iconst 1, 1) := by decide +kernel
theorem dX9_habitParts_46 : decode cX9_habitParts 46 = .ok (.isub, 1) := by decide +kernel
theorem dX9_habitParts_47 : decode cX9_habitParts 47 = .ok (.i2l, 1) := by decide +kernel
theorem dX9_habitParts_48 : decode cX9_habitParts 48 = .ok (.lmul, 1) := by decide +kernel
theorem dX9_habitParts_49 : decode cX9_habitParts 49 = .ok (.iload_n 2, 1) := by decide +kernel
theorem dX9_habitParts_50 : decode cX9_habitParts 50 = .ok (.iload_n 3, 1) := by decide +kernel
theorem dX9_habitParts_51 : decode cX9_habitParts 51 = .ok (.iadd, 1) := by decide +kernel
theorem dX9_habitParts_52 : decode cX9_habitParts 52 = .ok (.i2l, 1) := by decide +kernel
theorem dX9_habitParts_53 : decode cX9_habitParts 53 = .ok (.lload 6, 2) := by decide +kernel
theorem dX9_habitParts_55 : decode cX9_habitParts 55 = .ok (.lmul, 1) := by decide +kernel
theorem dX9_habitParts_56 : decode cX9_habitParts 56 = .ok (.lsub, 1) := by decide +kernel
theorem dX9_habitParts_57 : decode cX9_habitParts 57 = .ok (.lstore 8, 2) := by decide +kernel
theorem dX9_habitParts_59 : decode cX9_habitParts 59 = .ok (.lload 8, 2) := by decide +kernel
theorem dX9_habitParts_61 : decode cX9_habitParts 61 = .ok (.iload_n 0, 1) := by decide +kernel
theorem dX9_habitParts_62 : decode cX9_habitParts 62 = .ok (.iload_n 1, 1) := by decide +kernel
theorem dX9_habitParts_63 : decode cX9_habitParts 63 = .ok (.iload_n 2, 1) := by decide +kernel
theorem dX9_habitParts_64 : decode cX9_habitParts 64 = .ok (.iload_n 3, 1) := by decide +kernel
theorem dX9_habitParts_65 : decode cX9_habitParts 65 = .ok (.iload 4, 2) := by decide +kernel
theorem dX9_habitParts_67 : decode cX9_habitParts 67 = .ok (.iconst 1, 1) := by decide +kernel
theorem dX9_habitParts_68 : decode cX9_habitParts 68 = .ok (.isub, 1) := by decide +kernel
theorem dX9_habitParts_69 : decode cX9_habitParts 69 = .ok (.iload 5, 2) := by decide +kernel
theorem dX9_habitParts_71 : decode cX9_habitParts 71 = .ok (.invokestatic 340, 3) := by decide +kernel
theorem dX9_habitParts_74 : decode cX9_habitParts 74 = .ok (.lmul, 1) := by decide +kernel
theorem dX9_habitParts_75 : decode cX9_habitParts 75 = .ok (.lstore 10, 2) := by decide +kernel
theorem dX9_habitParts_77 : decode cX9_habitParts 77 = .ok (.lload 6, 2) := by decide +kernel
theorem dX9_habitParts_79 : decode cX9_habitParts 79 = .ok (.lconst 0, 1) := by decide +kernel
theorem dX9_habitParts_80 : decode cX9_habitParts 80 = .ok (.lcmp, 1) := by decide +kernel
theorem dX9_habitParts_81 : decode cX9_habitParts 81 = .ok (.ifCond .le 55, 3) := by decide +kernel
theorem dX9_habitParts_84 : decode cX9_habitParts 84 = .ok (.lload 10, 2) := by decide +kernel
theorem dX9_habitParts_86 : decode cX9_habitParts 86 = .ok (.iload_n 2, 1) := by decide +kernel
theorem dX9_habitParts_87 : decode cX9_habitParts 87 = .ok (.i2l, 1) := by decide +kernel
theorem dX9_habitParts_88 : decode cX9_habitParts 88 = .ok (.lload 6, 2) := by decide +kernel
theorem dX9_habitParts_90 : decode cX9_habitParts 90 = .ok (.lmul, 1) := by decide +kernel
theorem dX9_habitParts_91 : decode cX9_habitParts 91 = .ok (.iload_n 0, 1) := by decide +kernel
theorem dX9_habitParts_92 : decode cX9_habitParts 92 = .ok (.iload_n 1, 1) := by decide +kernel
theorem dX9_habitParts_93 : decode cX9_habitParts 93 = .ok (.iconst 1, 1) := by decide +kernel
theorem dX9_habitParts_94 : decode cX9_habitParts 94 = .ok (.iadd, 1) := by decide +kernel
theorem dX9_habitParts_95 : decode cX9_habitParts 95 = .ok (.iload_n 2, 1) := by decide +kernel
theorem dX9_habitParts_96 : decode cX9_habitParts 96 = .ok (.iload_n 3, 1) := by decide +kernel
theorem dX9_habitParts_97 : decode cX9_habitParts 97 = .ok (.iload 4, 2) := by decide +kernel
theorem dX9_habitParts_99 : decode cX9_habitParts 99 = .ok (.iconst 1, 1) := by decide +kernel
theorem dX9_habitParts_100 : decode cX9_habitParts 100 = .ok (.isub, 1) := by decide +kernel
theorem dX9_habitParts_101 : decode cX9_habitParts 101 = .ok (.iload 5, 2) := by decide +kernel
theorem dX9_habitParts_103 : decode cX9_habitParts 103 = .ok (.invokestatic 340, 3) := by decide +kernel
theorem dX9_habitParts_106 : decode cX9_habitParts 106 = .ok (.lmul, 1) := by decide +kernel
theorem dX9_habitParts_107 : decode cX9_habitParts 107 = .ok (.ladd, 1) := by decide +kernel
theorem dX9_habitParts_108 : decode cX9_habitParts 108 = .ok (.lstore 10, 2) := by decide +kernel
theorem dX9_habitParts_110 : decode cX9_habitParts 110 = .ok (.lload 10, 2) := by decide +kernel
theorem dX9_habitParts_112 : decode cX9_habitParts 112 = .ok (.iload_n 3, 1) := by decide +kernel
theorem dX9_habitParts_113 : decode cX9_habitParts 113 = .ok (.i2l, 1) := by decide +kernel
theorem dX9_habitParts_114 : decode cX9_habitParts 114 = .ok (.lload 6, 2) := by decide +kernel
theorem dX9_habitParts_116 : decode cX9_habitParts 116 = .ok (.lmul, 1) := by decide +kernel
theorem dX9_habitParts_117 : decode cX9_habitParts 117 = .ok (.iload_n 0, 1) := by decide +kernel
theorem dX9_habitParts_118 : decode cX9_habitParts 118 = .ok (.iload_n 1, 1) := by decide +kernel
theorem dX9_habitParts_119 : decode cX9_habitParts 119 = .ok (.iconst 1, 1) := by decide +kernel
theorem dX9_habitParts_120 : decode cX9_habitParts 120 = .ok (.isub, 1) := by decide +kernel
theorem dX9_habitParts_121 : decode cX9_habitParts 121 = .ok (.iload_n 2, 1) := by decide +kernel
theorem dX9_habitParts_122 : decode cX9_habitParts 122 = .ok (.iload_n 3, 1) := by decide +kernel
theorem dX9_habitParts_123 : decode cX9_habitParts 123 = .ok (.iload 4, 2) := by decide +kernel
theorem dX9_habitParts_125 : decode cX9_habitParts 125 = .ok (.iconst 1, 1) := by decide +kernel
theorem dX9_habitParts_126 : decode cX9_habitParts 126 = .ok (.isub, 1) := by decide +kernel
theorem dX9_habitParts_127 : decode cX9_habitParts 127 = .ok (.iload 5, 2) := by decide +kernel
theorem dX9_habitParts_129 : decode cX9_habitParts 129 = .ok (.invokestatic 340, 3) := by decide +kernel
theorem dX9_habitParts_132 : decode cX9_habitParts 132 = .ok (.lmul, 1) := by decide +kernel
theorem dX9_habitParts_133 : decode cX9_habitParts 133 = .ok (.ladd, 1) := by decide +kernel
theorem dX9_habitParts_134 : decode cX9_habitParts 134 = .ok (.lstore 10, 2) := by decide +kernel
theorem dX9_habitParts_136 : decode cX9_habitParts 136 = .ok (.lload 10, 2) := by decide +kernel
theorem dX9_habitParts_138 : decode cX9_habitParts 138 = .ok (.lreturn, 1) := by decide +kernel
theorem dX9_habit_0 : decode cX9_habit 0 = .ok (.iload_n 1, 1) := by decide +kernel
theorem dX9_habit_1 : decode cX9_habit 1 = .ok (.iconst 2, 1) := by decide +kernel
theorem dX9_habit_2 : decode cX9_habit 2 = .ok (.if_icmp .lt 33, 3) := by decide +kernel
theorem dX9_habit_5 : decode cX9_habit 5 = .ok (.iload_n 1, 1) := by decide +kernel
theorem dX9_habit_6 : decode cX9_habit 6 = .ok (.bipush 8, 2) := by decide +kernel
theorem dX9_habit_8 : decode cX9_habit 8 = .ok (.if_icmp .gt 27, 3) := by decide +kernel
theorem dX9_habit_11 : decode cX9_habit 11 = .ok (.iload_n 2, 1) := by decide +kernel
theorem dX9_habit_12 : decode cX9_habit 12 = .ok (.ifCond .lt 23, 3) := by decide +kernel
theorem dX9_habit_15 : decode cX9_habit 15 = .ok (.iload_n 2, 1) := by decide +kernel
theorem dX9_habit_16 : decode cX9_habit 16 = .ok (.iload_n 1, 1) := by decide +kernel
theorem dX9_habit_17 : decode cX9_habit 17 = .ok (.if_icmp .gt 18, 3) := by decide +kernel
theorem dX9_habit_20 : decode cX9_habit 20 = .ok (.iload 6, 2) := by decide +kernel
theorem dX9_habit_22 : decode cX9_habit 22 = .ok (.ifCond .lt 13, 3) := by decide +kernel
theorem dX9_habit_25 : decode cX9_habit 25 = .ok (.iload 6, 2) := by decide +kernel
theorem dX9_habit_27 : decode cX9_habit 27 = .ok (.iload_n 1, 1) := by decide +kernel
theorem dX9_habit_28 : decode cX9_habit 28 = .ok (.if_icmp .gt 7, 3) := by decide +kernel
theorem dX9_habit_31 : decode cX9_habit 31 = .ok (.iconst 1, 1) := by decide +kernel
theorem dX9_habit_32 : decode cX9_habit 32 = .ok (.goto 4, 3) := by decide +kernel
theorem dX9_habit_35 : decode cX9_habit 35 = .ok (.iconst 0, 1) := by decide +kernel
theorem dX9_habit_36 : decode cX9_habit 36 = .ok (.istore 7, 2) := by decide +kernel
theorem dX9_habit_38 : decode cX9_habit 38 = .ok (.iload_n 3, 1) := by decide +kernel
theorem dX9_habit_39 : decode cX9_habit 39 = .ok (.ifCond .lt 27, 3) := by decide +kernel
theorem dX9_habit_42 : decode cX9_habit 42 = .ok (.iload_n 3, 1) := by decide +kernel
theorem dX9_habit_43 : decode cX9_habit 43 = .ok (.bipush 12, 2) := by decide +kernel
theorem dX9_habit_45 : decode cX9_habit 45 = .ok (.if_icmp .gt 21, 3) := by decide +kernel
theorem dX9_habit_48 : decode cX9_habit 48 = .ok (.iload 4, 2) := by decide +kernel
theorem dX9_habit_50 : decode cX9_habit 50 = .ok (.ifCond .lt 16, 3) := by decide +kernel
theorem dX9_habit_53 : decode cX9_habit 53 = .ok (.iload 4, 2) := by decide +kernel
theorem dX9_habit_55 : decode cX9_habit 55 = .ok (.bipush 12, 2) := by decide +kernel
theorem dX9_habit_57 : decode cX9_habit 57 = .ok (.iload_n 3, 1) := by decide +kernel
theorem dX9_habit_58 : decode cX9_habit 58 = .ok (.isub, 1) := by decide +kernel
theorem dX9_habit_59 : decode cX9_habit 59 = .ok (.if_icmp .gt 7, 3) := by decide +kernel
theorem dX9_habit_62 : decode cX9_habit 62 = .ok (.iconst 1, 1) := by decide +kernel
theorem dX9_habit_63 : decode cX9_habit 63 = .ok (.goto 4, 3) := by decide +kernel
theorem dX9_habit_66 : decode cX9_habit 66 = .ok (.iconst 0, 1) := by decide +kernel
theorem dX9_habit_67 : decode cX9_habit 67 = .ok (.istore 8, 2) := by decide +kernel
theorem dX9_habit_69 : decode cX9_habit 69 = .ok (.iload 7, 2) := by decide +kernel
theorem dX9_habit_71 : decode cX9_habit 71 = .ok (.ifCond .eq 20, 3) := by decide +kernel
theorem dX9_habit_74 : decode cX9_habit 74 = .ok (.iload 8, 2) := by decide +kernel
theorem dX9_habit_76 : decode cX9_habit 76 = .ok (.ifCond .eq 15, 3) := by decide +kernel
theorem dX9_habit_79 : decode cX9_habit 79 = .ok (.iload 5, 2) := by decide +kernel
theorem dX9_habit_81 : decode cX9_habit 81 = .ok (.ifCond .lt 10, 3) := by decide +kernel
theorem dX9_habit_84 : decode cX9_habit 84 = .ok (.iload 5, 2) := by decide +kernel
theorem dX9_habit_86 : decode cX9_habit 86 = .ok (.bipush 6, 2) := by decide +kernel
theorem dX9_habit_88 : decode cX9_habit 88 = .ok (.if_icmp .le 7, 3) := by decide +kernel
theorem dX9_habit_91 : decode cX9_habit 91 = .ok (.ldc2_w 338, 3) := by decide +kernel
theorem dX9_habit_94 : decode cX9_habit 94 = .ok (.lreturn, 1) := by decide +kernel
theorem dX9_habit_95 : decode cX9_habit 95 = .ok (.iload_n 1, 1) := by decide +kernel
theorem dX9_habit_96 : decode cX9_habit 96 = .ok (.iload_n 2, 1) := by decide +kernel
theorem dX9_habit_97 : decode cX9_habit 97 = .ok (.iload_n 3, 1) := by decide +kernel
theorem dX9_habit_98 : decode cX9_habit 98 = .ok (.iload 4, 2) := by decide +kernel
theorem dX9_habit_100 : decode cX9_habit 100 = .ok (.iload 5, 2) := by decide +kernel
theorem dX9_habit_102 : decode cX9_habit 102 = .ok (.iload 6, 2) := by decide +kernel
theorem dX9_habit_104 : decode cX9_habit 104 = .ok (.invokestatic 340, 3) := by decide +kernel
theorem dX9_habit_107 : decode cX9_habit 107 = .ok (.lreturn, 1) := by decide +kernel
theorem dX9_isFrame_0 : decode cX9_isFrame 0 = .ok (.iload_n 0, 1) := by decide +kernel
theorem dX9_isFrame_1 : decode cX9_isFrame 1 = .ok (.ifCond .lt 12, 3) := by decide +kernel
theorem dX9_isFrame_4 : decode cX9_isFrame 4 = .ok (.iload_n 0, 1) := by decide +kernel
theorem dX9_isFrame_5 : decode cX9_isFrame 5 = .ok (.iload_n 1, 1) := by decide +kernel
theorem dX9_isFrame_6 : decode cX9_isFrame 6 = .ok (.if_icmp .ge 7, 3) := by decide +kernel
theorem dX9_isFrame_9 : decode cX9_isFrame 9 = .ok (.iconst 1, 1) := by decide +kernel
theorem dX9_isFrame_10 : decode cX9_isFrame 10 = .ok (.goto 4, 3) := by decide +kernel
theorem dX9_isFrame_13 : decode cX9_isFrame 13 = .ok (.iconst 0, 1) := by decide +kernel
theorem dX9_isFrame_14 : decode cX9_isFrame 14 = .ok (.ireturn, 1) := by decide +kernel
theorem dX9_hat_0 : decode cX9_hat 0 = .ok (.iload_n 2, 1) := by decide +kernel
theorem dX9_hat_1 : decode cX9_hat 1 = .ok (.ifCond .lt 23, 3) := by decide +kernel
theorem dX9_hat_4 : decode cX9_hat 4 = .ok (.iload_n 2, 1) := by decide +kernel
theorem dX9_hat_5 : decode cX9_hat 5 = .ok (.bipush 100, 2) := by decide +kernel
theorem dX9_hat_7 : decode cX9_hat 7 = .ok (.if_icmp .ge 17, 3) := by decide +kernel
theorem dX9_hat_10 : decode cX9_hat 10 = .ok (.iload_n 3, 1) := by decide +kernel
theorem dX9_hat_11 : decode cX9_hat 11 = .ok (.ifCond .lt 13, 3) := by decide +kernel
theorem dX9_hat_14 : decode cX9_hat 14 = .ok (.iload_n 3, 1) := by decide +kernel
theorem dX9_hat_15 : decode cX9_hat 15 = .ok (.bipush 100, 2) := by decide +kernel
theorem dX9_hat_17 : decode cX9_hat 17 = .ok (.if_icmp .ge 7, 3) := by decide +kernel
theorem dX9_hat_20 : decode cX9_hat 20 = .ok (.iconst 1, 1) := by decide +kernel
theorem dX9_hat_21 : decode cX9_hat 21 = .ok (.goto 4, 3) := by decide +kernel
theorem dX9_hat_24 : decode cX9_hat 24 = .ok (.iconst 0, 1) := by decide +kernel
theorem dX9_hat_25 : decode cX9_hat 25 = .ok (.istore 4, 2) := by decide +kernel
theorem dX9_hat_27 : decode cX9_hat 27 = .ok (.iload 4, 2) := by decide +kernel
theorem dX9_hat_29 : decode cX9_hat 29 = .ok (.ifCond .eq 28, 3) := by decide +kernel
theorem dX9_hat_32 : decode cX9_hat 32 = .ok (.iload_n 1, 1) := by decide +kernel
theorem dX9_hat_33 : decode cX9_hat 33 = .ok (.bipush 8, 2) := by decide +kernel
theorem dX9_hat_35 : decode cX9_hat 35 = .ok (.invokestatic 321, 3) := by decide +kernel
theorem dX9_hat_38 : decode cX9_hat 38 = .ok (.ifCond .eq 19, 3) := by decide +kernel
theorem dX9_hat_41 : decode cX9_hat 41 = .ok (.aload_n 0, 1) := by decide +kernel
theorem dX9_hat_42 : decode cX9_hat 42 = .ok (.getfield 10, 3) := by decide +kernel
theorem dX9_hat_45 : decode cX9_hat 45 = .ok (.getfield 296, 3) := by decide +kernel
theorem dX9_hat_48 : decode cX9_hat 48 = .ok (.iload_n 1, 1) := by decide +kernel
theorem dX9_hat_49 : decode cX9_hat 49 = .ok (.iload_n 2, 1) := by decide +kernel
theorem dX9_hat_50 : decode cX9_hat 50 = .ok (.iload_n 3, 1) := by decide +kernel
theorem dX9_hat_51 : decode cX9_hat 51 = .ok (.invokevirtual 324, 3) := by decide +kernel
theorem dX9_hat_54 : decode cX9_hat 54 = .ok (.goto 4, 3) := by decide +kernel
theorem dX9_hat_57 : decode cX9_hat 57 = .ok (.iconst (-1), 1) := by decide +kernel
theorem dX9_hat_58 : decode cX9_hat 58 = .ok (.ireturn, 1) := by decide +kernel
theorem dX9_image_0 : decode cX9_image 0 = .ok (.iload_n 1, 1) := by decide +kernel
theorem dX9_image_1 : decode cX9_image 1 = .ok (.ifCond .lt 8, 3) := by decide +kernel
theorem dX9_image_4 : decode cX9_image 4 = .ok (.iload_n 1, 1) := by decide +kernel
theorem dX9_image_5 : decode cX9_image 5 = .ok (.iconst 3, 1) := by decide +kernel
theorem dX9_image_6 : decode cX9_image 6 = .ok (.if_icmp .lt 5, 3) := by decide +kernel
theorem dX9_image_9 : decode cX9_image 9 = .ok (.iconst 0, 1) := by decide +kernel
theorem dX9_image_10 : decode cX9_image 10 = .ok (.ireturn, 1) := by decide +kernel
theorem dX9_image_11 : decode cX9_image 11 = .ok (.aload_n 0, 1) := by decide +kernel
theorem dX9_image_12 : decode cX9_image 12 = .ok (.getfield 16, 3) := by decide +kernel
theorem dX9_image_15 : decode cX9_image 15 = .ok (.iload_n 1, 1) := by decide +kernel
theorem dX9_image_16 : decode cX9_image 16 = .ok (.aaload, 1) := by decide +kernel
theorem dX9_image_17 : decode cX9_image 17 = .ok (.aload_n 0, 1) := by decide +kernel
theorem dX9_image_18 : decode cX9_image 18 = .ok (.getfield 10, 3) := by decide +kernel
theorem dX9_image_21 : decode cX9_image 21 = .ok (.invokevirtual 351, 3) := by decide +kernel
theorem dX9_image_24 : decode cX9_image 24 = .ok (.aload_n 0, 1) := by decide +kernel
theorem dX9_image_25 : decode cX9_image 25 = .ok (.getfield 20, 3) := by decide +kernel
theorem dX9_image_28 : decode cX9_image 28 = .ok (.iload_n 1, 1) := by decide +kernel
theorem dX9_image_29 : decode cX9_image 29 = .ok (.iconst 1, 1) := by decide +kernel
theorem dX9_image_30 : decode cX9_image 30 = .ok (.bastore, 1) := by decide +kernel
theorem dX9_image_31 : decode cX9_image 31 = .ok (.iconst 1, 1) := by decide +kernel
theorem dX9_image_32 : decode cX9_image 32 = .ok (.ireturn, 1) := by decide +kernel
theorem dX9_isPrice_0 : decode cX9_isPrice 0 = .ok (.iload_n 0, 1) := by decide +kernel
theorem dX9_isPrice_1 : decode cX9_isPrice 1 = .ok (.ifCond .lt 13, 3) := by decide +kernel
theorem dX9_isPrice_4 : decode cX9_isPrice 4 = .ok (.iload_n 0, 1) := by decide +kernel
theorem dX9_isPrice_5 : decode cX9_isPrice 5 = .ok (.bipush 99, 2) := by decide +kernel
theorem dX9_isPrice_7 : decode cX9_isPrice 7 = .ok (.if_icmp .gt 7, 3) := by decide +kernel
theorem dX9_isPrice_10 : decode cX9_isPrice 10 = .ok (.iconst 1, 1) := by decide +kernel
theorem dX9_isPrice_11 : decode cX9_isPrice 11 = .ok (.goto 4, 3) := by decide +kernel
theorem dX9_isPrice_14 : decode cX9_isPrice 14 = .ok (.iconst 0, 1) := by decide +kernel
theorem dX9_isPrice_15 : decode cX9_isPrice 15 = .ok (.ireturn, 1) := by decide +kernel
theorem dX9_slotFor_0 : decode cX9_slotFor 0 = .ok (.iload_n 0, 1) := by decide +kernel
theorem dX9_slotFor_1 : decode cX9_slotFor 1 = .ok (.iconst (-1), 1) := by decide +kernel
theorem dX9_slotFor_2 : decode cX9_slotFor 2 = .ok (.if_icmp .ne 15, 3) := by decide +kernel
theorem dX9_slotFor_5 : decode cX9_slotFor 5 = .ok (.iload_n 1, 1) := by decide +kernel
theorem dX9_slotFor_6 : decode cX9_slotFor 6 = .ok (.iconst 3, 1) := by decide +kernel
theorem dX9_slotFor_7 : decode cX9_slotFor 7 = .ok (.if_icmp .ge 7, 3) := by decide +kernel
theorem dX9_slotFor_10 : decode cX9_slotFor 10 = .ok (.iload_n 1, 1) := by decide +kernel
theorem dX9_slotFor_11 : decode cX9_slotFor 11 = .ok (.goto 5, 3) := by decide +kernel
theorem dX9_slotFor_14 : decode cX9_slotFor 14 = .ok (.bipush (-2), 2) := by decide +kernel
theorem dX9_slotFor_16 : decode cX9_slotFor 16 = .ok (.ireturn, 1) := by decide +kernel
theorem dX9_slotFor_17 : decode cX9_slotFor 17 = .ok (.iload_n 0, 1) := by decide +kernel
theorem dX9_slotFor_18 : decode cX9_slotFor 18 = .ok (.ifCond .lt 12, 3) := by decide +kernel
theorem dX9_slotFor_21 : decode cX9_slotFor 21 = .ok (.iload_n 0, 1) := by decide +kernel
theorem dX9_slotFor_22 : decode cX9_slotFor 22 = .ok (.iload_n 1, 1) := by decide +kernel
theorem dX9_slotFor_23 : decode cX9_slotFor 23 = .ok (.if_icmp .ge 7, 3) := by decide +kernel
theorem dX9_slotFor_26 : decode cX9_slotFor 26 = .ok (.iload_n 0, 1) := by decide +kernel
theorem dX9_slotFor_27 : decode cX9_slotFor 27 = .ok (.goto 5, 3) := by decide +kernel
theorem dX9_slotFor_30 : decode cX9_slotFor 30 = .ok (.bipush (-2), 2) := by decide +kernel
theorem dX9_slotFor_32 : decode cX9_slotFor 32 = .ok (.ireturn, 1) := by decide +kernel
theorem dX9_law_0 : decode cX9_law 0 = .ok (.aload_n 0, 1) := by decide +kernel
theorem dX9_law_1 : decode cX9_law 1 = .ok (.getfield 10, 3) := by decide +kernel
theorem dX9_law_4 : decode cX9_law 4 = .ok (.invokevirtual 93, 3) := by decide +kernel
theorem dX9_law_7 : decode cX9_law 7 = .ok (.istore_n 2, 1) := by decide +kernel
theorem dX9_law_8 : decode cX9_law 8 = .ok (.iload_n 1, 1) := by decide +kernel
theorem dX9_law_9 : decode cX9_law 9 = .ok (.aload_n 0, 1) := by decide +kernel
theorem dX9_law_10 : decode cX9_law 10 = .ok (.getfield 10, 3) := by decide +kernel
theorem dX9_law_13 : decode cX9_law 13 = .ok (.getfield 120, 3) := by decide +kernel
theorem dX9_law_16 : decode cX9_law 16 = .ok (.invokestatic 100, 3) := by decide +kernel
theorem dX9_law_19 : decode cX9_law 19 = .ok (.istore_n 3, 1) := by decide +kernel
theorem dX9_law_20 : decode cX9_law 20 = .ok (.iload_n 3, 1) := by decide +kernel
theorem dX9_law_21 : decode cX9_law 21 = .ok (.bipush (-2), 2) := by decide +kernel
theorem dX9_law_23 : decode cX9_law 23 = .ok (.if_icmp .ne 6, 3) := by decide +kernel
theorem dX9_law_26 : decode cX9_law 26 = .ok (.bipush (-2), 2) := by decide +kernel
theorem dX9_law_28 : decode cX9_law 28 = .ok (.ireturn, 1) := by decide +kernel
theorem dX9_law_29 : decode cX9_law 29 = .ok (.aload_n 0, 1) := by decide +kernel
theorem dX9_law_30 : decode cX9_law 30 = .ok (.getfield 81, 3) := by decide +kernel
theorem dX9_law_33 : decode cX9_law 33 = .ok (.iload_n 2, 1) := by decide +kernel
theorem dX9_law_34 : decode cX9_law 34 = .ok (.invokevirtual 123, 3) := by decide +kernel
theorem dX9_law_37 : decode cX9_law 37 = .ok (.istore 4, 2) := by decide +kernel
theorem dX9_law_39 : decode cX9_law 39 = .ok (.aload_n 0, 1) := by decide +kernel
theorem dX9_law_40 : decode cX9_law 40 = .ok (.getfield 10, 3) := by decide +kernel
theorem dX9_law_43 : decode cX9_law 43 = .ok (.aload_n 0, 1) := by decide +kernel
theorem dX9_law_44 : decode cX9_law 44 = .ok (.getfield 33, 3) := by decide +kernel
theorem dX9_law_47 : decode cX9_law 47 = .ok (.getfield 108, 3) := by decide +kernel
theorem dX9_law_50 : decode cX9_law 50 = .ok (.putfield 111, 3) := by decide +kernel
theorem dX9_law_53 : decode cX9_law 53 = .ok (.aload_n 0, 1) := by decide +kernel
theorem dX9_law_54 : decode cX9_law 54 = .ok (.getfield 10, 3) := by decide +kernel
theorem dX9_law_57 : decode cX9_law 57 = .ok (.aload_n 0, 1) := by decide +kernel
theorem dX9_law_58 : decode cX9_law 58 = .ok (.getfield 33, 3) := by decide +kernel
theorem dX9_law_61 : decode cX9_law 61 = .ok (.getfield 112, 3) := by decide +kernel
theorem dX9_law_64 : decode cX9_law 64 = .ok (.putfield 115, 3) := by decide +kernel
theorem dX9_law_67 : decode cX9_law 67 = .ok (.iload 4, 2) := by decide +kernel
theorem dX9_law_69 : decode cX9_law 69 = .ok (.ifCond .ne 5, 3) := by decide +kernel
theorem dX9_law_72 : decode cX9_law 72 = .ok (.iconst (-1), 1) := by decide +kernel
theorem dX9_law_73 : decode cX9_law 73 = .ok (.ireturn, 1) := by decide +kernel
theorem dX9_law_74 : decode cX9_law 74 = .ok (.aload_n 0, 1) := by decide +kernel
theorem dX9_law_75 : decode cX9_law 75 = .ok (.getfield 10, 3) := by decide +kernel
theorem dX9_law_78 : decode cX9_law 78 = .ok (.iload_n 3, 1) := by decide +kernel
theorem dX9_law_79 : decode cX9_law 79 = .ok (.aload_n 0, 1) := by decide +kernel
theorem dX9_law_80 : decode cX9_law 80 = .ok (.getfield 47, 3) := by decide +kernel
theorem dX9_law_83 : decode cX9_law 83 = .ok (.invokevirtual 124, 3) := by decide +kernel
theorem dX9_law_86 : decode cX9_law 86 = .ok (.iload_n 3, 1) := by decide +kernel
theorem dX9_law_87 : decode cX9_law 87 = .ok (.ireturn, 1) := by decide +kernel
theorem dX9_match_0 : decode cX9_match 0 = .ok (.iload_n 1, 1) := by decide +kernel
theorem dX9_match_1 : decode cX9_match 1 = .ok (.bipush 7, 2) := by decide +kernel
theorem dX9_match_3 : decode cX9_match 3 = .ok (.invokestatic 321, 3) := by decide +kernel
theorem dX9_match_6 : decode cX9_match 6 = .ok (.ifCond .eq 25, 3) := by decide +kernel
theorem dX9_match_9 : decode cX9_match 9 = .ok (.iload_n 2, 1) := by decide +kernel
theorem dX9_match_10 : decode cX9_match 10 = .ok (.invokestatic 327, 3) := by decide +kernel
theorem dX9_match_13 : decode cX9_match 13 = .ok (.ifCond .eq 18, 3) := by decide +kernel
theorem dX9_match_16 : decode cX9_match 16 = .ok (.aload_n 0, 1) := by decide +kernel
theorem dX9_match_17 : decode cX9_match 17 = .ok (.getfield 10, 3) := by decide +kernel
theorem dX9_match_20 : decode cX9_match 20 = .ok (.getfield 296, 3) := by decide +kernel
theorem dX9_match_23 : decode cX9_match 23 = .ok (.iload_n 1, 1) := by decide +kernel
theorem dX9_match_24 : decode cX9_match 24 = .ok (.iload_n 3, 1) := by decide +kernel
theorem dX9_match_25 : decode cX9_match 25 = .ok (.invokevirtual 330, 3) := by decide +kernel
theorem dX9_match_28 : decode cX9_match 28 = .ok (.ifCond .ne 5, 3) := by decide +kernel
theorem dX9_match_31 : decode cX9_match 31 = .ok (.iconst (-1), 1) := by decide +kernel
theorem dX9_match_32 : decode cX9_match 32 = .ok (.ireturn, 1) := by decide +kernel
theorem dX9_match_33 : decode cX9_match 33 = .ok (.aload_n 0, 1) := by decide +kernel
theorem dX9_match_34 : decode cX9_match 34 = .ok (.getfield 10, 3) := by decide +kernel
theorem dX9_match_37 : decode cX9_match 37 = .ok (.getfield 296, 3) := by decide +kernel
theorem dX9_match_40 : decode cX9_match 40 = .ok (.iload_n 1, 1) := by decide +kernel
theorem dX9_match_41 : decode cX9_match 41 = .ok (.iload_n 2, 1) := by decide +kernel
theorem dX9_match_42 : decode cX9_match 42 = .ok (.invokevirtual 332, 3) := by decide +kernel
theorem dX9_match_45 : decode cX9_match 45 = .ok (.pop, 1) := by decide +kernel
theorem dX9_match_46 : decode cX9_match 46 = .ok (.aload_n 0, 1) := by decide +kernel
theorem dX9_match_47 : decode cX9_match 47 = .ok (.getfield 10, 3) := by decide +kernel
theorem dX9_match_50 : decode cX9_match 50 = .ok (.getfield 296, 3) := by decide +kernel
theorem dX9_match_53 : decode cX9_match 53 = .ok (.getfield 335, 3) := by decide +kernel
theorem dX9_match_56 : decode cX9_match 56 = .ok (.iload_n 3, 1) := by decide +kernel
theorem dX9_match_57 : decode cX9_match 57 = .ok (.iaload, 1) := by decide +kernel
theorem dX9_match_58 : decode cX9_match 58 = .ok (.ireturn, 1) := by decide +kernel
theorem dX9_on_0 : decode cX9_on 0 = .ok (.aload_n 0, 1) := by decide +kernel
theorem dX9_on_1 : decode cX9_on 1 = .ok (.getfield 10, 3) := by decide +kernel
theorem dX9_on_4 : decode cX9_on 4 = .ok (.getfield 194, 3) := by decide +kernel
theorem dX9_on_7 : decode cX9_on 7 = .ok (.ifCond .ne 5, 3) := by decide +kernel
theorem dX9_on_10 : decode cX9_on 10 = .ok (.iconst (-1), 1) := by decide +kernel
theorem dX9_on_11 : decode cX9_on 11 = .ok (.ireturn, 1) := by decide +kernel
theorem dX9_on_12 : decode cX9_on 12 = .ok (.aload_n 0, 1) := by decide +kernel
theorem dX9_on_13 : decode cX9_on 13 = .ok (.getfield 10, 3) := by decide +kernel
theorem dX9_on_16 : decode cX9_on 16 = .ok (.getfield 179, 3) := by decide +kernel
theorem dX9_on_19 : decode cX9_on 19 = .ok (.iload_n 1, 1) := by decide +kernel
theorem dX9_on_20 : decode cX9_on 20 = .ok (.iload_n 2, 1) := by decide +kernel
theorem dX9_on_21 : decode cX9_on 21 = .ok (.invokevirtual 231, 3) := by decide +kernel
theorem dX9_on_24 : decode cX9_on 24 = .ok (.ifCond .eq 8, 3) := by decide +kernel
theorem dX9_on_27 : decode cX9_on 27 = .ok (.bipush 100, 2) := by decide +kernel
theorem dX9_on_29 : decode cX9_on 29 = .ok (.goto 15, 3) := by decide +kernel
theorem dX9_on_32 : decode cX9_on 32 = .ok (.aload_n 0, 1) := by decide +kernel
theorem dX9_on_33 : decode cX9_on 33 = .ok (.getfield 10, 3) := by decide +kernel
theorem dX9_on_36 : decode cX9_on 36 = .ok (.getfield 188, 3) := by decide +kernel
theorem dX9_on_39 : decode cX9_on 39 = .ok (.iload_n 1, 1) := by decide +kernel
theorem dX9_on_40 : decode cX9_on 40 = .ok (.iload_n 2, 1) := by decide +kernel
theorem dX9_on_41 : decode cX9_on 41 = .ok (.invokevirtual 235, 3) := by decide +kernel
theorem dX9_on_44 : decode cX9_on 44 = .ok (.ireturn, 1) := by decide +kernel
theorem dX9_opened_0 : decode cX9_opened 0 = .ok (.iload 4, 2) := by decide +kernel
theorem dX9_opened_2 : decode cX9_opened 2 = .ok (.bipush 100, 2) := by decide +kernel
theorem dX9_opened_4 : decode cX9_opened 4 = .ok (.invokestatic 268, 3) := by decide +kernel
theorem dX9_opened_7 : decode cX9_opened 7 = .ok (.ifCond .eq 12, 3) := by decide +kernel
theorem dX9_opened_10 : decode cX9_opened 10 = .ok (.aload_n 0, 1) := by decide +kernel
theorem dX9_opened_11 : decode cX9_opened 11 = .ok (.iload_n 1, 1) := by decide +kernel
theorem dX9_opened_12 : decode cX9_opened 12 = .ok (.iload_n 2, 1) := by decide +kernel
theorem dX9_opened_13 : decode cX9_opened 13 = .ok (.invokevirtual 262, 3) := by decide +kernel
theorem dX9_opened_16 : decode cX9_opened 16 = .ok (.ifCond .ne 5, 3) := by decide +kernel
theorem dX9_opened_19 : decode cX9_opened 19 = .ok (.iconst (-1), 1) := by decide +kernel
theorem dX9_opened_20 : decode cX9_opened 20 = .ok (.ireturn, 1) := by decide +kernel
theorem dX9_opened_21 : decode cX9_opened 21 = .ok (.aload_n 0, 1) := by decide +kernel
theorem dX9_opened_22 : decode cX9_opened 22 = .ok (.iload_n 3, 1) := by decide +kernel
theorem dX9_opened_23 : decode cX9_opened 23 = .ok (.iload 4, 2) := by decide +kernel
theorem dX9_opened_25 : decode cX9_opened 25 = .ok (.iconst 0, 1) := by decide +kernel
theorem dX9_opened_26 : decode cX9_opened 26 = .ok (.invokevirtual 278, 3) := by decide +kernel
theorem dX9_opened_29 : decode cX9_opened 29 = .ok (.ireturn, 1) := by decide +kernel
theorem dX9_passage_0 : decode cX9_passage 0 = .ok (.aload_n 0, 1) := by decide +kernel
theorem dX9_passage_1 : decode cX9_passage 1 = .ok (.getfield 10, 3) := by decide +kernel
theorem dX9_passage_4 : decode cX9_passage 4 = .ok (.invokevirtual 93, 3) := by decide +kernel
theorem dX9_passage_7 : decode cX9_passage 7 = .ok (.istore_n 2, 1) := by decide +kernel
theorem dX9_passage_8 : decode cX9_passage 8 = .ok (.iload_n 1, 1) := by decide +kernel
theorem dX9_passage_9 : decode cX9_passage 9 = .ok (.aload_n 0, 1) := by decide +kernel
theorem dX9_passage_10 : decode cX9_passage 10 = .ok (.getfield 10, 3) := by decide +kernel
theorem dX9_passage_13 : decode cX9_passage 13 = .ok (.getfield 97, 3) := by decide +kernel
theorem dX9_passage_16 : decode cX9_passage 16 = .ok (.invokestatic 100, 3) := by decide +kernel
theorem dX9_passage_19 : decode cX9_passage 19 = .ok (.istore_n 3, 1) := by decide +kernel
theorem dX9_passage_20 : decode cX9_passage 20 = .ok (.iload_n 3, 1) := by decide +kernel
theorem dX9_passage_21 : decode cX9_passage 21 = .ok (.bipush (-2), 2) := by decide +kernel
theorem dX9_passage_23 : decode cX9_passage 23 = .ok (.if_icmp .ne 6, 3) := by decide +kernel
theorem dX9_passage_26 : decode cX9_passage 26 = .ok (.bipush (-2), 2) := by decide +kernel
theorem dX9_passage_28 : decode cX9_passage 28 = .ok (.ireturn, 1) := by decide +kernel
theorem dX9_passage_29 : decode cX9_passage 29 = .ok (.aload_n 0, 1) := by decide +kernel
theorem dX9_passage_30 : decode cX9_passage 30 = .ok (.getfield 72, 3) := by decide +kernel
theorem dX9_passage_33 : decode cX9_passage 33 = .ok (.iload_n 2, 1) := by decide +kernel
theorem dX9_passage_34 : decode cX9_passage 34 = .ok (.invokevirtual 104, 3) := by decide +kernel
theorem dX9_passage_37 : decode cX9_passage 37 = .ok (.istore 4, 2) := by decide +kernel
theorem dX9_passage_39 : decode cX9_passage 39 = .ok (.aload_n 0, 1) := by decide +kernel
theorem dX9_passage_40 : decode cX9_passage 40 = .ok (.getfield 10, 3) := by decide +kernel
theorem dX9_passage_43 : decode cX9_passage 43 = .ok (.aload_n 0, 1) := by decide +kernel
theorem dX9_passage_44 : decode cX9_passage 44 = .ok (.getfield 33, 3) := by decide +kernel
theorem dX9_passage_47 : decode cX9_passage 47 = .ok (.getfield 108, 3) := by decide +kernel
theorem dX9_passage_50 : decode cX9_passage 50 = .ok (.putfield 111, 3) := by decide +kernel
theorem dX9_passage_53 : decode cX9_passage 53 = .ok (.aload_n 0, 1) := by decide +kernel
theorem dX9_passage_54 : decode cX9_passage 54 = .ok (.getfield 10, 3) := by decide +kernel
theorem dX9_passage_57 : decode cX9_passage 57 = .ok (.aload_n 0, 1) := by decide +kernel
theorem dX9_passage_58 : decode cX9_passage 58 = .ok (.getfield 33, 3) := by decide +kernel
theorem dX9_passage_61 : decode cX9_passage 61 = .ok (.getfield 112, 3) := by decide +kernel
theorem dX9_passage_64 : decode cX9_passage 64 = .ok (.putfield 115, 3) := by decide +kernel
theorem dX9_passage_67 : decode cX9_passage 67 = .ok (.iload 4, 2) := by decide +kernel
theorem dX9_passage_69 : decode cX9_passage 69 = .ok (.ifCond .ne 5, 3) := by decide +kernel
theorem dX9_passage_72 : decode cX9_passage 72 = .ok (.iconst (-1), 1) := by decide +kernel
theorem dX9_passage_73 : decode cX9_passage 73 = .ok (.ireturn, 1) := by decide +kernel
theorem dX9_passage_74 : decode cX9_passage 74 = .ok (.aload_n 0, 1) := by decide +kernel
theorem dX9_passage_75 : decode cX9_passage 75 = .ok (.getfield 10, 3) := by decide +kernel
theorem dX9_passage_78 : decode cX9_passage 78 = .ok (.iload_n 3, 1) := by decide +kernel
theorem dX9_passage_79 : decode cX9_passage 79 = .ok (.aload_n 0, 1) := by decide +kernel
theorem dX9_passage_80 : decode cX9_passage 80 = .ok (.getfield 40, 3) := by decide +kernel
theorem dX9_passage_83 : decode cX9_passage 83 = .ok (.invokevirtual 116, 3) := by decide +kernel
theorem dX9_passage_86 : decode cX9_passage 86 = .ok (.iload_n 3, 1) := by decide +kernel
theorem dX9_passage_87 : decode cX9_passage 87 = .ok (.ireturn, 1) := by decide +kernel
theorem dX9_pillar_0 : decode cX9_pillar 0 = .ok (.iload 4, 2) := by decide +kernel
theorem dX9_pillar_2 : decode cX9_pillar 2 = .ok (.bipush 100, 2) := by decide +kernel
theorem dX9_pillar_4 : decode cX9_pillar 4 = .ok (.invokestatic 268, 3) := by decide +kernel
theorem dX9_pillar_7 : decode cX9_pillar 7 = .ok (.ifCond .eq 12, 3) := by decide +kernel
theorem dX9_pillar_10 : decode cX9_pillar 10 = .ok (.aload_n 0, 1) := by decide +kernel
theorem dX9_pillar_11 : decode cX9_pillar 11 = .ok (.iload_n 1, 1) := by decide +kernel
theorem dX9_pillar_12 : decode cX9_pillar 12 = .ok (.iload_n 2, 1) := by decide +kernel
theorem dX9_pillar_13 : decode cX9_pillar 13 = .ok (.invokevirtual 262, 3) := by decide +kernel
theorem dX9_pillar_16 : decode cX9_pillar 16 = .ok (.ifCond .ne 5, 3) := by decide +kernel
theorem dX9_pillar_19 : decode cX9_pillar 19 = .ok (.iconst (-1), 1) := by decide +kernel
theorem dX9_pillar_20 : decode cX9_pillar 20 = .ok (.ireturn, 1) := by decide +kernel
theorem dX9_pillar_21 : decode cX9_pillar 21 = .ok (.aload_n 0, 1) := by decide +kernel
theorem dX9_pillar_22 : decode cX9_pillar 22 = .ok (.iload_n 3, 1) := by decide +kernel
theorem dX9_pillar_23 : decode cX9_pillar 23 = .ok (.iload 4, 2) := by decide +kernel
theorem dX9_pillar_25 : decode cX9_pillar 25 = .ok (.iconst 1, 1) := by decide +kernel
theorem dX9_pillar_26 : decode cX9_pillar 26 = .ok (.invokevirtual 278, 3) := by decide +kernel
theorem dX9_pillar_29 : decode cX9_pillar 29 = .ok (.ireturn, 1) := by decide +kernel
theorem dX9_ran_0 : decode cX9_ran 0 = .ok (.aload_n 0, 1) := by decide +kernel
theorem dX9_ran_1 : decode cX9_ran 1 = .ok (.getfield 10, 3) := by decide +kernel
theorem dX9_ran_4 : decode cX9_ran 4 = .ok (.getfield 194, 3) := by decide +kernel
theorem dX9_ran_7 : decode cX9_ran 7 = .ok (.ifCond .eq 17, 3) := by decide +kernel
theorem dX9_ran_10 : decode cX9_ran 10 = .ok (.aload_n 0, 1) := by decide +kernel
theorem dX9_ran_11 : decode cX9_ran 11 = .ok (.getfield 10, 3) := by decide +kernel
theorem dX9_ran_14 : decode cX9_ran 14 = .ok (.getfield 179, 3) := by decide +kernel
theorem dX9_ran_17 : decode cX9_ran 17 = .ok (.iload_n 1, 1) := by decide +kernel
theorem dX9_ran_18 : decode cX9_ran 18 = .ok (.invokevirtual 144, 3) := by decide +kernel
theorem dX9_ran_21 : decode cX9_ran 21 = .ok (.ifCond .ne 6, 3) := by decide +kernel
theorem dX9_ran_24 : decode cX9_ran 24 = .ok (.bipush (-2), 2) := by decide +kernel
theorem dX9_ran_26 : decode cX9_ran 26 = .ok (.ireturn, 1) := by decide +kernel
theorem dX9_ran_27 : decode cX9_ran 27 = .ok (.aload_n 0, 1) := by decide +kernel
theorem dX9_ran_28 : decode cX9_ran 28 = .ok (.getfield 10, 3) := by decide +kernel
theorem dX9_ran_31 : decode cX9_ran 31 = .ok (.getfield 188, 3) := by decide +kernel
theorem dX9_ran_34 : decode cX9_ran 34 = .ok (.astore_n 3, 1) := by decide +kernel
theorem dX9_ran_35 : decode cX9_ran 35 = .ok (.iload_n 2, 1) := by decide +kernel
theorem dX9_ran_36 : decode cX9_ran 36 = .ok (.tableswitch 93 0 6 #[44, 51, 58, 65, 72, 79, 86], 44) := by decide +kernel
theorem dX9_ran_80 : decode cX9_ran 80 = .ok (.aload_n 3, 1) := by decide +kernel
theorem dX9_ran_81 : decode cX9_ran 81 = .ok (.getfield 201, 3) := by decide +kernel
theorem dX9_ran_84 : decode cX9_ran 84 = .ok (.iload_n 1, 1) := by decide +kernel
theorem dX9_ran_85 : decode cX9_ran 85 = .ok (.iaload, 1) := by decide +kernel
theorem dX9_ran_86 : decode cX9_ran 86 = .ok (.ireturn, 1) := by decide +kernel
theorem dX9_ran_87 : decode cX9_ran 87 = .ok (.aload_n 3, 1) := by decide +kernel
theorem dX9_ran_88 : decode cX9_ran 88 = .ok (.getfield 202, 3) := by decide +kernel
theorem dX9_ran_91 : decode cX9_ran 91 = .ok (.iload_n 1, 1) := by decide +kernel
theorem dX9_ran_92 : decode cX9_ran 92 = .ok (.iaload, 1) := by decide +kernel
theorem dX9_ran_93 : decode cX9_ran 93 = .ok (.ireturn, 1) := by decide +kernel
theorem dX9_ran_94 : decode cX9_ran 94 = .ok (.aload_n 3, 1) := by decide +kernel
theorem dX9_ran_95 : decode cX9_ran 95 = .ok (.getfield 203, 3) := by decide +kernel
theorem dX9_ran_98 : decode cX9_ran 98 = .ok (.iload_n 1, 1) := by decide +kernel
theorem dX9_ran_99 : decode cX9_ran 99 = .ok (.iaload, 1) := by decide +kernel
theorem dX9_ran_100 : decode cX9_ran 100 = .ok (.ireturn, 1) := by decide +kernel
theorem dX9_ran_101 : decode cX9_ran 101 = .ok (.aload_n 3, 1) := by decide +kernel
theorem dX9_ran_102 : decode cX9_ran 102 = .ok (.getfield 206, 3) := by decide +kernel
theorem dX9_ran_105 : decode cX9_ran 105 = .ok (.iload_n 1, 1) := by decide +kernel
theorem dX9_ran_106 : decode cX9_ran 106 = .ok (.iaload, 1) := by decide +kernel
theorem dX9_ran_107 : decode cX9_ran 107 = .ok (.ireturn, 1) := by decide +kernel
theorem dX9_ran_108 : decode cX9_ran 108 = .ok (.aload_n 3, 1) := by decide +kernel
theorem dX9_ran_109 : decode cX9_ran 109 = .ok (.getfield 209, 3) := by decide +kernel
theorem dX9_ran_112 : decode cX9_ran 112 = .ok (.iload_n 1, 1) := by decide +kernel
theorem dX9_ran_113 : decode cX9_ran 113 = .ok (.iaload, 1) := by decide +kernel
theorem dX9_ran_114 : decode cX9_ran 114 = .ok (.ireturn, 1) := by decide +kernel
theorem dX9_ran_115 : decode cX9_ran 115 = .ok (.aload_n 3, 1) := by decide +kernel
theorem dX9_ran_116 : decode cX9_ran 116 = .ok (.getfield 212, 3) := by decide +kernel
theorem dX9_ran_119 : decode cX9_ran 119 = .ok (.iload_n 1, 1) := by decide +kernel
theorem dX9_ran_120 : decode cX9_ran 120 = .ok (.iaload, 1) := by decide +kernel
theorem dX9_ran_121 : decode cX9_ran 121 = .ok (.ireturn, 1) := by decide +kernel
theorem dX9_ran_122 : decode cX9_ran 122 = .ok (.aload_n 3, 1) := by decide +kernel
theorem dX9_ran_123 : decode cX9_ran 123 = .ok (.getfield 215, 3) := by decide +kernel
theorem dX9_ran_126 : decode cX9_ran 126 = .ok (.iload_n 1, 1) := by decide +kernel
theorem dX9_ran_127 : decode cX9_ran 127 = .ok (.iaload, 1) := by decide +kernel
theorem dX9_ran_128 : decode cX9_ran 128 = .ok (.ireturn, 1) := by decide +kernel
theorem dX9_ran_129 : decode cX9_ran 129 = .ok (.bipush (-2), 2) := by decide +kernel
theorem dX9_ran_131 : decode cX9_ran 131 = .ok (.ireturn, 1) := by decide +kernel
theorem dX9_rules_0 : decode cX9_rules 0 = .ok (.aload_n 0, 1) := by decide +kernel
theorem dX9_rules_1 : decode cX9_rules 1 = .ok (.getfield 10, 3) := by decide +kernel
theorem dX9_rules_4 : decode cX9_rules 4 = .ok (.iload_n 1, 1) := by decide +kernel
theorem dX9_rules_5 : decode cX9_rules 5 = .ok (.invokevirtual 172, 3) := by decide +kernel
theorem dX9_rules_8 : decode cX9_rules 8 = .ok (.astore_n 2, 1) := by decide +kernel
theorem dX9_rules_9 : decode cX9_rules 9 = .ok (.aload_n 2, 1) := by decide +kernel
theorem dX9_rules_10 : decode cX9_rules 10 = .ok (.ifnonnull 7, 3) := by decide +kernel
theorem dX9_rules_13 : decode cX9_rules 13 = .ok (.iconst (-1), 1) := by decide +kernel
theorem dX9_rules_14 : decode cX9_rules 14 = .ok (.goto 7, 3) := by decide +kernel
theorem dX9_rules_17 : decode cX9_rules 17 = .ok (.aload_n 2, 1) := by decide +kernel
theorem dX9_rules_18 : decode cX9_rules 18 = .ok (.getfield 176, 3) := by decide +kernel
theorem dX9_rules_21 : decode cX9_rules 21 = .ok (.ireturn, 1) := by decide +kernel
theorem dX9_run_0 : decode cX9_run 0 = .ok (.aload_n 0, 1) := by decide +kernel
theorem dX9_run_1 : decode cX9_run 1 = .ok (.getfield 10, 3) := by decide +kernel
theorem dX9_run_4 : decode cX9_run 4 = .ok (.iload_n 1, 1) := by decide +kernel
theorem dX9_run_5 : decode cX9_run 5 = .ok (.invokevirtual 128, 3) := by decide +kernel
theorem dX9_run_8 : decode cX9_run 8 = .ok (.astore 4, 2) := by decide +kernel
theorem dX9_run_10 : decode cX9_run 10 = .ok (.aload_n 0, 1) := by decide +kernel
theorem dX9_run_11 : decode cX9_run 11 = .ok (.getfield 10, 3) := by decide +kernel
theorem dX9_run_14 : decode cX9_run 14 = .ok (.iload_n 2, 1) := by decide +kernel
theorem dX9_run_15 : decode cX9_run 15 = .ok (.invokevirtual 172, 3) := by decide +kernel
theorem dX9_run_18 : decode cX9_run 18 = .ok (.astore 5, 2) := by decide +kernel
theorem dX9_run_20 : decode cX9_run 20 = .ok (.aload 4, 2) := by decide +kernel
theorem dX9_run_22 : decode cX9_run 22 = .ok (.ifnull 8, 3) := by decide +kernel
theorem dX9_run_25 : decode cX9_run 25 = .ok (.aload 5, 2) := by decide +kernel
theorem dX9_run_27 : decode cX9_run 27 = .ok (.ifnonnull 5, 3) := by decide +kernel
theorem dX9_run_30 : decode cX9_run 30 = .ok (.iconst 0, 1) := by decide +kernel
theorem dX9_run_31 : decode cX9_run 31 = .ok (.ireturn, 1) := by decide +kernel
theorem dX9_run_32 : decode cX9_run 32 = .ok (.aload_n 0, 1) := by decide +kernel
theorem dX9_run_33 : decode cX9_run 33 = .ok (.getfield 10, 3) := by decide +kernel
theorem dX9_run_36 : decode cX9_run 36 = .ok (.getfield 179, 3) := by decide +kernel
theorem dX9_run_39 : decode cX9_run 39 = .ok (.aload 4, 2) := by decide +kernel
theorem dX9_run_41 : decode cX9_run 41 = .ok (.invokevirtual 180, 3) := by decide +kernel
theorem dX9_run_44 : decode cX9_run 44 = .ok (.aload_n 0, 1) := by decide +kernel
theorem dX9_run_45 : decode cX9_run 45 = .ok (.getfield 10, 3) := by decide +kernel
theorem dX9_run_48 : decode cX9_run 48 = .ok (.getfield 184, 3) := by decide +kernel
theorem dX9_run_51 : decode cX9_run 51 = .ok (.aload 5, 2) := by decide +kernel
theorem dX9_run_53 : decode cX9_run 53 = .ok (.invokevirtual 185, 3) := by decide +kernel
theorem dX9_run_56 : decode cX9_run 56 = .ok (.aload_n 0, 1) := by decide +kernel
theorem dX9_run_57 : decode cX9_run 57 = .ok (.getfield 10, 3) := by decide +kernel
theorem dX9_run_60 : decode cX9_run 60 = .ok (.getfield 188, 3) := by decide +kernel
theorem dX9_run_63 : decode cX9_run 63 = .ok (.iload_n 3, 1) := by decide +kernel
theorem dX9_run_64 : decode cX9_run 64 = .ok (.invokevirtual 191, 3) := by decide +kernel
theorem dX9_run_67 : decode cX9_run 67 = .ok (.aload_n 0, 1) := by decide +kernel
theorem dX9_run_68 : decode cX9_run 68 = .ok (.getfield 10, 3) := by decide +kernel
theorem dX9_run_71 : decode cX9_run 71 = .ok (.iconst 1, 1) := by decide +kernel
theorem dX9_run_72 : decode cX9_run 72 = .ok (.putfield 194, 3) := by decide +kernel
theorem dX9_run_75 : decode cX9_run 75 = .ok (.iconst 1, 1) := by decide +kernel
theorem dX9_run_76 : decode cX9_run 76 = .ok (.ireturn, 1) := by decide +kernel
theorem dX9_slack_0 : decode cX9_slack 0 = .ok (.iload 4, 2) := by decide +kernel
theorem dX9_slack_2 : decode cX9_slack 2 = .ok (.sipush 200, 3) := by decide +kernel
theorem dX9_slack_5 : decode cX9_slack 5 = .ok (.invokestatic 268, 3) := by decide +kernel
theorem dX9_slack_8 : decode cX9_slack 8 = .ok (.ifCond .eq 24, 3) := by decide +kernel
theorem dX9_slack_11 : decode cX9_slack 11 = .ok (.aload_n 0, 1) := by decide +kernel
theorem dX9_slack_12 : decode cX9_slack 12 = .ok (.iload_n 1, 1) := by decide +kernel
theorem dX9_slack_13 : decode cX9_slack 13 = .ok (.iload_n 2, 1) := by decide +kernel
theorem dX9_slack_14 : decode cX9_slack 14 = .ok (.invokevirtual 262, 3) := by decide +kernel
theorem dX9_slack_17 : decode cX9_slack 17 = .ok (.ifCond .eq 15, 3) := by decide +kernel
theorem dX9_slack_20 : decode cX9_slack 20 = .ok (.aload_n 0, 1) := by decide +kernel
theorem dX9_slack_21 : decode cX9_slack 21 = .ok (.getfield 40, 3) := by decide +kernel
theorem dX9_slack_24 : decode cX9_slack 24 = .ok (.iload 5, 2) := by decide +kernel
theorem dX9_slack_26 : decode cX9_slack 26 = .ok (.invokevirtual 144, 3) := by decide +kernel
theorem dX9_slack_29 : decode cX9_slack 29 = .ok (.ifCond .ne 5, 3) := by decide +kernel
theorem dX9_slack_32 : decode cX9_slack 32 = .ok (.iconst (-1), 1) := by decide +kernel
theorem dX9_slack_33 : decode cX9_slack 33 = .ok (.ireturn, 1) := by decide +kernel
theorem dX9_slack_34 : decode cX9_slack 34 = .ok (.iconst 3, 1) := by decide +kernel
theorem dX9_slack_35 : decode cX9_slack 35 = .ok (.istore 6, 2) := by decide +kernel
theorem dX9_slack_37 : decode cX9_slack 37 = .ok (.iload 6, 2) := by decide +kernel
theorem dX9_slack_39 : decode cX9_slack 39 = .ok (.ifCond .lt 41, 3) := by decide +kernel
theorem dX9_slack_42 : decode cX9_slack 42 = .ok (.aload_n 0, 1) := by decide +kernel
theorem dX9_slack_43 : decode cX9_slack 43 = .ok (.getfield 40, 3) := by decide +kernel
theorem dX9_slack_46 : decode cX9_slack 46 = .ok (.getfield 160, 3) := by decide +kernel
theorem dX9_slack_49 : decode cX9_slack 49 = .ok (.iload 5, 2) := by decide +kernel
theorem dX9_slack_51 : decode cX9_slack 51 = .ok (.iload 6, 2) := by decide +kernel
theorem dX9_slack_53 : decode cX9_slack 53 = .ok (.iastore, 1) := by decide +kernel
theorem dX9_slack_54 : decode cX9_slack 54 = .ok (.aload_n 0, 1) := by decide +kernel
theorem dX9_slack_55 : decode cX9_slack 55 = .ok (.iload_n 3, 1) := by decide +kernel
theorem dX9_slack_56 : decode cX9_slack 56 = .ok (.iload 4, 2) := by decide +kernel
theorem dX9_slack_58 : decode cX9_slack 58 = .ok (.invokevirtual 275, 3) := by decide +kernel
theorem dX9_slack_61 : decode cX9_slack 61 = .ok (.aload_n 0, 1) := by decide +kernel
theorem dX9_slack_62 : decode cX9_slack 62 = .ok (.getfield 40, 3) := by decide +kernel
theorem dX9_slack_65 : decode cX9_slack 65 = .ok (.getfield 138, 3) := by decide +kernel
theorem dX9_slack_68 : decode cX9_slack 68 = .ok (.if_icmp .ne 6, 3) := by decide +kernel
theorem dX9_slack_71 : decode cX9_slack 71 = .ok (.iload 6, 2) := by decide +kernel
theorem dX9_slack_73 : decode cX9_slack 73 = .ok (.ireturn, 1) := by decide +kernel
theorem dX9_slack_74 : decode cX9_slack 74 = .ok (.iinc 6 (-1), 3) := by decide +kernel
theorem dX9_slack_77 : decode cX9_slack 77 = .ok (.goto (-40), 3) := by decide +kernel
theorem dX9_slack_80 : decode cX9_slack 80 = .ok (.iconst (-1), 1) := by decide +kernel
theorem dX9_slack_81 : decode cX9_slack 81 = .ok (.ireturn, 1) := by decide +kernel
theorem dX9_state_0 : decode cX9_state 0 = .ok (.aload_n 0, 1) := by decide +kernel
theorem dX9_state_1 : decode cX9_state 1 = .ok (.getfield 10, 3) := by decide +kernel
theorem dX9_state_4 : decode cX9_state 4 = .ok (.getfield 194, 3) := by decide +kernel
theorem dX9_state_7 : decode cX9_state 7 = .ok (.ifCond .ne 5, 3) := by decide +kernel
theorem dX9_state_10 : decode cX9_state 10 = .ok (.iconst (-1), 1) := by decide +kernel
theorem dX9_state_11 : decode cX9_state 11 = .ok (.ireturn, 1) := by decide +kernel
theorem dX9_state_12 : decode cX9_state 12 = .ok (.aload_n 0, 1) := by decide +kernel
theorem dX9_state_13 : decode cX9_state 13 = .ok (.getfield 10, 3) := by decide +kernel
theorem dX9_state_16 : decode cX9_state 16 = .ok (.getfield 188, 3) := by decide +kernel
theorem dX9_state_19 : decode cX9_state 19 = .ok (.astore_n 2, 1) := by decide +kernel
theorem dX9_state_20 : decode cX9_state 20 = .ok (.iload_n 1, 1) := by decide +kernel
theorem dX9_state_21 : decode cX9_state 21 = .ok (.tableswitch 88 0 6 #[43, 48, 53, 68, 73, 78, 83], 43) := by decide +kernel
theorem dX9_state_64 : decode cX9_state 64 = .ok (.aload_n 2, 1) := by decide +kernel
theorem dX9_state_65 : decode cX9_state 65 = .ok (.getfield 238, 3) := by decide +kernel
theorem dX9_state_68 : decode cX9_state 68 = .ok (.ireturn, 1) := by decide +kernel
theorem dX9_state_69 : decode cX9_state 69 = .ok (.aload_n 2, 1) := by decide +kernel
theorem dX9_state_70 : decode cX9_state 70 = .ok (.getfield 241, 3) := by decide +kernel
theorem dX9_state_73 : decode cX9_state 73 = .ok (.ireturn, 1) := by decide +kernel
theorem dX9_state_74 : decode cX9_state 74 = .ok (.aload_n 2, 1) := by decide +kernel
theorem dX9_state_75 : decode cX9_state 75 = .ok (.getfield 244, 3) := by decide +kernel
theorem dX9_state_78 : decode cX9_state 78 = .ok (.bipush 10, 2) := by decide +kernel
theorem dX9_state_80 : decode cX9_state 80 = .ok (.if_icmp .lt 7, 3) := by decide +kernel
theorem dX9_state_83 : decode cX9_state 83 = .ok (.iconst 1, 1) := by decide +kernel
theorem dX9_state_84 : decode cX9_state 84 = .ok (.goto 4, 3) := by decide +kernel
theorem dX9_state_87 : decode cX9_state 87 = .ok (.iconst 0, 1) := by decide +kernel
theorem dX9_state_88 : decode cX9_state 88 = .ok (.ireturn, 1) := by decide +kernel
theorem dX9_state_89 : decode cX9_state 89 = .ok (.aload_n 2, 1) := by decide +kernel
theorem dX9_state_90 : decode cX9_state 90 = .ok (.getfield 247, 3) := by decide +kernel
theorem dX9_state_93 : decode cX9_state 93 = .ok (.ireturn, 1) := by decide +kernel
theorem dX9_state_94 : decode cX9_state 94 = .ok (.aload_n 2, 1) := by decide +kernel
theorem dX9_state_95 : decode cX9_state 95 = .ok (.invokevirtual 250, 3) := by decide +kernel
theorem dX9_state_98 : decode cX9_state 98 = .ok (.ireturn, 1) := by decide +kernel
theorem dX9_state_99 : decode cX9_state 99 = .ok (.aload_n 2, 1) := by decide +kernel
theorem dX9_state_100 : decode cX9_state 100 = .ok (.invokevirtual 253, 3) := by decide +kernel
theorem dX9_state_103 : decode cX9_state 103 = .ok (.ireturn, 1) := by decide +kernel
theorem dX9_state_104 : decode cX9_state 104 = .ok (.aload_n 2, 1) := by decide +kernel
theorem dX9_state_105 : decode cX9_state 105 = .ok (.getfield 256, 3) := by decide +kernel
theorem dX9_state_108 : decode cX9_state 108 = .ok (.ireturn, 1) := by decide +kernel
theorem dX9_state_109 : decode cX9_state 109 = .ok (.iconst (-1), 1) := by decide +kernel
theorem dX9_state_110 : decode cX9_state 110 = .ok (.ireturn, 1) := by decide +kernel
theorem dX9_touch_0 : decode cX9_touch 0 = .ok (.iload 4, 2) := by decide +kernel
theorem dX9_touch_2 : decode cX9_touch 2 = .ok (.sipush 200, 3) := by decide +kernel
theorem dX9_touch_5 : decode cX9_touch 5 = .ok (.invokestatic 268, 3) := by decide +kernel
theorem dX9_touch_8 : decode cX9_touch 8 = .ok (.ifCond .eq 12, 3) := by decide +kernel
theorem dX9_touch_11 : decode cX9_touch 11 = .ok (.aload_n 0, 1) := by decide +kernel
theorem dX9_touch_12 : decode cX9_touch 12 = .ok (.iload_n 1, 1) := by decide +kernel
theorem dX9_touch_13 : decode cX9_touch 13 = .ok (.iload_n 2, 1) := by decide +kernel
theorem dX9_touch_14 : decode cX9_touch 14 = .ok (.invokevirtual 262, 3) := by decide +kernel
theorem dX9_touch_17 : decode cX9_touch 17 = .ok (.ifCond .ne 5, 3) := by decide +kernel
theorem dX9_touch_20 : decode cX9_touch 20 = .ok (.iconst (-1), 1) := by decide +kernel
theorem dX9_touch_21 : decode cX9_touch 21 = .ok (.ireturn, 1) := by decide +kernel
theorem dX9_touch_22 : decode cX9_touch 22 = .ok (.aload_n 0, 1) := by decide +kernel
theorem dX9_touch_23 : decode cX9_touch 23 = .ok (.getfield 40, 3) := by decide +kernel
theorem dX9_touch_26 : decode cX9_touch 26 = .ok (.iload 5, 2) := by decide +kernel
theorem dX9_touch_28 : decode cX9_touch 28 = .ok (.invokevirtual 144, 3) := by decide +kernel
theorem dX9_touch_31 : decode cX9_touch 31 = .ok (.ifCond .eq 22, 3) := by decide +kernel
theorem dX9_touch_34 : decode cX9_touch 34 = .ok (.aload_n 0, 1) := by decide +kernel
theorem dX9_touch_35 : decode cX9_touch 35 = .ok (.getfield 40, 3) := by decide +kernel
theorem dX9_touch_38 : decode cX9_touch 38 = .ok (.iload 6, 2) := by decide +kernel
theorem dX9_touch_40 : decode cX9_touch 40 = .ok (.invokevirtual 144, 3) := by decide +kernel
theorem dX9_touch_43 : decode cX9_touch 43 = .ok (.ifCond .eq 10, 3) := by decide +kernel
theorem dX9_touch_46 : decode cX9_touch 46 = .ok (.iload 5, 2) := by decide +kernel
theorem dX9_touch_48 : decode cX9_touch 48 = .ok (.iload 6, 2) := by decide +kernel
theorem dX9_touch_50 : decode cX9_touch 50 = .ok (.if_icmp .ne 5, 3) := by decide +kernel
theorem dX9_touch_53 : decode cX9_touch 53 = .ok (.iconst (-1), 1) := by decide +kernel
theorem dX9_touch_54 : decode cX9_touch 54 = .ok (.ireturn, 1) := by decide +kernel
theorem dX9_touch_55 : decode cX9_touch 55 = .ok (.aload_n 0, 1) := by decide +kernel
theorem dX9_touch_56 : decode cX9_touch 56 = .ok (.getfield 56, 3) := by decide +kernel
theorem dX9_touch_59 : decode cX9_touch 59 = .ok (.iload_n 3, 1) := by decide +kernel
theorem dX9_touch_60 : decode cX9_touch 60 = .ok (.invokevirtual 191, 3) := by decide +kernel
theorem dX9_touch_63 : decode cX9_touch 63 = .ok (.iconst 0, 1) := by decide +kernel
theorem dX9_touch_64 : decode cX9_touch 64 = .ok (.istore 7, 2) := by decide +kernel
theorem dX9_touch_66 : decode cX9_touch 66 = .ok (.iload 7, 2) := by decide +kernel
theorem dX9_touch_68 : decode cX9_touch 68 = .ok (.iload 4, 2) := by decide +kernel
theorem dX9_touch_70 : decode cX9_touch 70 = .ok (.if_icmp .ge 34, 3) := by decide +kernel
theorem dX9_touch_73 : decode cX9_touch 73 = .ok (.aload_n 0, 1) := by decide +kernel
theorem dX9_touch_74 : decode cX9_touch 74 = .ok (.getfield 56, 3) := by decide +kernel
theorem dX9_touch_77 : decode cX9_touch 77 = .ok (.iload 5, 2) := by decide +kernel
theorem dX9_touch_79 : decode cX9_touch 79 = .ok (.iload 6, 2) := by decide +kernel
theorem dX9_touch_81 : decode cX9_touch 81 = .ok (.invokevirtual 293, 3) := by decide +kernel
theorem dX9_touch_84 : decode cX9_touch 84 = .ok (.ifCond .eq 6, 3) := by decide +kernel
theorem dX9_touch_87 : decode cX9_touch 87 = .ok (.iload 7, 2) := by decide +kernel
theorem dX9_touch_89 : decode cX9_touch 89 = .ok (.ireturn, 1) := by decide +kernel
theorem dX9_touch_90 : decode cX9_touch 90 = .ok (.aload_n 0, 1) := by decide +kernel
theorem dX9_touch_91 : decode cX9_touch 91 = .ok (.getfield 56, 3) := by decide +kernel
theorem dX9_touch_94 : decode cX9_touch 94 = .ok (.invokevirtual 198, 3) := by decide +kernel
theorem dX9_touch_97 : decode cX9_touch 97 = .ok (.pop, 1) := by decide +kernel
theorem dX9_touch_98 : decode cX9_touch 98 = .ok (.iinc 7 1, 3) := by decide +kernel
theorem dX9_touch_101 : decode cX9_touch 101 = .ok (.goto (-35), 3) := by decide +kernel
theorem dX9_touch_104 : decode cX9_touch 104 = .ok (.iconst (-1), 1) := by decide +kernel
theorem dX9_touch_105 : decode cX9_touch 105 = .ok (.ireturn, 1) := by decide +kernel
theorem dX9_track_0 : decode cX9_track 0 = .ok (.iload_n 1, 1) := by decide +kernel
theorem dX9_track_1 : decode cX9_track 1 = .ok (.bipush 8, 2) := by decide +kernel
theorem dX9_track_3 : decode cX9_track 3 = .ok (.invokestatic 321, 3) := by decide +kernel
theorem dX9_track_6 : decode cX9_track 6 = .ok (.ifCond .eq 23, 3) := by decide +kernel
theorem dX9_track_9 : decode cX9_track 9 = .ok (.iload 4, 2) := by decide +kernel
theorem dX9_track_11 : decode cX9_track 11 = .ok (.bipush 8, 2) := by decide +kernel
theorem dX9_track_13 : decode cX9_track 13 = .ok (.invokestatic 321, 3) := by decide +kernel
theorem dX9_track_16 : decode cX9_track 16 = .ok (.ifCond .eq 13, 3) := by decide +kernel
theorem dX9_track_19 : decode cX9_track 19 = .ok (.iload_n 1, 1) := by decide +kernel
theorem dX9_track_20 : decode cX9_track 20 = .ok (.iload 4, 2) := by decide +kernel
theorem dX9_track_22 : decode cX9_track 22 = .ok (.if_icmp .gt 7, 3) := by decide +kernel
theorem dX9_track_25 : decode cX9_track 25 = .ok (.iconst 1, 1) := by decide +kernel
theorem dX9_track_26 : decode cX9_track 26 = .ok (.goto 4, 3) := by decide +kernel
theorem dX9_track_29 : decode cX9_track 29 = .ok (.iconst 0, 1) := by decide +kernel
theorem dX9_track_30 : decode cX9_track 30 = .ok (.istore 5, 2) := by decide +kernel
theorem dX9_track_32 : decode cX9_track 32 = .ok (.iload 5, 2) := by decide +kernel
theorem dX9_track_34 : decode cX9_track 34 = .ok (.ifCond .eq 25, 3) := by decide +kernel
theorem dX9_track_37 : decode cX9_track 37 = .ok (.iload_n 3, 1) := by decide +kernel
theorem dX9_track_38 : decode cX9_track 38 = .ok (.invokestatic 327, 3) := by decide +kernel
theorem dX9_track_41 : decode cX9_track 41 = .ok (.ifCond .eq 18, 3) := by decide +kernel
theorem dX9_track_44 : decode cX9_track 44 = .ok (.aload_n 0, 1) := by decide +kernel
theorem dX9_track_45 : decode cX9_track 45 = .ok (.getfield 10, 3) := by decide +kernel
theorem dX9_track_48 : decode cX9_track 48 = .ok (.getfield 296, 3) := by decide +kernel
theorem dX9_track_51 : decode cX9_track 51 = .ok (.iload_n 1, 1) := by decide +kernel
theorem dX9_track_52 : decode cX9_track 52 = .ok (.iload_n 2, 1) := by decide +kernel
theorem dX9_track_53 : decode cX9_track 53 = .ok (.invokevirtual 330, 3) := by decide +kernel
theorem dX9_track_56 : decode cX9_track 56 = .ok (.ifCond .ne 5, 3) := by decide +kernel
theorem dX9_track_59 : decode cX9_track 59 = .ok (.iconst (-1), 1) := by decide +kernel
theorem dX9_track_60 : decode cX9_track 60 = .ok (.ireturn, 1) := by decide +kernel
theorem dX9_track_61 : decode cX9_track 61 = .ok (.iload_n 2, 1) := by decide +kernel
theorem dX9_track_62 : decode cX9_track 62 = .ok (.istore 6, 2) := by decide +kernel
theorem dX9_track_64 : decode cX9_track 64 = .ok (.iload_n 1, 1) := by decide +kernel
theorem dX9_track_65 : decode cX9_track 65 = .ok (.istore 7, 2) := by decide +kernel
theorem dX9_track_67 : decode cX9_track 67 = .ok (.iload 7, 2) := by decide +kernel
theorem dX9_track_69 : decode cX9_track 69 = .ok (.iload 4, 2) := by decide +kernel
theorem dX9_track_71 : decode cX9_track 71 = .ok (.if_icmp .ge 60, 3) := by decide +kernel
theorem dX9_track_74 : decode cX9_track 74 = .ok (.iload 6, 2) := by decide +kernel
theorem dX9_track_76 : decode cX9_track 76 = .ok (.iconst (-1), 1) := by decide +kernel
theorem dX9_track_77 : decode cX9_track 77 = .ok (.if_icmp .eq 54, 3) := by decide +kernel
theorem dX9_track_80 : decode cX9_track 80 = .ok (.aload_n 0, 1) := by decide +kernel
theorem dX9_track_81 : decode cX9_track 81 = .ok (.getfield 10, 3) := by decide +kernel
theorem dX9_track_84 : decode cX9_track 84 = .ok (.getfield 296, 3) := by decide +kernel
theorem dX9_track_87 : decode cX9_track 87 = .ok (.iload 7, 2) := by decide +kernel
theorem dX9_track_89 : decode cX9_track 89 = .ok (.iload_n 3, 1) := by decide +kernel
theorem dX9_track_90 : decode cX9_track 90 = .ok (.invokevirtual 332, 3) := by decide +kernel
theorem dX9_track_93 : decode cX9_track 93 = .ok (.pop, 1) := by decide +kernel
theorem dX9_track_94 : decode cX9_track 94 = .ok (.iload 6, 2) := by decide +kernel
theorem dX9_track_96 : decode cX9_track 96 = .ok (.ifCond .lt 26, 3) := by decide +kernel
theorem dX9_track_99 : decode cX9_track 99 = .ok (.iload 6, 2) := by decide +kernel
theorem dX9_track_101 : decode cX9_track 101 = .ok (.bipush 6, 2) := by decide +kernel
theorem dX9_track_103 : decode cX9_track 103 = .ok (.if_icmp .ge 19, 3) := by decide +kernel
theorem dX9_track_106 : decode cX9_track 106 = .ok (.aload_n 0, 1) := by decide +kernel
theorem dX9_track_107 : decode cX9_track 107 = .ok (.getfield 10, 3) := by decide +kernel
theorem dX9_track_110 : decode cX9_track 110 = .ok (.getfield 296, 3) := by decide +kernel
theorem dX9_track_113 : decode cX9_track 113 = .ok (.getfield 335, 3) := by decide +kernel
theorem dX9_track_116 : decode cX9_track 116 = .ok (.iload 6, 2) := by decide +kernel
theorem dX9_track_118 : decode cX9_track 118 = .ok (.iaload, 1) := by decide +kernel
theorem dX9_track_119 : decode cX9_track 119 = .ok (.goto 4, 3) := by decide +kernel
theorem dX9_track_122 : decode cX9_track 122 = .ok (.iconst (-1), 1) := by decide +kernel
theorem dX9_track_123 : decode cX9_track 123 = .ok (.istore 6, 2) := by decide +kernel
theorem dX9_track_125 : decode cX9_track 125 = .ok (.iinc 7 1, 3) := by decide +kernel
theorem dX9_track_128 : decode cX9_track 128 = .ok (.goto (-61), 3) := by decide +kernel
theorem dX9_track_131 : decode cX9_track 131 = .ok (.iload 6, 2) := by decide +kernel
theorem dX9_track_133 : decode cX9_track 133 = .ok (.ireturn, 1) := by decide +kernel
theorem dX9_two_0 : decode cX9_two 0 = .ok (.iload 4, 2) := by decide +kernel
theorem dX9_two_2 : decode cX9_two 2 = .ok (.ifCond .eq 17, 3) := by decide +kernel
theorem dX9_two_5 : decode cX9_two 5 = .ok (.iload 4, 2) := by decide +kernel
theorem dX9_two_7 : decode cX9_two 7 = .ok (.bipush 10, 2) := by decide +kernel
theorem dX9_two_9 : decode cX9_two 9 = .ok (.if_icmp .lt 14, 3) := by decide +kernel
theorem dX9_two_12 : decode cX9_two 12 = .ok (.iload 4, 2) := by decide +kernel
theorem dX9_two_14 : decode cX9_two 14 = .ok (.bipush 19, 2) := by decide +kernel
theorem dX9_two_16 : decode cX9_two 16 = .ok (.if_icmp .ge 7, 3) := by decide +kernel
theorem dX9_two_19 : decode cX9_two 19 = .ok (.iconst 1, 1) := by decide +kernel
theorem dX9_two_20 : decode cX9_two 20 = .ok (.goto 4, 3) := by decide +kernel
theorem dX9_two_23 : decode cX9_two 23 = .ok (.iconst 0, 1) := by decide +kernel
theorem dX9_two_24 : decode cX9_two 24 = .ok (.istore 5, 2) := by decide +kernel
theorem dX9_two_26 : decode cX9_two 26 = .ok (.iload 5, 2) := by decide +kernel
theorem dX9_two_28 : decode cX9_two 28 = .ok (.ifCond .eq 22, 3) := by decide +kernel
theorem dX9_two_31 : decode cX9_two 31 = .ok (.iload_n 3, 1) := by decide +kernel
theorem dX9_two_32 : decode cX9_two 32 = .ok (.ifCond .lt 18, 3) := by decide +kernel
theorem dX9_two_35 : decode cX9_two 35 = .ok (.iload_n 3, 1) := by decide +kernel
theorem dX9_two_36 : decode cX9_two 36 = .ok (.bipush 8, 2) := by decide +kernel
theorem dX9_two_38 : decode cX9_two 38 = .ok (.if_icmp .gt 12, 3) := by decide +kernel
theorem dX9_two_41 : decode cX9_two 41 = .ok (.aload_n 0, 1) := by decide +kernel
theorem dX9_two_42 : decode cX9_two 42 = .ok (.iload_n 1, 1) := by decide +kernel
theorem dX9_two_43 : decode cX9_two 43 = .ok (.iload_n 2, 1) := by decide +kernel
theorem dX9_two_44 : decode cX9_two 44 = .ok (.invokevirtual 262, 3) := by decide +kernel
theorem dX9_two_47 : decode cX9_two 47 = .ok (.ifCond .ne 5, 3) := by decide +kernel
theorem dX9_two_50 : decode cX9_two 50 = .ok (.iconst (-1), 1) := by decide +kernel
theorem dX9_two_51 : decode cX9_two 51 = .ok (.ireturn, 1) := by decide +kernel
theorem dX9_two_52 : decode cX9_two 52 = .ok (.aload_n 0, 1) := by decide +kernel
theorem dX9_two_53 : decode cX9_two 53 = .ok (.getfield 40, 3) := by decide +kernel
theorem dX9_two_56 : decode cX9_two 56 = .ok (.getfield 138, 3) := by decide +kernel
theorem dX9_two_59 : decode cX9_two 59 = .ok (.iconst 2, 1) := by decide +kernel
theorem dX9_two_60 : decode cX9_two 60 = .ok (.if_icmp .eq 5, 3) := by decide +kernel
theorem dX9_two_63 : decode cX9_two 63 = .ok (.iconst (-1), 1) := by decide +kernel
theorem dX9_two_64 : decode cX9_two 64 = .ok (.ireturn, 1) := by decide +kernel
theorem dX9_two_65 : decode cX9_two 65 = .ok (.aload_n 0, 1) := by decide +kernel
theorem dX9_two_66 : decode cX9_two 66 = .ok (.getfield 63, 3) := by decide +kernel
theorem dX9_two_69 : decode cX9_two 69 = .ok (.iload_n 3, 1) := by decide +kernel
theorem dX9_two_70 : decode cX9_two 70 = .ok (.iload 4, 2) := by decide +kernel
theorem dX9_two_72 : decode cX9_two 72 = .ok (.ifCond .ne 7, 3) := by decide +kernel
theorem dX9_two_75 : decode cX9_two 75 = .ok (.iconst 0, 1) := by decide +kernel
theorem dX9_two_76 : decode cX9_two 76 = .ok (.goto 8, 3) := by decide +kernel
theorem dX9_two_79 : decode cX9_two 79 = .ok (.iload 4, 2) := by decide +kernel
theorem dX9_two_81 : decode cX9_two 81 = .ok (.bipush 9, 2) := by decide +kernel
theorem dX9_two_83 : decode cX9_two 83 = .ok (.isub, 1) := by decide +kernel
theorem dX9_two_84 : decode cX9_two 84 = .ok (.invokevirtual 265, 3) := by decide +kernel
theorem dX9_two_87 : decode cX9_two 87 = .ok (.ireturn, 1) := by decide +kernel
theorem dX9_walker_0 : decode cX9_walker 0 = .ok (.aload_n 0, 1) := by decide +kernel
theorem dX9_walker_1 : decode cX9_walker 1 = .ok (.getfield 10, 3) := by decide +kernel
theorem dX9_walker_4 : decode cX9_walker 4 = .ok (.iload_n 1, 1) := by decide +kernel
theorem dX9_walker_5 : decode cX9_walker 5 = .ok (.invokevirtual 128, 3) := by decide +kernel
theorem dX9_walker_8 : decode cX9_walker 8 = .ok (.astore 4, 2) := by decide +kernel
theorem dX9_walker_10 : decode cX9_walker 10 = .ok (.aload 4, 2) := by decide +kernel
theorem dX9_walker_12 : decode cX9_walker 12 = .ok (.ifnull 12, 3) := by decide +kernel
theorem dX9_walker_15 : decode cX9_walker 15 = .ok (.aload 4, 2) := by decide +kernel
theorem dX9_walker_17 : decode cX9_walker 17 = .ok (.iload_n 2, 1) := by decide +kernel
theorem dX9_walker_18 : decode cX9_walker 18 = .ok (.invokevirtual 144, 3) := by decide +kernel
theorem dX9_walker_21 : decode cX9_walker 21 = .ok (.ifCond .ne 6, 3) := by decide +kernel
theorem dX9_walker_24 : decode cX9_walker 24 = .ok (.bipush (-2), 2) := by decide +kernel
theorem dX9_walker_26 : decode cX9_walker 26 = .ok (.ireturn, 1) := by decide +kernel
theorem dX9_walker_27 : decode cX9_walker 27 = .ok (.iload_n 3, 1) := by decide +kernel
theorem dX9_walker_28 : decode cX9_walker 28 = .ok (.tableswitch 120 0 7 #[48, 56, 64, 80, 88, 96, 104, 112], 48) := by decide +kernel
theorem dX9_walker_76 : decode cX9_walker 76 = .ok (.aload 4, 2) := by decide +kernel
theorem dX9_walker_78 : decode cX9_walker 78 = .ok (.getfield 147, 3) := by decide +kernel
theorem dX9_walker_81 : decode cX9_walker 81 = .ok (.iload_n 2, 1) := by decide +kernel
theorem dX9_walker_82 : decode cX9_walker 82 = .ok (.iaload, 1) := by decide +kernel
theorem dX9_walker_83 : decode cX9_walker 83 = .ok (.ireturn, 1) := by decide +kernel
theorem dX9_walker_84 : decode cX9_walker 84 = .ok (.aload 4, 2) := by decide +kernel
theorem dX9_walker_86 : decode cX9_walker 86 = .ok (.getfield 151, 3) := by decide +kernel
theorem dX9_walker_89 : decode cX9_walker 89 = .ok (.iload_n 2, 1) := by decide +kernel
theorem dX9_walker_90 : decode cX9_walker 90 = .ok (.iaload, 1) := by decide +kernel
theorem dX9_walker_91 : decode cX9_walker 91 = .ok (.ireturn, 1) := by decide +kernel
theorem dX9_walker_92 : decode cX9_walker 92 = .ok (.aload 4, 2) := by decide +kernel
theorem dX9_walker_94 : decode cX9_walker 94 = .ok (.getfield 154, 3) := by decide +kernel
theorem dX9_walker_97 : decode cX9_walker 97 = .ok (.iload_n 2, 1) := by decide +kernel
theorem dX9_walker_98 : decode cX9_walker 98 = .ok (.iaload, 1) := by decide +kernel
theorem dX9_walker_99 : decode cX9_walker 99 = .ok (.ifCond .le 7, 3) := by decide +kernel
theorem dX9_walker_102 : decode cX9_walker 102 = .ok (.iconst 1, 1) := by decide +kernel
theorem dX9_walker_103 : decode cX9_walker 103 = .ok (.goto 4, 3) := by decide +kernel
theorem dX9_walker_106 : decode cX9_walker 106 = .ok (.iconst 0, 1) := by decide +kernel
theorem dX9_walker_107 : decode cX9_walker 107 = .ok (.ireturn, 1) := by decide +kernel
theorem dX9_walker_108 : decode cX9_walker 108 = .ok (.aload 4, 2) := by decide +kernel
theorem dX9_walker_110 : decode cX9_walker 110 = .ok (.getfield 157, 3) := by decide +kernel
theorem dX9_walker_113 : decode cX9_walker 113 = .ok (.iload_n 2, 1) := by decide +kernel
theorem dX9_walker_114 : decode cX9_walker 114 = .ok (.iaload, 1) := by decide +kernel
theorem dX9_walker_115 : decode cX9_walker 115 = .ok (.ireturn, 1) := by decide +kernel
theorem dX9_walker_116 : decode cX9_walker 116 = .ok (.aload 4, 2) := by decide +kernel
theorem dX9_walker_118 : decode cX9_walker 118 = .ok (.getfield 160, 3) := by decide +kernel
theorem dX9_walker_121 : decode cX9_walker 121 = .ok (.iload_n 2, 1) := by decide +kernel
theorem dX9_walker_122 : decode cX9_walker 122 = .ok (.iaload, 1) := by decide +kernel
theorem dX9_walker_123 : decode cX9_walker 123 = .ok (.ireturn, 1) := by decide +kernel
theorem dX9_walker_124 : decode cX9_walker 124 = .ok (.aload 4, 2) := by decide +kernel
theorem dX9_walker_126 : decode cX9_walker 126 = .ok (.getfield 163, 3) := by decide +kernel
theorem dX9_walker_129 : decode cX9_walker 129 = .ok (.iload_n 2, 1) := by decide +kernel
theorem dX9_walker_130 : decode cX9_walker 130 = .ok (.iaload, 1) := by decide +kernel
theorem dX9_walker_131 : decode cX9_walker 131 = .ok (.ireturn, 1) := by decide +kernel
theorem dX9_walker_132 : decode cX9_walker 132 = .ok (.aload 4, 2) := by decide +kernel
theorem dX9_walker_134 : decode cX9_walker 134 = .ok (.getfield 166, 3) := by decide +kernel
theorem dX9_walker_137 : decode cX9_walker 137 = .ok (.iload_n 2, 1) := by decide +kernel
theorem dX9_walker_138 : decode cX9_walker 138 = .ok (.iaload, 1) := by decide +kernel
theorem dX9_walker_139 : decode cX9_walker 139 = .ok (.ireturn, 1) := by decide +kernel
theorem dX9_walker_140 : decode cX9_walker 140 = .ok (.aload 4, 2) := by decide +kernel
theorem dX9_walker_142 : decode cX9_walker 142 = .ok (.getfield 169, 3) := by decide +kernel
theorem dX9_walker_145 : decode cX9_walker 145 = .ok (.iload_n 2, 1) := by decide +kernel
theorem dX9_walker_146 : decode cX9_walker 146 = .ok (.iaload, 1) := by decide +kernel
theorem dX9_walker_147 : decode cX9_walker 147 = .ok (.ireturn, 1) := by decide +kernel
theorem dX9_walker_148 : decode cX9_walker 148 = .ok (.bipush (-2), 2) := by decide +kernel
theorem dX9_walker_150 : decode cX9_walker 150 = .ok (.ireturn, 1) := by decide +kernel
theorem dX9_worth_0 : decode cX9_worth 0 = .ok (.iload_n 1, 1) := by decide +kernel
theorem dX9_worth_1 : decode cX9_worth 1 = .ok (.bipush 7, 2) := by decide +kernel
theorem dX9_worth_3 : decode cX9_worth 3 = .ok (.invokestatic 321, 3) := by decide +kernel
theorem dX9_worth_6 : decode cX9_worth 6 = .ok (.ifCond .eq 10, 3) := by decide +kernel
theorem dX9_worth_9 : decode cX9_worth 9 = .ok (.iload_n 2, 1) := by decide +kernel
theorem dX9_worth_10 : decode cX9_worth 10 = .ok (.invokestatic 327, 3) := by decide +kernel
theorem dX9_worth_13 : decode cX9_worth 13 = .ok (.ifCond .ne 5, 3) := by decide +kernel
theorem dX9_worth_16 : decode cX9_worth 16 = .ok (.iconst (-1), 1) := by decide +kernel
theorem dX9_worth_17 : decode cX9_worth 17 = .ok (.ireturn, 1) := by decide +kernel
theorem dX9_worth_18 : decode cX9_worth 18 = .ok (.aload_n 0, 1) := by decide +kernel
theorem dX9_worth_19 : decode cX9_worth 19 = .ok (.getfield 10, 3) := by decide +kernel
theorem dX9_worth_22 : decode cX9_worth 22 = .ok (.getfield 296, 3) := by decide +kernel
theorem dX9_worth_25 : decode cX9_worth 25 = .ok (.iload_n 1, 1) := by decide +kernel
theorem dX9_worth_26 : decode cX9_worth 26 = .ok (.iload_n 2, 1) := by decide +kernel
theorem dX9_worth_27 : decode cX9_worth 27 = .ok (.invokevirtual 332, 3) := by decide +kernel
theorem dX9_worth_30 : decode cX9_worth 30 = .ok (.ireturn, 1) := by decide +kernel
section P_X9_about
variable {p : Program} {l : Launch} {e : Env} {s : State} {m : MethodId} {args : Array Value} {below : List Frame} {meth : Method} {c : Code} {G : GG} {A : Nat → Prop} {ad : Nat → Nat} {S : ST} {N : Nat} {r : Int32} {dy' : DY}
end P_X9_about
set_option maxHeartbeats 4000000 in
set_option maxRecDepth 100000 in
theorem M_X9_about (l : Launch) (G : GG) (ad : Nat → Nat) {S : ST} (N : Nat) (hG : Good S) (a0 : Nat) (a1 : Int32) (a2 : Int32) (dy : DY) (T0 : gs S a0 = (0, 9)) {r : Int32} {dy' : DY} (E : F_X9_about S N a0 a1 a2 dy = some (r, dy')) : MC l yX9_about cX9_about 4 (Option.some Jvm.ClassFile.FieldType.int) (2) G ad [.ref (ad a0), .int a1, .int a2] S dy (fun A => QI G ad A S r dy') := by
  rw [F_X9_about_s] at E
  refine mc_of RX9 (by decide) rfl (Nat.le_of_ble_eq_true rfl) (fun p e s m args below meth c A C HR HL => ?_)
  refine ww_sub (lv' := [(0, .ref (ad a0)), (1, .int a1), (2, .int a2)]) [0, 1, 2] rfl ?_
  refine ww_aload_n C dX9_about_0 rfl 0 rfl ?_
  have T_1 : gs S (gr S a0 0) = (0, 7) := hG.1 _ 9 T0 0 (by decide)
  refine ww_getr (ci := 9) (k0 := 0) C dX9_about_1 rfl rfl inm9 (by decide) T0 q524 rfl T_1 (by decide) ?_
  refine ww_iload_n C dX9_about_4 rfl 1 rfl ?_
  obtain ⟨u2, e_3, E⟩ := bind_of E
  refine ww_callR C (runs_V (n := 1) (st := []) C [.int a1] (M_X7_passageOf l G ad N hG (gr S a0 0) a1 dy T_1 e_3) ⟨q884, q109, by decide⟩ q881 q882 q883 (ci := 7) rfl T_1 rfl (Nat.le_of_ble_eq_true rfl) ⟨Nat.le_of_ble_eq_true rfl, Nat.le_of_ble_eq_true rfl⟩ ⟨Nat.zero_le _, Nat.zero_le _⟩ dX9_about_5 rfl) ?_
  by_cases z_4 : u2.1 = 0
  · rw [if_pos z_4] at E
    rw [show rV ad u2.1 = .null by rw [z_4]; rfl]
    refine ww_astore_nN (lv' := [(3, .null), (0, .ref (ad a0)), (1, .int a1), (2, .int a2)]) C dX9_about_8 rfl (by decide) rfl ?_
    refine ww_aload_nN C dX9_about_9 rfl 0 rfl ?_
    refine ww_ifnonnullF C dX9_about_10 ?_
    refine ww_iconst (v := (-1)) C dX9_about_13 (by decide) ?_
    exact ww_iret C HR HL dX9_about_14 E
  rw [if_neg z_4] at E
  obtain ⟨T_5, E⟩ := gd_of E
  rw [rV_pos z_4]
  refine ww_astore_n (lv' := [(3, .ref (ad u2.1)), (0, .ref (ad a0)), (1, .int a1), (2, .int a2)]) C dX9_about_8 rfl (by decide) rfl ?_
  refine ww_aload_n C dX9_about_9 rfl 0 rfl ?_
  refine ww_ifnonnullT (tgt := 15) C dX9_about_10 (by decide) ?_
  refine ww_iload_n C dX9_about_15 rfl 3 rfl ?_
  by_cases s_6 : a2 = (0 : Int32)
  · rw [if_pos s_6] at E
    refine ww_tabIn (tgt := 48) C dX9_about_16 s_6 (by decide) (by decide) rfl (by decide) ?_
    refine ww_aload_n C dX9_about_48 rfl 0 rfl ?_
    refine ww_geti (ci := 4) (k0 := 0) C dX9_about_49 rfl rfl inm4 (by decide) T_5 q152 rfl ?_
    exact ww_iret C HR HL dX9_about_52 E
  rw [if_neg s_6] at E
  by_cases s_7 : a2 = (1 : Int32)
  · rw [if_pos s_7] at E
    refine ww_tabIn (tgt := 53) C dX9_about_16 s_7 (by decide) (by decide) rfl (by decide) ?_
    refine ww_aload_n C dX9_about_53 rfl 0 rfl ?_
    refine ww_geti (ci := 4) (k0 := 1) C dX9_about_54 rfl rfl inm4 (by decide) T_5 q156 rfl ?_
    exact ww_iret C HR HL dX9_about_57 E
  rw [if_neg s_7] at E
  by_cases s_8 : a2 = (2 : Int32)
  · rw [if_pos s_8] at E
    refine ww_tabIn (tgt := 58) C dX9_about_16 s_8 (by decide) (by decide) rfl (by decide) ?_
    refine ww_aload_n C dX9_about_58 rfl 0 rfl ?_
    refine ww_geti (ci := 4) (k0 := 3) C dX9_about_59 rfl rfl inm4 (by decide) T_5 q164 rfl ?_
    exact ww_iret C HR HL dX9_about_62 E
  rw [if_neg s_8] at E
  by_cases s_9 : a2 = (3 : Int32)
  · rw [if_pos s_9] at E
    refine ww_tabIn (tgt := 63) C dX9_about_16 s_9 (by decide) (by decide) rfl (by decide) ?_
    refine ww_aload_n C dX9_about_63 rfl 0 rfl ?_
    refine ww_geti (ci := 4) (k0 := 2) C dX9_about_64 rfl rfl inm4 (by decide) T_5 q159 rfl ?_
    exact ww_iret C HR HL dX9_about_67 E
  rw [if_neg s_9] at E
  refine ww_tabOut (tgt := 68) C dX9_about_16 (tab_out (fun v h1 h2 => ?_)) (by decide) ?_
  · rcases (show v = 0 ∨ v = 1 ∨ v = 2 ∨ v = 3 by omega) with rfl | rfl | rfl | rfl
    · exact ti_ne s_6 (by decide)
    · exact ti_ne s_7 (by decide)
    · exact ti_ne s_8 (by decide)
    · exact ti_ne s_9 (by decide)
  refine ww_iconst (v := (-1)) C dX9_about_68 (by decide) ?_
  exact ww_iret C HR HL dX9_about_69 E
section P_X9_again
variable {p : Program} {l : Launch} {e : Env} {s : State} {m : MethodId} {args : Array Value} {below : List Frame} {meth : Method} {c : Code} {G : GG} {A : Nat → Prop} {ad : Nat → Nat} {S : ST} {N : Nat} {r : Int32} {dy' : DY}
end P_X9_again
set_option maxHeartbeats 4000000 in
set_option maxRecDepth 100000 in
theorem M_X9_again (l : Launch) (G : GG) (ad : Nat → Nat) {S : ST} (N : Nat) (hG : Good S) (a0 : Nat) (a1 : Int32) (dy : DY) (T0 : gs S a0 = (0, 9)) {r : Int32} {dy' : DY} (E : F_X9_again S N a0 a1 dy = some (r, dy')) : MC l yX9_again cX9_again 2 (Option.some Jvm.ClassFile.FieldType.boolean) (3) G ad [.ref (ad a0), .int a1] S dy (fun A => QI G ad A S r dy') := by
  rw [F_X9_again_s] at E
  refine mc_of RX9 (by decide) rfl (Nat.le_of_ble_eq_true rfl) (fun p e s m args below meth c A C HR HL => ?_)
  refine ww_sub (lv' := [(0, .ref (ad a0)), (1, .int a1)]) [0, 1] rfl ?_
  refine ww_iload_n C dX9_again_0 rfl 1 rfl ?_
  refine ww_if_lt (tgt := 18) C dX9_again_1 (by decide) E (fun _ E => ?_) (fun _ E => ?_)
  · refine ww_iconst (v := 0) C dX9_again_18 (by decide) ?_
    exact ww_zret C HR HL dX9_again_19 (Or.inl rfl) E
  · refine ww_iload_n C dX9_again_4 rfl 1 rfl ?_
    refine ww_iconst (v := 3) C dX9_again_5 (by decide) ?_
    refine ww_icmp_ge (tgt := 18) C dX9_again_6 (by decide) E (fun _ E => ?_) (fun _ E => ?_)
    · refine ww_iconst (v := 0) C dX9_again_18 (by decide) ?_
      exact ww_zret C HR HL dX9_again_19 (Or.inl rfl) E
    · refine ww_aload_n C dX9_again_9 rfl 0 rfl ?_
      have T_1 : gs S (gr S a0 2) = (3, 3) := hG.1 _ 9 T0 2 (by decide)
      refine ww_getr (ci := 9) (k0 := 2) C dX9_again_10 rfl rfl inm9 (by decide) T0 q526 rfl T_1 (by decide) ?_
      refine ww_iload_n C dX9_again_13 rfl 1 rfl ?_
      refine ww_zald C dX9_again_14 T_1 E (fun _ E => ?_)
      refine ww_if_ne (tgt := 20) C dX9_again_15 (by decide) E (fun _ E => ?_) (fun _ E => ?_)
      · refine ww_aload_n C dX9_again_20 rfl 0 rfl ?_
        have T_2 : gs S (gr S a0 0) = (0, 7) := hG.1 _ 9 T0 0 (by decide)
        refine ww_getr (ci := 9) (k0 := 0) C dX9_again_21 rfl rfl inm9 (by decide) T0 q524 rfl T_2 (by decide) ?_
        refine ww_aload_n C dX9_again_24 rfl 0 rfl ?_
        have T_3 : gs S (gr S a0 1) = (6, 3) := hG.1 _ 9 T0 1 (by decide)
        refine ww_getr (ci := 9) (k0 := 1) C dX9_again_25 rfl rfl inm9 (by decide) T0 q525 rfl T_3 (by decide) ?_
        refine ww_iload_n C dX9_again_28 rfl 1 rfl ?_
        have T_4 : ib a1 3 → gs S (gr S (gr S a0 1) a1.toNatClampNeg) = (0, 7) := fun q => hG.2 _ 6 3 T_3 (by decide) (by decide) _ (ib_lt q)
        refine ww_aald C dX9_again_29 T_3 (by decide) (by decide) rfl E T_4 (by decide) (fun q_ E => ?_)
        have T_4 := T_4 q_
        obtain ⟨u5, e_6, E⟩ := bind_of E
        refine ww_callV C (runs_V (n := 1) (st := []) C [.ref (ad (gr S (gr S a0 1) a1.toNatClampNeg))] (M_X7_copyFrom l G ad N hG (gr S a0 0) (gr S (gr S a0 1) a1.toNatClampNeg) dy T_2 T_4 e_6) ⟨q1260, q109, by decide⟩ q1257 q1258 q1259 (ci := 7) rfl T_2 rfl (Nat.le_of_ble_eq_true rfl) ⟨Nat.le_of_ble_eq_true rfl, Nat.le_of_ble_eq_true rfl⟩ ⟨Nat.zero_le _, Nat.zero_le _⟩ dX9_again_30 rfl) ?_
        refine ww_iconst (v := 1) C dX9_again_33 (by decide) ?_
        exact ww_zret C HR HL dX9_again_34 (Or.inr rfl) E
      · refine ww_iconst (v := 0) C dX9_again_18 (by decide) ?_
        exact ww_zret C HR HL dX9_again_19 (Or.inl rfl) E
section P_X9_areHatsOfTrial
variable {p : Program} {l : Launch} {e : Env} {s : State} {m : MethodId} {args : Array Value} {below : List Frame} {meth : Method} {c : Code} {G : GG} {A : Nat → Prop} {ad : Nat → Nat} {S : ST} {N : Nat} {r : Int32} {dy' : DY}
set_option maxHeartbeats 4000000 in
set_option maxRecDepth 100000 in
theorem B_X9_areHatsOfTrial_63 (C : CX p s m args c cX9_areHatsOfTrial 5 RX9 G A) (HR : meth.sig.returnType = (Option.some Jvm.ClassFile.FieldType.boolean)) (HL : meth.locks = false) (hG : Good S) : ∀ k : Nat, ∀ (x0 : Nat) (x1 : Int32) (x2 : Nat) (x3 : Int32) (dy : DY), gs S x0 = (0, 9) → gs S x2 = (0, 1) → (F_X9_areHatsOfTrial_63 S N k) x0 x1 x2 x3 dy = some (r, dy') → WJ p l e (rmD (3)) s m args below meth c 5 G A 0 0 (MQ below (QI G ad A S r dy') args s 0 0 A) ad 63 [(0, .ref (ad x0)), (1, .int x1), (2, .ref (ad x2)), (3, .int x3)] [] S dy := by
  intro k
  induction k with
  | zero => exact fun _ _ _ _ _ _ _ E => nomatch (show none = some (r, dy') from E)
  | succ k ih =>
    intro x0 x1 x2 x3 dy Tx0 Tx2 E
    rw [F_X9_areHatsOfTrial_63_s] at E
    refine ww_iload_n C dX9_areHatsOfTrial_63 rfl 3 rfl ?_
    refine ww_aload_n C dX9_areHatsOfTrial_64 rfl 0 rfl ?_
    have T_1 : gs S (gr S x0 4) = (0, 4) := hG.1 _ 9 Tx0 4 (by decide)
    refine ww_getr (ci := 9) (k0 := 4) C dX9_areHatsOfTrial_65 rfl rfl inm9 (by decide) Tx0 q528 rfl T_1 (by decide) ?_
    refine ww_geti (ci := 4) (k0 := 3) C dX9_areHatsOfTrial_68 rfl rfl inm4 (by decide) T_1 q164 rfl ?_
    refine ww_icmp_ge (tgt := 119) C dX9_areHatsOfTrial_71 (by decide) E (fun _ E => ?_) (fun _ E => ?_)
    · refine ww_iconst (v := 1) C dX9_areHatsOfTrial_119 (by decide) ?_
      exact ww_zret C HR HL dX9_areHatsOfTrial_120 (Or.inr rfl) E
    · refine ww_aload_n C dX9_areHatsOfTrial_74 rfl 0 rfl ?_
      have T_2 : gs S (gr S x0 6) = (0, 8) := hG.1 _ 9 Tx0 6 (by decide)
      refine ww_getr (ci := 9) (k0 := 6) C dX9_areHatsOfTrial_75 rfl rfl inm9 (by decide) Tx0 q530 rfl T_2 (by decide) ?_
      refine ww_iload_n C dX9_areHatsOfTrial_78 rfl 3 rfl ?_
      obtain ⟨u3, e_4, E⟩ := bind_of E
      refine ww_callI C (runs_V (n := 1) (st := []) C [.int x3] (M_X8_isThere l G ad N hG (gr S x0 6) x3 dy T_2 e_4) ⟨q983, q112, by decide⟩ q1016 q981 q982 (ci := 8) rfl T_2 rfl (Nat.le_of_ble_eq_true rfl) ⟨Nat.le_of_ble_eq_true rfl, Nat.le_of_ble_eq_true rfl⟩ ⟨Nat.zero_le _, Nat.zero_le _⟩ dX9_areHatsOfTrial_79 rfl) ?_
      refine ww_if_eq (tgt := 113) C dX9_areHatsOfTrial_82 (by decide) E (fun _ E => ?_) (fun _ E => ?_)
      · refine ww_iinc (v := (x3 + (1 : Int32))) (lv' := [(3, .int (x3 + (1 : Int32))), (0, .ref (ad x0)), (1, .int x1), (2, .ref (ad x2))]) C dX9_areHatsOfTrial_113 3 rfl rfl (by decide) rfl ?_
        refine ww_goto (tgt := 63) C dX9_areHatsOfTrial_116 (by decide) ?_
        refine ww_sub (lv' := [(0, .ref (ad x0)), (1, .int x1), (2, .ref (ad x2)), (3, .int (x3 + (1 : Int32)))]) [1, 2, 3, 0] rfl ?_
        exact ih x0 x1 x2 (x3 + (1 : Int32)) u3.2 Tx0 Tx2 E
      · refine ww_aload_n C dX9_areHatsOfTrial_85 rfl 2 rfl ?_
        refine ww_iload_n C dX9_areHatsOfTrial_86 rfl 1 rfl ?_
        refine ww_aload_n C dX9_areHatsOfTrial_87 rfl 0 rfl ?_
        have T_5 : gs S (gr S x0 6) = (0, 8) := hG.1 _ 9 Tx0 6 (by decide)
        refine ww_getr (ci := 9) (k0 := 6) C dX9_areHatsOfTrial_88 rfl rfl inm9 (by decide) Tx0 q530 rfl T_5 (by decide) ?_
        have T_6 : gs S (gr S (gr S x0 6) 9) = (1, 48) := hG.1 _ 8 T_5 9 (by decide)
        refine ww_getr (ci := 8) (k0 := 9) C dX9_areHatsOfTrial_91 rfl rfl inm8 (by decide) T_5 q279 rfl T_6 (by decide) ?_
        refine ww_iload_n C dX9_areHatsOfTrial_94 rfl 3 rfl ?_
        refine ww_iald C dX9_areHatsOfTrial_95 T_6 E (fun _ E => ?_)
        refine ww_aload_n C dX9_areHatsOfTrial_96 rfl 0 rfl ?_
        have T_7 : gs S (gr S x0 6) = (0, 8) := hG.1 _ 9 Tx0 6 (by decide)
        refine ww_getr (ci := 9) (k0 := 6) C dX9_areHatsOfTrial_97 rfl rfl inm9 (by decide) Tx0 q530 rfl T_7 (by decide) ?_
        have T_8 : gs S (gr S (gr S x0 6) 10) = (1, 48) := hG.1 _ 8 T_7 10 (by decide)
        refine ww_getr (ci := 8) (k0 := 10) C dX9_areHatsOfTrial_100 rfl rfl inm8 (by decide) T_7 q282 rfl T_8 (by decide) ?_
        refine ww_iload_n C dX9_areHatsOfTrial_103 rfl 3 rfl ?_
        refine ww_iald C dX9_areHatsOfTrial_104 T_8 E (fun _ E => ?_)
        obtain ⟨u9, e_10, E⟩ := bind_of E
        refine ww_callI C (runs_V (n := 3) (st := []) C [.int x1, .int (gi u3.2 (gr S (gr S x0 6) 9) x3.toNatClampNeg), .int (gi u3.2 (gr S (gr S x0 6) 10) x3.toNatClampNeg)] (M_X1_hasHat l G ad N hG x2 x1 (gi u3.2 (gr S (gr S x0 6) 9) x3.toNatClampNeg) (gi u3.2 (gr S (gr S x0 6) 10) x3.toNatClampNeg) u3.2 Tx2 e_10) ⟨q1179, q113, by decide⟩ q1176 q1177 q1178 (ci := 1) rfl Tx2 rfl (Nat.le_of_ble_eq_true rfl) ⟨Nat.le_of_ble_eq_true rfl, Nat.le_of_ble_eq_true rfl⟩ ⟨Nat.zero_le _, Nat.zero_le _⟩ dX9_areHatsOfTrial_105 rfl) ?_
        refine ww_if_ne (tgt := 113) C dX9_areHatsOfTrial_108 (by decide) E (fun _ E => ?_) (fun _ E => ?_)
        · refine ww_iinc (v := (x3 + (1 : Int32))) (lv' := [(3, .int (x3 + (1 : Int32))), (0, .ref (ad x0)), (1, .int x1), (2, .ref (ad x2))]) C dX9_areHatsOfTrial_113 3 rfl rfl (by decide) rfl ?_
          refine ww_goto (tgt := 63) C dX9_areHatsOfTrial_116 (by decide) ?_
          refine ww_sub (lv' := [(0, .ref (ad x0)), (1, .int x1), (2, .ref (ad x2)), (3, .int (x3 + (1 : Int32)))]) [1, 2, 3, 0] rfl ?_
          exact ih x0 x1 x2 (x3 + (1 : Int32)) u9.2 Tx0 Tx2 E
        · refine ww_iconst (v := 0) C dX9_areHatsOfTrial_111 (by decide) ?_
          exact ww_zret C HR HL dX9_areHatsOfTrial_112 (Or.inl rfl) E
set_option maxHeartbeats 4000000 in
set_option maxRecDepth 100000 in
theorem B_X9_areHatsOfTrial_10 (C : CX p s m args c cX9_areHatsOfTrial 5 RX9 G A) (HR : meth.sig.returnType = (Option.some Jvm.ClassFile.FieldType.boolean)) (HL : meth.locks = false) (hG : Good S) : ∀ k : Nat, ∀ (x0 : Nat) (x1 : Int32) (x2 : Nat) (x3 : Int32) (dy : DY), gs S x0 = (0, 9) → gs S x2 = (0, 1) → (F_X9_areHatsOfTrial_10 S N k) x0 x1 x2 x3 dy = some (r, dy') → WJ p l e (rmD (3)) s m args below meth c 5 G A 0 0 (MQ below (QI G ad A S r dy') args s 0 0 A) ad 10 [(0, .ref (ad x0)), (1, .int x1), (2, .ref (ad x2)), (3, .int x3)] [] S dy := by
  intro k
  induction k with
  | zero => exact fun _ _ _ _ _ _ _ E => nomatch (show none = some (r, dy') from E)
  | succ k ih =>
    intro x0 x1 x2 x3 dy Tx0 Tx2 E
    rw [F_X9_areHatsOfTrial_10_s] at E
    refine ww_iload_n C dX9_areHatsOfTrial_10 rfl 3 rfl ?_
    refine ww_aload_n C dX9_areHatsOfTrial_11 rfl 2 rfl ?_
    have T_1 : gs S (gr S x2 0) = (1, 8) := hG.1 _ 1 Tx2 0 (by decide)
    refine ww_getr (ci := 1) (k0 := 0) C dX9_areHatsOfTrial_12 rfl rfl inm1 (by decide) Tx2 q348 rfl T_1 (by decide) ?_
    refine ww_iload_n C dX9_areHatsOfTrial_15 rfl 1 rfl ?_
    refine ww_iald C dX9_areHatsOfTrial_16 T_1 E (fun _ E => ?_)
    refine ww_icmp_ge (tgt := 61) C dX9_areHatsOfTrial_17 (by decide) E (fun _ E => ?_) (fun _ E => ?_)
    · refine ww_iconst (v := 0) C dX9_areHatsOfTrial_61 (by decide) ?_
      refine ww_istore_n (lv' := [(3, .int (0 : Int32)), (0, .ref (ad x0)), (1, .int x1), (2, .ref (ad x2))]) C dX9_areHatsOfTrial_62 rfl (by decide) rfl ?_
      refine ww_sub (lv' := [(0, .ref (ad x0)), (1, .int x1), (2, .ref (ad x2)), (3, .int (0 : Int32))]) [1, 2, 3, 0] rfl ?_
      exact (B_X9_areHatsOfTrial_63 C HR HL hG N) x0 x1 x2 (0 : Int32) dy Tx0 Tx2 E
    · refine ww_iload_n C dX9_areHatsOfTrial_20 rfl 1 rfl ?_
      refine ww_bipush (v := 6) C dX9_areHatsOfTrial_21 (by decide) ?_
      refine ww_imul C dX9_areHatsOfTrial_23 ?_
      refine ww_iload_n C dX9_areHatsOfTrial_24 rfl 3 rfl ?_
      refine ww_iadd C dX9_areHatsOfTrial_25 ?_
      refine ww_istore (lv' := [(4, .int ((x1 * (6 : Int32)) + x3)), (0, .ref (ad x0)), (1, .int x1), (2, .ref (ad x2)), (3, .int x3)]) C dX9_areHatsOfTrial_26 (by decide) rfl ?_
      refine ww_aload_n C dX9_areHatsOfTrial_28 rfl 1 rfl ?_
      have T_2 : gs S (gr S x0 6) = (0, 8) := hG.1 _ 9 Tx0 6 (by decide)
      refine ww_getr (ci := 9) (k0 := 6) C dX9_areHatsOfTrial_29 rfl rfl inm9 (by decide) Tx0 q530 rfl T_2 (by decide) ?_
      refine ww_aload_n C dX9_areHatsOfTrial_32 rfl 3 rfl ?_
      have T_3 : gs S (gr S x2 1) = (1, 48) := hG.1 _ 1 Tx2 1 (by decide)
      refine ww_getr (ci := 1) (k0 := 1) C dX9_areHatsOfTrial_33 rfl rfl inm1 (by decide) Tx2 q350 rfl T_3 (by decide) ?_
      refine ww_iload C dX9_areHatsOfTrial_36 0 rfl ?_
      refine ww_iald C dX9_areHatsOfTrial_38 T_3 E (fun _ E => ?_)
      refine ww_aload_n C dX9_areHatsOfTrial_39 rfl 3 rfl ?_
      have T_4 : gs S (gr S x2 2) = (1, 48) := hG.1 _ 1 Tx2 2 (by decide)
      refine ww_getr (ci := 1) (k0 := 2) C dX9_areHatsOfTrial_40 rfl rfl inm1 (by decide) Tx2 q352 rfl T_4 (by decide) ?_
      refine ww_iload C dX9_areHatsOfTrial_43 0 rfl ?_
      refine ww_iald C dX9_areHatsOfTrial_45 T_4 E (fun _ E => ?_)
      obtain ⟨u5, e_6, E⟩ := bind_of E
      refine ww_callI C (runs_V (n := 2) (st := []) C [.int (gi dy (gr S x2 1) ((x1 * (6 : Int32)) + x3).toNatClampNeg), .int (gi dy (gr S x2 2) ((x1 * (6 : Int32)) + x3).toNatClampNeg)] (M_X8_whoIsOn l G ad N hG (gr S x0 6) (gi dy (gr S x2 1) ((x1 * (6 : Int32)) + x3).toNatClampNeg) (gi dy (gr S x2 2) ((x1 * (6 : Int32)) + x3).toNatClampNeg) dy T_2 e_6) ⟨q994, q112, by decide⟩ q1028 q992 q993 (ci := 8) rfl T_2 rfl (Nat.le_of_ble_eq_true rfl) ⟨Nat.le_of_ble_eq_true rfl, Nat.le_of_ble_eq_true rfl⟩ ⟨Nat.zero_le _, Nat.zero_le _⟩ dX9_areHatsOfTrial_46 rfl) ?_
      refine ww_iconst (v := (-1)) C dX9_areHatsOfTrial_49 (by decide) ?_
      refine ww_icmp_ne (tgt := 55) C dX9_areHatsOfTrial_50 (by decide) E (fun _ E => ?_) (fun _ E => ?_)
      · refine ww_iinc (v := (x3 + (1 : Int32))) (lv' := [(3, .int (x3 + (1 : Int32))), (4, .int ((x1 * (6 : Int32)) + x3)), (0, .ref (ad x0)), (1, .int x1), (2, .ref (ad x2))]) C dX9_areHatsOfTrial_55 4 rfl rfl (by decide) rfl ?_
        refine ww_goto (tgt := 10) C dX9_areHatsOfTrial_58 (by decide) ?_
        refine ww_sub (lv' := [(0, .ref (ad x0)), (1, .int x1), (2, .ref (ad x2)), (3, .int (x3 + (1 : Int32)))]) [2, 3, 4, 0] rfl ?_
        exact ih x0 x1 x2 (x3 + (1 : Int32)) u5.2 Tx0 Tx2 E
      · refine ww_iconst (v := 0) C dX9_areHatsOfTrial_53 (by decide) ?_
        exact ww_zret C HR HL dX9_areHatsOfTrial_54 (Or.inl rfl) E
end P_X9_areHatsOfTrial
set_option maxHeartbeats 4000000 in
set_option maxRecDepth 100000 in
theorem M_X9_areHatsOfTrial (l : Launch) (G : GG) (ad : Nat → Nat) {S : ST} (N : Nat) (hG : Good S) (a0 : Nat) (a1 : Int32) (dy : DY) (T0 : gs S a0 = (0, 9)) {r : Int32} {dy' : DY} (E : F_X9_areHatsOfTrial S N a0 a1 dy = some (r, dy')) : MC l yX9_areHatsOfTrial cX9_areHatsOfTrial 5 (Option.some Jvm.ClassFile.FieldType.boolean) (3) G ad [.ref (ad a0), .int a1] S dy (fun A => QI G ad A S r dy') := by
  rw [F_X9_areHatsOfTrial_s] at E
  refine mc_of RX9 (by decide) rfl (Nat.le_of_ble_eq_true rfl) (fun p e s m args below meth c A C HR HL => ?_)
  refine ww_sub (lv' := [(0, .ref (ad a0)), (1, .int a1)]) [0, 1] rfl ?_
  refine ww_aload_n C dX9_areHatsOfTrial_0 rfl 0 rfl ?_
  have T_1 : gs S (gr S a0 0) = (0, 7) := hG.1 _ 9 T0 0 (by decide)
  refine ww_getr (ci := 9) (k0 := 0) C dX9_areHatsOfTrial_1 rfl rfl inm9 (by decide) T0 q524 rfl T_1 (by decide) ?_
  have T_2 : gs S (gr S (gr S a0 0) 12) = (0, 1) := hG.1 _ 7 T_1 12 (by decide)
  refine ww_getr (ci := 7) (k0 := 12) C dX9_areHatsOfTrial_4 rfl rfl inm7 (by decide) T_1 q390 rfl T_2 (by decide) ?_
  refine ww_astore_n (lv' := [(2, .ref (ad (gr S (gr S a0 0) 12))), (0, .ref (ad a0)), (1, .int a1)]) C dX9_areHatsOfTrial_7 rfl (by decide) rfl ?_
  refine ww_iconst (v := 0) C dX9_areHatsOfTrial_8 (by decide) ?_
  refine ww_istore_n (lv' := [(3, .int (0 : Int32)), (2, .ref (ad (gr S (gr S a0 0) 12))), (0, .ref (ad a0)), (1, .int a1)]) C dX9_areHatsOfTrial_9 rfl (by decide) rfl ?_
  refine ww_sub (lv' := [(0, .ref (ad a0)), (1, .int a1), (2, .ref (ad (gr S (gr S a0 0) 12))), (3, .int (0 : Int32))]) [2, 3, 1, 0] rfl ?_
  exact (B_X9_areHatsOfTrial_10 C HR HL hG N) a0 a1 (gr S (gr S a0 0) 12) (0 : Int32) dy T0 T_2 E
section P_X9_arrivals
variable {p : Program} {l : Launch} {e : Env} {s : State} {m : MethodId} {args : Array Value} {below : List Frame} {meth : Method} {c : Code} {G : GG} {A : Nat → Prop} {ad : Nat → Nat} {S : ST} {N : Nat} {r : Int32} {dy' : DY}
set_option maxHeartbeats 4000000 in
set_option maxRecDepth 100000 in
theorem B_X9_arrivals_10 (C : CX p s m args c cX9_arrivals 4 RX9 G A) (HR : meth.sig.returnType = (Option.some Jvm.ClassFile.FieldType.int)) (HL : meth.locks = false) (hG : Good S) : ∀ k : Nat, ∀ (x0 : Nat) (x2 : Int32) (x3 : Int32) (dy : DY), gs S x0 = (0, 9) → (F_X9_arrivals_10 S N k) x0 x2 x3 dy = some (r, dy') → WJ p l e (rmD (6)) s m args below meth c 4 G A 0 0 (MQ below (QI G ad A S r dy') args s 0 0 A) ad 10 [(0, .ref (ad x0)), (2, .int x2), (3, .int x3)] [] S dy := by
  intro k
  induction k with
  | zero => exact fun _ _ _ _ _ E => nomatch (show none = some (r, dy') from E)
  | succ k ih =>
    intro x0 x2 x3 dy Tx0 E
    rw [F_X9_arrivals_10_s] at E
    refine ww_iload_n C dX9_arrivals_10 rfl 2 rfl ?_
    refine ww_iload_n C dX9_arrivals_11 rfl 1 rfl ?_
    refine ww_icmp_ge (tgt := 46) C dX9_arrivals_12 (by decide) E (fun _ E => ?_) (fun _ E => ?_)
    · refine ww_aload_n C dX9_arrivals_46 rfl 0 rfl ?_
      have T_1 : gs S (gr S x0 6) = (0, 8) := hG.1 _ 9 Tx0 6 (by decide)
      refine ww_getr (ci := 9) (k0 := 6) C dX9_arrivals_47 rfl rfl inm9 (by decide) Tx0 q530 rfl T_1 (by decide) ?_
      refine ww_geti (ci := 8) (k0 := 5) C dX9_arrivals_50 rfl rfl inm8 (by decide) T_1 q270 rfl ?_
      exact ww_iret C HR HL dX9_arrivals_53 E
    · refine ww_aload_n C dX9_arrivals_15 rfl 0 rfl ?_
      have T_2 : gs S (gr S x0 6) = (0, 8) := hG.1 _ 9 Tx0 6 (by decide)
      refine ww_getr (ci := 9) (k0 := 6) C dX9_arrivals_16 rfl rfl inm9 (by decide) Tx0 q530 rfl T_2 (by decide) ?_
      refine ww_geti (ci := 8) (k0 := 5) C dX9_arrivals_19 rfl rfl inm8 (by decide) T_2 q270 rfl ?_
      refine ww_aload_n C dX9_arrivals_22 rfl 0 rfl ?_
      have T_3 : gs S (gr S x0 4) = (0, 4) := hG.1 _ 9 Tx0 4 (by decide)
      refine ww_getr (ci := 9) (k0 := 4) C dX9_arrivals_23 rfl rfl inm9 (by decide) Tx0 q528 rfl T_3 (by decide) ?_
      refine ww_geti (ci := 4) (k0 := 3) C dX9_arrivals_26 rfl rfl inm4 (by decide) T_3 q164 rfl ?_
      refine ww_icmp_ge (tgt := 46) C dX9_arrivals_29 (by decide) E (fun _ E => ?_) (fun _ E => ?_)
      · refine ww_aload_n C dX9_arrivals_46 rfl 0 rfl ?_
        have T_4 : gs S (gr S x0 6) = (0, 8) := hG.1 _ 9 Tx0 6 (by decide)
        refine ww_getr (ci := 9) (k0 := 6) C dX9_arrivals_47 rfl rfl inm9 (by decide) Tx0 q530 rfl T_4 (by decide) ?_
        refine ww_geti (ci := 8) (k0 := 5) C dX9_arrivals_50 rfl rfl inm8 (by decide) T_4 q270 rfl ?_
        exact ww_iret C HR HL dX9_arrivals_53 E
      · refine ww_aload_n C dX9_arrivals_32 rfl 0 rfl ?_
        have T_5 : gs S (gr S x0 6) = (0, 8) := hG.1 _ 9 Tx0 6 (by decide)
        refine ww_getr (ci := 9) (k0 := 6) C dX9_arrivals_33 rfl rfl inm9 (by decide) Tx0 q530 rfl T_5 (by decide) ?_
        obtain ⟨u6, e_7, E⟩ := bind_of E
        refine ww_callI C (runs_V (n := 0) (st := []) C [] (M_X8_pass l G ad N hG (gr S x0 6) dy T_5 e_7) ⟨q923, q112, by decide⟩ q920 q921 q922 (ci := 8) rfl T_5 rfl (Nat.le_of_ble_eq_true rfl) ⟨Nat.le_of_ble_eq_true rfl, Nat.le_of_ble_eq_true rfl⟩ ⟨Nat.zero_le _, Nat.zero_le _⟩ dX9_arrivals_36 rfl) ?_
        refine ww_pop C dX9_arrivals_39 rfl ?_
        refine ww_iinc (v := (x3 + (1 : Int32))) (lv' := [(3, .int (x3 + (1 : Int32))), (0, .ref (ad x0)), (2, .int x2)]) C dX9_arrivals_40 2 rfl rfl (by decide) rfl ?_
        refine ww_goto (tgt := 10) C dX9_arrivals_43 (by decide) ?_
        refine ww_sub (lv' := [(0, .ref (ad x0)), (2, .int x2), (3, .int (x3 + (1 : Int32)))]) [1, 2, 0] rfl ?_
        exact ih x0 x2 (x3 + (1 : Int32)) u6.2 Tx0 E
end P_X9_arrivals
set_option maxHeartbeats 4000000 in
set_option maxRecDepth 100000 in
theorem M_X9_arrivals (l : Launch) (G : GG) (ad : Nat → Nat) {S : ST} (N : Nat) (hG : Good S) (a0 : Nat) (a1 : Int32) (a2 : Int32) (dy : DY) (T0 : gs S a0 = (0, 9)) {r : Int32} {dy' : DY} (E : F_X9_arrivals S N a0 a1 a2 dy = some (r, dy')) : MC l yX9_arrivals cX9_arrivals 4 (Option.some Jvm.ClassFile.FieldType.int) (6) G ad [.ref (ad a0), .int a1, .int a2] S dy (fun A => QI G ad A S r dy') := by
  rw [F_X9_arrivals_s] at E
  refine mc_of RX9 (by decide) rfl (Nat.le_of_ble_eq_true rfl) (fun p e s m args below meth c A C HR HL => ?_)
  refine ww_sub (lv' := [(0, .ref (ad a0)), (1, .int a1), (2, .int a2)]) [0, 1, 2] rfl ?_
  refine ww_aload_n C dX9_arrivals_0 rfl 0 rfl ?_
  have T_1 : gs S (gr S a0 6) = (0, 8) := hG.1 _ 9 T0 6 (by decide)
  refine ww_getr (ci := 9) (k0 := 6) C dX9_arrivals_1 rfl rfl inm9 (by decide) T0 q530 rfl T_1 (by decide) ?_
  refine ww_iload_n C dX9_arrivals_4 rfl 1 rfl ?_
  obtain ⟨u2, e_3, E⟩ := bind_of E
  refine ww_callV C (runs_V (n := 1) (st := []) C [.int a1] (M_X8_begin l G ad N hG (gr S a0 6) a1 dy T_1 e_3) ⟨q907, q112, by decide⟩ q904 q905 q906 (ci := 8) rfl T_1 rfl (Nat.le_of_ble_eq_true rfl) ⟨Nat.le_of_ble_eq_true rfl, Nat.le_of_ble_eq_true rfl⟩ ⟨Nat.zero_le _, Nat.zero_le _⟩ dX9_arrivals_5 rfl) ?_
  refine ww_iconst (v := 0) C dX9_arrivals_8 (by decide) ?_
  refine ww_istore_n (lv' := [(3, .int (0 : Int32)), (0, .ref (ad a0)), (1, .int a1), (2, .int a2)]) C dX9_arrivals_9 rfl (by decide) rfl ?_
  refine ww_sub (lv' := [(0, .ref (ad a0)), (2, .int a2), (3, .int (0 : Int32))]) [1, 3, 0] rfl ?_
  exact (B_X9_arrivals_10 C HR HL hG N) a0 a2 (0 : Int32) u2 T0 E
section P_X9_bestChange
variable {p : Program} {l : Launch} {e : Env} {s : State} {m : MethodId} {args : Array Value} {below : List Frame} {meth : Method} {c : Code} {G : GG} {A : Nat → Prop} {ad : Nat → Nat} {S : ST} {N : Nat} {r : Int32} {dy' : DY}
set_option maxHeartbeats 4000000 in
set_option maxRecDepth 100000 in
theorem B_X9_bestChange_152 (C : CX p s m args c cX9_bestChange 10 RX9 G A) (HR : meth.sig.returnType = (Option.some Jvm.ClassFile.FieldType.int)) (HL : meth.locks = false) (hG : Good S) {K41 : Nat → Int32 → Int32 → Int32 → Int32 → Int32 → Int32 → Int32 → DY → Option (Int32 × DY)} (hK41 : ∀ (x0 : Nat) (x1 : Int32) (x2 : Int32) (x3 : Int32) (x4 : Int32) (x5 : Int32) (x6 : Int32) (x7 : Int32) (dy : DY), gs S x0 = (0, 9) → K41 x0 x1 x2 x3 x4 x5 x6 x7 dy = some (r, dy') → WJ p l e (rmD (7)) s m args below meth c 10 G A 0 0 (MQ below (QI G ad A S r dy') args s 0 0 A) ad 41 [(0, .ref (ad x0)), (1, .int x1), (2, .int x2), (3, .int x3), (4, .int x4), (5, .int x5), (6, .int x6), (7, .int x7)] [] S dy) : ∀ (x0 : Nat) (x1 : Int32) (x2 : Int32) (x3 : Int32) (x4 : Int32) (x5 : Int32) (x6 : Int32) (x7 : Int32) (x9 : Int32) (y0 : Nat) (y1 : Int32) (y2 : Int32) (y3 : Int32) (dy : DY), gs S x0 = (0, 9) → gs S y0 = (0, 4) → F_X9_bestChange_152 S N K41 x0 x1 x2 x3 x4 x5 x6 x7 x9 y0 y1 y2 y3 dy = some (r, dy') → WJ p l e (rmD (7)) s m args below meth c 10 G A 0 0 (MQ below (QI G ad A S r dy') args s 0 0 A) ad 152 [(0, .ref (ad x0)), (1, .int x1), (2, .int x2), (3, .int x3), (4, .int x4), (5, .int x5), (6, .int x6), (7, .int x7), (9, .int x9)] [.int y3, .int y2, .int y1, .ref (ad y0)] S dy := by
  intro x0 x1 x2 x3 x4 x5 x6 x7 x9 y0 y1 y2 y3 dy Tx0 Ty0 E
  rw [F_X9_bestChange_152_s] at E
  obtain ⟨u1, e_2, E⟩ := bind_of E
  refine ww_callV C (runs_V (n := 3) (st := []) C [.int y1, .int y2, .int y3] (M_X4_setWall l G ad N hG y0 y1 y2 y3 dy Ty0 e_2) ⟨q735, q110, by decide⟩ q1126 q733 q734 (ci := 4) rfl Ty0 rfl (Nat.le_of_ble_eq_true rfl) ⟨Nat.le_of_ble_eq_true rfl, Nat.le_of_ble_eq_true rfl⟩ ⟨Nat.zero_le _, Nat.zero_le _⟩ dX9_bestChange_152 rfl) ?_
  refine ww_iload C dX9_bestChange_155 8 rfl ?_
  refine ww_iload C dX9_bestChange_157 4 rfl ?_
  refine ww_icmp_le (tgt := 176) C dX9_bestChange_159 (by decide) E (fun _ E => ?_) (fun _ E => ?_)
  · refine ww_iinc (v := (x7 + (1 : Int32))) (lv' := [(7, .int (x7 + (1 : Int32))), (0, .ref (ad x0)), (1, .int x1), (2, .int x2), (3, .int x3), (4, .int x4), (5, .int x5), (6, .int x6), (9, .int x9)]) C dX9_bestChange_176 7 rfl rfl (by decide) rfl ?_
    refine ww_goto (tgt := 41) C dX9_bestChange_179 (by decide) ?_
    refine ww_sub (lv' := [(0, .ref (ad x0)), (1, .int x1), (2, .int x2), (3, .int x3), (4, .int x4), (5, .int x5), (6, .int x6), (7, .int (x7 + (1 : Int32)))]) [1, 2, 3, 4, 5, 6, 7, 0] rfl ?_
    exact hK41 x0 x1 x2 x3 x4 x5 x6 (x7 + (1 : Int32)) u1 Tx0 E
  · refine ww_iload C dX9_bestChange_162 8 rfl ?_
    refine ww_istore (lv' := [(4, .int x9), (0, .ref (ad x0)), (1, .int x1), (2, .int x2), (3, .int x3), (5, .int x5), (6, .int x6), (7, .int x7), (9, .int x9)]) C dX9_bestChange_164 (by decide) rfl ?_
    refine ww_bipush (v := 100) C dX9_bestChange_166 (by decide) ?_
    refine ww_iload C dX9_bestChange_168 6 rfl ?_
    refine ww_imul C dX9_bestChange_170 ?_
    refine ww_iload C dX9_bestChange_171 7 rfl ?_
    refine ww_iadd C dX9_bestChange_173 ?_
    refine ww_istore (lv' := [(5, .int (((100 : Int32) * x6) + x7)), (4, .int x9), (0, .ref (ad x0)), (1, .int x1), (2, .int x2), (3, .int x3), (6, .int x6), (7, .int x7), (9, .int x9)]) C dX9_bestChange_174 (by decide) rfl ?_
    refine ww_iinc (v := (x7 + (1 : Int32))) (lv' := [(7, .int (x7 + (1 : Int32))), (5, .int (((100 : Int32) * x6) + x7)), (4, .int x9), (0, .ref (ad x0)), (1, .int x1), (2, .int x2), (3, .int x3), (6, .int x6), (9, .int x9)]) C dX9_bestChange_176 7 rfl rfl (by decide) rfl ?_
    refine ww_goto (tgt := 41) C dX9_bestChange_179 (by decide) ?_
    refine ww_sub (lv' := [(0, .ref (ad x0)), (1, .int x1), (2, .int x2), (3, .int x3), (4, .int x9), (5, .int (((100 : Int32) * x6) + x7)), (6, .int x6), (7, .int (x7 + (1 : Int32)))]) [3, 4, 5, 6, 2, 1, 7, 0] rfl ?_
    exact hK41 x0 x1 x2 x3 x9 (((100 : Int32) * x6) + x7) x6 (x7 + (1 : Int32)) u1 Tx0 E
set_option maxHeartbeats 4000000 in
set_option maxRecDepth 100000 in
theorem B_X9_bestChange_115 (C : CX p s m args c cX9_bestChange 10 RX9 G A) (HR : meth.sig.returnType = (Option.some Jvm.ClassFile.FieldType.int)) (HL : meth.locks = false) (hG : Good S) {K41 : Nat → Int32 → Int32 → Int32 → Int32 → Int32 → Int32 → Int32 → DY → Option (Int32 × DY)} (hK41 : ∀ (x0 : Nat) (x1 : Int32) (x2 : Int32) (x3 : Int32) (x4 : Int32) (x5 : Int32) (x6 : Int32) (x7 : Int32) (dy : DY), gs S x0 = (0, 9) → K41 x0 x1 x2 x3 x4 x5 x6 x7 dy = some (r, dy') → WJ p l e (rmD (7)) s m args below meth c 10 G A 0 0 (MQ below (QI G ad A S r dy') args s 0 0 A) ad 41 [(0, .ref (ad x0)), (1, .int x1), (2, .int x2), (3, .int x3), (4, .int x4), (5, .int x5), (6, .int x6), (7, .int x7)] [] S dy) : ∀ (x0 : Nat) (x1 : Int32) (x2 : Int32) (x3 : Int32) (x4 : Int32) (x5 : Int32) (x6 : Int32) (x7 : Int32) (dy : DY), gs S x0 = (0, 9) → F_X9_bestChange_115 S N K41 x0 x1 x2 x3 x4 x5 x6 x7 dy = some (r, dy') → WJ p l e (rmD (7)) s m args below meth c 10 G A 0 0 (MQ below (QI G ad A S r dy') args s 0 0 A) ad 115 [(0, .ref (ad x0)), (1, .int x1), (2, .int x2), (3, .int x3), (4, .int x4), (5, .int x5), (6, .int x6), (7, .int x7)] [] S dy := by
  intro x0 x1 x2 x3 x4 x5 x6 x7 dy Tx0 E
  rw [F_X9_bestChange_115_s] at E
  refine ww_aload_n C dX9_bestChange_115 rfl 0 rfl ?_
  have T_1 : gs S (gr S x0 4) = (0, 4) := hG.1 _ 9 Tx0 4 (by decide)
  refine ww_getr (ci := 9) (k0 := 4) C dX9_bestChange_116 rfl rfl inm9 (by decide) Tx0 q528 rfl T_1 (by decide) ?_
  refine ww_iload C dX9_bestChange_119 6 rfl ?_
  refine ww_iload C dX9_bestChange_121 7 rfl ?_
  refine ww_iload_n C dX9_bestChange_123 rfl 3 rfl ?_
  obtain ⟨u2, e_3, E⟩ := bind_of E
  refine ww_callV C (runs_V (n := 3) (st := []) C [.int x6, .int x7, .int x3] (M_X4_setWall l G ad N hG (gr S x0 4) x6 x7 x3 dy T_1 e_3) ⟨q735, q110, by decide⟩ q1126 q733 q734 (ci := 4) rfl T_1 rfl (Nat.le_of_ble_eq_true rfl) ⟨Nat.le_of_ble_eq_true rfl, Nat.le_of_ble_eq_true rfl⟩ ⟨Nat.zero_le _, Nat.zero_le _⟩ dX9_bestChange_124 rfl) ?_
  refine ww_aload_n C dX9_bestChange_127 rfl 0 rfl ?_
  refine ww_iload_n C dX9_bestChange_128 rfl 1 rfl ?_
  refine ww_iload_n C dX9_bestChange_129 rfl 2 rfl ?_
  obtain ⟨u4, e_5, E⟩ := bind_of E
  refine ww_callI C (runs_V (n := 2) (st := []) C [.int x1, .int x2] (M_X9_arrivals l G ad N hG x0 x1 x2 u2 Tx0 e_5) ⟨q1116, q108, by decide⟩ q1113 q1115 q32 (ci := 9) rfl Tx0 rfl (Nat.le_of_ble_eq_true rfl) ⟨Nat.le_of_ble_eq_true rfl, Nat.le_of_ble_eq_true rfl⟩ ⟨Nat.zero_le _, Nat.zero_le _⟩ dX9_bestChange_130 rfl) ?_
  refine ww_istore (lv' := [(9, .int u4.1), (0, .ref (ad x0)), (1, .int x1), (2, .int x2), (3, .int x3), (4, .int x4), (5, .int x5), (6, .int x6), (7, .int x7)]) C dX9_bestChange_133 (by decide) rfl ?_
  refine ww_aload_n C dX9_bestChange_135 rfl 1 rfl ?_
  have T_6 : gs S (gr S x0 4) = (0, 4) := hG.1 _ 9 Tx0 4 (by decide)
  refine ww_getr (ci := 9) (k0 := 4) C dX9_bestChange_136 rfl rfl inm9 (by decide) Tx0 q528 rfl T_6 (by decide) ?_
  refine ww_iload C dX9_bestChange_139 7 rfl ?_
  refine ww_iload C dX9_bestChange_141 8 rfl ?_
  refine ww_iload_n C dX9_bestChange_143 rfl 4 rfl ?_
  refine ww_if_ne (tgt := 151) C dX9_bestChange_144 (by decide) E (fun _ E => ?_) (fun _ E => ?_)
  · refine ww_iconst (v := 0) C dX9_bestChange_151 (by decide) ?_
    refine ww_sub (lv' := [(0, .ref (ad x0)), (1, .int x1), (2, .int x2), (3, .int x3), (4, .int x4), (5, .int x5), (6, .int x6), (7, .int x7), (9, .int u4.1)]) [1, 2, 3, 4, 5, 6, 7, 8, 0] rfl ?_
    exact (B_X9_bestChange_152 C HR HL hG hK41) x0 x1 x2 x3 x4 x5 x6 x7 u4.1 (gr S x0 4) x6 x7 (0 : Int32) u4.2 Tx0 T_6 E
  · refine ww_iconst (v := 1) C dX9_bestChange_147 (by decide) ?_
    refine ww_goto (tgt := 152) C dX9_bestChange_148 (by decide) ?_
    refine ww_sub (lv' := [(0, .ref (ad x0)), (1, .int x1), (2, .int x2), (3, .int x3), (4, .int x4), (5, .int x5), (6, .int x6), (7, .int x7), (9, .int u4.1)]) [1, 2, 3, 4, 5, 6, 7, 8, 0] rfl ?_
    exact (B_X9_bestChange_152 C HR HL hG hK41) x0 x1 x2 x3 x4 x5 x6 x7 u4.1 (gr S x0 4) x6 x7 (1 : Int32) u4.2 Tx0 T_6 E
set_option maxHeartbeats 4000000 in
set_option maxRecDepth 100000 in
theorem B_X9_bestChange_84 (C : CX p s m args c cX9_bestChange 10 RX9 G A) (HR : meth.sig.returnType = (Option.some Jvm.ClassFile.FieldType.int)) (HL : meth.locks = false) (hG : Good S) {K41 : Nat → Int32 → Int32 → Int32 → Int32 → Int32 → Int32 → Int32 → DY → Option (Int32 × DY)} (hK41 : ∀ (x0 : Nat) (x1 : Int32) (x2 : Int32) (x3 : Int32) (x4 : Int32) (x5 : Int32) (x6 : Int32) (x7 : Int32) (dy : DY), gs S x0 = (0, 9) → K41 x0 x1 x2 x3 x4 x5 x6 x7 dy = some (r, dy') → WJ p l e (rmD (7)) s m args below meth c 10 G A 0 0 (MQ below (QI G ad A S r dy') args s 0 0 A) ad 41 [(0, .ref (ad x0)), (1, .int x1), (2, .int x2), (3, .int x3), (4, .int x4), (5, .int x5), (6, .int x6), (7, .int x7)] [] S dy) : ∀ (x0 : Nat) (x1 : Int32) (x2 : Int32) (x3 : Int32) (x4 : Int32) (x5 : Int32) (x6 : Int32) (x7 : Int32) (y0 : Int32) (dy : DY), gs S x0 = (0, 9) → F_X9_bestChange_84 S N K41 x0 x1 x2 x3 x4 x5 x6 x7 y0 dy = some (r, dy') → WJ p l e (rmD (7)) s m args below meth c 10 G A 0 0 (MQ below (QI G ad A S r dy') args s 0 0 A) ad 84 [(0, .ref (ad x0)), (1, .int x1), (2, .int x2), (3, .int x3), (4, .int x4), (5, .int x5), (6, .int x6), (7, .int x7)] [.int y0] S dy := by
  intro x0 x1 x2 x3 x4 x5 x6 x7 y0 dy Tx0 E
  rw [F_X9_bestChange_84_s] at E
  refine ww_istore (lv' := [(8, .int y0), (0, .ref (ad x0)), (1, .int x1), (2, .int x2), (3, .int x3), (4, .int x4), (5, .int x5), (6, .int x6), (7, .int x7)]) C dX9_bestChange_84 (by decide) rfl ?_
  refine ww_iload_n C dX9_bestChange_86 rfl 4 rfl ?_
  refine ww_if_eq (tgt := 98) C dX9_bestChange_87 (by decide) E (fun _ E => ?_) (fun _ E => ?_)
  · refine ww_aload_n C dX9_bestChange_98 rfl 1 rfl ?_
    have T_1 : gs S (gr S x0 4) = (0, 4) := hG.1 _ 9 Tx0 4 (by decide)
    refine ww_getr (ci := 9) (k0 := 4) C dX9_bestChange_99 rfl rfl inm9 (by decide) Tx0 q528 rfl T_1 (by decide) ?_
    refine ww_iload C dX9_bestChange_102 7 rfl ?_
    refine ww_iload C dX9_bestChange_104 8 rfl ?_
    obtain ⟨u2, e_3, E⟩ := bind_of E
    refine ww_callI C (runs_V (n := 2) (st := []) C [.int x6, .int x7] (M_X4_isWall l G ad N hG (gr S x0 4) x6 x7 dy T_1 e_3) ⟨q727, q110, by decide⟩ q1027 q725 q726 (ci := 4) rfl T_1 rfl (Nat.le_of_ble_eq_true rfl) ⟨Nat.le_of_ble_eq_true rfl, Nat.le_of_ble_eq_true rfl⟩ ⟨Nat.zero_le _, Nat.zero_le _⟩ dX9_bestChange_106 rfl) ?_
    refine ww_if_ne (tgt := 115) C dX9_bestChange_109 (by decide) E (fun _ E => ?_) (fun _ E => ?_)
    · refine ww_sub (lv' := [(0, .ref (ad x0)), (1, .int x1), (2, .int x2), (3, .int x3), (4, .int x4), (5, .int x5), (6, .int x6), (7, .int x7)]) [1, 2, 3, 4, 5, 6, 7, 8] rfl ?_
      exact (B_X9_bestChange_115 C HR HL hG hK41) x0 x1 x2 x3 x4 x5 x6 x7 u2.2 Tx0 E
    · refine ww_goto (tgt := 176) C dX9_bestChange_112 (by decide) ?_
      refine ww_iinc (v := (x7 + (1 : Int32))) (lv' := [(7, .int (x7 + (1 : Int32))), (8, .int y0), (0, .ref (ad x0)), (1, .int x1), (2, .int x2), (3, .int x3), (4, .int x4), (5, .int x5), (6, .int x6)]) C dX9_bestChange_176 8 rfl rfl (by decide) rfl ?_
      refine ww_goto (tgt := 41) C dX9_bestChange_179 (by decide) ?_
      refine ww_sub (lv' := [(0, .ref (ad x0)), (1, .int x1), (2, .int x2), (3, .int x3), (4, .int x4), (5, .int x5), (6, .int x6), (7, .int (x7 + (1 : Int32)))]) [2, 3, 4, 5, 6, 7, 8, 0] rfl ?_
      exact hK41 x0 x1 x2 x3 x4 x5 x6 (x7 + (1 : Int32)) u2.2 Tx0 E
  · refine ww_iload C dX9_bestChange_90 0 rfl ?_
    refine ww_if_ne (tgt := 115) C dX9_bestChange_92 (by decide) E (fun _ E => ?_) (fun _ E => ?_)
    · refine ww_sub (lv' := [(0, .ref (ad x0)), (1, .int x1), (2, .int x2), (3, .int x3), (4, .int x4), (5, .int x5), (6, .int x6), (7, .int x7)]) [1, 2, 3, 4, 5, 6, 7, 8] rfl ?_
      exact (B_X9_bestChange_115 C HR HL hG hK41) x0 x1 x2 x3 x4 x5 x6 x7 dy Tx0 E
    · refine ww_goto (tgt := 176) C dX9_bestChange_95 (by decide) ?_
      refine ww_iinc (v := (x7 + (1 : Int32))) (lv' := [(7, .int (x7 + (1 : Int32))), (8, .int y0), (0, .ref (ad x0)), (1, .int x1), (2, .int x2), (3, .int x3), (4, .int x4), (5, .int x5), (6, .int x6)]) C dX9_bestChange_176 8 rfl rfl (by decide) rfl ?_
      refine ww_goto (tgt := 41) C dX9_bestChange_179 (by decide) ?_
      refine ww_sub (lv' := [(0, .ref (ad x0)), (1, .int x1), (2, .int x2), (3, .int x3), (4, .int x4), (5, .int x5), (6, .int x6), (7, .int (x7 + (1 : Int32)))]) [2, 3, 4, 5, 6, 7, 8, 0] rfl ?_
      exact hK41 x0 x1 x2 x3 x4 x5 x6 (x7 + (1 : Int32)) dy Tx0 E
set_option maxHeartbeats 4000000 in
set_option maxRecDepth 100000 in
theorem B_X9_bestChange_41 (C : CX p s m args c cX9_bestChange 10 RX9 G A) (HR : meth.sig.returnType = (Option.some Jvm.ClassFile.FieldType.int)) (HL : meth.locks = false) (hG : Good S) {K14 : Nat → Int32 → Int32 → Int32 → Int32 → Int32 → Int32 → DY → Option (Int32 × DY)} (hK14 : ∀ (x0 : Nat) (x1 : Int32) (x2 : Int32) (x3 : Int32) (x4 : Int32) (x5 : Int32) (x6 : Int32) (dy : DY), gs S x0 = (0, 9) → K14 x0 x1 x2 x3 x4 x5 x6 dy = some (r, dy') → WJ p l e (rmD (7)) s m args below meth c 10 G A 0 0 (MQ below (QI G ad A S r dy') args s 0 0 A) ad 14 [(0, .ref (ad x0)), (1, .int x1), (2, .int x2), (3, .int x3), (4, .int x4), (5, .int x5), (6, .int x6)] [] S dy) : ∀ k : Nat, ∀ (x0 : Nat) (x1 : Int32) (x2 : Int32) (x3 : Int32) (x4 : Int32) (x5 : Int32) (x6 : Int32) (x7 : Int32) (dy : DY), gs S x0 = (0, 9) → (F_X9_bestChange_41 S N K14 k) x0 x1 x2 x3 x4 x5 x6 x7 dy = some (r, dy') → WJ p l e (rmD (7)) s m args below meth c 10 G A 0 0 (MQ below (QI G ad A S r dy') args s 0 0 A) ad 41 [(0, .ref (ad x0)), (1, .int x1), (2, .int x2), (3, .int x3), (4, .int x4), (5, .int x5), (6, .int x6), (7, .int x7)] [] S dy := by
  intro k
  induction k with
  | zero => exact fun _ _ _ _ _ _ _ _ _ _ E => nomatch (show none = some (r, dy') from E)
  | succ k ih =>
    intro x0 x1 x2 x3 x4 x5 x6 x7 dy Tx0 E
    rw [F_X9_bestChange_41_s] at E
    refine ww_iload C dX9_bestChange_41 7 rfl ?_
    refine ww_aload_n C dX9_bestChange_43 rfl 0 rfl ?_
    have T_1 : gs S (gr S x0 4) = (0, 4) := hG.1 _ 9 Tx0 4 (by decide)
    refine ww_getr (ci := 9) (k0 := 4) C dX9_bestChange_44 rfl rfl inm9 (by decide) Tx0 q528 rfl T_1 (by decide) ?_
    refine ww_geti (ci := 4) (k0 := 1) C dX9_bestChange_47 rfl rfl inm4 (by decide) T_1 q156 rfl ?_
    refine ww_icmp_ge (tgt := 182) C dX9_bestChange_50 (by decide) E (fun _ E => ?_) (fun _ E => ?_)
    · refine ww_iinc (v := (x6 + (1 : Int32))) (lv' := [(6, .int (x6 + (1 : Int32))), (0, .ref (ad x0)), (1, .int x1), (2, .int x2), (3, .int x3), (4, .int x4), (5, .int x5), (7, .int x7)]) C dX9_bestChange_182 6 rfl rfl (by decide) rfl ?_
      refine ww_goto (tgt := 14) C dX9_bestChange_185 (by decide) ?_
      refine ww_sub (lv' := [(0, .ref (ad x0)), (1, .int x1), (2, .int x2), (3, .int x3), (4, .int x4), (5, .int x5), (6, .int (x6 + (1 : Int32)))]) [1, 2, 3, 4, 5, 6, 0] rfl ?_
      exact hK14 x0 x1 x2 x3 x4 x5 (x6 + (1 : Int32)) dy Tx0 E
    · refine ww_iload C dX9_bestChange_53 4 rfl ?_
      refine ww_aload_n C dX9_bestChange_55 rfl 0 rfl ?_
      have T_2 : gs S (gr S x0 4) = (0, 4) := hG.1 _ 9 Tx0 4 (by decide)
      refine ww_getr (ci := 9) (k0 := 4) C dX9_bestChange_56 rfl rfl inm9 (by decide) Tx0 q528 rfl T_2 (by decide) ?_
      refine ww_geti (ci := 4) (k0 := 3) C dX9_bestChange_59 rfl rfl inm4 (by decide) T_2 q164 rfl ?_
      refine ww_icmp_ge (tgt := 182) C dX9_bestChange_62 (by decide) E (fun _ E => ?_) (fun _ E => ?_)
      · refine ww_iinc (v := (x6 + (1 : Int32))) (lv' := [(6, .int (x6 + (1 : Int32))), (0, .ref (ad x0)), (1, .int x1), (2, .int x2), (3, .int x3), (4, .int x4), (5, .int x5), (7, .int x7)]) C dX9_bestChange_182 6 rfl rfl (by decide) rfl ?_
        refine ww_goto (tgt := 14) C dX9_bestChange_185 (by decide) ?_
        refine ww_sub (lv' := [(0, .ref (ad x0)), (1, .int x1), (2, .int x2), (3, .int x3), (4, .int x4), (5, .int x5), (6, .int (x6 + (1 : Int32)))]) [1, 2, 3, 4, 5, 6, 0] rfl ?_
        exact hK14 x0 x1 x2 x3 x4 x5 (x6 + (1 : Int32)) dy Tx0 E
      · refine ww_aload_n C dX9_bestChange_65 rfl 0 rfl ?_
        have T_3 : gs S (gr S x0 4) = (0, 4) := hG.1 _ 9 Tx0 4 (by decide)
        refine ww_getr (ci := 9) (k0 := 4) C dX9_bestChange_66 rfl rfl inm9 (by decide) Tx0 q528 rfl T_3 (by decide) ?_
        refine ww_iload C dX9_bestChange_69 6 rfl ?_
        refine ww_iload C dX9_bestChange_71 7 rfl ?_
        obtain ⟨u4, e_5, E⟩ := bind_of E
        refine ww_callI C (runs_V (n := 2) (st := []) C [.int x6, .int x7] (M_X4_isTaken l G ad N hG (gr S x0 4) x6 x7 dy T_3 e_5) ⟨q723, q110, by decide⟩ q1125 q721 q722 (ci := 4) rfl T_3 rfl (Nat.le_of_ble_eq_true rfl) ⟨Nat.le_of_ble_eq_true rfl, Nat.le_of_ble_eq_true rfl⟩ ⟨Nat.zero_le _, Nat.zero_le _⟩ dX9_bestChange_73 rfl) ?_
        refine ww_if_ne (tgt := 83) C dX9_bestChange_76 (by decide) E (fun _ E => ?_) (fun _ E => ?_)
        · refine ww_iconst (v := 0) C dX9_bestChange_83 (by decide) ?_
          refine ww_sub (lv' := [(0, .ref (ad x0)), (1, .int x1), (2, .int x2), (3, .int x3), (4, .int x4), (5, .int x5), (6, .int x6), (7, .int x7)]) [0, 1, 2, 3, 4, 5, 6, 7] rfl ?_
          exact (B_X9_bestChange_84 C HR HL hG ih) x0 x1 x2 x3 x4 x5 x6 x7 (0 : Int32) u4.2 Tx0 E
        · refine ww_iconst (v := 1) C dX9_bestChange_79 (by decide) ?_
          refine ww_goto (tgt := 84) C dX9_bestChange_80 (by decide) ?_
          refine ww_sub (lv' := [(0, .ref (ad x0)), (1, .int x1), (2, .int x2), (3, .int x3), (4, .int x4), (5, .int x5), (6, .int x6), (7, .int x7)]) [0, 1, 2, 3, 4, 5, 6, 7] rfl ?_
          exact (B_X9_bestChange_84 C HR HL hG ih) x0 x1 x2 x3 x4 x5 x6 x7 (1 : Int32) u4.2 Tx0 E
set_option maxHeartbeats 4000000 in
set_option maxRecDepth 100000 in
theorem B_X9_bestChange_14 (C : CX p s m args c cX9_bestChange 10 RX9 G A) (HR : meth.sig.returnType = (Option.some Jvm.ClassFile.FieldType.int)) (HL : meth.locks = false) (hG : Good S) : ∀ k : Nat, ∀ (x0 : Nat) (x1 : Int32) (x2 : Int32) (x3 : Int32) (x4 : Int32) (x5 : Int32) (x6 : Int32) (dy : DY), gs S x0 = (0, 9) → (F_X9_bestChange_14 S N k) x0 x1 x2 x3 x4 x5 x6 dy = some (r, dy') → WJ p l e (rmD (7)) s m args below meth c 10 G A 0 0 (MQ below (QI G ad A S r dy') args s 0 0 A) ad 14 [(0, .ref (ad x0)), (1, .int x1), (2, .int x2), (3, .int x3), (4, .int x4), (5, .int x5), (6, .int x6)] [] S dy := by
  intro k
  induction k with
  | zero => exact fun _ _ _ _ _ _ _ _ _ E => nomatch (show none = some (r, dy') from E)
  | succ k ih =>
    intro x0 x1 x2 x3 x4 x5 x6 dy Tx0 E
    rw [F_X9_bestChange_14_s] at E
    refine ww_iload C dX9_bestChange_14 6 rfl ?_
    refine ww_aload_n C dX9_bestChange_16 rfl 0 rfl ?_
    have T_1 : gs S (gr S x0 4) = (0, 4) := hG.1 _ 9 Tx0 4 (by decide)
    refine ww_getr (ci := 9) (k0 := 4) C dX9_bestChange_17 rfl rfl inm9 (by decide) Tx0 q528 rfl T_1 (by decide) ?_
    refine ww_geti (ci := 4) (k0 := 0) C dX9_bestChange_20 rfl rfl inm4 (by decide) T_1 q152 rfl ?_
    refine ww_icmp_ge (tgt := 188) C dX9_bestChange_23 (by decide) E (fun _ E => ?_) (fun _ E => ?_)
    · refine ww_iload C dX9_bestChange_188 5 rfl ?_
      exact ww_iret C HR HL dX9_bestChange_190 E
    · refine ww_iload C dX9_bestChange_26 4 rfl ?_
      refine ww_aload_n C dX9_bestChange_28 rfl 0 rfl ?_
      have T_2 : gs S (gr S x0 4) = (0, 4) := hG.1 _ 9 Tx0 4 (by decide)
      refine ww_getr (ci := 9) (k0 := 4) C dX9_bestChange_29 rfl rfl inm9 (by decide) Tx0 q528 rfl T_2 (by decide) ?_
      refine ww_geti (ci := 4) (k0 := 3) C dX9_bestChange_32 rfl rfl inm4 (by decide) T_2 q164 rfl ?_
      refine ww_icmp_ge (tgt := 188) C dX9_bestChange_35 (by decide) E (fun _ E => ?_) (fun _ E => ?_)
      · refine ww_iload C dX9_bestChange_188 5 rfl ?_
        exact ww_iret C HR HL dX9_bestChange_190 E
      · refine ww_iconst (v := 0) C dX9_bestChange_38 (by decide) ?_
        refine ww_istore (lv' := [(7, .int (0 : Int32)), (0, .ref (ad x0)), (1, .int x1), (2, .int x2), (3, .int x3), (4, .int x4), (5, .int x5), (6, .int x6)]) C dX9_bestChange_39 (by decide) rfl ?_
        refine ww_sub (lv' := [(0, .ref (ad x0)), (1, .int x1), (2, .int x2), (3, .int x3), (4, .int x4), (5, .int x5), (6, .int x6), (7, .int (0 : Int32))]) [1, 2, 3, 4, 5, 6, 7, 0] rfl ?_
        exact (B_X9_bestChange_41 C HR HL hG ih N) x0 x1 x2 x3 x4 x5 x6 (0 : Int32) dy Tx0 E
end P_X9_bestChange
set_option maxHeartbeats 4000000 in
set_option maxRecDepth 100000 in
theorem M_X9_bestChange (l : Launch) (G : GG) (ad : Nat → Nat) {S : ST} (N : Nat) (hG : Good S) (a0 : Nat) (a1 : Int32) (a2 : Int32) (a3 : Int32) (dy : DY) (T0 : gs S a0 = (0, 9)) {r : Int32} {dy' : DY} (E : F_X9_bestChange S N a0 a1 a2 a3 dy = some (r, dy')) : MC l yX9_bestChange cX9_bestChange 10 (Option.some Jvm.ClassFile.FieldType.int) (7) G ad [.ref (ad a0), .int a1, .int a2, .int a3] S dy (fun A => QI G ad A S r dy') := by
  rw [F_X9_bestChange_s] at E
  refine mc_of RX9 (by decide) rfl (Nat.le_of_ble_eq_true rfl) (fun p e s m args below meth c A C HR HL => ?_)
  refine ww_sub (lv' := [(0, .ref (ad a0)), (1, .int a1), (2, .int a2), (3, .int a3)]) [0, 1, 2, 3] rfl ?_
  refine ww_aload_n C dX9_bestChange_0 rfl 0 rfl ?_
  refine ww_iload_n C dX9_bestChange_1 rfl 1 rfl ?_
  refine ww_iload_n C dX9_bestChange_2 rfl 2 rfl ?_
  obtain ⟨u1, e_2, E⟩ := bind_of E
  refine ww_callI C (runs_V (n := 2) (st := []) C [.int a1, .int a2] (M_X9_arrivals l G ad N hG a0 a1 a2 dy T0 e_2) ⟨q1116, q108, by decide⟩ q1113 q1115 q32 (ci := 9) rfl T0 rfl (Nat.le_of_ble_eq_true rfl) ⟨Nat.le_of_ble_eq_true rfl, Nat.le_of_ble_eq_true rfl⟩ ⟨Nat.zero_le _, Nat.zero_le _⟩ dX9_bestChange_3 rfl) ?_
  refine ww_istore (lv' := [(4, .int u1.1), (0, .ref (ad a0)), (1, .int a1), (2, .int a2), (3, .int a3)]) C dX9_bestChange_6 (by decide) rfl ?_
  refine ww_iconst (v := (-1)) C dX9_bestChange_8 (by decide) ?_
  refine ww_istore (lv' := [(5, .int (-1 : Int32)), (4, .int u1.1), (0, .ref (ad a0)), (1, .int a1), (2, .int a2), (3, .int a3)]) C dX9_bestChange_9 (by decide) rfl ?_
  refine ww_iconst (v := 0) C dX9_bestChange_11 (by decide) ?_
  refine ww_istore (lv' := [(6, .int (0 : Int32)), (5, .int (-1 : Int32)), (4, .int u1.1), (0, .ref (ad a0)), (1, .int a1), (2, .int a2), (3, .int a3)]) C dX9_bestChange_12 (by decide) rfl ?_
  refine ww_sub (lv' := [(0, .ref (ad a0)), (1, .int a1), (2, .int a2), (3, .int a3), (4, .int u1.1), (5, .int (-1 : Int32)), (6, .int (0 : Int32))]) [3, 4, 5, 6, 2, 1, 0] rfl ?_
  exact (B_X9_bestChange_14 C HR HL hG N) a0 a1 a2 a3 u1.1 (-1 : Int32) (0 : Int32) u1.2 T0 E
section P_X9_isTime
variable {p : Program} {l : Launch} {e : Env} {s : State} {m : MethodId} {args : Array Value} {below : List Frame} {meth : Method} {c : Code} {G : GG} {A : Nat → Prop} {ad : Nat → Nat} {S : ST} {N : Nat} {r : Int32} {dy' : DY}
end P_X9_isTime
set_option maxHeartbeats 4000000 in
set_option maxRecDepth 100000 in
theorem M_X9_isTime (l : Launch) (G : GG) (ad : Nat → Nat) {S : ST} (N : Nat) (hG : Good S) (a0 : Int32) (a1 : Int32) (dy : DY) {r : Int32} {dy' : DY} (E : F_X9_isTime S N a0 a1 dy = some (r, dy')) : MC l yX9_isTime cX9_isTime 2 (Option.some Jvm.ClassFile.FieldType.boolean) (1) G ad [.int a0, .int a1] S dy (fun A => QI G ad A S r dy') := by
  rw [F_X9_isTime_s] at E
  refine mc_of RX9 (by decide) rfl (Nat.le_of_ble_eq_true rfl) (fun p e s m args below meth c A C HR HL => ?_)
  refine ww_sub (lv' := [(0, .int a0), (1, .int a1)]) [0, 1] rfl ?_
  refine ww_iload_n C dX9_isTime_0 rfl 0 rfl ?_
  refine ww_iconst (v := 1) C dX9_isTime_1 (by decide) ?_
  refine ww_icmp_lt (tgt := 14) C dX9_isTime_2 (by decide) E (fun _ E => ?_) (fun _ E => ?_)
  · refine ww_iconst (v := 0) C dX9_isTime_14 (by decide) ?_
    exact ww_zret C HR HL dX9_isTime_15 (Or.inl rfl) E
  · refine ww_iload_n C dX9_isTime_5 rfl 0 rfl ?_
    refine ww_iload_n C dX9_isTime_6 rfl 1 rfl ?_
    refine ww_icmp_gt (tgt := 14) C dX9_isTime_7 (by decide) E (fun _ E => ?_) (fun _ E => ?_)
    · refine ww_iconst (v := 0) C dX9_isTime_14 (by decide) ?_
      exact ww_zret C HR HL dX9_isTime_15 (Or.inl rfl) E
    · refine ww_iconst (v := 1) C dX9_isTime_10 (by decide) ?_
      refine ww_goto (tgt := 15) C dX9_isTime_11 (by decide) ?_
      exact ww_zret C HR HL dX9_isTime_15 (Or.inr rfl) E
section P_X9_prepare
variable {p : Program} {l : Launch} {e : Env} {s : State} {m : MethodId} {args : Array Value} {below : List Frame} {meth : Method} {c : Code} {G : GG} {A : Nat → Prop} {ad : Nat → Nat} {S : ST} {N : Nat} {r : Int32} {dy' : DY}
end P_X9_prepare
set_option maxHeartbeats 4000000 in
set_option maxRecDepth 100000 in
theorem M_X9_prepare (l : Launch) (G : GG) (ad : Nat → Nat) {S : ST} (N : Nat) (hG : Good S) (a0 : Nat) (a1 : Int32) (a2 : Int32) (dy : DY) (T0 : gs S a0 = (0, 9)) {r : Int32} {dy' : DY} (E : F_X9_prepare S N a0 a1 a2 dy = some (r, dy')) : MC l yX9_prepare cX9_prepare 5 (Option.some Jvm.ClassFile.FieldType.boolean) (2) G ad [.ref (ad a0), .int a1, .int a2] S dy (fun A => QI G ad A S r dy') := by
  rw [F_X9_prepare_s] at E
  refine mc_of RX9 (by decide) rfl (Nat.le_of_ble_eq_true rfl) (fun p e s m args below meth c A C HR HL => ?_)
  refine ww_sub (lv' := [(0, .ref (ad a0)), (1, .int a1), (2, .int a2)]) [0, 1, 2] rfl ?_
  refine ww_aload_n C dX9_prepare_0 rfl 0 rfl ?_
  have T_1 : gs S (gr S a0 0) = (0, 7) := hG.1 _ 9 T0 0 (by decide)
  refine ww_getr (ci := 9) (k0 := 0) C dX9_prepare_1 rfl rfl inm9 (by decide) T0 q524 rfl T_1 (by decide) ?_
  refine ww_iload_n C dX9_prepare_4 rfl 1 rfl ?_
  obtain ⟨u2, e_3, E⟩ := bind_of E
  refine ww_callR C (runs_V (n := 1) (st := []) C [.int a1] (M_X7_passageOf l G ad N hG (gr S a0 0) a1 dy T_1 e_3) ⟨q884, q109, by decide⟩ q881 q882 q883 (ci := 7) rfl T_1 rfl (Nat.le_of_ble_eq_true rfl) ⟨Nat.le_of_ble_eq_true rfl, Nat.le_of_ble_eq_true rfl⟩ ⟨Nat.zero_le _, Nat.zero_le _⟩ dX9_prepare_5 rfl) ?_
  by_cases z_4 : u2.1 = 0
  · rw [if_pos z_4] at E
    rw [show rV ad u2.1 = .null by rw [z_4]; rfl]
    refine ww_astore_nN (lv' := [(3, .null), (0, .ref (ad a0)), (1, .int a1), (2, .int a2)]) C dX9_prepare_8 rfl (by decide) rfl ?_
    refine ww_aload_n C dX9_prepare_9 rfl 1 rfl ?_
    have T_6 : gs S (gr S a0 0) = (0, 7) := hG.1 _ 9 T0 0 (by decide)
    refine ww_getr (ci := 9) (k0 := 0) C dX9_prepare_10 rfl rfl inm9 (by decide) T0 q524 rfl T_6 (by decide) ?_
    refine ww_iload_n C dX9_prepare_13 rfl 3 rfl ?_
    obtain ⟨u7, e_8, E⟩ := bind_of E
    refine ww_callR C (runs_V (n := 1) (st := []) C [.int a2] (M_X7_lawOf l G ad N hG (gr S a0 0) a2 u2.2 T_6 e_8) ⟨q897, q109, by decide⟩ q894 q895 q896 (ci := 7) rfl T_6 rfl (Nat.le_of_ble_eq_true rfl) ⟨Nat.le_of_ble_eq_true rfl, Nat.le_of_ble_eq_true rfl⟩ ⟨Nat.zero_le _, Nat.zero_le _⟩ dX9_prepare_14 rfl) ?_
    by_cases z_9 : u7.1 = 0
    · rw [if_pos z_9] at E
      rw [show rV ad u7.1 = .null by rw [z_9]; rfl]
      refine ww_astoreN (lv' := [(4, .null), (3, .null), (0, .ref (ad a0)), (1, .int a1), (2, .int a2)]) C dX9_prepare_17 (by decide) rfl ?_
      refine ww_aload_nN C dX9_prepare_19 rfl 1 rfl ?_
      refine ww_ifnullT (tgt := 28) C dX9_prepare_20 (by decide) ?_
      refine ww_iconst (v := 0) C dX9_prepare_28 (by decide) ?_
      exact ww_zret C HR HL dX9_prepare_29 (Or.inl rfl) E
    rw [if_neg z_9] at E
    obtain ⟨T_10, E⟩ := gd_of E
    rw [rV_pos z_9]
    refine ww_astore (lv' := [(4, .ref (ad u7.1)), (3, .null), (0, .ref (ad a0)), (1, .int a1), (2, .int a2)]) C dX9_prepare_17 (by decide) rfl ?_
    refine ww_aload_nN C dX9_prepare_19 rfl 1 rfl ?_
    refine ww_ifnullT (tgt := 28) C dX9_prepare_20 (by decide) ?_
    refine ww_iconst (v := 0) C dX9_prepare_28 (by decide) ?_
    exact ww_zret C HR HL dX9_prepare_29 (Or.inl rfl) E
  rw [if_neg z_4] at E
  obtain ⟨T_5, E⟩ := gd_of E
  rw [rV_pos z_4]
  refine ww_astore_n (lv' := [(3, .ref (ad u2.1)), (0, .ref (ad a0)), (1, .int a1), (2, .int a2)]) C dX9_prepare_8 rfl (by decide) rfl ?_
  refine ww_aload_n C dX9_prepare_9 rfl 1 rfl ?_
  have T_11 : gs S (gr S a0 0) = (0, 7) := hG.1 _ 9 T0 0 (by decide)
  refine ww_getr (ci := 9) (k0 := 0) C dX9_prepare_10 rfl rfl inm9 (by decide) T0 q524 rfl T_11 (by decide) ?_
  refine ww_iload_n C dX9_prepare_13 rfl 3 rfl ?_
  obtain ⟨u12, e_13, E⟩ := bind_of E
  refine ww_callR C (runs_V (n := 1) (st := []) C [.int a2] (M_X7_lawOf l G ad N hG (gr S a0 0) a2 u2.2 T_11 e_13) ⟨q897, q109, by decide⟩ q894 q895 q896 (ci := 7) rfl T_11 rfl (Nat.le_of_ble_eq_true rfl) ⟨Nat.le_of_ble_eq_true rfl, Nat.le_of_ble_eq_true rfl⟩ ⟨Nat.zero_le _, Nat.zero_le _⟩ dX9_prepare_14 rfl) ?_
  by_cases z_14 : u12.1 = 0
  · rw [if_pos z_14] at E
    rw [show rV ad u12.1 = .null by rw [z_14]; rfl]
    refine ww_astoreN (lv' := [(4, .null), (3, .ref (ad u2.1)), (0, .ref (ad a0)), (1, .int a1), (2, .int a2)]) C dX9_prepare_17 (by decide) rfl ?_
    refine ww_aload_n C dX9_prepare_19 rfl 1 rfl ?_
    refine ww_ifnullF C dX9_prepare_20 ?_
    refine ww_aloadN C dX9_prepare_23 0 rfl ?_
    refine ww_ifnonnullF C dX9_prepare_25 ?_
    refine ww_iconst (v := 0) C dX9_prepare_28 (by decide) ?_
    exact ww_zret C HR HL dX9_prepare_29 (Or.inl rfl) E
  rw [if_neg z_14] at E
  obtain ⟨T_15, E⟩ := gd_of E
  rw [rV_pos z_14]
  refine ww_astore (lv' := [(4, .ref (ad u12.1)), (3, .ref (ad u2.1)), (0, .ref (ad a0)), (1, .int a1), (2, .int a2)]) C dX9_prepare_17 (by decide) rfl ?_
  refine ww_aload_n C dX9_prepare_19 rfl 1 rfl ?_
  refine ww_ifnullF C dX9_prepare_20 ?_
  refine ww_aload C dX9_prepare_23 0 rfl ?_
  refine ww_ifnonnullT (tgt := 30) C dX9_prepare_25 (by decide) ?_
  refine ww_aload_n C dX9_prepare_30 rfl 2 rfl ?_
  have T_16 : gs S (gr S a0 4) = (0, 4) := hG.1 _ 9 T0 4 (by decide)
  refine ww_getr (ci := 9) (k0 := 4) C dX9_prepare_31 rfl rfl inm9 (by decide) T0 q528 rfl T_16 (by decide) ?_
  refine ww_aload_n C dX9_prepare_34 rfl 1 rfl ?_
  obtain ⟨u17, e_18, E⟩ := bind_of E
  refine ww_callV C (runs_V (n := 1) (st := []) C [.ref (ad u2.1)] (M_X4_copyFrom l G ad N hG (gr S a0 4) u2.1 u12.2 T_16 T_5 e_18) ⟨q787, q110, by decide⟩ q902 q785 q786 (ci := 4) rfl T_16 rfl (Nat.le_of_ble_eq_true rfl) ⟨Nat.le_of_ble_eq_true rfl, Nat.le_of_ble_eq_true rfl⟩ ⟨Nat.zero_le _, Nat.zero_le _⟩ dX9_prepare_35 rfl) ?_
  refine ww_aload_n C dX9_prepare_38 rfl 2 rfl ?_
  have T_19 : gs S (gr S a0 5) = (0, 2) := hG.1 _ 9 T0 5 (by decide)
  refine ww_getr (ci := 9) (k0 := 5) C dX9_prepare_39 rfl rfl inm9 (by decide) T0 q529 rfl T_19 (by decide) ?_
  refine ww_aload C dX9_prepare_42 0 rfl ?_
  obtain ⟨u20, e_21, E⟩ := bind_of E
  refine ww_callV C (runs_V (n := 1) (st := []) C [.ref (ad u12.1)] (M_X2_copyFrom l G ad N hG (gr S a0 5) u12.1 u17 T_19 T_15 e_21) ⟨q871, q111, by decide⟩ q903 q869 q870 (ci := 2) rfl T_19 rfl (Nat.le_of_ble_eq_true rfl) ⟨Nat.le_of_ble_eq_true rfl, Nat.le_of_ble_eq_true rfl⟩ ⟨Nat.zero_le _, Nat.zero_le _⟩ dX9_prepare_44 rfl) ?_
  refine ww_iconst (v := 1) C dX9_prepare_47 (by decide) ?_
  exact ww_zret C HR HL dX9_prepare_48 (Or.inr rfl) E
section P_X9_better
variable {p : Program} {l : Launch} {e : Env} {s : State} {m : MethodId} {args : Array Value} {below : List Frame} {meth : Method} {c : Code} {G : GG} {A : Nat → Prop} {ad : Nat → Nat} {S : ST} {N : Nat} {r : Int32} {dy' : DY}
set_option maxHeartbeats 4000000 in
set_option maxRecDepth 100000 in
theorem B_X9_better_21 (C : CX p s m args c cX9_better 8 RX9 G A) (HR : meth.sig.returnType = (Option.some Jvm.ClassFile.FieldType.int)) (HL : meth.locks = false) (hG : Good S) : ∀ k : Nat, ∀ (x0 : Nat) (x1 : Int32) (x2 : Int32) (x3 : Int32) (x4 : Int32) (x5 : Int32) (x6 : Int32) (dy : DY), gs S x0 = (0, 9) → (F_X9_better_21 S N k) x0 x1 x2 x3 x4 x5 x6 dy = some (r, dy') → WJ p l e (rmD (7)) s m args below meth c 8 G A 0 0 (MQ below (QI G ad A S r dy') args s 0 0 A) ad 21 [(0, .ref (ad x0)), (1, .int x1), (2, .int x2), (3, .int x3), (4, .int x4), (5, .int x5), (6, .int x6)] [] S dy := by
  intro k
  induction k with
  | zero => exact fun _ _ _ _ _ _ _ _ _ E => nomatch (show none = some (r, dy') from E)
  | succ k ih =>
    intro x0 x1 x2 x3 x4 x5 x6 dy Tx0 E
    rw [F_X9_better_21_s] at E
    refine ww_iload C dX9_better_21 6 rfl ?_
    refine ww_aload_n C dX9_better_23 rfl 0 rfl ?_
    have T_1 : gs S (gr S x0 0) = (0, 7) := hG.1 _ 9 Tx0 0 (by decide)
    refine ww_getr (ci := 9) (k0 := 0) C dX9_better_24 rfl rfl inm9 (by decide) Tx0 q524 rfl T_1 (by decide) ?_
    refine ww_geti (ci := 7) (k0 := 7) C dX9_better_27 rfl rfl inm7 (by decide) T_1 q380 rfl ?_
    refine ww_icmp_ge (tgt := 74) C dX9_better_30 (by decide) E (fun _ E => ?_) (fun _ E => ?_)
    · refine ww_iload C dX9_better_74 5 rfl ?_
      exact ww_iret C HR HL dX9_better_76 E
    · refine ww_aload_n C dX9_better_33 rfl 0 rfl ?_
      refine ww_iload_n C dX9_better_34 rfl 1 rfl ?_
      refine ww_iload C dX9_better_35 6 rfl ?_
      obtain ⟨u2, e_3, E⟩ := bind_of E
      refine ww_callI C (runs_V (n := 2) (st := []) C [.int x1, .int x6] (M_X9_prepare l G ad N hG x0 x1 x6 dy Tx0 e_3) ⟨q1060, q108, by decide⟩ q1057 q1059 q27 (ci := 9) rfl Tx0 rfl (Nat.le_of_ble_eq_true rfl) ⟨Nat.le_of_ble_eq_true rfl, Nat.le_of_ble_eq_true rfl⟩ ⟨Nat.zero_le _, Nat.zero_le _⟩ dX9_better_37 rfl) ?_
      refine ww_if_ne (tgt := 45) C dX9_better_40 (by decide) E (fun _ E => ?_) (fun _ E => ?_)
      · refine ww_aload_n C dX9_better_45 rfl 0 rfl ?_
        refine ww_iload_n C dX9_better_46 rfl 2 rfl ?_
        refine ww_iload_n C dX9_better_47 rfl 3 rfl ?_
        obtain ⟨u4, e_5, E⟩ := bind_of E
        refine ww_callI C (runs_V (n := 2) (st := []) C [.int x2, .int x3] (M_X9_arrivals l G ad N hG x0 x2 x3 u2.2 Tx0 e_5) ⟨q1116, q108, by decide⟩ q1113 q1115 q32 (ci := 9) rfl Tx0 rfl (Nat.le_of_ble_eq_true rfl) ⟨Nat.le_of_ble_eq_true rfl, Nat.le_of_ble_eq_true rfl⟩ ⟨Nat.zero_le _, Nat.zero_le _⟩ dX9_better_48 rfl) ?_
        refine ww_istore (lv' := [(7, .int u4.1), (0, .ref (ad x0)), (1, .int x1), (2, .int x2), (3, .int x3), (4, .int x4), (5, .int x5), (6, .int x6)]) C dX9_better_51 (by decide) rfl ?_
        refine ww_iload C dX9_better_53 0 rfl ?_
        refine ww_iload C dX9_better_55 5 rfl ?_
        refine ww_icmp_le (tgt := 68) C dX9_better_57 (by decide) E (fun _ E => ?_) (fun _ E => ?_)
        · refine ww_iinc (v := (x6 + (1 : Int32))) (lv' := [(6, .int (x6 + (1 : Int32))), (7, .int u4.1), (0, .ref (ad x0)), (1, .int x1), (2, .int x2), (3, .int x3), (4, .int x4), (5, .int x5)]) C dX9_better_68 7 rfl rfl (by decide) rfl ?_
          refine ww_goto (tgt := 21) C dX9_better_71 (by decide) ?_
          refine ww_sub (lv' := [(0, .ref (ad x0)), (1, .int x1), (2, .int x2), (3, .int x3), (4, .int x4), (5, .int x5), (6, .int (x6 + (1 : Int32)))]) [2, 3, 4, 5, 6, 7, 0] rfl ?_
          exact ih x0 x1 x2 x3 x4 x5 (x6 + (1 : Int32)) u4.2 Tx0 E
        · refine ww_iload C dX9_better_60 0 rfl ?_
          refine ww_istore (lv' := [(4, .int u4.1), (7, .int u4.1), (0, .ref (ad x0)), (1, .int x1), (2, .int x2), (3, .int x3), (5, .int x5), (6, .int x6)]) C dX9_better_62 (by decide) rfl ?_
          refine ww_iload C dX9_better_64 7 rfl ?_
          refine ww_istore (lv' := [(5, .int x6), (4, .int u4.1), (7, .int u4.1), (0, .ref (ad x0)), (1, .int x1), (2, .int x2), (3, .int x3), (6, .int x6)]) C dX9_better_66 (by decide) rfl ?_
          refine ww_iinc (v := (x6 + (1 : Int32))) (lv' := [(6, .int (x6 + (1 : Int32))), (5, .int x6), (4, .int u4.1), (7, .int u4.1), (0, .ref (ad x0)), (1, .int x1), (2, .int x2), (3, .int x3)]) C dX9_better_68 7 rfl rfl (by decide) rfl ?_
          refine ww_goto (tgt := 21) C dX9_better_71 (by decide) ?_
          refine ww_sub (lv' := [(0, .ref (ad x0)), (1, .int x1), (2, .int x2), (3, .int x3), (4, .int u4.1), (5, .int x6), (6, .int (x6 + (1 : Int32)))]) [4, 5, 6, 7, 2, 1, 0] rfl ?_
          exact ih x0 x1 x2 x3 u4.1 x6 (x6 + (1 : Int32)) u4.2 Tx0 E
      · refine ww_iconst (v := (-1)) C dX9_better_43 (by decide) ?_
        exact ww_iret C HR HL dX9_better_44 E
end P_X9_better
set_option maxHeartbeats 4000000 in
set_option maxRecDepth 100000 in
theorem M_X9_better (l : Launch) (G : GG) (ad : Nat → Nat) {S : ST} (N : Nat) (hG : Good S) (a0 : Nat) (a1 : Int32) (a2 : Int32) (a3 : Int32) (dy : DY) (T0 : gs S a0 = (0, 9)) {r : Int32} {dy' : DY} (E : F_X9_better S N a0 a1 a2 a3 dy = some (r, dy')) : MC l yX9_better cX9_better 8 (Option.some Jvm.ClassFile.FieldType.int) (7) G ad [.ref (ad a0), .int a1, .int a2, .int a3] S dy (fun A => QI G ad A S r dy') := by
  rw [F_X9_better_s] at E
  refine mc_of RX9 (by decide) rfl (Nat.le_of_ble_eq_true rfl) (fun p e s m args below meth c A C HR HL => ?_)
  refine ww_sub (lv' := [(0, .ref (ad a0)), (1, .int a1), (2, .int a2), (3, .int a3)]) [0, 1, 2, 3] rfl ?_
  refine ww_iload_n C dX9_better_0 rfl 3 rfl ?_
  refine ww_sipush (v := 200) C dX9_better_1 (by decide) ?_
  obtain ⟨u1, e_2, E⟩ := bind_of E
  refine ww_callI C (runs_S (n := 2) (st := []) C [.int a3, .int (200 : Int32)] (M_X9_isTime l G ad N hG a3 (200 : Int32) dy e_2) ⟨q1108, q108, by decide⟩ q1106 q1107 rfl (Nat.le_of_ble_eq_true rfl) ⟨Nat.le_of_ble_eq_true rfl, Nat.le_of_ble_eq_true rfl⟩ ⟨Nat.zero_le _, Nat.zero_le _⟩ dX9_better_4 rfl) ?_
  refine ww_if_ne (tgt := 12) C dX9_better_7 (by decide) E (fun _ E => ?_) (fun _ E => ?_)
  · refine ww_iconst (v := (-1)) C dX9_better_12 (by decide) ?_
    refine ww_istore (lv' := [(4, .int (-1 : Int32)), (0, .ref (ad a0)), (1, .int a1), (2, .int a2), (3, .int a3)]) C dX9_better_13 (by decide) rfl ?_
    refine ww_iconst (v := (-1)) C dX9_better_15 (by decide) ?_
    refine ww_istore (lv' := [(5, .int (-1 : Int32)), (4, .int (-1 : Int32)), (0, .ref (ad a0)), (1, .int a1), (2, .int a2), (3, .int a3)]) C dX9_better_16 (by decide) rfl ?_
    refine ww_iconst (v := 0) C dX9_better_18 (by decide) ?_
    refine ww_istore (lv' := [(6, .int (0 : Int32)), (5, .int (-1 : Int32)), (4, .int (-1 : Int32)), (0, .ref (ad a0)), (1, .int a1), (2, .int a2), (3, .int a3)]) C dX9_better_19 (by decide) rfl ?_
    refine ww_sub (lv' := [(0, .ref (ad a0)), (1, .int a1), (2, .int a2), (3, .int a3), (4, .int (-1 : Int32)), (5, .int (-1 : Int32)), (6, .int (0 : Int32))]) [3, 4, 5, 6, 2, 1, 0] rfl ?_
    exact (B_X9_better_21 C HR HL hG N) a0 a1 a2 a3 (-1 : Int32) (-1 : Int32) (0 : Int32) u1.2 T0 E
  · refine ww_iconst (v := (-1)) C dX9_better_10 (by decide) ?_
    exact ww_iret C HR HL dX9_better_11 E
section P_X9_tenthsOfOthers
variable {p : Program} {l : Launch} {e : Env} {s : State} {m : MethodId} {args : Array Value} {below : List Frame} {meth : Method} {c : Code} {G : GG} {A : Nat → Prop} {ad : Nat → Nat} {S : ST} {N : Nat} {r : Int32} {dy' : DY}
set_option maxHeartbeats 4000000 in
set_option maxRecDepth 100000 in
theorem B_X9_tenthsOfOthers_13 (C : CX p s m args c cX9_tenthsOfOthers 6 RX9 G A) (HR : meth.sig.returnType = (Option.some Jvm.ClassFile.FieldType.int)) (HL : meth.locks = false) (hG : Good S) : ∀ k : Nat, ∀ (x0 : Nat) (x2 : Int32) (x3 : Int32) (x4 : Int32) (x5 : Int32) (dy : DY), gs S x0 = (0, 9) → (F_X9_tenthsOfOthers_13 S N k) x0 x2 x3 x4 x5 dy = some (r, dy') → WJ p l e (rmD (7)) s m args below meth c 6 G A 0 0 (MQ below (QI G ad A S r dy') args s 0 0 A) ad 13 [(0, .ref (ad x0)), (2, .int x2), (3, .int x3), (4, .int x4), (5, .int x5)] [] S dy := by
  intro k
  induction k with
  | zero => exact fun _ _ _ _ _ _ _ E => nomatch (show none = some (r, dy') from E)
  | succ k ih =>
    intro x0 x2 x3 x4 x5 dy Tx0 E
    rw [F_X9_tenthsOfOthers_13_s] at E
    refine ww_iload C dX9_tenthsOfOthers_13 4 rfl ?_
    refine ww_aload_n C dX9_tenthsOfOthers_15 rfl 0 rfl ?_
    have T_1 : gs S (gr S x0 4) = (0, 4) := hG.1 _ 9 Tx0 4 (by decide)
    refine ww_getr (ci := 9) (k0 := 4) C dX9_tenthsOfOthers_16 rfl rfl inm9 (by decide) Tx0 q528 rfl T_1 (by decide) ?_
    refine ww_geti (ci := 4) (k0 := 3) C dX9_tenthsOfOthers_19 rfl rfl inm4 (by decide) T_1 q164 rfl ?_
    refine ww_icmp_ge (tgt := 72) C dX9_tenthsOfOthers_22 (by decide) E (fun _ E => ?_) (fun _ E => ?_)
    · refine ww_iload C dX9_tenthsOfOthers_72 3 rfl ?_
      exact ww_iret C HR HL dX9_tenthsOfOthers_74 E
    · refine ww_iload C dX9_tenthsOfOthers_25 4 rfl ?_
      refine ww_iload_n C dX9_tenthsOfOthers_27 rfl 2 rfl ?_
      refine ww_icmp_eq (tgt := 66) C dX9_tenthsOfOthers_28 (by decide) E (fun _ E => ?_) (fun _ E => ?_)
      · refine ww_iinc (v := (x5 + (1 : Int32))) (lv' := [(5, .int (x5 + (1 : Int32))), (0, .ref (ad x0)), (2, .int x2), (3, .int x3), (4, .int x4)]) C dX9_tenthsOfOthers_66 4 rfl rfl (by decide) rfl ?_
        refine ww_goto (tgt := 13) C dX9_tenthsOfOthers_69 (by decide) ?_
        refine ww_sub (lv' := [(0, .ref (ad x0)), (2, .int x2), (3, .int x3), (4, .int x4), (5, .int (x5 + (1 : Int32)))]) [1, 2, 3, 4, 0] rfl ?_
        exact ih x0 x2 x3 x4 (x5 + (1 : Int32)) dy Tx0 E
      · refine ww_iload C dX9_tenthsOfOthers_31 3 rfl ?_
        refine ww_aload_n C dX9_tenthsOfOthers_33 rfl 0 rfl ?_
        have T_2 : gs S (gr S x0 6) = (0, 8) := hG.1 _ 9 Tx0 6 (by decide)
        refine ww_getr (ci := 9) (k0 := 6) C dX9_tenthsOfOthers_34 rfl rfl inm9 (by decide) Tx0 q530 rfl T_2 (by decide) ?_
        have T_3 : gs S (gr S (gr S x0 6) 11) = (1, 12) := hG.1 _ 8 T_2 11 (by decide)
        refine ww_getr (ci := 8) (k0 := 11) C dX9_tenthsOfOthers_37 rfl rfl inm8 (by decide) T_2 q284 rfl T_3 (by decide) ?_
        refine ww_iload C dX9_tenthsOfOthers_40 4 rfl ?_
        refine ww_iald C dX9_tenthsOfOthers_42 T_3 E (fun _ E => ?_)
        refine ww_iconst (v := (-1)) C dX9_tenthsOfOthers_43 (by decide) ?_
        refine ww_icmp_ne (tgt := 51) C dX9_tenthsOfOthers_44 (by decide) E (fun _ E => ?_) (fun _ E => ?_)
        · refine ww_aload_n C dX9_tenthsOfOthers_51 rfl 0 rfl ?_
          have T_4 : gs S (gr S x0 6) = (0, 8) := hG.1 _ 9 Tx0 6 (by decide)
          refine ww_getr (ci := 9) (k0 := 6) C dX9_tenthsOfOthers_52 rfl rfl inm9 (by decide) Tx0 q530 rfl T_4 (by decide) ?_
          have T_5 : gs S (gr S (gr S x0 6) 11) = (1, 12) := hG.1 _ 8 T_4 11 (by decide)
          refine ww_getr (ci := 8) (k0 := 11) C dX9_tenthsOfOthers_55 rfl rfl inm8 (by decide) T_4 q284 rfl T_5 (by decide) ?_
          refine ww_iload C dX9_tenthsOfOthers_58 4 rfl ?_
          refine ww_iald C dX9_tenthsOfOthers_60 T_5 E (fun _ E => ?_)
          refine ww_iconst (v := 1) C dX9_tenthsOfOthers_61 (by decide) ?_
          refine ww_iadd C dX9_tenthsOfOthers_62 ?_
          refine ww_iadd C dX9_tenthsOfOthers_63 ?_
          refine ww_istore (lv' := [(4, .int (x4 + ((gi dy (gr S (gr S x0 6) 11) x5.toNatClampNeg) + (1 : Int32)))), (0, .ref (ad x0)), (2, .int x2), (3, .int x3), (5, .int x5)]) C dX9_tenthsOfOthers_64 (by decide) rfl ?_
          refine ww_iinc (v := (x5 + (1 : Int32))) (lv' := [(5, .int (x5 + (1 : Int32))), (4, .int (x4 + ((gi dy (gr S (gr S x0 6) 11) x5.toNatClampNeg) + (1 : Int32)))), (0, .ref (ad x0)), (2, .int x2), (3, .int x3)]) C dX9_tenthsOfOthers_66 4 rfl rfl (by decide) rfl ?_
          refine ww_goto (tgt := 13) C dX9_tenthsOfOthers_69 (by decide) ?_
          refine ww_sub (lv' := [(0, .ref (ad x0)), (2, .int x2), (3, .int x3), (4, .int (x4 + ((gi dy (gr S (gr S x0 6) 11) x5.toNatClampNeg) + (1 : Int32)))), (5, .int (x5 + (1 : Int32)))]) [2, 3, 4, 1, 0] rfl ?_
          exact ih x0 x2 x3 (x4 + ((gi dy (gr S (gr S x0 6) 11) x5.toNatClampNeg) + (1 : Int32))) (x5 + (1 : Int32)) dy Tx0 E
        · refine ww_iload_n C dX9_tenthsOfOthers_47 rfl 1 rfl ?_
          refine ww_goto (tgt := 63) C dX9_tenthsOfOthers_48 (by decide) ?_
          refine ww_iadd C dX9_tenthsOfOthers_63 ?_
          refine ww_istore (lv' := [(4, .int (x4 + x2)), (0, .ref (ad x0)), (2, .int x2), (3, .int x3), (5, .int x5)]) C dX9_tenthsOfOthers_64 (by decide) rfl ?_
          refine ww_iinc (v := (x5 + (1 : Int32))) (lv' := [(5, .int (x5 + (1 : Int32))), (4, .int (x4 + x2)), (0, .ref (ad x0)), (2, .int x2), (3, .int x3)]) C dX9_tenthsOfOthers_66 4 rfl rfl (by decide) rfl ?_
          refine ww_goto (tgt := 13) C dX9_tenthsOfOthers_69 (by decide) ?_
          refine ww_sub (lv' := [(0, .ref (ad x0)), (2, .int x2), (3, .int x3), (4, .int (x4 + x2)), (5, .int (x5 + (1 : Int32)))]) [2, 3, 4, 1, 0] rfl ?_
          exact ih x0 x2 x3 (x4 + x2) (x5 + (1 : Int32)) dy Tx0 E
end P_X9_tenthsOfOthers
set_option maxHeartbeats 4000000 in
set_option maxRecDepth 100000 in
theorem M_X9_tenthsOfOthers (l : Launch) (G : GG) (ad : Nat → Nat) {S : ST} (N : Nat) (hG : Good S) (a0 : Nat) (a1 : Int32) (a2 : Int32) (a3 : Int32) (dy : DY) (T0 : gs S a0 = (0, 9)) {r : Int32} {dy' : DY} (E : F_X9_tenthsOfOthers S N a0 a1 a2 a3 dy = some (r, dy')) : MC l yX9_tenthsOfOthers cX9_tenthsOfOthers 6 (Option.some Jvm.ClassFile.FieldType.int) (7) G ad [.ref (ad a0), .int a1, .int a2, .int a3] S dy (fun A => QI G ad A S r dy') := by
  rw [F_X9_tenthsOfOthers_s] at E
  refine mc_of RX9 (by decide) rfl (Nat.le_of_ble_eq_true rfl) (fun p e s m args below meth c A C HR HL => ?_)
  refine ww_sub (lv' := [(0, .ref (ad a0)), (1, .int a1), (2, .int a2), (3, .int a3)]) [0, 1, 2, 3] rfl ?_
  refine ww_aload_n C dX9_tenthsOfOthers_0 rfl 0 rfl ?_
  refine ww_iload_n C dX9_tenthsOfOthers_1 rfl 1 rfl ?_
  refine ww_iload_n C dX9_tenthsOfOthers_2 rfl 2 rfl ?_
  obtain ⟨u1, e_2, E⟩ := bind_of E
  refine ww_callI C (runs_V (n := 2) (st := []) C [.int a1, .int a2] (M_X9_arrivals l G ad N hG a0 a1 a2 dy T0 e_2) ⟨q1116, q108, by decide⟩ q1113 q1115 q32 (ci := 9) rfl T0 rfl (Nat.le_of_ble_eq_true rfl) ⟨Nat.le_of_ble_eq_true rfl, Nat.le_of_ble_eq_true rfl⟩ ⟨Nat.zero_le _, Nat.zero_le _⟩ dX9_tenthsOfOthers_3 rfl) ?_
  refine ww_pop C dX9_tenthsOfOthers_6 rfl ?_
  refine ww_iconst (v := 0) C dX9_tenthsOfOthers_7 (by decide) ?_
  refine ww_istore (lv' := [(4, .int (0 : Int32)), (0, .ref (ad a0)), (1, .int a1), (2, .int a2), (3, .int a3)]) C dX9_tenthsOfOthers_8 (by decide) rfl ?_
  refine ww_iconst (v := 0) C dX9_tenthsOfOthers_10 (by decide) ?_
  refine ww_istore (lv' := [(5, .int (0 : Int32)), (4, .int (0 : Int32)), (0, .ref (ad a0)), (1, .int a1), (2, .int a2), (3, .int a3)]) C dX9_tenthsOfOthers_11 (by decide) rfl ?_
  refine ww_sub (lv' := [(0, .ref (ad a0)), (2, .int a2), (3, .int a3), (4, .int (0 : Int32)), (5, .int (0 : Int32))]) [2, 4, 5, 1, 0] rfl ?_
  exact (B_X9_tenthsOfOthers_13 C HR HL hG N) a0 a2 a3 (0 : Int32) (0 : Int32) u1.2 T0 E
section P_X9_cost
variable {p : Program} {l : Launch} {e : Env} {s : State} {m : MethodId} {args : Array Value} {below : List Frame} {meth : Method} {c : Code} {G : GG} {A : Nat → Prop} {ad : Nat → Nat} {S : ST} {N : Nat} {r : Int32} {dy' : DY}
end P_X9_cost
set_option maxHeartbeats 4000000 in
set_option maxRecDepth 100000 in
theorem M_X9_cost (l : Launch) (G : GG) (ad : Nat → Nat) {S : ST} (N : Nat) (hG : Good S) (a0 : Nat) (a1 : Int32) (a2 : Int32) (a3 : Int32) (a4 : Int32) (a5 : Int32) (dy : DY) (T0 : gs S a0 = (0, 9)) {r : Int32} {dy' : DY} (E : F_X9_cost S N a0 a1 a2 a3 a4 a5 dy = some (r, dy')) : MC l yX9_cost cX9_cost 7 (Option.some Jvm.ClassFile.FieldType.int) (8) G ad [.ref (ad a0), .int a1, .int a2, .int a3, .int a4, .int a5] S dy (fun A => QI G ad A S r dy') := by
  rw [F_X9_cost_s] at E
  refine mc_of RX9 (by decide) rfl (Nat.le_of_ble_eq_true rfl) (fun p e s m args below meth c A C HR HL => ?_)
  refine ww_sub (lv' := [(0, .ref (ad a0)), (1, .int a1), (2, .int a2), (3, .int a3), (4, .int a4), (5, .int a5)]) [0, 1, 2, 3, 4, 5] rfl ?_
  refine ww_iload C dX9_cost_0 4 rfl ?_
  refine ww_sipush (v := 200) C dX9_cost_2 (by decide) ?_
  obtain ⟨u1, e_2, E⟩ := bind_of E
  refine ww_callI C (runs_S (n := 2) (st := []) C [.int a4, .int (200 : Int32)] (M_X9_isTime l G ad N hG a4 (200 : Int32) dy e_2) ⟨q1108, q108, by decide⟩ q1106 q1107 rfl (Nat.le_of_ble_eq_true rfl) ⟨Nat.le_of_ble_eq_true rfl, Nat.le_of_ble_eq_true rfl⟩ ⟨Nat.zero_le _, Nat.zero_le _⟩ dX9_cost_5 rfl) ?_
  refine ww_if_eq (tgt := 32) C dX9_cost_8 (by decide) E (fun _ E => ?_) (fun _ E => ?_)
  · refine ww_ldcw (v := (-100000)) C dX9_cost_32 q1131 ?_
    exact ww_iret C HR HL dX9_cost_35 E
  · refine ww_aload_n C dX9_cost_11 rfl 0 rfl ?_
    refine ww_iload_n C dX9_cost_12 rfl 1 rfl ?_
    refine ww_iload_n C dX9_cost_13 rfl 2 rfl ?_
    obtain ⟨u3, e_4, E⟩ := bind_of E
    refine ww_callI C (runs_V (n := 2) (st := []) C [.int a1, .int a2] (M_X9_prepare l G ad N hG a0 a1 a2 u1.2 T0 e_4) ⟨q1060, q108, by decide⟩ q1057 q1059 q27 (ci := 9) rfl T0 rfl (Nat.le_of_ble_eq_true rfl) ⟨Nat.le_of_ble_eq_true rfl, Nat.le_of_ble_eq_true rfl⟩ ⟨Nat.zero_le _, Nat.zero_le _⟩ dX9_cost_14 rfl) ?_
    refine ww_if_eq (tgt := 32) C dX9_cost_17 (by decide) E (fun _ E => ?_) (fun _ E => ?_)
    · refine ww_ldcw (v := (-100000)) C dX9_cost_32 q1131 ?_
      exact ww_iret C HR HL dX9_cost_35 E
    · refine ww_aload_n C dX9_cost_20 rfl 0 rfl ?_
      have T_5 : gs S (gr S a0 4) = (0, 4) := hG.1 _ 9 T0 4 (by decide)
      refine ww_getr (ci := 9) (k0 := 4) C dX9_cost_21 rfl rfl inm9 (by decide) T0 q528 rfl T_5 (by decide) ?_
      refine ww_iload C dX9_cost_24 5 rfl ?_
      obtain ⟨u6, e_7, E⟩ := bind_of E
      refine ww_callI C (runs_V (n := 1) (st := []) C [.int a5] (M_X4_has l G ad N hG (gr S a0 4) a5 u3.2 T_5 e_7) ⟨q764, q110, by decide⟩ q889 q762 q763 (ci := 4) rfl T_5 rfl (Nat.le_of_ble_eq_true rfl) ⟨Nat.le_of_ble_eq_true rfl, Nat.le_of_ble_eq_true rfl⟩ ⟨Nat.zero_le _, Nat.zero_le _⟩ dX9_cost_26 rfl) ?_
      refine ww_if_ne (tgt := 36) C dX9_cost_29 (by decide) E (fun _ E => ?_) (fun _ E => ?_)
      · refine ww_aload_n C dX9_cost_36 rfl 0 rfl ?_
        refine ww_iload_n C dX9_cost_37 rfl 3 rfl ?_
        refine ww_iload C dX9_cost_38 4 rfl ?_
        refine ww_iload C dX9_cost_40 5 rfl ?_
        obtain ⟨u8, e_9, E⟩ := bind_of E
        refine ww_callI C (runs_V (n := 3) (st := []) C [.int a3, .int a4, .int a5] (M_X9_tenthsOfOthers l G ad N hG a0 a3 a4 a5 u6.2 T0 e_9) ⟨q1135, q108, by decide⟩ q1132 q1134 q34 (ci := 9) rfl T0 rfl (Nat.le_of_ble_eq_true rfl) ⟨Nat.le_of_ble_eq_true rfl, Nat.le_of_ble_eq_true rfl⟩ ⟨Nat.zero_le _, Nat.zero_le _⟩ dX9_cost_42 rfl) ?_
        refine ww_istore (lv' := [(6, .int u8.1), (0, .ref (ad a0)), (1, .int a1), (2, .int a2), (3, .int a3), (4, .int a4), (5, .int a5)]) C dX9_cost_45 (by decide) rfl ?_
        refine ww_aload_n C dX9_cost_47 rfl 1 rfl ?_
        have T_10 : gs S (gr S a0 4) = (0, 4) := hG.1 _ 9 T0 4 (by decide)
        refine ww_getr (ci := 9) (k0 := 4) C dX9_cost_48 rfl rfl inm9 (by decide) T0 q528 rfl T_10 (by decide) ?_
        refine ww_iload C dX9_cost_51 6 rfl ?_
        obtain ⟨u11, e_12, E⟩ := bind_of E
        refine ww_callV C (runs_V (n := 1) (st := []) C [.int a5] (M_X4_drop l G ad N hG (gr S a0 4) a5 u8.2 T_10 e_12) ⟨q1139, q110, by decide⟩ q1136 q1137 q1138 (ci := 4) rfl T_10 rfl (Nat.le_of_ble_eq_true rfl) ⟨Nat.le_of_ble_eq_true rfl, Nat.le_of_ble_eq_true rfl⟩ ⟨Nat.zero_le _, Nat.zero_le _⟩ dX9_cost_53 rfl) ?_
        refine ww_iload C dX9_cost_56 0 rfl ?_
        refine ww_aload_n C dX9_cost_58 rfl 1 rfl ?_
        refine ww_iload_n C dX9_cost_59 rfl 4 rfl ?_
        refine ww_iload C dX9_cost_60 5 rfl ?_
        refine ww_iconst (v := (-1)) C dX9_cost_62 (by decide) ?_
        obtain ⟨u13, e_14, E⟩ := bind_of E
        refine ww_callI C (runs_V (n := 3) (st := [.int u8.1]) C [.int a3, .int a4, .int (-1 : Int32)] (M_X9_tenthsOfOthers l G ad N hG a0 a3 a4 (-1 : Int32) u11 T0 e_14) ⟨q1135, q108, by decide⟩ q1132 q1134 q34 (ci := 9) rfl T0 rfl (Nat.le_of_ble_eq_true rfl) ⟨Nat.le_of_ble_eq_true rfl, Nat.le_of_ble_eq_true rfl⟩ ⟨Nat.zero_le _, Nat.zero_le _⟩ dX9_cost_63 rfl) ?_
        refine ww_isub C dX9_cost_66 ?_
        exact ww_iret C HR HL dX9_cost_67 E
      · refine ww_ldcw (v := (-100000)) C dX9_cost_32 q1131 ?_
        exact ww_iret C HR HL dX9_cost_35 E
section P_X9_count
variable {p : Program} {l : Launch} {e : Env} {s : State} {m : MethodId} {args : Array Value} {below : List Frame} {meth : Method} {c : Code} {G : GG} {A : Nat → Prop} {ad : Nat → Nat} {S : ST} {N : Nat} {r : Int32} {dy' : DY}
end P_X9_count
set_option maxHeartbeats 4000000 in
set_option maxRecDepth 100000 in
theorem M_X9_count (l : Launch) (G : GG) (ad : Nat → Nat) {S : ST} (N : Nat) (hG : Good S) (a0 : Nat) (a1 : Int32) (dy : DY) (T0 : gs S a0 = (0, 9)) {r : Int32} {dy' : DY} (E : F_X9_count S N a0 a1 dy = some (r, dy')) : MC l yX9_count cX9_count 2 (Option.some Jvm.ClassFile.FieldType.int) (1) G ad [.ref (ad a0), .int a1] S dy (fun A => QI G ad A S r dy') := by
  rw [F_X9_count_s] at E
  refine mc_of RX9 (by decide) rfl (Nat.le_of_ble_eq_true rfl) (fun p e s m args below meth c A C HR HL => ?_)
  refine ww_sub (lv' := [(0, .ref (ad a0)), (1, .int a1)]) [0, 1] rfl ?_
  refine ww_iload_n C dX9_count_0 rfl 1 rfl ?_
  refine ww_if_ne (tgt := 12) C dX9_count_1 (by decide) E (fun _ E => ?_) (fun _ E => ?_)
  · refine ww_iload_n C dX9_count_12 rfl 1 rfl ?_
    refine ww_iconst (v := 1) C dX9_count_13 (by decide) ?_
    refine ww_icmp_ne (tgt := 25) C dX9_count_14 (by decide) E (fun _ E => ?_) (fun _ E => ?_)
    · refine ww_iload_n C dX9_count_25 rfl 1 rfl ?_
      refine ww_iconst (v := 2) C dX9_count_26 (by decide) ?_
      refine ww_icmp_lt (tgt := 53) C dX9_count_27 (by decide) E (fun _ E => ?_) (fun _ E => ?_)
      · refine ww_bipush (v := (-2)) C dX9_count_53 (by decide) ?_
        exact ww_iret C HR HL dX9_count_55 E
      · refine ww_iload_n C dX9_count_30 rfl 1 rfl ?_
        refine ww_bipush (v := 10) C dX9_count_31 (by decide) ?_
        refine ww_icmp_ge (tgt := 53) C dX9_count_33 (by decide) E (fun _ E => ?_) (fun _ E => ?_)
        · refine ww_bipush (v := (-2)) C dX9_count_53 (by decide) ?_
          exact ww_iret C HR HL dX9_count_55 E
        · refine ww_aload_n C dX9_count_36 rfl 0 rfl ?_
          have T_1 : gs S (gr S a0 0) = (0, 7) := hG.1 _ 9 T0 0 (by decide)
          refine ww_getr (ci := 9) (k0 := 0) C dX9_count_37 rfl rfl inm9 (by decide) T0 q524 rfl T_1 (by decide) ?_
          have T_2 : gs S (gr S (gr S a0 0) 12) = (0, 1) := hG.1 _ 7 T_1 12 (by decide)
          refine ww_getr (ci := 7) (k0 := 12) C dX9_count_40 rfl rfl inm7 (by decide) T_1 q390 rfl T_2 (by decide) ?_
          have T_3 : gs S (gr S (gr S (gr S a0 0) 12) 0) = (1, 8) := hG.1 _ 1 T_2 0 (by decide)
          refine ww_getr (ci := 1) (k0 := 0) C dX9_count_43 rfl rfl inm1 (by decide) T_2 q348 rfl T_3 (by decide) ?_
          refine ww_iload_n C dX9_count_46 rfl 1 rfl ?_
          refine ww_iconst (v := 2) C dX9_count_47 (by decide) ?_
          refine ww_isub C dX9_count_48 ?_
          refine ww_iald C dX9_count_49 T_3 E (fun _ E => ?_)
          refine ww_goto (tgt := 55) C dX9_count_50 (by decide) ?_
          exact ww_iret C HR HL dX9_count_55 E
    · refine ww_aload_n C dX9_count_17 rfl 0 rfl ?_
      have T_4 : gs S (gr S a0 0) = (0, 7) := hG.1 _ 9 T0 0 (by decide)
      refine ww_getr (ci := 9) (k0 := 0) C dX9_count_18 rfl rfl inm9 (by decide) T0 q524 rfl T_4 (by decide) ?_
      refine ww_geti (ci := 7) (k0 := 7) C dX9_count_21 rfl rfl inm7 (by decide) T_4 q380 rfl ?_
      exact ww_iret C HR HL dX9_count_24 E
  · refine ww_aload_n C dX9_count_4 rfl 0 rfl ?_
    have T_5 : gs S (gr S a0 0) = (0, 7) := hG.1 _ 9 T0 0 (by decide)
    refine ww_getr (ci := 9) (k0 := 0) C dX9_count_5 rfl rfl inm9 (by decide) T0 q524 rfl T_5 (by decide) ?_
    refine ww_geti (ci := 7) (k0 := 5) C dX9_count_8 rfl rfl inm7 (by decide) T_5 q377 rfl ?_
    exact ww_iret C HR HL dX9_count_11 E
section P_X9_dark
variable {p : Program} {l : Launch} {e : Env} {s : State} {m : MethodId} {args : Array Value} {below : List Frame} {meth : Method} {c : Code} {G : GG} {A : Nat → Prop} {ad : Nat → Nat} {S : ST} {N : Nat} {r : Int32} {dy' : DY}
set_option maxHeartbeats 4000000 in
set_option maxRecDepth 100000 in
theorem B_X9_dark_4 (C : CX p s m args c cX9_dark 3 RX9 G A) (HR : meth.sig.returnType = (Option.some Jvm.ClassFile.FieldType.int)) (HL : meth.locks = false) (hG : Good S) : ∀ k : Nat, ∀ (x0 : Nat) (x1 : Int32) (x2 : Int32) (dy : DY), gs S x0 = (0, 9) → (F_X9_dark_4 S N k) x0 x1 x2 dy = some (r, dy') → WJ p l e (rmD (1)) s m args below meth c 3 G A 0 0 (MQ below (QI G ad A S r dy') args s 0 0 A) ad 4 [(0, .ref (ad x0)), (1, .int x1), (2, .int x2)] [] S dy := by
  intro k
  induction k with
  | zero => exact fun _ _ _ _ _ E => nomatch (show none = some (r, dy') from E)
  | succ k ih =>
    intro x0 x1 x2 dy Tx0 E
    rw [F_X9_dark_4_s] at E
    refine ww_iload_n C dX9_dark_4 rfl 2 rfl ?_
    refine ww_bipush (v := 8) C dX9_dark_5 (by decide) ?_
    refine ww_icmp_ge (tgt := 44) C dX9_dark_7 (by decide) E (fun _ E => ?_) (fun _ E => ?_)
    · refine ww_iload_n C dX9_dark_44 rfl 1 rfl ?_
      exact ww_iret C HR HL dX9_dark_45 E
    · refine ww_iload_n C dX9_dark_10 rfl 1 rfl ?_
      refine ww_aload_n C dX9_dark_11 rfl 0 rfl ?_
      have T_1 : gs S (gr S x0 0) = (0, 7) := hG.1 _ 9 Tx0 0 (by decide)
      refine ww_getr (ci := 9) (k0 := 0) C dX9_dark_12 rfl rfl inm9 (by decide) Tx0 q524 rfl T_1 (by decide) ?_
      have T_2 : gs S (gr S (gr S x0 0) 12) = (0, 1) := hG.1 _ 7 T_1 12 (by decide)
      refine ww_getr (ci := 7) (k0 := 12) C dX9_dark_15 rfl rfl inm7 (by decide) T_1 q390 rfl T_2 (by decide) ?_
      have T_3 : gs S (gr S (gr S (gr S x0 0) 12) 0) = (1, 8) := hG.1 _ 1 T_2 0 (by decide)
      refine ww_getr (ci := 1) (k0 := 0) C dX9_dark_18 rfl rfl inm1 (by decide) T_2 q348 rfl T_3 (by decide) ?_
      refine ww_iload_n C dX9_dark_21 rfl 2 rfl ?_
      refine ww_iald C dX9_dark_22 T_3 E (fun _ E => ?_)
      refine ww_iadd C dX9_dark_23 ?_
      refine ww_istore_n (lv' := [(1, .int (x1 + (gi dy (gr S (gr S (gr S x0 0) 12) 0) x2.toNatClampNeg))), (0, .ref (ad x0)), (2, .int x2)]) C dX9_dark_24 rfl (by decide) rfl ?_
      refine ww_aload_n C dX9_dark_25 rfl 1 rfl ?_
      have T_4 : gs S (gr S x0 0) = (0, 7) := hG.1 _ 9 Tx0 0 (by decide)
      refine ww_getr (ci := 9) (k0 := 0) C dX9_dark_26 rfl rfl inm9 (by decide) Tx0 q524 rfl T_4 (by decide) ?_
      have T_5 : gs S (gr S (gr S x0 0) 12) = (0, 1) := hG.1 _ 7 T_4 12 (by decide)
      refine ww_getr (ci := 7) (k0 := 12) C dX9_dark_29 rfl rfl inm7 (by decide) T_4 q390 rfl T_5 (by decide) ?_
      have T_6 : gs S (gr S (gr S (gr S x0 0) 12) 0) = (1, 8) := hG.1 _ 1 T_5 0 (by decide)
      refine ww_getr (ci := 1) (k0 := 0) C dX9_dark_32 rfl rfl inm1 (by decide) T_5 q348 rfl T_6 (by decide) ?_
      refine ww_iload_n C dX9_dark_35 rfl 2 rfl ?_
      refine ww_iconst (v := 0) C dX9_dark_36 (by decide) ?_
      refine ww_iast C dX9_dark_37 T_6 E (fun _ E => ?_)
      refine ww_bd E (fun dy7 E => ?_)
      refine ww_iinc (v := (x2 + (1 : Int32))) (lv' := [(2, .int (x2 + (1 : Int32))), (1, .int (x1 + (gi dy (gr S (gr S (gr S x0 0) 12) 0) x2.toNatClampNeg))), (0, .ref (ad x0))]) C dX9_dark_38 2 rfl rfl (by decide) rfl ?_
      refine ww_goto (tgt := 4) C dX9_dark_41 (by decide) ?_
      refine ww_sub (lv' := [(0, .ref (ad x0)), (1, .int (x1 + (gi dy (gr S (gr S (gr S x0 0) 12) 0) x2.toNatClampNeg))), (2, .int (x2 + (1 : Int32)))]) [2, 1, 0] rfl ?_
      exact ih x0 (x1 + (gi dy (gr S (gr S (gr S x0 0) 12) 0) x2.toNatClampNeg)) (x2 + (1 : Int32)) dy7 Tx0 E
end P_X9_dark
set_option maxHeartbeats 4000000 in
set_option maxRecDepth 100000 in
theorem M_X9_dark (l : Launch) (G : GG) (ad : Nat → Nat) {S : ST} (N : Nat) (hG : Good S) (a0 : Nat) (dy : DY) (T0 : gs S a0 = (0, 9)) {r : Int32} {dy' : DY} (E : F_X9_dark S N a0 dy = some (r, dy')) : MC l yX9_dark cX9_dark 3 (Option.some Jvm.ClassFile.FieldType.int) (1) G ad [.ref (ad a0)] S dy (fun A => QI G ad A S r dy') := by
  rw [F_X9_dark_s] at E
  refine mc_of RX9 (by decide) rfl (Nat.le_of_ble_eq_true rfl) (fun p e s m args below meth c A C HR HL => ?_)
  refine ww_sub (lv' := [(0, .ref (ad a0))]) [0] rfl ?_
  refine ww_iconst (v := 0) C dX9_dark_0 (by decide) ?_
  refine ww_istore_n (lv' := [(1, .int (0 : Int32)), (0, .ref (ad a0))]) C dX9_dark_1 rfl (by decide) rfl ?_
  refine ww_iconst (v := 0) C dX9_dark_2 (by decide) ?_
  refine ww_istore_n (lv' := [(2, .int (0 : Int32)), (1, .int (0 : Int32)), (0, .ref (ad a0))]) C dX9_dark_3 rfl (by decide) rfl ?_
  refine ww_sub (lv' := [(0, .ref (ad a0)), (1, .int (0 : Int32)), (2, .int (0 : Int32))]) [2, 1, 0] rfl ?_
  exact (B_X9_dark_4 C HR HL hG N) a0 (0 : Int32) (0 : Int32) dy T0 E
section P_X9_does
variable {p : Program} {l : Launch} {e : Env} {s : State} {m : MethodId} {args : Array Value} {below : List Frame} {meth : Method} {c : Code} {G : GG} {A : Nat → Prop} {ad : Nat → Nat} {S : ST} {N : Nat} {r : Int32} {dy' : DY}
set_option maxHeartbeats 4000000 in
set_option maxRecDepth 100000 in
theorem B_X9_does_29 (C : CX p s m args c cX9_does 3 RX9 G A) (HR : meth.sig.returnType = (Option.some Jvm.ClassFile.FieldType.int)) (HL : meth.locks = false) (hG : Good S) : ∀ (x0 : Nat) (x1 : Int32) (y0 : Int32) (dy : DY), gs S x0 = (0, 9) → F_X9_does_29 S N x0 x1 y0 dy = some (r, dy') → WJ p l e (rmD (5)) s m args below meth c 3 G A 0 0 (MQ below (QI G ad A S r dy') args s 0 0 A) ad 29 [(0, .ref (ad x0)), (1, .int x1)] [.int y0] S dy := by
  intro x0 x1 y0 dy Tx0 E
  rw [F_X9_does_29_s] at E
  refine ww_istore_n (lv' := [(2, .int y0), (0, .ref (ad x0)), (1, .int x1)]) C dX9_does_29 rfl (by decide) rfl ?_
  refine ww_iload_n C dX9_does_30 rfl 0 rfl ?_
  refine ww_if_eq (tgt := 48) C dX9_does_31 (by decide) E (fun _ E => ?_) (fun _ E => ?_)
  · refine ww_iconst (v := (-1)) C dX9_does_48 (by decide) ?_
    exact ww_iret C HR HL dX9_does_49 E
  · refine ww_aload_n C dX9_does_34 rfl 1 rfl ?_
    have T_1 : gs S (gr S x0 0) = (0, 7) := hG.1 _ 9 Tx0 0 (by decide)
    refine ww_getr (ci := 9) (k0 := 0) C dX9_does_35 rfl rfl inm9 (by decide) Tx0 q524 rfl T_1 (by decide) ?_
    have T_2 : gs S (gr S (gr S x0 0) 10) = (0, 8) := hG.1 _ 7 T_1 10 (by decide)
    refine ww_getr (ci := 7) (k0 := 10) C dX9_does_38 rfl rfl inm7 (by decide) T_1 q386 rfl T_2 (by decide) ?_
    refine ww_iload_n C dX9_does_41 rfl 2 rfl ?_
    obtain ⟨u3, e_4, E⟩ := bind_of E
    refine ww_callI C (runs_V (n := 1) (st := []) C [.int x1] (M_X8_deed l G ad N hG (gr S (gr S x0 0) 10) x1 dy T_2 e_4) ⟨q927, q112, by decide⟩ q1022 q925 q926 (ci := 8) rfl T_2 rfl (Nat.le_of_ble_eq_true rfl) ⟨Nat.le_of_ble_eq_true rfl, Nat.le_of_ble_eq_true rfl⟩ ⟨Nat.zero_le _, Nat.zero_le _⟩ dX9_does_42 rfl) ?_
    refine ww_goto (tgt := 49) C dX9_does_45 (by decide) ?_
    exact ww_iret C HR HL dX9_does_49 E
end P_X9_does
set_option maxHeartbeats 4000000 in
set_option maxRecDepth 100000 in
theorem M_X9_does (l : Launch) (G : GG) (ad : Nat → Nat) {S : ST} (N : Nat) (hG : Good S) (a0 : Nat) (a1 : Int32) (dy : DY) (T0 : gs S a0 = (0, 9)) {r : Int32} {dy' : DY} (E : F_X9_does S N a0 a1 dy = some (r, dy')) : MC l yX9_does cX9_does 3 (Option.some Jvm.ClassFile.FieldType.int) (5) G ad [.ref (ad a0), .int a1] S dy (fun A => QI G ad A S r dy') := by
  rw [F_X9_does_s] at E
  refine mc_of RX9 (by decide) rfl (Nat.le_of_ble_eq_true rfl) (fun p e s m args below meth c A C HR HL => ?_)
  refine ww_sub (lv' := [(0, .ref (ad a0)), (1, .int a1)]) [0, 1] rfl ?_
  refine ww_aload_n C dX9_does_0 rfl 0 rfl ?_
  have T_1 : gs S (gr S a0 0) = (0, 7) := hG.1 _ 9 T0 0 (by decide)
  refine ww_getr (ci := 9) (k0 := 0) C dX9_does_1 rfl rfl inm9 (by decide) T0 q524 rfl T_1 (by decide) ?_
  refine ww_getz (ci := 7) (k0 := 11) C dX9_does_4 rfl rfl inm7 (by decide) T_1 q388 rfl ?_
  refine ww_if_eq (tgt := 28) C dX9_does_7 (by decide) E (fun _ E => ?_) (fun _ E => ?_)
  · refine ww_iconst (v := 0) C dX9_does_28 (by decide) ?_
    refine ww_sub (lv' := [(0, .ref (ad a0)), (1, .int a1)]) [0, 1] rfl ?_
    exact (B_X9_does_29 C HR HL hG) a0 a1 (0 : Int32) dy T0 E
  · refine ww_aload_n C dX9_does_10 rfl 0 rfl ?_
    have T_2 : gs S (gr S a0 0) = (0, 7) := hG.1 _ 9 T0 0 (by decide)
    refine ww_getr (ci := 9) (k0 := 0) C dX9_does_11 rfl rfl inm9 (by decide) T0 q524 rfl T_2 (by decide) ?_
    have T_3 : gs S (gr S (gr S a0 0) 10) = (0, 8) := hG.1 _ 7 T_2 10 (by decide)
    refine ww_getr (ci := 7) (k0 := 10) C dX9_does_14 rfl rfl inm7 (by decide) T_2 q386 rfl T_3 (by decide) ?_
    refine ww_iload_n C dX9_does_17 rfl 1 rfl ?_
    obtain ⟨u4, e_5, E⟩ := bind_of E
    refine ww_callI C (runs_V (n := 1) (st := []) C [.int a1] (M_X8_isThere l G ad N hG (gr S (gr S a0 0) 10) a1 dy T_3 e_5) ⟨q983, q112, by decide⟩ q1016 q981 q982 (ci := 8) rfl T_3 rfl (Nat.le_of_ble_eq_true rfl) ⟨Nat.le_of_ble_eq_true rfl, Nat.le_of_ble_eq_true rfl⟩ ⟨Nat.zero_le _, Nat.zero_le _⟩ dX9_does_18 rfl) ?_
    refine ww_if_eq (tgt := 28) C dX9_does_21 (by decide) E (fun _ E => ?_) (fun _ E => ?_)
    · refine ww_iconst (v := 0) C dX9_does_28 (by decide) ?_
      refine ww_sub (lv' := [(0, .ref (ad a0)), (1, .int a1)]) [0, 1] rfl ?_
      exact (B_X9_does_29 C HR HL hG) a0 a1 (0 : Int32) u4.2 T0 E
    · refine ww_iconst (v := 1) C dX9_does_24 (by decide) ?_
      refine ww_goto (tgt := 29) C dX9_does_25 (by decide) ?_
      refine ww_sub (lv' := [(0, .ref (ad a0)), (1, .int a1)]) [0, 1] rfl ?_
      exact (B_X9_does_29 C HR HL hG) a0 a1 (1 : Int32) u4.2 T0 E
section P_X9_door
variable {p : Program} {l : Launch} {e : Env} {s : State} {m : MethodId} {args : Array Value} {below : List Frame} {meth : Method} {c : Code} {G : GG} {A : Nat → Prop} {ad : Nat → Nat} {S : ST} {N : Nat} {r : Int32} {dy' : DY}
end P_X9_door
set_option maxHeartbeats 4000000 in
set_option maxRecDepth 100000 in
theorem M_X9_door (l : Launch) (G : GG) (ad : Nat → Nat) {S : ST} (N : Nat) (hG : Good S) (a0 : Nat) (a1 : Int32) (a2 : Int32) (dy : DY) (T0 : gs S a0 = (0, 9)) {r : Int32} {dy' : DY} (E : F_X9_door S N a0 a1 a2 dy = some (r, dy')) : MC l yX9_door cX9_door 3 (Option.some Jvm.ClassFile.FieldType.int) (2) G ad [.ref (ad a0), .int a1, .int a2] S dy (fun A => QI G ad A S r dy') := by
  rw [F_X9_door_s] at E
  refine mc_of RX9 (by decide) rfl (Nat.le_of_ble_eq_true rfl) (fun p e s m args below meth c A C HR HL => ?_)
  refine ww_sub (lv' := [(0, .ref (ad a0)), (1, .int a1), (2, .int a2)]) [0, 1, 2] rfl ?_
  refine ww_aload_n C dX9_door_0 rfl 0 rfl ?_
  have T_1 : gs S (gr S a0 0) = (0, 7) := hG.1 _ 9 T0 0 (by decide)
  refine ww_getr (ci := 9) (k0 := 0) C dX9_door_1 rfl rfl inm9 (by decide) T0 q524 rfl T_1 (by decide) ?_
  refine ww_getz (ci := 7) (k0 := 11) C dX9_door_4 rfl rfl inm7 (by decide) T_1 q388 rfl ?_
  refine ww_if_eq (tgt := 39) C dX9_door_7 (by decide) E (fun _ E => ?_) (fun _ E => ?_)
  · refine ww_iconst (v := (-1)) C dX9_door_39 (by decide) ?_
    exact ww_iret C HR HL dX9_door_40 E
  · refine ww_iload_n C dX9_door_10 rfl 1 rfl ?_
    refine ww_if_lt (tgt := 39) C dX9_door_11 (by decide) E (fun _ E => ?_) (fun _ E => ?_)
    · refine ww_iconst (v := (-1)) C dX9_door_39 (by decide) ?_
      exact ww_iret C HR HL dX9_door_40 E
    · refine ww_iload_n C dX9_door_14 rfl 1 rfl ?_
      refine ww_aload_n C dX9_door_15 rfl 0 rfl ?_
      have T_2 : gs S (gr S a0 0) = (0, 7) := hG.1 _ 9 T0 0 (by decide)
      refine ww_getr (ci := 9) (k0 := 0) C dX9_door_16 rfl rfl inm9 (by decide) T0 q524 rfl T_2 (by decide) ?_
      have T_3 : gs S (gr S (gr S a0 0) 8) = (0, 4) := hG.1 _ 7 T_2 8 (by decide)
      refine ww_getr (ci := 7) (k0 := 8) C dX9_door_19 rfl rfl inm7 (by decide) T_2 q382 rfl T_3 (by decide) ?_
      refine ww_geti (ci := 4) (k0 := 0) C dX9_door_22 rfl rfl inm4 (by decide) T_3 q152 rfl ?_
      refine ww_iconst (v := 2) C dX9_door_25 (by decide) ?_
      refine ww_isub C dX9_door_26 ?_
      refine ww_icmp_gt (tgt := 39) C dX9_door_27 (by decide) E (fun _ E => ?_) (fun _ E => ?_)
      · refine ww_iconst (v := (-1)) C dX9_door_39 (by decide) ?_
        exact ww_iret C HR HL dX9_door_40 E
      · refine ww_iload_n C dX9_door_30 rfl 2 rfl ?_
        refine ww_if_lt (tgt := 39) C dX9_door_31 (by decide) E (fun _ E => ?_) (fun _ E => ?_)
        · refine ww_iconst (v := (-1)) C dX9_door_39 (by decide) ?_
          exact ww_iret C HR HL dX9_door_40 E
        · refine ww_iload_n C dX9_door_34 rfl 2 rfl ?_
          refine ww_iconst (v := 2) C dX9_door_35 (by decide) ?_
          refine ww_icmp_le (tgt := 41) C dX9_door_36 (by decide) E (fun _ E => ?_) (fun _ E => ?_)
          · refine ww_aload_n C dX9_door_41 rfl 0 rfl ?_
            have T_4 : gs S (gr S a0 0) = (0, 7) := hG.1 _ 9 T0 0 (by decide)
            refine ww_getr (ci := 9) (k0 := 0) C dX9_door_42 rfl rfl inm9 (by decide) T0 q524 rfl T_4 (by decide) ?_
            have T_5 : gs S (gr S (gr S a0 0) 10) = (0, 8) := hG.1 _ 7 T_4 10 (by decide)
            refine ww_getr (ci := 7) (k0 := 10) C dX9_door_45 rfl rfl inm7 (by decide) T_4 q386 rfl T_5 (by decide) ?_
            refine ww_iload_n C dX9_door_48 rfl 1 rfl ?_
            refine ww_iload_n C dX9_door_49 rfl 2 rfl ?_
            obtain ⟨u6, e_7, E⟩ := bind_of E
            refine ww_callI C (runs_V (n := 2) (st := []) C [.int a1, .int a2] (M_X8_doorOf l G ad N hG (gr S (gr S a0 0) 10) a1 a2 dy T_5 e_7) ⟨q1052, q112, by decide⟩ q1049 q1050 q1051 (ci := 8) rfl T_5 rfl (Nat.le_of_ble_eq_true rfl) ⟨Nat.le_of_ble_eq_true rfl, Nat.le_of_ble_eq_true rfl⟩ ⟨Nat.zero_le _, Nat.zero_le _⟩ dX9_door_50 rfl) ?_
            exact ww_iret C HR HL dX9_door_53 E
          · refine ww_iconst (v := (-1)) C dX9_door_39 (by decide) ?_
            exact ww_iret C HR HL dX9_door_40 E
section P_X9_end
variable {p : Program} {l : Launch} {e : Env} {s : State} {m : MethodId} {args : Array Value} {below : List Frame} {meth : Method} {c : Code} {G : GG} {A : Nat → Prop} {ad : Nat → Nat} {S : ST} {N : Nat} {r : Int32} {dy' : DY}
end P_X9_end
set_option maxHeartbeats 4000000 in
set_option maxRecDepth 100000 in
theorem M_X9_end (l : Launch) (G : GG) (ad : Nat → Nat) {S : ST} (N : Nat) (hG : Good S) (a0 : Nat) (a1 : Int32) (dy : DY) (T0 : gs S a0 = (0, 9)) {r : Int32} {dy' : DY} (E : F_X9_end S N a0 a1 dy = some (r, dy')) : MC l yX9_end cX9_end 2 (Option.some Jvm.ClassFile.FieldType.int) (1) G ad [.ref (ad a0), .int a1] S dy (fun A => QI G ad A S r dy') := by
  rw [F_X9_end_s] at E
  refine mc_of RX9 (by decide) rfl (Nat.le_of_ble_eq_true rfl) (fun p e s m args below meth c A C HR HL => ?_)
  refine ww_sub (lv' := [(0, .ref (ad a0)), (1, .int a1)]) [0, 1] rfl ?_
  refine ww_iload_n C dX9_end_0 rfl 1 rfl ?_
  refine ww_if_lt (tgt := 15) C dX9_end_1 (by decide) E (fun _ E => ?_) (fun _ E => ?_)
  · refine ww_iconst (v := (-1)) C dX9_end_15 (by decide) ?_
    exact ww_iret C HR HL dX9_end_16 E
  · refine ww_iload_n C dX9_end_4 rfl 1 rfl ?_
    refine ww_aload_n C dX9_end_5 rfl 0 rfl ?_
    have T_1 : gs S (gr S a0 0) = (0, 7) := hG.1 _ 9 T0 0 (by decide)
    refine ww_getr (ci := 9) (k0 := 0) C dX9_end_6 rfl rfl inm9 (by decide) T0 q524 rfl T_1 (by decide) ?_
    refine ww_geti (ci := 7) (k0 := 1) C dX9_end_9 rfl rfl inm7 (by decide) T_1 q369 rfl ?_
    refine ww_icmp_le (tgt := 17) C dX9_end_12 (by decide) E (fun _ E => ?_) (fun _ E => ?_)
    · refine ww_aload_n C dX9_end_17 rfl 0 rfl ?_
      have T_2 : gs S (gr S a0 0) = (0, 7) := hG.1 _ 9 T0 0 (by decide)
      refine ww_getr (ci := 9) (k0 := 0) C dX9_end_18 rfl rfl inm9 (by decide) T0 q524 rfl T_2 (by decide) ?_
      refine ww_iload_n C dX9_end_21 rfl 1 rfl ?_
      refine ww_puti (ci := 7) (k0 := 1) C dX9_end_22 rfl rfl inm7 tyX7_ok nmX7 (by decide) T_2 q369 rfl rfl rfl ?_
      refine ww_bd E (fun dy3 E => ?_)
      refine ww_iload_n C dX9_end_25 rfl 1 rfl ?_
      exact ww_iret C HR HL dX9_end_26 E
    · refine ww_iconst (v := (-1)) C dX9_end_15 (by decide) ?_
      exact ww_iret C HR HL dX9_end_16 E
section P_X9_fault
variable {p : Program} {l : Launch} {e : Env} {s : State} {m : MethodId} {args : Array Value} {below : List Frame} {meth : Method} {c : Code} {G : GG} {A : Nat → Prop} {ad : Nat → Nat} {S : ST} {N : Nat} {r : Int32} {dy' : DY}
end P_X9_fault
set_option maxHeartbeats 4000000 in
set_option maxRecDepth 100000 in
theorem M_X9_fault (l : Launch) (G : GG) (ad : Nat → Nat) {S : ST} (N : Nat) (hG : Good S) (a0 : Nat) (a1 : Int32) (dy : DY) (T0 : gs S a0 = (0, 9)) {r : Int32} {dy' : DY} (E : F_X9_fault S N a0 a1 dy = some (r, dy')) : MC l yX9_fault cX9_fault 2 (Option.some Jvm.ClassFile.FieldType.int) (1) G ad [.ref (ad a0), .int a1] S dy (fun A => QI G ad A S r dy') := by
  rw [F_X9_fault_s] at E
  refine mc_of RX9 (by decide) rfl (Nat.le_of_ble_eq_true rfl) (fun p e s m args below meth c A C HR HL => ?_)
  refine ww_sub (lv' := [(0, .ref (ad a0)), (1, .int a1)]) [0, 1] rfl ?_
  refine ww_iload_n C dX9_fault_0 rfl 1 rfl ?_
  by_cases s_1 : a1 = (0 : Int32)
  · rw [if_pos s_1] at E
    refine ww_lookup (tgt := 28) C dX9_fault_1 (by decide) (by rw [s_1] <;> rfl) (by decide) ?_
    refine ww_aload_n C dX9_fault_28 rfl 0 rfl ?_
    have T_2 : gs S (gr S a0 0) = (0, 7) := hG.1 _ 9 T0 0 (by decide)
    refine ww_getr (ci := 9) (k0 := 0) C dX9_fault_29 rfl rfl inm9 (by decide) T0 q524 rfl T_2 (by decide) ?_
    refine ww_geti (ci := 7) (k0 := 2) C dX9_fault_32 rfl rfl inm7 (by decide) T_2 q372 rfl ?_
    exact ww_iret C HR HL dX9_fault_35 E
  rw [if_neg s_1] at E
  by_cases s_3 : a1 = (1 : Int32)
  · rw [if_pos s_3] at E
    refine ww_lookup (tgt := 36) C dX9_fault_1 (by decide) (by rw [s_3] <;> rfl) (by decide) ?_
    refine ww_aload_n C dX9_fault_36 rfl 0 rfl ?_
    have T_4 : gs S (gr S a0 0) = (0, 7) := hG.1 _ 9 T0 0 (by decide)
    refine ww_getr (ci := 9) (k0 := 0) C dX9_fault_37 rfl rfl inm9 (by decide) T0 q524 rfl T_4 (by decide) ?_
    refine ww_geti (ci := 7) (k0 := 3) C dX9_fault_40 rfl rfl inm7 (by decide) T_4 q374 rfl ?_
    exact ww_iret C HR HL dX9_fault_43 E
  rw [if_neg s_3] at E
  refine ww_lookup (tgt := 44) (off := 43) C dX9_fault_1 (by decide) (lk_out2 (ti_ne s_1 (by decide)) (ti_ne s_3 (by decide))) (by decide) ?_
  refine ww_iconst (v := (-1)) C dX9_fault_44 (by decide) ?_
  exact ww_iret C HR HL dX9_fault_45 E
section P_X9_feed
variable {p : Program} {l : Launch} {e : Env} {s : State} {m : MethodId} {args : Array Value} {below : List Frame} {meth : Method} {c : Code} {G : GG} {A : Nat → Prop} {ad : Nat → Nat} {S : ST} {N : Nat} {r : Int32} {dy' : DY}
end P_X9_feed
set_option maxHeartbeats 4000000 in
set_option maxRecDepth 100000 in
theorem M_X9_feed (l : Launch) (G : GG) (ad : Nat → Nat) {S : ST} (N : Nat) (hG : Good S) (a0 : Nat) (a1 : Int32) (a2 : Int32) (a3 : Int32) (a4 : Int32) (a5 : Int32) (dy : DY) (T0 : gs S a0 = (0, 9)) {r : Int32} {dy' : DY} (E : F_X9_feed S N a0 a1 a2 a3 a4 a5 dy = some (r, dy')) : MC l yX9_feed cX9_feed 6 (Option.some Jvm.ClassFile.FieldType.int) (2) G ad [.ref (ad a0), .int a1, .int a2, .int a3, .int a4, .int a5] S dy (fun A => QI G ad A S r dy') := by
  rw [F_X9_feed_s] at E
  refine mc_of RX9 (by decide) rfl (Nat.le_of_ble_eq_true rfl) (fun p e s m args below meth c A C HR HL => ?_)
  refine ww_sub (lv' := [(0, .ref (ad a0)), (1, .int a1), (2, .int a2), (3, .int a3), (4, .int a4), (5, .int a5)]) [0, 1, 2, 3, 4, 5] rfl ?_
  refine ww_aload_n C dX9_feed_0 rfl 0 rfl ?_
  have T_1 : gs S (gr S a0 0) = (0, 7) := hG.1 _ 9 T0 0 (by decide)
  refine ww_getr (ci := 9) (k0 := 0) C dX9_feed_1 rfl rfl inm9 (by decide) T0 q524 rfl T_1 (by decide) ?_
  refine ww_geti (ci := 7) (k0 := 1) C dX9_feed_4 rfl rfl inm7 (by decide) T_1 q369 rfl ?_
  refine ww_bipush (v := 20) C dX9_feed_7 (by decide) ?_
  refine ww_iadd C dX9_feed_9 ?_
  refine ww_sipush (v := 500) C dX9_feed_10 (by decide) ?_
  refine ww_icmp_le (tgt := 18) C dX9_feed_13 (by decide) E (fun _ E => ?_) (fun _ E => ?_)
  · refine ww_aload_n C dX9_feed_18 rfl 0 rfl ?_
    have T_2 : gs S (gr S a0 0) = (0, 7) := hG.1 _ 9 T0 0 (by decide)
    refine ww_getr (ci := 9) (k0 := 0) C dX9_feed_19 rfl rfl inm9 (by decide) T0 q524 rfl T_2 (by decide) ?_
    refine ww_iload_n C dX9_feed_22 rfl 1 rfl ?_
    obtain ⟨u3, e_4, E⟩ := bind_of E
    refine ww_callV C (runs_V (n := 1) (st := []) C [.int a1] (M_X7_append l G ad N hG (gr S a0 0) a1 dy T_2 e_4) ⟨q562, q109, by decide⟩ q559 q560 q561 (ci := 7) rfl T_2 rfl (Nat.le_of_ble_eq_true rfl) ⟨Nat.le_of_ble_eq_true rfl, Nat.le_of_ble_eq_true rfl⟩ ⟨Nat.zero_le _, Nat.zero_le _⟩ dX9_feed_23 rfl) ?_
    refine ww_aload_n C dX9_feed_26 rfl 0 rfl ?_
    have T_5 : gs S (gr S a0 0) = (0, 7) := hG.1 _ 9 T0 0 (by decide)
    refine ww_getr (ci := 9) (k0 := 0) C dX9_feed_27 rfl rfl inm9 (by decide) T0 q524 rfl T_5 (by decide) ?_
    refine ww_iload_n C dX9_feed_30 rfl 2 rfl ?_
    obtain ⟨u6, e_7, E⟩ := bind_of E
    refine ww_callV C (runs_V (n := 1) (st := []) C [.int a2] (M_X7_append l G ad N hG (gr S a0 0) a2 u3 T_5 e_7) ⟨q562, q109, by decide⟩ q559 q560 q561 (ci := 7) rfl T_5 rfl (Nat.le_of_ble_eq_true rfl) ⟨Nat.le_of_ble_eq_true rfl, Nat.le_of_ble_eq_true rfl⟩ ⟨Nat.zero_le _, Nat.zero_le _⟩ dX9_feed_31 rfl) ?_
    refine ww_aload_n C dX9_feed_34 rfl 0 rfl ?_
    have T_8 : gs S (gr S a0 0) = (0, 7) := hG.1 _ 9 T0 0 (by decide)
    refine ww_getr (ci := 9) (k0 := 0) C dX9_feed_35 rfl rfl inm9 (by decide) T0 q524 rfl T_8 (by decide) ?_
    refine ww_iload_n C dX9_feed_38 rfl 3 rfl ?_
    obtain ⟨u9, e_10, E⟩ := bind_of E
    refine ww_callV C (runs_V (n := 1) (st := []) C [.int a3] (M_X7_append l G ad N hG (gr S a0 0) a3 u6 T_8 e_10) ⟨q562, q109, by decide⟩ q559 q560 q561 (ci := 7) rfl T_8 rfl (Nat.le_of_ble_eq_true rfl) ⟨Nat.le_of_ble_eq_true rfl, Nat.le_of_ble_eq_true rfl⟩ ⟨Nat.zero_le _, Nat.zero_le _⟩ dX9_feed_39 rfl) ?_
    refine ww_aload_n C dX9_feed_42 rfl 0 rfl ?_
    have T_11 : gs S (gr S a0 0) = (0, 7) := hG.1 _ 9 T0 0 (by decide)
    refine ww_getr (ci := 9) (k0 := 0) C dX9_feed_43 rfl rfl inm9 (by decide) T0 q524 rfl T_11 (by decide) ?_
    refine ww_iload C dX9_feed_46 4 rfl ?_
    obtain ⟨u12, e_13, E⟩ := bind_of E
    refine ww_callV C (runs_V (n := 1) (st := []) C [.int a4] (M_X7_append l G ad N hG (gr S a0 0) a4 u9 T_11 e_13) ⟨q562, q109, by decide⟩ q559 q560 q561 (ci := 7) rfl T_11 rfl (Nat.le_of_ble_eq_true rfl) ⟨Nat.le_of_ble_eq_true rfl, Nat.le_of_ble_eq_true rfl⟩ ⟨Nat.zero_le _, Nat.zero_le _⟩ dX9_feed_48 rfl) ?_
    refine ww_aload_n C dX9_feed_51 rfl 0 rfl ?_
    have T_14 : gs S (gr S a0 0) = (0, 7) := hG.1 _ 9 T0 0 (by decide)
    refine ww_getr (ci := 9) (k0 := 0) C dX9_feed_52 rfl rfl inm9 (by decide) T0 q524 rfl T_14 (by decide) ?_
    refine ww_iload C dX9_feed_55 5 rfl ?_
    obtain ⟨u15, e_16, E⟩ := bind_of E
    refine ww_callV C (runs_V (n := 1) (st := []) C [.int a5] (M_X7_append l G ad N hG (gr S a0 0) a5 u12 T_14 e_16) ⟨q562, q109, by decide⟩ q559 q560 q561 (ci := 7) rfl T_14 rfl (Nat.le_of_ble_eq_true rfl) ⟨Nat.le_of_ble_eq_true rfl, Nat.le_of_ble_eq_true rfl⟩ ⟨Nat.zero_le _, Nat.zero_le _⟩ dX9_feed_57 rfl) ?_
    refine ww_aload_n C dX9_feed_60 rfl 0 rfl ?_
    have T_17 : gs S (gr S a0 0) = (0, 7) := hG.1 _ 9 T0 0 (by decide)
    refine ww_getr (ci := 9) (k0 := 0) C dX9_feed_61 rfl rfl inm9 (by decide) T0 q524 rfl T_17 (by decide) ?_
    refine ww_geti (ci := 7) (k0 := 1) C dX9_feed_64 rfl rfl inm7 (by decide) T_17 q369 rfl ?_
    exact ww_iret C HR HL dX9_feed_67 E
  · refine ww_iconst (v := (-1)) C dX9_feed_16 (by decide) ?_
    exact ww_iret C HR HL dX9_feed_17 E
section P_X9_finds
variable {p : Program} {l : Launch} {e : Env} {s : State} {m : MethodId} {args : Array Value} {below : List Frame} {meth : Method} {c : Code} {G : GG} {A : Nat → Prop} {ad : Nat → Nat} {S : ST} {N : Nat} {r : Int32} {dy' : DY}
end P_X9_finds
set_option maxHeartbeats 4000000 in
set_option maxRecDepth 100000 in
theorem M_X9_finds (l : Launch) (G : GG) (ad : Nat → Nat) {S : ST} (N : Nat) (hG : Good S) (a0 : Nat) (a1 : Int32) (a2 : Int32) (dy : DY) (T0 : gs S a0 = (0, 9)) {r : Int32} {dy' : DY} (E : F_X9_finds S N a0 a1 a2 dy = some (r, dy')) : MC l yX9_finds cX9_finds 3 (Option.some Jvm.ClassFile.FieldType.int) (4) G ad [.ref (ad a0), .int a1, .int a2] S dy (fun A => QI G ad A S r dy') := by
  rw [F_X9_finds_s] at E
  refine mc_of RX9 (by decide) rfl (Nat.le_of_ble_eq_true rfl) (fun p e s m args below meth c A C HR HL => ?_)
  refine ww_sub (lv' := [(0, .ref (ad a0)), (1, .int a1), (2, .int a2)]) [0, 1, 2] rfl ?_
  refine ww_aload_n C dX9_finds_0 rfl 0 rfl ?_
  have T_1 : gs S (gr S a0 0) = (0, 7) := hG.1 _ 9 T0 0 (by decide)
  refine ww_getr (ci := 9) (k0 := 0) C dX9_finds_1 rfl rfl inm9 (by decide) T0 q524 rfl T_1 (by decide) ?_
  refine ww_getz (ci := 7) (k0 := 11) C dX9_finds_4 rfl rfl inm7 (by decide) T_1 q388 rfl ?_
  refine ww_if_eq (tgt := 34) C dX9_finds_7 (by decide) E (fun _ E => ?_) (fun _ E => ?_)
  · refine ww_bipush (v := (-2)) C dX9_finds_34 (by decide) ?_
    exact ww_iret C HR HL dX9_finds_36 E
  · refine ww_aload_n C dX9_finds_10 rfl 0 rfl ?_
    have T_2 : gs S (gr S a0 0) = (0, 7) := hG.1 _ 9 T0 0 (by decide)
    refine ww_getr (ci := 9) (k0 := 0) C dX9_finds_11 rfl rfl inm9 (by decide) T0 q524 rfl T_2 (by decide) ?_
    have T_3 : gs S (gr S (gr S a0 0) 10) = (0, 8) := hG.1 _ 7 T_2 10 (by decide)
    refine ww_getr (ci := 7) (k0 := 10) C dX9_finds_14 rfl rfl inm7 (by decide) T_2 q386 rfl T_3 (by decide) ?_
    refine ww_iload_n C dX9_finds_17 rfl 1 rfl ?_
    obtain ⟨u4, e_5, E⟩ := bind_of E
    refine ww_callI C (runs_V (n := 1) (st := []) C [.int a1] (M_X8_isThere l G ad N hG (gr S (gr S a0 0) 10) a1 dy T_3 e_5) ⟨q983, q112, by decide⟩ q1016 q981 q982 (ci := 8) rfl T_3 rfl (Nat.le_of_ble_eq_true rfl) ⟨Nat.le_of_ble_eq_true rfl, Nat.le_of_ble_eq_true rfl⟩ ⟨Nat.zero_le _, Nat.zero_le _⟩ dX9_finds_18 rfl) ?_
    refine ww_if_eq (tgt := 34) C dX9_finds_21 (by decide) E (fun _ E => ?_) (fun _ E => ?_)
    · refine ww_bipush (v := (-2)) C dX9_finds_34 (by decide) ?_
      exact ww_iret C HR HL dX9_finds_36 E
    · refine ww_iload_n C dX9_finds_24 rfl 2 rfl ?_
      refine ww_if_lt (tgt := 34) C dX9_finds_25 (by decide) E (fun _ E => ?_) (fun _ E => ?_)
      · refine ww_bipush (v := (-2)) C dX9_finds_34 (by decide) ?_
        exact ww_iret C HR HL dX9_finds_36 E
      · refine ww_iload_n C dX9_finds_28 rfl 2 rfl ?_
        refine ww_bipush (v := 11) C dX9_finds_29 (by decide) ?_
        refine ww_icmp_lt (tgt := 37) C dX9_finds_31 (by decide) E (fun _ E => ?_) (fun _ E => ?_)
        · refine ww_aload_n C dX9_finds_37 rfl 0 rfl ?_
          have T_6 : gs S (gr S a0 0) = (0, 7) := hG.1 _ 9 T0 0 (by decide)
          refine ww_getr (ci := 9) (k0 := 0) C dX9_finds_38 rfl rfl inm9 (by decide) T0 q524 rfl T_6 (by decide) ?_
          have T_7 : gs S (gr S (gr S a0 0) 10) = (0, 8) := hG.1 _ 7 T_6 10 (by decide)
          refine ww_getr (ci := 7) (k0 := 10) C dX9_finds_41 rfl rfl inm7 (by decide) T_6 q386 rfl T_7 (by decide) ?_
          refine ww_iload_n C dX9_finds_44 rfl 1 rfl ?_
          obtain ⟨u8, e_9, E⟩ := bind_of E
          refine ww_callV C (runs_V (n := 1) (st := []) C [.int a1] (M_X8_look l G ad N hG (gr S (gr S a0 0) 10) a1 u4.2 T_7 e_9) ⟨q931, q112, by decide⟩ q1017 q929 q930 (ci := 8) rfl T_7 rfl (Nat.le_of_ble_eq_true rfl) ⟨Nat.le_of_ble_eq_true rfl, Nat.le_of_ble_eq_true rfl⟩ ⟨Nat.zero_le _, Nat.zero_le _⟩ dX9_finds_45 rfl) ?_
          refine ww_aload_n C dX9_finds_48 rfl 0 rfl ?_
          have T_10 : gs S (gr S a0 0) = (0, 7) := hG.1 _ 9 T0 0 (by decide)
          refine ww_getr (ci := 9) (k0 := 0) C dX9_finds_49 rfl rfl inm9 (by decide) T0 q524 rfl T_10 (by decide) ?_
          have T_11 : gs S (gr S (gr S a0 0) 10) = (0, 8) := hG.1 _ 7 T_10 10 (by decide)
          refine ww_getr (ci := 7) (k0 := 10) C dX9_finds_52 rfl rfl inm7 (by decide) T_10 q386 rfl T_11 (by decide) ?_
          have T_12 : gs S (gr S (gr S (gr S a0 0) 10) 18) = (1, 11) := hG.1 _ 8 T_11 18 (by decide)
          refine ww_getr (ci := 8) (k0 := 18) C dX9_finds_55 rfl rfl inm8 (by decide) T_11 q298 rfl T_12 (by decide) ?_
          refine ww_iload_n C dX9_finds_58 rfl 2 rfl ?_
          refine ww_iald C dX9_finds_59 T_12 E (fun _ E => ?_)
          exact ww_iret C HR HL dX9_finds_60 E
        · refine ww_bipush (v := (-2)) C dX9_finds_34 (by decide) ?_
          exact ww_iret C HR HL dX9_finds_36 E
section P_X9_fits
variable {p : Program} {l : Launch} {e : Env} {s : State} {m : MethodId} {args : Array Value} {below : List Frame} {meth : Method} {c : Code} {G : GG} {A : Nat → Prop} {ad : Nat → Nat} {S : ST} {N : Nat} {r : Int32} {dy' : DY}
set_option maxHeartbeats 4000000 in
set_option maxRecDepth 100000 in
theorem B_X9_fits_60 (C : CX p s m args c cX9_fits 6 RX9 G A) (HR : meth.sig.returnType = (Option.some Jvm.ClassFile.FieldType.int)) (HL : meth.locks = false) (hG : Good S) {K25 : Nat → Int32 → Int32 → DY → Option (Int32 × DY)} (hK25 : ∀ (x0 : Nat) (x4 : Int32) (x5 : Int32) (dy : DY), gs S x0 = (0, 9) → K25 x0 x4 x5 dy = some (r, dy') → WJ p l e (rmD (6)) s m args below meth c 6 G A 0 0 (MQ below (QI G ad A S r dy') args s 0 0 A) ad 25 [(0, .ref (ad x0)), (4, .int x4), (5, .int x5)] [] S dy) : ∀ (x0 : Nat) (x4 : Int32) (x5 : Int32) (dy : DY), gs S x0 = (0, 9) → F_X9_fits_60 S N K25 x0 x4 x5 dy = some (r, dy') → WJ p l e (rmD (6)) s m args below meth c 6 G A 0 0 (MQ below (QI G ad A S r dy') args s 0 0 A) ad 60 [(0, .ref (ad x0)), (4, .int x4), (5, .int x5)] [] S dy := by
  intro x0 x4 x5 dy Tx0 E
  rw [F_X9_fits_60_s] at E
  refine ww_aload_n C dX9_fits_60 rfl 0 rfl ?_
  have T_1 : gs S (gr S x0 6) = (0, 8) := hG.1 _ 9 Tx0 6 (by decide)
  refine ww_getr (ci := 9) (k0 := 6) C dX9_fits_61 rfl rfl inm9 (by decide) Tx0 q530 rfl T_1 (by decide) ?_
  obtain ⟨u2, e_3, E⟩ := bind_of E
  refine ww_callI C (runs_V (n := 0) (st := []) C [] (M_X8_pass l G ad N hG (gr S x0 6) dy T_1 e_3) ⟨q923, q112, by decide⟩ q920 q921 q922 (ci := 8) rfl T_1 rfl (Nat.le_of_ble_eq_true rfl) ⟨Nat.le_of_ble_eq_true rfl, Nat.le_of_ble_eq_true rfl⟩ ⟨Nat.zero_le _, Nat.zero_le _⟩ dX9_fits_64 rfl) ?_
  refine ww_pop C dX9_fits_67 rfl ?_
  refine ww_iinc (v := (x5 + (1 : Int32))) (lv' := [(5, .int (x5 + (1 : Int32))), (0, .ref (ad x0)), (4, .int x4)]) C dX9_fits_68 2 rfl rfl (by decide) rfl ?_
  refine ww_goto (tgt := 25) C dX9_fits_71 (by decide) ?_
  refine ww_sub (lv' := [(0, .ref (ad x0)), (4, .int x4), (5, .int (x5 + (1 : Int32)))]) [1, 2, 0] rfl ?_
  exact hK25 x0 x4 (x5 + (1 : Int32)) u2.2 Tx0 E
set_option maxHeartbeats 4000000 in
set_option maxRecDepth 100000 in
theorem B_X9_fits_25 (C : CX p s m args c cX9_fits 6 RX9 G A) (HR : meth.sig.returnType = (Option.some Jvm.ClassFile.FieldType.int)) (HL : meth.locks = false) (hG : Good S) : ∀ k : Nat, ∀ (x0 : Nat) (x4 : Int32) (x5 : Int32) (dy : DY), gs S x0 = (0, 9) → (F_X9_fits_25 S N k) x0 x4 x5 dy = some (r, dy') → WJ p l e (rmD (6)) s m args below meth c 6 G A 0 0 (MQ below (QI G ad A S r dy') args s 0 0 A) ad 25 [(0, .ref (ad x0)), (4, .int x4), (5, .int x5)] [] S dy := by
  intro k
  induction k with
  | zero => exact fun _ _ _ _ _ E => nomatch (show none = some (r, dy') from E)
  | succ k ih =>
    intro x0 x4 x5 dy Tx0 E
    rw [F_X9_fits_25_s] at E
    refine ww_iload C dX9_fits_25 2 rfl ?_
    refine ww_bipush (v := 8) C dX9_fits_27 (by decide) ?_
    refine ww_icmp_ge (tgt := 74) C dX9_fits_29 (by decide) E (fun _ E => ?_) (fun _ E => ?_)
    · refine ww_iload C dX9_fits_74 1 rfl ?_
      exact ww_iret C HR HL dX9_fits_76 E
    · refine ww_aload_n C dX9_fits_32 rfl 0 rfl ?_
      have T_1 : gs S (gr S x0 0) = (0, 7) := hG.1 _ 9 Tx0 0 (by decide)
      refine ww_getr (ci := 9) (k0 := 0) C dX9_fits_33 rfl rfl inm9 (by decide) Tx0 q524 rfl T_1 (by decide) ?_
      have T_2 : gs S (gr S (gr S x0 0) 12) = (0, 1) := hG.1 _ 7 T_1 12 (by decide)
      refine ww_getr (ci := 7) (k0 := 12) C dX9_fits_36 rfl rfl inm7 (by decide) T_1 q390 rfl T_2 (by decide) ?_
      have T_3 : gs S (gr S (gr S (gr S x0 0) 12) 0) = (1, 8) := hG.1 _ 1 T_2 0 (by decide)
      refine ww_getr (ci := 1) (k0 := 0) C dX9_fits_39 rfl rfl inm1 (by decide) T_2 q348 rfl T_3 (by decide) ?_
      refine ww_iload C dX9_fits_42 2 rfl ?_
      refine ww_iald C dX9_fits_44 T_3 E (fun _ E => ?_)
      refine ww_if_le (tgt := 60) C dX9_fits_45 (by decide) E (fun _ E => ?_) (fun _ E => ?_)
      · refine ww_sub (lv' := [(0, .ref (ad x0)), (4, .int x4), (5, .int x5)]) [0, 1, 2] rfl ?_
        exact (B_X9_fits_60 C HR HL hG ih) x0 x4 x5 dy Tx0 E
      · refine ww_aload_n C dX9_fits_48 rfl 0 rfl ?_
        refine ww_iload C dX9_fits_49 2 rfl ?_
        obtain ⟨u4, e_5, E⟩ := bind_of E
        refine ww_callI C (runs_V (n := 1) (st := []) C [.int x5] (M_X9_areHatsOfTrial l G ad N hG x0 x5 dy Tx0 e_5) ⟨q1175, q108, by decide⟩ q1172 q1174 q35 (ci := 9) rfl Tx0 rfl (Nat.le_of_ble_eq_true rfl) ⟨Nat.le_of_ble_eq_true rfl, Nat.le_of_ble_eq_true rfl⟩ ⟨Nat.zero_le _, Nat.zero_le _⟩ dX9_fits_51 rfl) ?_
        refine ww_if_eq (tgt := 60) C dX9_fits_54 (by decide) E (fun _ E => ?_) (fun _ E => ?_)
        · refine ww_sub (lv' := [(0, .ref (ad x0)), (4, .int x4), (5, .int x5)]) [0, 1, 2] rfl ?_
          exact (B_X9_fits_60 C HR HL hG ih) x0 x4 x5 u4.2 Tx0 E
        · refine ww_iinc (v := (x4 + (1 : Int32))) (lv' := [(4, .int (x4 + (1 : Int32))), (0, .ref (ad x0)), (5, .int x5)]) C dX9_fits_57 1 rfl rfl (by decide) rfl ?_
          refine ww_sub (lv' := [(0, .ref (ad x0)), (4, .int (x4 + (1 : Int32))), (5, .int x5)]) [1, 0, 2] rfl ?_
          exact (B_X9_fits_60 C HR HL hG ih) x0 (x4 + (1 : Int32)) x5 u4.2 Tx0 E
end P_X9_fits
set_option maxHeartbeats 4000000 in
set_option maxRecDepth 100000 in
theorem M_X9_fits (l : Launch) (G : GG) (ad : Nat → Nat) {S : ST} (N : Nat) (hG : Good S) (a0 : Nat) (a1 : Int32) (a2 : Int32) (a3 : Int32) (dy : DY) (T0 : gs S a0 = (0, 9)) {r : Int32} {dy' : DY} (E : F_X9_fits S N a0 a1 a2 a3 dy = some (r, dy')) : MC l yX9_fits cX9_fits 6 (Option.some Jvm.ClassFile.FieldType.int) (6) G ad [.ref (ad a0), .int a1, .int a2, .int a3] S dy (fun A => QI G ad A S r dy') := by
  rw [F_X9_fits_s] at E
  refine mc_of RX9 (by decide) rfl (Nat.le_of_ble_eq_true rfl) (fun p e s m args below meth c A C HR HL => ?_)
  refine ww_sub (lv' := [(0, .ref (ad a0)), (1, .int a1), (2, .int a2), (3, .int a3)]) [0, 1, 2, 3] rfl ?_
  refine ww_aload_n C dX9_fits_0 rfl 0 rfl ?_
  refine ww_iload_n C dX9_fits_1 rfl 1 rfl ?_
  refine ww_iload_n C dX9_fits_2 rfl 2 rfl ?_
  obtain ⟨u1, e_2, E⟩ := bind_of E
  refine ww_callI C (runs_V (n := 2) (st := []) C [.int a1, .int a2] (M_X9_prepare l G ad N hG a0 a1 a2 dy T0 e_2) ⟨q1060, q108, by decide⟩ q1057 q1059 q27 (ci := 9) rfl T0 rfl (Nat.le_of_ble_eq_true rfl) ⟨Nat.le_of_ble_eq_true rfl, Nat.le_of_ble_eq_true rfl⟩ ⟨Nat.zero_le _, Nat.zero_le _⟩ dX9_fits_3 rfl) ?_
  refine ww_if_ne (tgt := 11) C dX9_fits_6 (by decide) E (fun _ E => ?_) (fun _ E => ?_)
  · refine ww_iconst (v := 0) C dX9_fits_11 (by decide) ?_
    refine ww_istore (lv' := [(4, .int (0 : Int32)), (0, .ref (ad a0)), (1, .int a1), (2, .int a2), (3, .int a3)]) C dX9_fits_12 (by decide) rfl ?_
    refine ww_aload_n C dX9_fits_14 rfl 1 rfl ?_
    have T_3 : gs S (gr S a0 6) = (0, 8) := hG.1 _ 9 T0 6 (by decide)
    refine ww_getr (ci := 9) (k0 := 6) C dX9_fits_15 rfl rfl inm9 (by decide) T0 q530 rfl T_3 (by decide) ?_
    refine ww_iload_n C dX9_fits_18 rfl 4 rfl ?_
    obtain ⟨u4, e_5, E⟩ := bind_of E
    refine ww_callV C (runs_V (n := 1) (st := []) C [.int a3] (M_X8_begin l G ad N hG (gr S a0 6) a3 u1.2 T_3 e_5) ⟨q907, q112, by decide⟩ q904 q905 q906 (ci := 8) rfl T_3 rfl (Nat.le_of_ble_eq_true rfl) ⟨Nat.le_of_ble_eq_true rfl, Nat.le_of_ble_eq_true rfl⟩ ⟨Nat.zero_le _, Nat.zero_le _⟩ dX9_fits_19 rfl) ?_
    refine ww_iconst (v := 0) C dX9_fits_22 (by decide) ?_
    refine ww_istore (lv' := [(5, .int (0 : Int32)), (4, .int (0 : Int32)), (0, .ref (ad a0)), (1, .int a1), (2, .int a2), (3, .int a3)]) C dX9_fits_23 (by decide) rfl ?_
    refine ww_sub (lv' := [(0, .ref (ad a0)), (4, .int (0 : Int32)), (5, .int (0 : Int32))]) [2, 1, 0] rfl ?_
    exact (B_X9_fits_25 C HR HL hG N) a0 (0 : Int32) (0 : Int32) u4 T0 E
  · refine ww_iconst (v := (-1)) C dX9_fits_9 (by decide) ?_
    exact ww_iret C HR HL dX9_fits_10 E
section P_X9_flow
variable {p : Program} {l : Launch} {e : Env} {s : State} {m : MethodId} {args : Array Value} {below : List Frame} {meth : Method} {c : Code} {G : GG} {A : Nat → Prop} {ad : Nat → Nat} {S : ST} {N : Nat} {r : Int32} {dy' : DY}
end P_X9_flow
set_option maxHeartbeats 4000000 in
set_option maxRecDepth 100000 in
theorem M_X9_flow (l : Launch) (G : GG) (ad : Nat → Nat) {S : ST} (N : Nat) (hG : Good S) (a0 : Nat) (a1 : Int32) (a2 : Int32) (a3 : Int32) (a4 : Int32) (dy : DY) (T0 : gs S a0 = (0, 9)) {r : Int32} {dy' : DY} (E : F_X9_flow S N a0 a1 a2 a3 a4 dy = some (r, dy')) : MC l yX9_flow cX9_flow 5 (Option.some Jvm.ClassFile.FieldType.int) (7) G ad [.ref (ad a0), .int a1, .int a2, .int a3, .int a4] S dy (fun A => QI G ad A S r dy') := by
  rw [F_X9_flow_s] at E
  refine mc_of RX9 (by decide) rfl (Nat.le_of_ble_eq_true rfl) (fun p e s m args below meth c A C HR HL => ?_)
  refine ww_sub (lv' := [(0, .ref (ad a0)), (1, .int a1), (2, .int a2), (3, .int a3), (4, .int a4)]) [0, 1, 2, 3, 4] rfl ?_
  refine ww_iload C dX9_flow_0 4 rfl ?_
  refine ww_sipush (v := 200) C dX9_flow_2 (by decide) ?_
  obtain ⟨u1, e_2, E⟩ := bind_of E
  refine ww_callI C (runs_S (n := 2) (st := []) C [.int a4, .int (200 : Int32)] (M_X9_isTime l G ad N hG a4 (200 : Int32) dy e_2) ⟨q1108, q108, by decide⟩ q1106 q1107 rfl (Nat.le_of_ble_eq_true rfl) ⟨Nat.le_of_ble_eq_true rfl, Nat.le_of_ble_eq_true rfl⟩ ⟨Nat.zero_le _, Nat.zero_le _⟩ dX9_flow_5 rfl) ?_
  refine ww_if_eq (tgt := 20) C dX9_flow_8 (by decide) E (fun _ E => ?_) (fun _ E => ?_)
  · refine ww_iconst (v := (-1)) C dX9_flow_20 (by decide) ?_
    exact ww_iret C HR HL dX9_flow_21 E
  · refine ww_aload_n C dX9_flow_11 rfl 0 rfl ?_
    refine ww_iload_n C dX9_flow_12 rfl 1 rfl ?_
    refine ww_iload_n C dX9_flow_13 rfl 2 rfl ?_
    obtain ⟨u3, e_4, E⟩ := bind_of E
    refine ww_callI C (runs_V (n := 2) (st := []) C [.int a1, .int a2] (M_X9_prepare l G ad N hG a0 a1 a2 u1.2 T0 e_4) ⟨q1060, q108, by decide⟩ q1057 q1059 q27 (ci := 9) rfl T0 rfl (Nat.le_of_ble_eq_true rfl) ⟨Nat.le_of_ble_eq_true rfl, Nat.le_of_ble_eq_true rfl⟩ ⟨Nat.zero_le _, Nat.zero_le _⟩ dX9_flow_14 rfl) ?_
    refine ww_if_ne (tgt := 22) C dX9_flow_17 (by decide) E (fun _ E => ?_) (fun _ E => ?_)
    · refine ww_aload_n C dX9_flow_22 rfl 0 rfl ?_
      refine ww_iload_n C dX9_flow_23 rfl 3 rfl ?_
      refine ww_iload C dX9_flow_24 4 rfl ?_
      obtain ⟨u5, e_6, E⟩ := bind_of E
      refine ww_callI C (runs_V (n := 2) (st := []) C [.int a3, .int a4] (M_X9_arrivals l G ad N hG a0 a3 a4 u3.2 T0 e_6) ⟨q1116, q108, by decide⟩ q1113 q1115 q32 (ci := 9) rfl T0 rfl (Nat.le_of_ble_eq_true rfl) ⟨Nat.le_of_ble_eq_true rfl, Nat.le_of_ble_eq_true rfl⟩ ⟨Nat.zero_le _, Nat.zero_le _⟩ dX9_flow_26 rfl) ?_
      refine ww_pop C dX9_flow_29 rfl ?_
      refine ww_aload_n C dX9_flow_30 rfl 0 rfl ?_
      have T_7 : gs S (gr S a0 6) = (0, 8) := hG.1 _ 9 T0 6 (by decide)
      refine ww_getr (ci := 9) (k0 := 6) C dX9_flow_31 rfl rfl inm9 (by decide) T0 q530 rfl T_7 (by decide) ?_
      obtain ⟨u8, e_9, E⟩ := bind_of E
      refine ww_callI C (runs_V (n := 0) (st := []) C [] (M_X8_mostArrivals l G ad N hG (gr S a0 6) u5.2 T_7 e_9) ⟨q1151, q112, by decide⟩ q1148 q1149 q1150 (ci := 8) rfl T_7 rfl (Nat.le_of_ble_eq_true rfl) ⟨Nat.le_of_ble_eq_true rfl, Nat.le_of_ble_eq_true rfl⟩ ⟨Nat.zero_le _, Nat.zero_le _⟩ dX9_flow_34 rfl) ?_
      exact ww_iret C HR HL dX9_flow_37 E
    · refine ww_iconst (v := (-1)) C dX9_flow_20 (by decide) ?_
      exact ww_iret C HR HL dX9_flow_21 E
section P_X9_fullest
variable {p : Program} {l : Launch} {e : Env} {s : State} {m : MethodId} {args : Array Value} {below : List Frame} {meth : Method} {c : Code} {G : GG} {A : Nat → Prop} {ad : Nat → Nat} {S : ST} {N : Nat} {r : Int32} {dy' : DY}
set_option maxHeartbeats 4000000 in
set_option maxRecDepth 100000 in
theorem B_X9_fullest_34 (C : CX p s m args c cX9_fullest 7 RX9 G A) (HR : meth.sig.returnType = (Option.some Jvm.ClassFile.FieldType.int)) (HL : meth.locks = false) (hG : Good S) : ∀ k : Nat, ∀ (x0 : Nat) (x3 : Int32) (x4 : Int32) (x5 : Int32) (x6 : Int32) (dy : DY), gs S x0 = (0, 9) → (F_X9_fullest_34 S N k) x0 x3 x4 x5 x6 dy = some (r, dy') → WJ p l e (rmD (7)) s m args below meth c 7 G A 0 0 (MQ below (QI G ad A S r dy') args s 0 0 A) ad 34 [(0, .ref (ad x0)), (3, .int x3), (4, .int x4), (5, .int x5), (6, .int x6)] [] S dy := by
  intro k
  induction k with
  | zero => exact fun _ _ _ _ _ _ _ E => nomatch (show none = some (r, dy') from E)
  | succ k ih =>
    intro x0 x3 x4 x5 x6 dy Tx0 E
    rw [F_X9_fullest_34_s] at E
    refine ww_iload C dX9_fullest_34 4 rfl ?_
    refine ww_iload C dX9_fullest_36 3 rfl ?_
    refine ww_icmp_gt (tgt := 73) C dX9_fullest_38 (by decide) E (fun _ E => ?_) (fun _ E => ?_)
    · refine ww_iconst (v := (-1)) C dX9_fullest_73 (by decide) ?_
      exact ww_iret C HR HL dX9_fullest_74 E
    · refine ww_aload_n C dX9_fullest_41 rfl 0 rfl ?_
      have T_1 : gs S (gr S x0 4) = (0, 4) := hG.1 _ 9 Tx0 4 (by decide)
      refine ww_getr (ci := 9) (k0 := 4) C dX9_fullest_42 rfl rfl inm9 (by decide) Tx0 q528 rfl T_1 (by decide) ?_
      refine ww_iload C dX9_fullest_45 4 rfl ?_
      refine ww_iload C dX9_fullest_47 3 rfl ?_
      obtain ⟨u2, e_3, E⟩ := bind_of E
      refine ww_callV C (runs_V (n := 2) (st := []) C [.int x6, .int x5] (M_X4_keepFirst l G ad N hG (gr S x0 4) x6 x5 dy T_1 e_3) ⟨q1112, q110, by decide⟩ q1109 q1110 q1111 (ci := 4) rfl T_1 rfl (Nat.le_of_ble_eq_true rfl) ⟨Nat.le_of_ble_eq_true rfl, Nat.le_of_ble_eq_true rfl⟩ ⟨Nat.zero_le _, Nat.zero_le _⟩ dX9_fullest_49 rfl) ?_
      refine ww_aload_n C dX9_fullest_52 rfl 0 rfl ?_
      refine ww_iload_n C dX9_fullest_53 rfl 1 rfl ?_
      refine ww_iload C dX9_fullest_54 2 rfl ?_
      obtain ⟨u4, e_5, E⟩ := bind_of E
      refine ww_callI C (runs_V (n := 2) (st := []) C [.int x3, .int x4] (M_X9_arrivals l G ad N hG x0 x3 x4 u2 Tx0 e_5) ⟨q1116, q108, by decide⟩ q1113 q1115 q32 (ci := 9) rfl Tx0 rfl (Nat.le_of_ble_eq_true rfl) ⟨Nat.le_of_ble_eq_true rfl, Nat.le_of_ble_eq_true rfl⟩ ⟨Nat.zero_le _, Nat.zero_le _⟩ dX9_fullest_56 rfl) ?_
      refine ww_iload C dX9_fullest_59 4 rfl ?_
      refine ww_icmp_ge (tgt := 67) C dX9_fullest_61 (by decide) E (fun _ E => ?_) (fun _ E => ?_)
      · refine ww_iinc (v := (x6 + (1 : Int32))) (lv' := [(6, .int (x6 + (1 : Int32))), (0, .ref (ad x0)), (3, .int x3), (4, .int x4), (5, .int x5)]) C dX9_fullest_67 4 rfl rfl (by decide) rfl ?_
        refine ww_goto (tgt := 34) C dX9_fullest_70 (by decide) ?_
        refine ww_sub (lv' := [(0, .ref (ad x0)), (3, .int x3), (4, .int x4), (5, .int x5), (6, .int (x6 + (1 : Int32)))]) [1, 2, 3, 4, 0] rfl ?_
        exact ih x0 x3 x4 x5 (x6 + (1 : Int32)) u4.2 Tx0 E
      · refine ww_iload C dX9_fullest_64 4 rfl ?_
        exact ww_iret C HR HL dX9_fullest_66 E
end P_X9_fullest
set_option maxHeartbeats 4000000 in
set_option maxRecDepth 100000 in
theorem M_X9_fullest (l : Launch) (G : GG) (ad : Nat → Nat) {S : ST} (N : Nat) (hG : Good S) (a0 : Nat) (a1 : Int32) (a2 : Int32) (a3 : Int32) (a4 : Int32) (dy : DY) (T0 : gs S a0 = (0, 9)) {r : Int32} {dy' : DY} (E : F_X9_fullest S N a0 a1 a2 a3 a4 dy = some (r, dy')) : MC l yX9_fullest cX9_fullest 7 (Option.some Jvm.ClassFile.FieldType.int) (7) G ad [.ref (ad a0), .int a1, .int a2, .int a3, .int a4] S dy (fun A => QI G ad A S r dy') := by
  rw [F_X9_fullest_s] at E
  refine mc_of RX9 (by decide) rfl (Nat.le_of_ble_eq_true rfl) (fun p e s m args below meth c A C HR HL => ?_)
  refine ww_sub (lv' := [(0, .ref (ad a0)), (1, .int a1), (2, .int a2), (3, .int a3), (4, .int a4)]) [0, 1, 2, 3, 4] rfl ?_
  refine ww_iload C dX9_fullest_0 4 rfl ?_
  refine ww_sipush (v := 200) C dX9_fullest_2 (by decide) ?_
  obtain ⟨u1, e_2, E⟩ := bind_of E
  refine ww_callI C (runs_S (n := 2) (st := []) C [.int a4, .int (200 : Int32)] (M_X9_isTime l G ad N hG a4 (200 : Int32) dy e_2) ⟨q1108, q108, by decide⟩ q1106 q1107 rfl (Nat.le_of_ble_eq_true rfl) ⟨Nat.le_of_ble_eq_true rfl, Nat.le_of_ble_eq_true rfl⟩ ⟨Nat.zero_le _, Nat.zero_le _⟩ dX9_fullest_5 rfl) ?_
  refine ww_if_eq (tgt := 20) C dX9_fullest_8 (by decide) E (fun _ E => ?_) (fun _ E => ?_)
  · refine ww_iconst (v := (-1)) C dX9_fullest_20 (by decide) ?_
    exact ww_iret C HR HL dX9_fullest_21 E
  · refine ww_aload_n C dX9_fullest_11 rfl 0 rfl ?_
    refine ww_iload_n C dX9_fullest_12 rfl 1 rfl ?_
    refine ww_iload_n C dX9_fullest_13 rfl 2 rfl ?_
    obtain ⟨u3, e_4, E⟩ := bind_of E
    refine ww_callI C (runs_V (n := 2) (st := []) C [.int a1, .int a2] (M_X9_prepare l G ad N hG a0 a1 a2 u1.2 T0 e_4) ⟨q1060, q108, by decide⟩ q1057 q1059 q27 (ci := 9) rfl T0 rfl (Nat.le_of_ble_eq_true rfl) ⟨Nat.le_of_ble_eq_true rfl, Nat.le_of_ble_eq_true rfl⟩ ⟨Nat.zero_le _, Nat.zero_le _⟩ dX9_fullest_14 rfl) ?_
    refine ww_if_ne (tgt := 22) C dX9_fullest_17 (by decide) E (fun _ E => ?_) (fun _ E => ?_)
    · refine ww_aload_n C dX9_fullest_22 rfl 0 rfl ?_
      have T_5 : gs S (gr S a0 4) = (0, 4) := hG.1 _ 9 T0 4 (by decide)
      refine ww_getr (ci := 9) (k0 := 4) C dX9_fullest_23 rfl rfl inm9 (by decide) T0 q528 rfl T_5 (by decide) ?_
      refine ww_geti (ci := 4) (k0 := 3) C dX9_fullest_26 rfl rfl inm4 (by decide) T_5 q164 rfl ?_
      refine ww_istore (lv' := [(5, .int (gi u3.2 (gr S a0 4) 3)), (0, .ref (ad a0)), (1, .int a1), (2, .int a2), (3, .int a3), (4, .int a4)]) C dX9_fullest_29 (by decide) rfl ?_
      refine ww_iconst (v := 1) C dX9_fullest_31 (by decide) ?_
      refine ww_istore (lv' := [(6, .int (1 : Int32)), (5, .int (gi u3.2 (gr S a0 4) 3)), (0, .ref (ad a0)), (1, .int a1), (2, .int a2), (3, .int a3), (4, .int a4)]) C dX9_fullest_32 (by decide) rfl ?_
      refine ww_sub (lv' := [(0, .ref (ad a0)), (3, .int a3), (4, .int a4), (5, .int (gi u3.2 (gr S a0 4) 3)), (6, .int (1 : Int32))]) [2, 5, 6, 1, 0] rfl ?_
      exact (B_X9_fullest_34 C HR HL hG N) a0 a3 a4 (gi u3.2 (gr S a0 4) 3) (1 : Int32) u3.2 T0 E
    · refine ww_iconst (v := (-1)) C dX9_fullest_20 (by decide) ?_
      exact ww_iret C HR HL dX9_fullest_21 E
section P_X9_go
variable {p : Program} {l : Launch} {e : Env} {s : State} {m : MethodId} {args : Array Value} {below : List Frame} {meth : Method} {c : Code} {G : GG} {A : Nat → Prop} {ad : Nat → Nat} {S : ST} {N : Nat} {r : Int32} {dy' : DY}
set_option maxHeartbeats 4000000 in
set_option maxRecDepth 100000 in
theorem B_X9_go_27 (C : CX p s m args c cX9_go 4 RX9 G A) (HR : meth.sig.returnType = (Option.some Jvm.ClassFile.FieldType.int)) (HL : meth.locks = false) (hG : Good S) : ∀ k : Nat, ∀ (x0 : Nat) (x1 : Int32) (x2 : Int32) (x3 : Int32) (dy : DY), gs S x0 = (0, 9) → (F_X9_go_27 S N k) x0 x1 x2 x3 dy = some (r, dy') → WJ p l e (rmD (6)) s m args below meth c 4 G A 0 0 (MQ below (QI G ad A S r dy') args s 0 0 A) ad 27 [(0, .ref (ad x0)), (1, .int x1), (2, .int x2), (3, .int x3)] [] S dy := by
  intro k
  induction k with
  | zero => exact fun _ _ _ _ _ _ E => nomatch (show none = some (r, dy') from E)
  | succ k ih =>
    intro x0 x1 x2 x3 dy Tx0 E
    rw [F_X9_go_27_s] at E
    refine ww_iload_n C dX9_go_27 rfl 3 rfl ?_
    refine ww_iload_n C dX9_go_28 rfl 1 rfl ?_
    refine ww_icmp_ge (tgt := 51) C dX9_go_29 (by decide) E (fun _ E => ?_) (fun _ E => ?_)
    · refine ww_iload_n C dX9_go_51 rfl 2 rfl ?_
      exact ww_iret C HR HL dX9_go_52 E
    · refine ww_iload_n C dX9_go_32 rfl 2 rfl ?_
      refine ww_aload_n C dX9_go_33 rfl 0 rfl ?_
      have T_1 : gs S (gr S x0 0) = (0, 7) := hG.1 _ 9 Tx0 0 (by decide)
      refine ww_getr (ci := 9) (k0 := 0) C dX9_go_34 rfl rfl inm9 (by decide) Tx0 q524 rfl T_1 (by decide) ?_
      have T_2 : gs S (gr S (gr S x0 0) 10) = (0, 8) := hG.1 _ 7 T_1 10 (by decide)
      refine ww_getr (ci := 7) (k0 := 10) C dX9_go_37 rfl rfl inm7 (by decide) T_1 q386 rfl T_2 (by decide) ?_
      obtain ⟨u3, e_4, E⟩ := bind_of E
      refine ww_callI C (runs_V (n := 0) (st := [.int x2]) C [] (M_X8_pass l G ad N hG (gr S (gr S x0 0) 10) dy T_2 e_4) ⟨q923, q112, by decide⟩ q920 q921 q922 (ci := 8) rfl T_2 rfl (Nat.le_of_ble_eq_true rfl) ⟨Nat.le_of_ble_eq_true rfl, Nat.le_of_ble_eq_true rfl⟩ ⟨Nat.zero_le _, Nat.zero_le _⟩ dX9_go_40 rfl) ?_
      refine ww_iadd C dX9_go_43 ?_
      refine ww_istore_n (lv' := [(2, .int (x2 + u3.1)), (0, .ref (ad x0)), (1, .int x1), (3, .int x3)]) C dX9_go_44 rfl (by decide) rfl ?_
      refine ww_iinc (v := (x3 + (1 : Int32))) (lv' := [(3, .int (x3 + (1 : Int32))), (2, .int (x2 + u3.1)), (0, .ref (ad x0)), (1, .int x1)]) C dX9_go_45 3 rfl rfl (by decide) rfl ?_
      refine ww_goto (tgt := 27) C dX9_go_48 (by decide) ?_
      refine ww_sub (lv' := [(0, .ref (ad x0)), (1, .int x1), (2, .int (x2 + u3.1)), (3, .int (x3 + (1 : Int32)))]) [2, 3, 1, 0] rfl ?_
      exact ih x0 x1 (x2 + u3.1) (x3 + (1 : Int32)) u3.2 Tx0 E
end P_X9_go
set_option maxHeartbeats 4000000 in
set_option maxRecDepth 100000 in
theorem M_X9_go (l : Launch) (G : GG) (ad : Nat → Nat) {S : ST} (N : Nat) (hG : Good S) (a0 : Nat) (a1 : Int32) (dy : DY) (T0 : gs S a0 = (0, 9)) {r : Int32} {dy' : DY} (E : F_X9_go S N a0 a1 dy = some (r, dy')) : MC l yX9_go cX9_go 4 (Option.some Jvm.ClassFile.FieldType.int) (6) G ad [.ref (ad a0), .int a1] S dy (fun A => QI G ad A S r dy') := by
  rw [F_X9_go_s] at E
  refine mc_of RX9 (by decide) rfl (Nat.le_of_ble_eq_true rfl) (fun p e s m args below meth c A C HR HL => ?_)
  refine ww_sub (lv' := [(0, .ref (ad a0)), (1, .int a1)]) [0, 1] rfl ?_
  refine ww_aload_n C dX9_go_0 rfl 0 rfl ?_
  have T_1 : gs S (gr S a0 0) = (0, 7) := hG.1 _ 9 T0 0 (by decide)
  refine ww_getr (ci := 9) (k0 := 0) C dX9_go_1 rfl rfl inm9 (by decide) T0 q524 rfl T_1 (by decide) ?_
  refine ww_getz (ci := 7) (k0 := 11) C dX9_go_4 rfl rfl inm7 (by decide) T_1 q388 rfl ?_
  refine ww_if_eq (tgt := 21) C dX9_go_7 (by decide) E (fun _ E => ?_) (fun _ E => ?_)
  · refine ww_iconst (v := (-1)) C dX9_go_21 (by decide) ?_
    exact ww_iret C HR HL dX9_go_22 E
  · refine ww_iload_n C dX9_go_10 rfl 1 rfl ?_
    refine ww_if_lt (tgt := 21) C dX9_go_11 (by decide) E (fun _ E => ?_) (fun _ E => ?_)
    · refine ww_iconst (v := (-1)) C dX9_go_21 (by decide) ?_
      exact ww_iret C HR HL dX9_go_22 E
    · refine ww_iload_n C dX9_go_14 rfl 1 rfl ?_
      refine ww_sipush (v := 200) C dX9_go_15 (by decide) ?_
      refine ww_icmp_le (tgt := 23) C dX9_go_18 (by decide) E (fun _ E => ?_) (fun _ E => ?_)
      · refine ww_iconst (v := 0) C dX9_go_23 (by decide) ?_
        refine ww_istore_n (lv' := [(2, .int (0 : Int32)), (0, .ref (ad a0)), (1, .int a1)]) C dX9_go_24 rfl (by decide) rfl ?_
        refine ww_iconst (v := 0) C dX9_go_25 (by decide) ?_
        refine ww_istore_n (lv' := [(3, .int (0 : Int32)), (2, .int (0 : Int32)), (0, .ref (ad a0)), (1, .int a1)]) C dX9_go_26 rfl (by decide) rfl ?_
        refine ww_sub (lv' := [(0, .ref (ad a0)), (1, .int a1), (2, .int (0 : Int32)), (3, .int (0 : Int32))]) [2, 3, 1, 0] rfl ?_
        exact (B_X9_go_27 C HR HL hG N) a0 a1 (0 : Int32) (0 : Int32) dy T0 E
      · refine ww_iconst (v := (-1)) C dX9_go_21 (by decide) ?_
        exact ww_iret C HR HL dX9_go_22 E
section P_X9_habitParts
variable {p : Program} {l : Launch} {e : Env} {s : State} {m : MethodId} {args : Array Value} {below : List Frame} {meth : Method} {c : Code} {G : GG} {A : Nat → Prop} {ad : Nat → Nat} {S : ST} {N : Nat} {r : Int64} {dy' : DY} {dep : Nat}
set_option maxHeartbeats 4000000 in
set_option maxRecDepth 100000 in
theorem B_X9_habitParts_17 (C : CX p s m args c cX9_habitParts 12 RX9 G A) (HR : meth.sig.returnType = (Option.some Jvm.ClassFile.FieldType.long)) (HL : meth.locks = false) (hG : Good S) {rec : Int32 → Int32 → Int32 → Int32 → Int32 → Int32 → DY → Option (Int64 × DY)} (hrec : ∀ (a0 : Int32) (a1 : Int32) (a2 : Int32) (a3 : Int32) (a4 : Int32) (a5 : Int32) (dy : DY) {r9 : Int64} {dy9 : DY}, rec a0 a1 a2 a3 a4 a5 dy = some (r9, dy9) → MC l yX9_habitParts cX9_habitParts 12 (Option.some Jvm.ClassFile.FieldType.long) (2 * dep + 20) G ad [.int a0, .int a1, .int a2, .int a3, .int a4, .int a5] S dy (fun A => QL G ad A S r9 dy9)) : ∀ (x1 : Int32) (x5 : Int32) (dy : DY), F_X9_habitParts_17 S N rec x1 x5 dy = some (r, dy') → WJ p l e (rmD (2 * (dep + 1) + 20)) s m args below meth c 12 G A 0 0 (MQ below (QL G ad A S r dy') args s 0 0 A) ad 17 [(1, .int x1), (5, .int x5)] [] S dy := by
  intro x1 x5 dy E
  rw [F_X9_habitParts_17_s] at E
  refine ww_iload_n C dX9_habitParts_17 rfl 0 rfl ?_
  refine ww_iload C dX9_habitParts_18 1 rfl ?_
  refine ww_icmp_ne (tgt := 27) C dX9_habitParts_20 (by decide) E (fun _ E => ?_) (fun _ E => ?_)
  · refine ww_lconst (v := 0) C dX9_habitParts_27 (by decide) ?_
    exact ww_lret C HR HL dX9_habitParts_28 E
  · refine ww_lconst (v := 1) C dX9_habitParts_23 (by decide) ?_
    refine ww_goto (tgt := 28) C dX9_habitParts_24 (by decide) ?_
    exact ww_lret C HR HL dX9_habitParts_28 E
end P_X9_habitParts
set_option maxHeartbeats 4000000 in
set_option maxRecDepth 100000 in
theorem M_X9_habitParts (l : Launch) (G : GG) (ad : Nat → Nat) {S : ST} (N : Nat) : ∀ (dep : Nat) (hG : Good S) (a0 : Int32) (a1 : Int32) (a2 : Int32) (a3 : Int32) (a4 : Int32) (a5 : Int32) (dy : DY) {r : Int64} {dy' : DY}, F_X9_habitParts S N dep a0 a1 a2 a3 a4 a5 dy = some (r, dy') → MC l yX9_habitParts cX9_habitParts 12 (Option.some Jvm.ClassFile.FieldType.long) (2 * dep + 20) G ad [.int a0, .int a1, .int a2, .int a3, .int a4, .int a5] S dy (fun A => QL G ad A S r dy') := by
  intro dep
  induction dep with
  | zero => exact fun _ _ _ _ _ _ _ _ _ _ E => nomatch (show none = some _ from E)
  | succ dep ihd =>
    intro hG a0 a1 a2 a3 a4 a5 dy r dy' E
    have hrec := @ihd hG
    rw [F_X9_habitParts_s] at E
    refine mc_of RX9 (by decide) rfl (Nat.le_of_ble_eq_true rfl) (fun p e s m args below meth c A C HR HL => ?_)
    refine ww_sub (lv' := [(0, .int a0), (1, .int a1), (2, .int a2), (3, .int a3), (4, .int a4), (5, .int a5)]) [0, 1, 2, 3, 4, 5] rfl ?_
    refine ww_iload C dX9_habitParts_0 4 rfl ?_
    refine ww_if_le (tgt := 17) C dX9_habitParts_2 (by decide) E (fun _ E => ?_) (fun _ E => ?_)
    · refine ww_sub (lv' := [(1, .int a1), (5, .int a5)]) [1, 5] rfl ?_
      exact (B_X9_habitParts_17 C HR HL hG hrec) a1 a5 dy E
    · refine ww_iload C dX9_habitParts_5 5 rfl ?_
      refine ww_iload_n C dX9_habitParts_7 rfl 1 rfl ?_
      refine ww_isub C dX9_habitParts_8 ?_
      refine ww_mabs C dX9_habitParts_9 q1247 q953 q119 q954 (by simp only [rmD]; omega) (by simp only [rmD]; omega) (Nat.le_of_ble_eq_true rfl) (Nat.zero_le _) (Nat.zero_le _) ?_
      refine ww_iload C dX9_habitParts_12 4 rfl ?_
      refine ww_icmp_le (tgt := 29) C dX9_habitParts_14 (by decide) E (fun _ E => ?_) (fun _ E => ?_)
      · refine ww_iload_n C dX9_habitParts_29 rfl 1 rfl ?_
        refine ww_i2l C dX9_habitParts_30 ?_
        refine ww_iload_n C dX9_habitParts_31 rfl 0 rfl ?_
        refine ww_iload_n C dX9_habitParts_32 rfl 1 rfl ?_
        refine ww_isub C dX9_habitParts_33 ?_
        refine ww_i2l C dX9_habitParts_34 ?_
        refine ww_lmul C dX9_habitParts_35 ?_
        refine ww_lstore (lv' := [(6, .long ((a1).toInt64 * ((a0 - a1)).toInt64)), (0, .int a0), (1, .int a1), (2, .int a2), (3, .int a3), (4, .int a4), (5, .int a5)]) C dX9_habitParts_36 (by decide) rfl ?_
        refine ww_ldc2 (v := (6)) C dX9_habitParts_38 q1248 ?_
        refine ww_iload_n C dX9_habitParts_41 rfl 1 rfl ?_
        refine ww_i2l C dX9_habitParts_42 ?_
        refine ww_lmul C dX9_habitParts_43 ?_
        refine ww_iload_n C dX9_habitParts_44 rfl 1 rfl ?_
        refine ww_iconst (v := 1) C dX9_habitParts_45 (by decide) ?_
        refine ww_isub C dX9_habitParts_46 ?_
        refine ww_i2l C dX9_habitParts_47 ?_
        refine ww_lmul C dX9_habitParts_48 ?_
        refine ww_iload_n C dX9_habitParts_49 rfl 3 rfl ?_
        refine ww_iload_n C dX9_habitParts_50 rfl 4 rfl ?_
        refine ww_iadd C dX9_habitParts_51 ?_
        refine ww_i2l C dX9_habitParts_52 ?_
        refine ww_lload C dX9_habitParts_53 0 rfl ?_
        refine ww_lmul C dX9_habitParts_55 ?_
        refine ww_lsub C dX9_habitParts_56 ?_
        refine ww_lstore (lv' := [(8, .long ((((6 : Int64) * (a0).toInt64) * ((a0 - (1 : Int32))).toInt64) - (((a2 + a3)).toInt64 * ((a1).toInt64 * ((a0 - a1)).toInt64)))), (6, .long ((a1).toInt64 * ((a0 - a1)).toInt64)), (0, .int a0), (1, .int a1), (2, .int a2), (3, .int a3), (4, .int a4), (5, .int a5)]) C dX9_habitParts_57 (by decide) rfl ?_
        refine ww_lload C dX9_habitParts_59 0 rfl ?_
        refine ww_iload_n C dX9_habitParts_61 rfl 2 rfl ?_
        refine ww_iload_n C dX9_habitParts_62 rfl 3 rfl ?_
        refine ww_iload_n C dX9_habitParts_63 rfl 4 rfl ?_
        refine ww_iload_n C dX9_habitParts_64 rfl 5 rfl ?_
        refine ww_iload C dX9_habitParts_65 6 rfl ?_
        refine ww_iconst (v := 1) C dX9_habitParts_67 (by decide) ?_
        refine ww_isub C dX9_habitParts_68 ?_
        refine ww_iload C dX9_habitParts_69 7 rfl ?_
        obtain ⟨u1, e_2, E⟩ := bind_of E
        refine ww_callL C (runs_S (n := 6) (st := [.long ((((6 : Int64) * (a0).toInt64) * ((a0 - (1 : Int32))).toInt64) - (((a2 + a3)).toInt64 * ((a1).toInt64 * ((a0 - a1)).toInt64)))]) C [.int a0, .int a1, .int a2, .int a3, .int (a4 - (1 : Int32)), .int a5] (hrec a0 a1 a2 a3 (a4 - (1 : Int32)) a5 dy e_2) ⟨q1246, q108, by decide⟩ q1244 q1245 rfl (Nat.le_of_ble_eq_true rfl) (by constructor <;> (simp only [rmD]; omega)) ⟨Nat.zero_le _, Nat.zero_le _⟩ dX9_habitParts_71 rfl) ?_
        refine ww_lmul C dX9_habitParts_74 ?_
        refine ww_lstore (lv' := [(10, .long (((((6 : Int64) * (a0).toInt64) * ((a0 - (1 : Int32))).toInt64) - (((a2 + a3)).toInt64 * ((a1).toInt64 * ((a0 - a1)).toInt64))) * u1.1)), (8, .long ((((6 : Int64) * (a0).toInt64) * ((a0 - (1 : Int32))).toInt64) - (((a2 + a3)).toInt64 * ((a1).toInt64 * ((a0 - a1)).toInt64)))), (6, .long ((a1).toInt64 * ((a0 - a1)).toInt64)), (0, .int a0), (1, .int a1), (2, .int a2), (3, .int a3), (4, .int a4), (5, .int a5)]) C dX9_habitParts_75 (by decide) rfl ?_
        refine ww_lload C dX9_habitParts_77 2 rfl ?_
        refine ww_lconst (v := 0) C dX9_habitParts_79 (by decide) ?_
        refine ww_lcmp C dX9_habitParts_80 ?_
        refine ww_if_le (tgt := 136) C dX9_habitParts_81 (by decide) E (fun _ E => ?_) (fun _ E => ?_)
        · refine ww_lload C dX9_habitParts_136 0 rfl ?_
          exact ww_lret C HR HL dX9_habitParts_138 E
        · refine ww_lload C dX9_habitParts_84 0 rfl ?_
          refine ww_iload_n C dX9_habitParts_86 rfl 5 rfl ?_
          refine ww_i2l C dX9_habitParts_87 ?_
          refine ww_lload C dX9_habitParts_88 2 rfl ?_
          refine ww_lmul C dX9_habitParts_90 ?_
          refine ww_iload_n C dX9_habitParts_91 rfl 3 rfl ?_
          refine ww_iload_n C dX9_habitParts_92 rfl 4 rfl ?_
          refine ww_iconst (v := 1) C dX9_habitParts_93 (by decide) ?_
          refine ww_iadd C dX9_habitParts_94 ?_
          refine ww_iload_n C dX9_habitParts_95 rfl 5 rfl ?_
          refine ww_iload_n C dX9_habitParts_96 rfl 6 rfl ?_
          refine ww_iload C dX9_habitParts_97 7 rfl ?_
          refine ww_iconst (v := 1) C dX9_habitParts_99 (by decide) ?_
          refine ww_isub C dX9_habitParts_100 ?_
          refine ww_iload C dX9_habitParts_101 8 rfl ?_
          obtain ⟨u3, e_4, E⟩ := bind_of E
          refine ww_callL C (runs_S (n := 6) (st := [.long ((a2).toInt64 * ((a1).toInt64 * ((a0 - a1)).toInt64)), .long (((((6 : Int64) * (a0).toInt64) * ((a0 - (1 : Int32))).toInt64) - (((a2 + a3)).toInt64 * ((a1).toInt64 * ((a0 - a1)).toInt64))) * u1.1)]) C [.int a0, .int (a1 + (1 : Int32)), .int a2, .int a3, .int (a4 - (1 : Int32)), .int a5] (hrec a0 (a1 + (1 : Int32)) a2 a3 (a4 - (1 : Int32)) a5 u1.2 e_4) ⟨q1246, q108, by decide⟩ q1244 q1245 rfl (Nat.le_of_ble_eq_true rfl) (by constructor <;> (simp only [rmD]; omega)) ⟨Nat.zero_le _, Nat.zero_le _⟩ dX9_habitParts_103 rfl) ?_
          refine ww_lmul C dX9_habitParts_106 ?_
          refine ww_ladd C dX9_habitParts_107 ?_
          refine ww_lstore (lv' := [(10, .long ((((((6 : Int64) * (a0).toInt64) * ((a0 - (1 : Int32))).toInt64) - (((a2 + a3)).toInt64 * ((a1).toInt64 * ((a0 - a1)).toInt64))) * u1.1) + (((a2).toInt64 * ((a1).toInt64 * ((a0 - a1)).toInt64)) * u3.1))), (8, .long ((((6 : Int64) * (a0).toInt64) * ((a0 - (1 : Int32))).toInt64) - (((a2 + a3)).toInt64 * ((a1).toInt64 * ((a0 - a1)).toInt64)))), (6, .long ((a1).toInt64 * ((a0 - a1)).toInt64)), (0, .int a0), (1, .int a1), (2, .int a2), (3, .int a3), (4, .int a4), (5, .int a5)]) C dX9_habitParts_108 (by decide) rfl ?_
          refine ww_lload C dX9_habitParts_110 0 rfl ?_
          refine ww_iload_n C dX9_habitParts_112 rfl 6 rfl ?_
          refine ww_i2l C dX9_habitParts_113 ?_
          refine ww_lload C dX9_habitParts_114 2 rfl ?_
          refine ww_lmul C dX9_habitParts_116 ?_
          refine ww_iload_n C dX9_habitParts_117 rfl 3 rfl ?_
          refine ww_iload_n C dX9_habitParts_118 rfl 4 rfl ?_
          refine ww_iconst (v := 1) C dX9_habitParts_119 (by decide) ?_
          refine ww_isub C dX9_habitParts_120 ?_
          refine ww_iload_n C dX9_habitParts_121 rfl 5 rfl ?_
          refine ww_iload_n C dX9_habitParts_122 rfl 6 rfl ?_
          refine ww_iload C dX9_habitParts_123 7 rfl ?_
          refine ww_iconst (v := 1) C dX9_habitParts_125 (by decide) ?_
          refine ww_isub C dX9_habitParts_126 ?_
          refine ww_iload C dX9_habitParts_127 8 rfl ?_
          obtain ⟨u5, e_6, E⟩ := bind_of E
          refine ww_callL C (runs_S (n := 6) (st := [.long ((a3).toInt64 * ((a1).toInt64 * ((a0 - a1)).toInt64)), .long ((((((6 : Int64) * (a0).toInt64) * ((a0 - (1 : Int32))).toInt64) - (((a2 + a3)).toInt64 * ((a1).toInt64 * ((a0 - a1)).toInt64))) * u1.1) + (((a2).toInt64 * ((a1).toInt64 * ((a0 - a1)).toInt64)) * u3.1))]) C [.int a0, .int (a1 - (1 : Int32)), .int a2, .int a3, .int (a4 - (1 : Int32)), .int a5] (hrec a0 (a1 - (1 : Int32)) a2 a3 (a4 - (1 : Int32)) a5 u3.2 e_6) ⟨q1246, q108, by decide⟩ q1244 q1245 rfl (Nat.le_of_ble_eq_true rfl) (by constructor <;> (simp only [rmD]; omega)) ⟨Nat.zero_le _, Nat.zero_le _⟩ dX9_habitParts_129 rfl) ?_
          refine ww_lmul C dX9_habitParts_132 ?_
          refine ww_ladd C dX9_habitParts_133 ?_
          refine ww_lstore (lv' := [(10, .long (((((((6 : Int64) * (a0).toInt64) * ((a0 - (1 : Int32))).toInt64) - (((a2 + a3)).toInt64 * ((a1).toInt64 * ((a0 - a1)).toInt64))) * u1.1) + (((a2).toInt64 * ((a1).toInt64 * ((a0 - a1)).toInt64)) * u3.1)) + (((a3).toInt64 * ((a1).toInt64 * ((a0 - a1)).toInt64)) * u5.1))), (8, .long ((((6 : Int64) * (a0).toInt64) * ((a0 - (1 : Int32))).toInt64) - (((a2 + a3)).toInt64 * ((a1).toInt64 * ((a0 - a1)).toInt64)))), (6, .long ((a1).toInt64 * ((a0 - a1)).toInt64)), (0, .int a0), (1, .int a1), (2, .int a2), (3, .int a3), (4, .int a4), (5, .int a5)]) C dX9_habitParts_134 (by decide) rfl ?_
          refine ww_lload C dX9_habitParts_136 0 rfl ?_
          exact ww_lret C HR HL dX9_habitParts_138 E
      · refine ww_sub (lv' := [(1, .int a1), (5, .int a5)]) [1, 5] rfl ?_
        exact (B_X9_habitParts_17 C HR HL hG hrec) a1 a5 dy E
section P_X9_habit
variable {p : Program} {l : Launch} {e : Env} {s : State} {m : MethodId} {args : Array Value} {below : List Frame} {meth : Method} {c : Code} {G : GG} {A : Nat → Prop} {ad : Nat → Nat} {S : ST} {N : Nat} {r : Int64} {dy' : DY}
set_option maxHeartbeats 4000000 in
set_option maxRecDepth 100000 in
theorem B_X9_habit_67 (C : CX p s m args c cX9_habit 9 RX9 G A) (HR : meth.sig.returnType = (Option.some Jvm.ClassFile.FieldType.long)) (HL : meth.locks = false) (hG : Good S) : ∀ (x1 : Int32) (x2 : Int32) (x3 : Int32) (x4 : Int32) (x5 : Int32) (x6 : Int32) (x7 : Int32) (y0 : Int32) (dy : DY), F_X9_habit_67 S N x1 x2 x3 x4 x5 x6 x7 y0 dy = some (r, dy') → WJ p l e (rmD (37)) s m args below meth c 9 G A 0 0 (MQ below (QL G ad A S r dy') args s 0 0 A) ad 67 [(1, .int x1), (2, .int x2), (3, .int x3), (4, .int x4), (5, .int x5), (6, .int x6), (7, .int x7)] [.int y0] S dy := by
  intro x1 x2 x3 x4 x5 x6 x7 y0 dy E
  rw [F_X9_habit_67_s] at E
  refine ww_istore (lv' := [(8, .int y0), (1, .int x1), (2, .int x2), (3, .int x3), (4, .int x4), (5, .int x5), (6, .int x6), (7, .int x7)]) C dX9_habit_67 (by decide) rfl ?_
  refine ww_iload C dX9_habit_69 7 rfl ?_
  refine ww_if_eq (tgt := 91) C dX9_habit_71 (by decide) E (fun _ E => ?_) (fun _ E => ?_)
  · refine ww_ldc2 (v := (-1)) C dX9_habit_91 q1243 ?_
    exact ww_lret C HR HL dX9_habit_94 E
  · refine ww_iload C dX9_habit_74 0 rfl ?_
    refine ww_if_eq (tgt := 91) C dX9_habit_76 (by decide) E (fun _ E => ?_) (fun _ E => ?_)
    · refine ww_ldc2 (v := (-1)) C dX9_habit_91 q1243 ?_
      exact ww_lret C HR HL dX9_habit_94 E
    · refine ww_iload C dX9_habit_79 5 rfl ?_
      refine ww_if_lt (tgt := 91) C dX9_habit_81 (by decide) E (fun _ E => ?_) (fun _ E => ?_)
      · refine ww_ldc2 (v := (-1)) C dX9_habit_91 q1243 ?_
        exact ww_lret C HR HL dX9_habit_94 E
      · refine ww_iload C dX9_habit_84 5 rfl ?_
        refine ww_bipush (v := 6) C dX9_habit_86 (by decide) ?_
        refine ww_icmp_le (tgt := 95) C dX9_habit_88 (by decide) E (fun _ E => ?_) (fun _ E => ?_)
        · refine ww_iload_n C dX9_habit_95 rfl 1 rfl ?_
          refine ww_iload_n C dX9_habit_96 rfl 2 rfl ?_
          refine ww_iload_n C dX9_habit_97 rfl 3 rfl ?_
          refine ww_iload C dX9_habit_98 4 rfl ?_
          refine ww_iload C dX9_habit_100 5 rfl ?_
          refine ww_iload C dX9_habit_102 6 rfl ?_
          obtain ⟨u1, e_2, E⟩ := bind_of E
          refine ww_callL C (runs_S (n := 6) (st := []) C [.int x1, .int x2, .int x3, .int x4, .int x5, .int x6] (M_X9_habitParts l G ad N 8 hG x1 x2 x3 x4 x5 x6 dy e_2) ⟨q1246, q108, by decide⟩ q1244 q1245 rfl (Nat.le_of_ble_eq_true rfl) ⟨Nat.le_of_ble_eq_true rfl, Nat.le_of_ble_eq_true rfl⟩ ⟨Nat.zero_le _, Nat.zero_le _⟩ dX9_habit_104 rfl) ?_
          exact ww_lret C HR HL dX9_habit_107 E
        · refine ww_ldc2 (v := (-1)) C dX9_habit_91 q1243 ?_
          exact ww_lret C HR HL dX9_habit_94 E
set_option maxHeartbeats 4000000 in
set_option maxRecDepth 100000 in
theorem B_X9_habit_36 (C : CX p s m args c cX9_habit 9 RX9 G A) (HR : meth.sig.returnType = (Option.some Jvm.ClassFile.FieldType.long)) (HL : meth.locks = false) (hG : Good S) : ∀ (x1 : Int32) (x2 : Int32) (x3 : Int32) (x4 : Int32) (x5 : Int32) (x6 : Int32) (y0 : Int32) (dy : DY), F_X9_habit_36 S N x1 x2 x3 x4 x5 x6 y0 dy = some (r, dy') → WJ p l e (rmD (37)) s m args below meth c 9 G A 0 0 (MQ below (QL G ad A S r dy') args s 0 0 A) ad 36 [(1, .int x1), (2, .int x2), (3, .int x3), (4, .int x4), (5, .int x5), (6, .int x6)] [.int y0] S dy := by
  intro x1 x2 x3 x4 x5 x6 y0 dy E
  rw [F_X9_habit_36_s] at E
  refine ww_istore (lv' := [(7, .int y0), (1, .int x1), (2, .int x2), (3, .int x3), (4, .int x4), (5, .int x5), (6, .int x6)]) C dX9_habit_36 (by decide) rfl ?_
  refine ww_iload_n C dX9_habit_38 rfl 3 rfl ?_
  refine ww_if_lt (tgt := 66) C dX9_habit_39 (by decide) E (fun _ E => ?_) (fun _ E => ?_)
  · refine ww_iconst (v := 0) C dX9_habit_66 (by decide) ?_
    refine ww_sub (lv' := [(1, .int x1), (2, .int x2), (3, .int x3), (4, .int x4), (5, .int x5), (6, .int x6), (7, .int y0)]) [1, 2, 3, 4, 5, 6, 0] rfl ?_
    exact (B_X9_habit_67 C HR HL hG) x1 x2 x3 x4 x5 x6 y0 (0 : Int32) dy E
  · refine ww_iload_n C dX9_habit_42 rfl 3 rfl ?_
    refine ww_bipush (v := 12) C dX9_habit_43 (by decide) ?_
    refine ww_icmp_gt (tgt := 66) C dX9_habit_45 (by decide) E (fun _ E => ?_) (fun _ E => ?_)
    · refine ww_iconst (v := 0) C dX9_habit_66 (by decide) ?_
      refine ww_sub (lv' := [(1, .int x1), (2, .int x2), (3, .int x3), (4, .int x4), (5, .int x5), (6, .int x6), (7, .int y0)]) [1, 2, 3, 4, 5, 6, 0] rfl ?_
      exact (B_X9_habit_67 C HR HL hG) x1 x2 x3 x4 x5 x6 y0 (0 : Int32) dy E
    · refine ww_iload C dX9_habit_48 4 rfl ?_
      refine ww_if_lt (tgt := 66) C dX9_habit_50 (by decide) E (fun _ E => ?_) (fun _ E => ?_)
      · refine ww_iconst (v := 0) C dX9_habit_66 (by decide) ?_
        refine ww_sub (lv' := [(1, .int x1), (2, .int x2), (3, .int x3), (4, .int x4), (5, .int x5), (6, .int x6), (7, .int y0)]) [1, 2, 3, 4, 5, 6, 0] rfl ?_
        exact (B_X9_habit_67 C HR HL hG) x1 x2 x3 x4 x5 x6 y0 (0 : Int32) dy E
      · refine ww_iload C dX9_habit_53 4 rfl ?_
        refine ww_bipush (v := 12) C dX9_habit_55 (by decide) ?_
        refine ww_iload_n C dX9_habit_57 rfl 3 rfl ?_
        refine ww_isub C dX9_habit_58 ?_
        refine ww_icmp_gt (tgt := 66) C dX9_habit_59 (by decide) E (fun _ E => ?_) (fun _ E => ?_)
        · refine ww_iconst (v := 0) C dX9_habit_66 (by decide) ?_
          refine ww_sub (lv' := [(1, .int x1), (2, .int x2), (3, .int x3), (4, .int x4), (5, .int x5), (6, .int x6), (7, .int y0)]) [1, 2, 3, 4, 5, 6, 0] rfl ?_
          exact (B_X9_habit_67 C HR HL hG) x1 x2 x3 x4 x5 x6 y0 (0 : Int32) dy E
        · refine ww_iconst (v := 1) C dX9_habit_62 (by decide) ?_
          refine ww_goto (tgt := 67) C dX9_habit_63 (by decide) ?_
          refine ww_sub (lv' := [(1, .int x1), (2, .int x2), (3, .int x3), (4, .int x4), (5, .int x5), (6, .int x6), (7, .int y0)]) [1, 2, 3, 4, 5, 6, 0] rfl ?_
          exact (B_X9_habit_67 C HR HL hG) x1 x2 x3 x4 x5 x6 y0 (1 : Int32) dy E
end P_X9_habit
set_option maxHeartbeats 4000000 in
set_option maxRecDepth 100000 in
theorem M_X9_habit (l : Launch) (G : GG) (ad : Nat → Nat) {S : ST} (N : Nat) (hG : Good S) (a0 : Nat) (a1 : Int32) (a2 : Int32) (a3 : Int32) (a4 : Int32) (a5 : Int32) (a6 : Int32) (dy : DY) (T0 : gs S a0 = (0, 9)) {r : Int64} {dy' : DY} (E : F_X9_habit S N a0 a1 a2 a3 a4 a5 a6 dy = some (r, dy')) : MC l yX9_habit cX9_habit 9 (Option.some Jvm.ClassFile.FieldType.long) (37) G ad [.ref (ad a0), .int a1, .int a2, .int a3, .int a4, .int a5, .int a6] S dy (fun A => QL G ad A S r dy') := by
  rw [F_X9_habit_s] at E
  refine mc_of RX9 (by decide) rfl (Nat.le_of_ble_eq_true rfl) (fun p e s m args below meth c A C HR HL => ?_)
  refine ww_sub (lv' := [(0, .ref (ad a0)), (1, .int a1), (2, .int a2), (3, .int a3), (4, .int a4), (5, .int a5), (6, .int a6)]) [0, 1, 2, 3, 4, 5, 6] rfl ?_
  refine ww_iload_n C dX9_habit_0 rfl 1 rfl ?_
  refine ww_iconst (v := 2) C dX9_habit_1 (by decide) ?_
  refine ww_icmp_lt (tgt := 35) C dX9_habit_2 (by decide) E (fun _ E => ?_) (fun _ E => ?_)
  · refine ww_iconst (v := 0) C dX9_habit_35 (by decide) ?_
    refine ww_sub (lv' := [(1, .int a1), (2, .int a2), (3, .int a3), (4, .int a4), (5, .int a5), (6, .int a6)]) [1, 2, 3, 4, 5, 6] rfl ?_
    exact (B_X9_habit_36 C HR HL hG) a1 a2 a3 a4 a5 a6 (0 : Int32) dy E
  · refine ww_iload_n C dX9_habit_5 rfl 1 rfl ?_
    refine ww_bipush (v := 8) C dX9_habit_6 (by decide) ?_
    refine ww_icmp_gt (tgt := 35) C dX9_habit_8 (by decide) E (fun _ E => ?_) (fun _ E => ?_)
    · refine ww_iconst (v := 0) C dX9_habit_35 (by decide) ?_
      refine ww_sub (lv' := [(1, .int a1), (2, .int a2), (3, .int a3), (4, .int a4), (5, .int a5), (6, .int a6)]) [1, 2, 3, 4, 5, 6] rfl ?_
      exact (B_X9_habit_36 C HR HL hG) a1 a2 a3 a4 a5 a6 (0 : Int32) dy E
    · refine ww_iload_n C dX9_habit_11 rfl 2 rfl ?_
      refine ww_if_lt (tgt := 35) C dX9_habit_12 (by decide) E (fun _ E => ?_) (fun _ E => ?_)
      · refine ww_iconst (v := 0) C dX9_habit_35 (by decide) ?_
        refine ww_sub (lv' := [(1, .int a1), (2, .int a2), (3, .int a3), (4, .int a4), (5, .int a5), (6, .int a6)]) [1, 2, 3, 4, 5, 6] rfl ?_
        exact (B_X9_habit_36 C HR HL hG) a1 a2 a3 a4 a5 a6 (0 : Int32) dy E
      · refine ww_iload_n C dX9_habit_15 rfl 2 rfl ?_
        refine ww_iload_n C dX9_habit_16 rfl 1 rfl ?_
        refine ww_icmp_gt (tgt := 35) C dX9_habit_17 (by decide) E (fun _ E => ?_) (fun _ E => ?_)
        · refine ww_iconst (v := 0) C dX9_habit_35 (by decide) ?_
          refine ww_sub (lv' := [(1, .int a1), (2, .int a2), (3, .int a3), (4, .int a4), (5, .int a5), (6, .int a6)]) [1, 2, 3, 4, 5, 6] rfl ?_
          exact (B_X9_habit_36 C HR HL hG) a1 a2 a3 a4 a5 a6 (0 : Int32) dy E
        · refine ww_iload C dX9_habit_20 6 rfl ?_
          refine ww_if_lt (tgt := 35) C dX9_habit_22 (by decide) E (fun _ E => ?_) (fun _ E => ?_)
          · refine ww_iconst (v := 0) C dX9_habit_35 (by decide) ?_
            refine ww_sub (lv' := [(1, .int a1), (2, .int a2), (3, .int a3), (4, .int a4), (5, .int a5), (6, .int a6)]) [1, 2, 3, 4, 5, 6] rfl ?_
            exact (B_X9_habit_36 C HR HL hG) a1 a2 a3 a4 a5 a6 (0 : Int32) dy E
          · refine ww_iload C dX9_habit_25 6 rfl ?_
            refine ww_iload_n C dX9_habit_27 rfl 1 rfl ?_
            refine ww_icmp_gt (tgt := 35) C dX9_habit_28 (by decide) E (fun _ E => ?_) (fun _ E => ?_)
            · refine ww_iconst (v := 0) C dX9_habit_35 (by decide) ?_
              refine ww_sub (lv' := [(1, .int a1), (2, .int a2), (3, .int a3), (4, .int a4), (5, .int a5), (6, .int a6)]) [1, 2, 3, 4, 5, 6] rfl ?_
              exact (B_X9_habit_36 C HR HL hG) a1 a2 a3 a4 a5 a6 (0 : Int32) dy E
            · refine ww_iconst (v := 1) C dX9_habit_31 (by decide) ?_
              refine ww_goto (tgt := 36) C dX9_habit_32 (by decide) ?_
              refine ww_sub (lv' := [(1, .int a1), (2, .int a2), (3, .int a3), (4, .int a4), (5, .int a5), (6, .int a6)]) [1, 2, 3, 4, 5, 6] rfl ?_
              exact (B_X9_habit_36 C HR HL hG) a1 a2 a3 a4 a5 a6 (1 : Int32) dy E
section P_X9_isFrame
variable {p : Program} {l : Launch} {e : Env} {s : State} {m : MethodId} {args : Array Value} {below : List Frame} {meth : Method} {c : Code} {G : GG} {A : Nat → Prop} {ad : Nat → Nat} {S : ST} {N : Nat} {r : Int32} {dy' : DY}
end P_X9_isFrame
set_option maxHeartbeats 4000000 in
set_option maxRecDepth 100000 in
theorem M_X9_isFrame (l : Launch) (G : GG) (ad : Nat → Nat) {S : ST} (N : Nat) (hG : Good S) (a0 : Int32) (a1 : Int32) (dy : DY) {r : Int32} {dy' : DY} (E : F_X9_isFrame S N a0 a1 dy = some (r, dy')) : MC l yX9_isFrame cX9_isFrame 2 (Option.some Jvm.ClassFile.FieldType.boolean) (1) G ad [.int a0, .int a1] S dy (fun A => QI G ad A S r dy') := by
  rw [F_X9_isFrame_s] at E
  refine mc_of RX9 (by decide) rfl (Nat.le_of_ble_eq_true rfl) (fun p e s m args below meth c A C HR HL => ?_)
  refine ww_sub (lv' := [(0, .int a0), (1, .int a1)]) [0, 1] rfl ?_
  refine ww_iload_n C dX9_isFrame_0 rfl 0 rfl ?_
  refine ww_if_lt (tgt := 13) C dX9_isFrame_1 (by decide) E (fun _ E => ?_) (fun _ E => ?_)
  · refine ww_iconst (v := 0) C dX9_isFrame_13 (by decide) ?_
    exact ww_zret C HR HL dX9_isFrame_14 (Or.inl rfl) E
  · refine ww_iload_n C dX9_isFrame_4 rfl 0 rfl ?_
    refine ww_iload_n C dX9_isFrame_5 rfl 1 rfl ?_
    refine ww_icmp_ge (tgt := 13) C dX9_isFrame_6 (by decide) E (fun _ E => ?_) (fun _ E => ?_)
    · refine ww_iconst (v := 0) C dX9_isFrame_13 (by decide) ?_
      exact ww_zret C HR HL dX9_isFrame_14 (Or.inl rfl) E
    · refine ww_iconst (v := 1) C dX9_isFrame_9 (by decide) ?_
      refine ww_goto (tgt := 14) C dX9_isFrame_10 (by decide) ?_
      exact ww_zret C HR HL dX9_isFrame_14 (Or.inr rfl) E
section P_X9_hat
variable {p : Program} {l : Launch} {e : Env} {s : State} {m : MethodId} {args : Array Value} {below : List Frame} {meth : Method} {c : Code} {G : GG} {A : Nat → Prop} {ad : Nat → Nat} {S : ST} {N : Nat} {r : Int32} {dy' : DY}
set_option maxHeartbeats 4000000 in
set_option maxRecDepth 100000 in
theorem B_X9_hat_25 (C : CX p s m args c cX9_hat 5 RX9 G A) (HR : meth.sig.returnType = (Option.some Jvm.ClassFile.FieldType.int)) (HL : meth.locks = false) (hG : Good S) : ∀ (x0 : Nat) (x1 : Int32) (x2 : Int32) (x3 : Int32) (y0 : Int32) (dy : DY), gs S x0 = (0, 9) → F_X9_hat_25 S N x0 x1 x2 x3 y0 dy = some (r, dy') → WJ p l e (rmD (2)) s m args below meth c 5 G A 0 0 (MQ below (QI G ad A S r dy') args s 0 0 A) ad 25 [(0, .ref (ad x0)), (1, .int x1), (2, .int x2), (3, .int x3)] [.int y0] S dy := by
  intro x0 x1 x2 x3 y0 dy Tx0 E
  rw [F_X9_hat_25_s] at E
  refine ww_istore (lv' := [(4, .int y0), (0, .ref (ad x0)), (1, .int x1), (2, .int x2), (3, .int x3)]) C dX9_hat_25 (by decide) rfl ?_
  refine ww_iload C dX9_hat_27 0 rfl ?_
  refine ww_if_eq (tgt := 57) C dX9_hat_29 (by decide) E (fun _ E => ?_) (fun _ E => ?_)
  · refine ww_iconst (v := (-1)) C dX9_hat_57 (by decide) ?_
    exact ww_iret C HR HL dX9_hat_58 E
  · refine ww_iload_n C dX9_hat_32 rfl 2 rfl ?_
    refine ww_bipush (v := 8) C dX9_hat_33 (by decide) ?_
    obtain ⟨u1, e_2, E⟩ := bind_of E
    refine ww_callI C (runs_S (n := 2) (st := []) C [.int x1, .int (8 : Int32)] (M_X9_isFrame l G ad N hG x1 (8 : Int32) dy e_2) ⟨q1190, q108, by decide⟩ q1188 q1189 rfl (Nat.le_of_ble_eq_true rfl) ⟨Nat.le_of_ble_eq_true rfl, Nat.le_of_ble_eq_true rfl⟩ ⟨Nat.zero_le _, Nat.zero_le _⟩ dX9_hat_35 rfl) ?_
    refine ww_if_eq (tgt := 57) C dX9_hat_38 (by decide) E (fun _ E => ?_) (fun _ E => ?_)
    · refine ww_iconst (v := (-1)) C dX9_hat_57 (by decide) ?_
      exact ww_iret C HR HL dX9_hat_58 E
    · refine ww_aload_n C dX9_hat_41 rfl 1 rfl ?_
      have T_3 : gs S (gr S x0 0) = (0, 7) := hG.1 _ 9 Tx0 0 (by decide)
      refine ww_getr (ci := 9) (k0 := 0) C dX9_hat_42 rfl rfl inm9 (by decide) Tx0 q524 rfl T_3 (by decide) ?_
      have T_4 : gs S (gr S (gr S x0 0) 12) = (0, 1) := hG.1 _ 7 T_3 12 (by decide)
      refine ww_getr (ci := 7) (k0 := 12) C dX9_hat_45 rfl rfl inm7 (by decide) T_3 q390 rfl T_4 (by decide) ?_
      refine ww_iload_n C dX9_hat_48 rfl 2 rfl ?_
      refine ww_iload_n C dX9_hat_49 rfl 3 rfl ?_
      refine ww_iload_n C dX9_hat_50 rfl 4 rfl ?_
      obtain ⟨u5, e_6, E⟩ := bind_of E
      refine ww_callI C (runs_V (n := 3) (st := []) C [.int x1, .int x2, .int x3] (M_X1_add l G ad N hG (gr S (gr S x0 0) 12) x1 x2 x3 u1.2 T_4 e_6) ⟨q1194, q113, by decide⟩ q1191 q1192 q1193 (ci := 1) rfl T_4 rfl (Nat.le_of_ble_eq_true rfl) ⟨Nat.le_of_ble_eq_true rfl, Nat.le_of_ble_eq_true rfl⟩ ⟨Nat.zero_le _, Nat.zero_le _⟩ dX9_hat_51 rfl) ?_
      refine ww_goto (tgt := 58) C dX9_hat_54 (by decide) ?_
      exact ww_iret C HR HL dX9_hat_58 E
end P_X9_hat
set_option maxHeartbeats 4000000 in
set_option maxRecDepth 100000 in
theorem M_X9_hat (l : Launch) (G : GG) (ad : Nat → Nat) {S : ST} (N : Nat) (hG : Good S) (a0 : Nat) (a1 : Int32) (a2 : Int32) (a3 : Int32) (dy : DY) (T0 : gs S a0 = (0, 9)) {r : Int32} {dy' : DY} (E : F_X9_hat S N a0 a1 a2 a3 dy = some (r, dy')) : MC l yX9_hat cX9_hat 5 (Option.some Jvm.ClassFile.FieldType.int) (2) G ad [.ref (ad a0), .int a1, .int a2, .int a3] S dy (fun A => QI G ad A S r dy') := by
  rw [F_X9_hat_s] at E
  refine mc_of RX9 (by decide) rfl (Nat.le_of_ble_eq_true rfl) (fun p e s m args below meth c A C HR HL => ?_)
  refine ww_sub (lv' := [(0, .ref (ad a0)), (1, .int a1), (2, .int a2), (3, .int a3)]) [0, 1, 2, 3] rfl ?_
  refine ww_iload_n C dX9_hat_0 rfl 2 rfl ?_
  refine ww_if_lt (tgt := 24) C dX9_hat_1 (by decide) E (fun _ E => ?_) (fun _ E => ?_)
  · refine ww_iconst (v := 0) C dX9_hat_24 (by decide) ?_
    refine ww_sub (lv' := [(0, .ref (ad a0)), (1, .int a1), (2, .int a2), (3, .int a3)]) [0, 1, 2, 3] rfl ?_
    exact (B_X9_hat_25 C HR HL hG) a0 a1 a2 a3 (0 : Int32) dy T0 E
  · refine ww_iload_n C dX9_hat_4 rfl 2 rfl ?_
    refine ww_bipush (v := 100) C dX9_hat_5 (by decide) ?_
    refine ww_icmp_ge (tgt := 24) C dX9_hat_7 (by decide) E (fun _ E => ?_) (fun _ E => ?_)
    · refine ww_iconst (v := 0) C dX9_hat_24 (by decide) ?_
      refine ww_sub (lv' := [(0, .ref (ad a0)), (1, .int a1), (2, .int a2), (3, .int a3)]) [0, 1, 2, 3] rfl ?_
      exact (B_X9_hat_25 C HR HL hG) a0 a1 a2 a3 (0 : Int32) dy T0 E
    · refine ww_iload_n C dX9_hat_10 rfl 3 rfl ?_
      refine ww_if_lt (tgt := 24) C dX9_hat_11 (by decide) E (fun _ E => ?_) (fun _ E => ?_)
      · refine ww_iconst (v := 0) C dX9_hat_24 (by decide) ?_
        refine ww_sub (lv' := [(0, .ref (ad a0)), (1, .int a1), (2, .int a2), (3, .int a3)]) [0, 1, 2, 3] rfl ?_
        exact (B_X9_hat_25 C HR HL hG) a0 a1 a2 a3 (0 : Int32) dy T0 E
      · refine ww_iload_n C dX9_hat_14 rfl 3 rfl ?_
        refine ww_bipush (v := 100) C dX9_hat_15 (by decide) ?_
        refine ww_icmp_ge (tgt := 24) C dX9_hat_17 (by decide) E (fun _ E => ?_) (fun _ E => ?_)
        · refine ww_iconst (v := 0) C dX9_hat_24 (by decide) ?_
          refine ww_sub (lv' := [(0, .ref (ad a0)), (1, .int a1), (2, .int a2), (3, .int a3)]) [0, 1, 2, 3] rfl ?_
          exact (B_X9_hat_25 C HR HL hG) a0 a1 a2 a3 (0 : Int32) dy T0 E
        · refine ww_iconst (v := 1) C dX9_hat_20 (by decide) ?_
          refine ww_goto (tgt := 25) C dX9_hat_21 (by decide) ?_
          refine ww_sub (lv' := [(0, .ref (ad a0)), (1, .int a1), (2, .int a2), (3, .int a3)]) [0, 1, 2, 3] rfl ?_
          exact (B_X9_hat_25 C HR HL hG) a0 a1 a2 a3 (1 : Int32) dy T0 E
section P_X9_image
variable {p : Program} {l : Launch} {e : Env} {s : State} {m : MethodId} {args : Array Value} {below : List Frame} {meth : Method} {c : Code} {G : GG} {A : Nat → Prop} {ad : Nat → Nat} {S : ST} {N : Nat} {r : Int32} {dy' : DY}
end P_X9_image
set_option maxHeartbeats 4000000 in
set_option maxRecDepth 100000 in
theorem M_X9_image (l : Launch) (G : GG) (ad : Nat → Nat) {S : ST} (N : Nat) (hG : Good S) (a0 : Nat) (a1 : Int32) (dy : DY) (T0 : gs S a0 = (0, 9)) {r : Int32} {dy' : DY} (E : F_X9_image S N a0 a1 dy = some (r, dy')) : MC l yX9_image cX9_image 2 (Option.some Jvm.ClassFile.FieldType.boolean) (3) G ad [.ref (ad a0), .int a1] S dy (fun A => QI G ad A S r dy') := by
  rw [F_X9_image_s] at E
  refine mc_of RX9 (by decide) rfl (Nat.le_of_ble_eq_true rfl) (fun p e s m args below meth c A C HR HL => ?_)
  refine ww_sub (lv' := [(0, .ref (ad a0)), (1, .int a1)]) [0, 1] rfl ?_
  refine ww_iload_n C dX9_image_0 rfl 1 rfl ?_
  refine ww_if_lt (tgt := 9) C dX9_image_1 (by decide) E (fun _ E => ?_) (fun _ E => ?_)
  · refine ww_iconst (v := 0) C dX9_image_9 (by decide) ?_
    exact ww_zret C HR HL dX9_image_10 (Or.inl rfl) E
  · refine ww_iload_n C dX9_image_4 rfl 1 rfl ?_
    refine ww_iconst (v := 3) C dX9_image_5 (by decide) ?_
    refine ww_icmp_lt (tgt := 11) C dX9_image_6 (by decide) E (fun _ E => ?_) (fun _ E => ?_)
    · refine ww_aload_n C dX9_image_11 rfl 0 rfl ?_
      have T_1 : gs S (gr S a0 1) = (6, 3) := hG.1 _ 9 T0 1 (by decide)
      refine ww_getr (ci := 9) (k0 := 1) C dX9_image_12 rfl rfl inm9 (by decide) T0 q525 rfl T_1 (by decide) ?_
      refine ww_iload_n C dX9_image_15 rfl 1 rfl ?_
      have T_2 : ib a1 3 → gs S (gr S (gr S a0 1) a1.toNatClampNeg) = (0, 7) := fun q => hG.2 _ 6 3 T_1 (by decide) (by decide) _ (ib_lt q)
      refine ww_aald C dX9_image_16 T_1 (by decide) (by decide) rfl E T_2 (by decide) (fun q_ E => ?_)
      have T_2 := T_2 q_
      refine ww_aload_n C dX9_image_17 rfl 0 rfl ?_
      have T_3 : gs S (gr S a0 0) = (0, 7) := hG.1 _ 9 T0 0 (by decide)
      refine ww_getr (ci := 9) (k0 := 0) C dX9_image_18 rfl rfl inm9 (by decide) T0 q524 rfl T_3 (by decide) ?_
      obtain ⟨u4, e_5, E⟩ := bind_of E
      refine ww_callV C (runs_V (n := 1) (st := []) C [.ref (ad (gr S a0 0))] (M_X7_copyFrom l G ad N hG (gr S (gr S a0 1) a1.toNatClampNeg) (gr S a0 0) dy T_2 T_3 e_5) ⟨q1260, q109, by decide⟩ q1257 q1258 q1259 (ci := 7) rfl T_2 rfl (Nat.le_of_ble_eq_true rfl) ⟨Nat.le_of_ble_eq_true rfl, Nat.le_of_ble_eq_true rfl⟩ ⟨Nat.zero_le _, Nat.zero_le _⟩ dX9_image_21 rfl) ?_
      refine ww_aload_n C dX9_image_24 rfl 0 rfl ?_
      have T_6 : gs S (gr S a0 2) = (3, 3) := hG.1 _ 9 T0 2 (by decide)
      refine ww_getr (ci := 9) (k0 := 2) C dX9_image_25 rfl rfl inm9 (by decide) T0 q526 rfl T_6 (by decide) ?_
      refine ww_iload_n C dX9_image_28 rfl 1 rfl ?_
      refine ww_iconst (v := 1) C dX9_image_29 (by decide) ?_
      refine ww_zast C dX9_image_30 T_6 E (fun _ E => ?_)
      refine ww_bd E (fun dy7 E => ?_)
      refine ww_iconst (v := 1) C dX9_image_31 (by decide) ?_
      exact ww_zret C HR HL dX9_image_32 (Or.inr rfl) E
    · refine ww_iconst (v := 0) C dX9_image_9 (by decide) ?_
      exact ww_zret C HR HL dX9_image_10 (Or.inl rfl) E
section P_X9_isPrice
variable {p : Program} {l : Launch} {e : Env} {s : State} {m : MethodId} {args : Array Value} {below : List Frame} {meth : Method} {c : Code} {G : GG} {A : Nat → Prop} {ad : Nat → Nat} {S : ST} {N : Nat} {r : Int32} {dy' : DY}
end P_X9_isPrice
set_option maxHeartbeats 4000000 in
set_option maxRecDepth 100000 in
theorem M_X9_isPrice (l : Launch) (G : GG) (ad : Nat → Nat) {S : ST} (N : Nat) (hG : Good S) (a0 : Int32) (dy : DY) {r : Int32} {dy' : DY} (E : F_X9_isPrice S N a0 dy = some (r, dy')) : MC l yX9_isPrice cX9_isPrice 1 (Option.some Jvm.ClassFile.FieldType.boolean) (1) G ad [.int a0] S dy (fun A => QI G ad A S r dy') := by
  rw [F_X9_isPrice_s] at E
  refine mc_of RX9 (by decide) rfl (Nat.le_of_ble_eq_true rfl) (fun p e s m args below meth c A C HR HL => ?_)
  refine ww_sub (lv' := [(0, .int a0)]) [0] rfl ?_
  refine ww_iload_n C dX9_isPrice_0 rfl 0 rfl ?_
  refine ww_if_lt (tgt := 14) C dX9_isPrice_1 (by decide) E (fun _ E => ?_) (fun _ E => ?_)
  · refine ww_iconst (v := 0) C dX9_isPrice_14 (by decide) ?_
    exact ww_zret C HR HL dX9_isPrice_15 (Or.inl rfl) E
  · refine ww_iload_n C dX9_isPrice_4 rfl 0 rfl ?_
    refine ww_bipush (v := 99) C dX9_isPrice_5 (by decide) ?_
    refine ww_icmp_gt (tgt := 14) C dX9_isPrice_7 (by decide) E (fun _ E => ?_) (fun _ E => ?_)
    · refine ww_iconst (v := 0) C dX9_isPrice_14 (by decide) ?_
      exact ww_zret C HR HL dX9_isPrice_15 (Or.inl rfl) E
    · refine ww_iconst (v := 1) C dX9_isPrice_10 (by decide) ?_
      refine ww_goto (tgt := 15) C dX9_isPrice_11 (by decide) ?_
      exact ww_zret C HR HL dX9_isPrice_15 (Or.inr rfl) E
section P_X9_slotFor
variable {p : Program} {l : Launch} {e : Env} {s : State} {m : MethodId} {args : Array Value} {below : List Frame} {meth : Method} {c : Code} {G : GG} {A : Nat → Prop} {ad : Nat → Nat} {S : ST} {N : Nat} {r : Int32} {dy' : DY}
end P_X9_slotFor
set_option maxHeartbeats 4000000 in
set_option maxRecDepth 100000 in
theorem M_X9_slotFor (l : Launch) (G : GG) (ad : Nat → Nat) {S : ST} (N : Nat) (hG : Good S) (a0 : Int32) (a1 : Int32) (dy : DY) {r : Int32} {dy' : DY} (E : F_X9_slotFor S N a0 a1 dy = some (r, dy')) : MC l yX9_slotFor cX9_slotFor 2 (Option.some Jvm.ClassFile.FieldType.int) (1) G ad [.int a0, .int a1] S dy (fun A => QI G ad A S r dy') := by
  rw [F_X9_slotFor_s] at E
  refine mc_of RX9 (by decide) rfl (Nat.le_of_ble_eq_true rfl) (fun p e s m args below meth c A C HR HL => ?_)
  refine ww_sub (lv' := [(0, .int a0), (1, .int a1)]) [0, 1] rfl ?_
  refine ww_iload_n C dX9_slotFor_0 rfl 0 rfl ?_
  refine ww_iconst (v := (-1)) C dX9_slotFor_1 (by decide) ?_
  refine ww_icmp_ne (tgt := 17) C dX9_slotFor_2 (by decide) E (fun _ E => ?_) (fun _ E => ?_)
  · refine ww_iload_n C dX9_slotFor_17 rfl 0 rfl ?_
    refine ww_if_lt (tgt := 30) C dX9_slotFor_18 (by decide) E (fun _ E => ?_) (fun _ E => ?_)
    · refine ww_bipush (v := (-2)) C dX9_slotFor_30 (by decide) ?_
      exact ww_iret C HR HL dX9_slotFor_32 E
    · refine ww_iload_n C dX9_slotFor_21 rfl 0 rfl ?_
      refine ww_iload_n C dX9_slotFor_22 rfl 1 rfl ?_
      refine ww_icmp_ge (tgt := 30) C dX9_slotFor_23 (by decide) E (fun _ E => ?_) (fun _ E => ?_)
      · refine ww_bipush (v := (-2)) C dX9_slotFor_30 (by decide) ?_
        exact ww_iret C HR HL dX9_slotFor_32 E
      · refine ww_iload_n C dX9_slotFor_26 rfl 0 rfl ?_
        refine ww_goto (tgt := 32) C dX9_slotFor_27 (by decide) ?_
        exact ww_iret C HR HL dX9_slotFor_32 E
  · refine ww_iload_n C dX9_slotFor_5 rfl 1 rfl ?_
    refine ww_iconst (v := 3) C dX9_slotFor_6 (by decide) ?_
    refine ww_icmp_ge (tgt := 14) C dX9_slotFor_7 (by decide) E (fun _ E => ?_) (fun _ E => ?_)
    · refine ww_bipush (v := (-2)) C dX9_slotFor_14 (by decide) ?_
      exact ww_iret C HR HL dX9_slotFor_16 E
    · refine ww_iload_n C dX9_slotFor_10 rfl 1 rfl ?_
      refine ww_goto (tgt := 16) C dX9_slotFor_11 (by decide) ?_
      exact ww_iret C HR HL dX9_slotFor_16 E
section P_X9_law
variable {p : Program} {l : Launch} {e : Env} {s : State} {m : MethodId} {args : Array Value} {below : List Frame} {meth : Method} {c : Code} {G : GG} {A : Nat → Prop} {ad : Nat → Nat} {S : ST} {N : Nat} {r : Int32} {dy' : DY}
end P_X9_law
set_option maxHeartbeats 4000000 in
set_option maxRecDepth 100000 in
theorem M_X9_law (l : Launch) (G : GG) (ad : Nat → Nat) {S : ST} (N : Nat) (hG : Good S) (a0 : Nat) (a1 : Int32) (dy : DY) (T0 : gs S a0 = (0, 9)) {r : Int32} {dy' : DY} (E : F_X9_law S N a0 a1 dy = some (r, dy')) : MC l yX9_law cX9_law 5 (Option.some Jvm.ClassFile.FieldType.int) (11) G ad [.ref (ad a0), .int a1] S dy (fun A => QI G ad A S r dy') := by
  rw [F_X9_law_s] at E
  refine mc_of RX9 (by decide) rfl (Nat.le_of_ble_eq_true rfl) (fun p e s m args below meth c A C HR HL => ?_)
  refine ww_sub (lv' := [(0, .ref (ad a0)), (1, .int a1)]) [0, 1] rfl ?_
  refine ww_aload_n C dX9_law_0 rfl 0 rfl ?_
  have T_1 : gs S (gr S a0 0) = (0, 7) := hG.1 _ 9 T0 0 (by decide)
  refine ww_getr (ci := 9) (k0 := 0) C dX9_law_1 rfl rfl inm9 (by decide) T0 q524 rfl T_1 (by decide) ?_
  obtain ⟨u2, e_3, E⟩ := bind_of E
  refine ww_callI C (runs_V (n := 0) (st := []) C [] (M_X7_takeTape l G ad N hG (gr S a0 0) dy T_1 e_3) ⟨q574, q109, by decide⟩ q571 q572 q573 (ci := 7) rfl T_1 rfl (Nat.le_of_ble_eq_true rfl) ⟨Nat.le_of_ble_eq_true rfl, Nat.le_of_ble_eq_true rfl⟩ ⟨Nat.zero_le _, Nat.zero_le _⟩ dX9_law_4 rfl) ?_
  refine ww_istore_n (lv' := [(2, .int u2.1), (0, .ref (ad a0)), (1, .int a1)]) C dX9_law_7 rfl (by decide) rfl ?_
  refine ww_iload_n C dX9_law_8 rfl 2 rfl ?_
  refine ww_aload_n C dX9_law_9 rfl 1 rfl ?_
  have T_4 : gs S (gr S a0 0) = (0, 7) := hG.1 _ 9 T0 0 (by decide)
  refine ww_getr (ci := 9) (k0 := 0) C dX9_law_10 rfl rfl inm9 (by decide) T0 q524 rfl T_4 (by decide) ?_
  refine ww_geti (ci := 7) (k0 := 7) C dX9_law_13 rfl rfl inm7 (by decide) T_4 q380 rfl ?_
  obtain ⟨u5, e_6, E⟩ := bind_of E
  refine ww_callI C (runs_S (n := 2) (st := []) C [.int a1, .int (gi u2.2 (gr S a0 0) 7)] (M_X9_slotFor l G ad N hG a1 (gi u2.2 (gr S a0 0) 7) u2.2 e_6) ⟨q577, q108, by decide⟩ q575 q576 rfl (Nat.le_of_ble_eq_true rfl) ⟨Nat.le_of_ble_eq_true rfl, Nat.le_of_ble_eq_true rfl⟩ ⟨Nat.zero_le _, Nat.zero_le _⟩ dX9_law_16 rfl) ?_
  refine ww_istore_n (lv' := [(3, .int u5.1), (2, .int u2.1), (0, .ref (ad a0)), (1, .int a1)]) C dX9_law_19 rfl (by decide) rfl ?_
  refine ww_iload_n C dX9_law_20 rfl 0 rfl ?_
  refine ww_bipush (v := (-2)) C dX9_law_21 (by decide) ?_
  refine ww_icmp_ne (tgt := 29) C dX9_law_23 (by decide) E (fun _ E => ?_) (fun _ E => ?_)
  · refine ww_aload_n C dX9_law_29 rfl 2 rfl ?_
    have T_7 : gs S (gr S a0 9) = (0, 3) := hG.1 _ 9 T0 9 (by decide)
    refine ww_getr (ci := 9) (k0 := 9) C dX9_law_30 rfl rfl inm9 (by decide) T0 q533 rfl T_7 (by decide) ?_
    refine ww_iload_n C dX9_law_33 rfl 1 rfl ?_
    obtain ⟨u8, e_9, E⟩ := bind_of E
    refine ww_callI C (runs_V (n := 1) (st := []) C [.int u2.1] (M_X3_read l G ad N hG (gr S a0 9) u2.1 u5.2 T_7 e_9) ⟨q799, q117, by decide⟩ q796 q797 q798 (ci := 3) rfl T_7 rfl (Nat.le_of_ble_eq_true rfl) ⟨Nat.le_of_ble_eq_true rfl, Nat.le_of_ble_eq_true rfl⟩ ⟨Nat.zero_le _, Nat.zero_le _⟩ dX9_law_34 rfl) ?_
    refine ww_istore (lv' := [(4, .int u8.1), (3, .int u5.1), (2, .int u2.1), (0, .ref (ad a0)), (1, .int a1)]) C dX9_law_37 (by decide) rfl ?_
    refine ww_aload_n C dX9_law_39 rfl 3 rfl ?_
    have T_10 : gs S (gr S a0 0) = (0, 7) := hG.1 _ 9 T0 0 (by decide)
    refine ww_getr (ci := 9) (k0 := 0) C dX9_law_40 rfl rfl inm9 (by decide) T0 q524 rfl T_10 (by decide) ?_
    refine ww_aload_n C dX9_law_43 rfl 3 rfl ?_
    have T_11 : gs S (gr S a0 3) = (0, 6) := hG.1 _ 9 T0 3 (by decide)
    refine ww_getr (ci := 9) (k0 := 3) C dX9_law_44 rfl rfl inm9 (by decide) T0 q527 rfl T_11 (by decide) ?_
    refine ww_geti (ci := 6) (k0 := 6) C dX9_law_47 rfl rfl inm6 (by decide) T_11 q434 rfl ?_
    refine ww_puti (ci := 7) (k0 := 2) C dX9_law_50 rfl rfl inm7 tyX7_ok nmX7 (by decide) T_10 q372 rfl rfl rfl ?_
    refine ww_bd E (fun dy12 E => ?_)
    refine ww_aload_n C dX9_law_53 rfl 3 rfl ?_
    have T_13 : gs S (gr S a0 0) = (0, 7) := hG.1 _ 9 T0 0 (by decide)
    refine ww_getr (ci := 9) (k0 := 0) C dX9_law_54 rfl rfl inm9 (by decide) T0 q524 rfl T_13 (by decide) ?_
    refine ww_aload_n C dX9_law_57 rfl 3 rfl ?_
    have T_14 : gs S (gr S a0 3) = (0, 6) := hG.1 _ 9 T0 3 (by decide)
    refine ww_getr (ci := 9) (k0 := 3) C dX9_law_58 rfl rfl inm9 (by decide) T0 q527 rfl T_14 (by decide) ?_
    refine ww_geti (ci := 6) (k0 := 7) C dX9_law_61 rfl rfl inm6 (by decide) T_14 q436 rfl ?_
    refine ww_puti (ci := 7) (k0 := 3) C dX9_law_64 rfl rfl inm7 tyX7_ok nmX7 (by decide) T_13 q374 rfl rfl rfl ?_
    refine ww_bd E (fun dy15 E => ?_)
    refine ww_iload C dX9_law_67 0 rfl ?_
    refine ww_if_ne (tgt := 74) C dX9_law_69 (by decide) E (fun _ E => ?_) (fun _ E => ?_)
    · refine ww_aload_n C dX9_law_74 rfl 3 rfl ?_
      have T_16 : gs S (gr S a0 0) = (0, 7) := hG.1 _ 9 T0 0 (by decide)
      refine ww_getr (ci := 9) (k0 := 0) C dX9_law_75 rfl rfl inm9 (by decide) T0 q524 rfl T_16 (by decide) ?_
      refine ww_iload_n C dX9_law_78 rfl 1 rfl ?_
      refine ww_aload_n C dX9_law_79 rfl 3 rfl ?_
      have T_17 : gs S (gr S a0 5) = (0, 2) := hG.1 _ 9 T0 5 (by decide)
      refine ww_getr (ci := 9) (k0 := 5) C dX9_law_80 rfl rfl inm9 (by decide) T0 q529 rfl T_17 (by decide) ?_
      obtain ⟨u18, e_19, E⟩ := bind_of E
      refine ww_callV C (runs_V (n := 2) (st := []) C [.int u5.1, .ref (ad (gr S a0 5))] (M_X7_keepLaw l G ad N hG (gr S a0 0) u5.1 (gr S a0 5) dy15 T_16 T_17 e_19) ⟨q867, q109, by decide⟩ q864 q865 q866 (ci := 7) rfl T_16 rfl (Nat.le_of_ble_eq_true rfl) ⟨Nat.le_of_ble_eq_true rfl, Nat.le_of_ble_eq_true rfl⟩ ⟨Nat.zero_le _, Nat.zero_le _⟩ dX9_law_83 rfl) ?_
      refine ww_iload_n C dX9_law_86 rfl 1 rfl ?_
      exact ww_iret C HR HL dX9_law_87 E
    · refine ww_iconst (v := (-1)) C dX9_law_72 (by decide) ?_
      exact ww_iret C HR HL dX9_law_73 E
  · refine ww_bipush (v := (-2)) C dX9_law_26 (by decide) ?_
    exact ww_iret C HR HL dX9_law_28 E
section P_X9_match
variable {p : Program} {l : Launch} {e : Env} {s : State} {m : MethodId} {args : Array Value} {below : List Frame} {meth : Method} {c : Code} {G : GG} {A : Nat → Prop} {ad : Nat → Nat} {S : ST} {N : Nat} {r : Int32} {dy' : DY}
end P_X9_match
set_option maxHeartbeats 4000000 in
set_option maxRecDepth 100000 in
theorem M_X9_match (l : Launch) (G : GG) (ad : Nat → Nat) {S : ST} (N : Nat) (hG : Good S) (a0 : Nat) (a1 : Int32) (a2 : Int32) (a3 : Int32) (dy : DY) (T0 : gs S a0 = (0, 9)) {r : Int32} {dy' : DY} (E : F_X9_match S N a0 a1 a2 a3 dy = some (r, dy')) : MC l yX9_match cX9_match 4 (Option.some Jvm.ClassFile.FieldType.int) (4) G ad [.ref (ad a0), .int a1, .int a2, .int a3] S dy (fun A => QI G ad A S r dy') := by
  rw [F_X9_match_s] at E
  refine mc_of RX9 (by decide) rfl (Nat.le_of_ble_eq_true rfl) (fun p e s m args below meth c A C HR HL => ?_)
  refine ww_sub (lv' := [(0, .ref (ad a0)), (1, .int a1), (2, .int a2), (3, .int a3)]) [0, 1, 2, 3] rfl ?_
  refine ww_iload_n C dX9_match_0 rfl 1 rfl ?_
  refine ww_bipush (v := 7) C dX9_match_1 (by decide) ?_
  obtain ⟨u1, e_2, E⟩ := bind_of E
  refine ww_callI C (runs_S (n := 2) (st := []) C [.int a1, .int (7 : Int32)] (M_X9_isFrame l G ad N hG a1 (7 : Int32) dy e_2) ⟨q1190, q108, by decide⟩ q1188 q1189 rfl (Nat.le_of_ble_eq_true rfl) ⟨Nat.le_of_ble_eq_true rfl, Nat.le_of_ble_eq_true rfl⟩ ⟨Nat.zero_le _, Nat.zero_le _⟩ dX9_match_3 rfl) ?_
  refine ww_if_eq (tgt := 31) C dX9_match_6 (by decide) E (fun _ E => ?_) (fun _ E => ?_)
  · refine ww_iconst (v := (-1)) C dX9_match_31 (by decide) ?_
    exact ww_iret C HR HL dX9_match_32 E
  · refine ww_iload_n C dX9_match_9 rfl 2 rfl ?_
    obtain ⟨u3, e_4, E⟩ := bind_of E
    refine ww_callI C (runs_S (n := 1) (st := []) C [.int a2] (M_X9_isPrice l G ad N hG a2 u1.2 e_4) ⟨q1205, q108, by decide⟩ q1203 q1204 rfl (Nat.le_of_ble_eq_true rfl) ⟨Nat.le_of_ble_eq_true rfl, Nat.le_of_ble_eq_true rfl⟩ ⟨Nat.zero_le _, Nat.zero_le _⟩ dX9_match_10 rfl) ?_
    refine ww_if_eq (tgt := 31) C dX9_match_13 (by decide) E (fun _ E => ?_) (fun _ E => ?_)
    · refine ww_iconst (v := (-1)) C dX9_match_31 (by decide) ?_
      exact ww_iret C HR HL dX9_match_32 E
    · refine ww_aload_n C dX9_match_16 rfl 0 rfl ?_
      have T_5 : gs S (gr S a0 0) = (0, 7) := hG.1 _ 9 T0 0 (by decide)
      refine ww_getr (ci := 9) (k0 := 0) C dX9_match_17 rfl rfl inm9 (by decide) T0 q524 rfl T_5 (by decide) ?_
      have T_6 : gs S (gr S (gr S a0 0) 12) = (0, 1) := hG.1 _ 7 T_5 12 (by decide)
      refine ww_getr (ci := 7) (k0 := 12) C dX9_match_20 rfl rfl inm7 (by decide) T_5 q390 rfl T_6 (by decide) ?_
      refine ww_iload_n C dX9_match_23 rfl 1 rfl ?_
      refine ww_iload_n C dX9_match_24 rfl 3 rfl ?_
      obtain ⟨u7, e_8, E⟩ := bind_of E
      refine ww_callI C (runs_V (n := 2) (st := []) C [.int a1, .int a3] (M_X1_has l G ad N hG (gr S (gr S a0 0) 12) a1 a3 u3.2 T_6 e_8) ⟨q1183, q113, by decide⟩ q1206 q1181 q1182 (ci := 1) rfl T_6 rfl (Nat.le_of_ble_eq_true rfl) ⟨Nat.le_of_ble_eq_true rfl, Nat.le_of_ble_eq_true rfl⟩ ⟨Nat.zero_le _, Nat.zero_le _⟩ dX9_match_25 rfl) ?_
      refine ww_if_ne (tgt := 33) C dX9_match_28 (by decide) E (fun _ E => ?_) (fun _ E => ?_)
      · refine ww_aload_n C dX9_match_33 rfl 0 rfl ?_
        have T_9 : gs S (gr S a0 0) = (0, 7) := hG.1 _ 9 T0 0 (by decide)
        refine ww_getr (ci := 9) (k0 := 0) C dX9_match_34 rfl rfl inm9 (by decide) T0 q524 rfl T_9 (by decide) ?_
        have T_10 : gs S (gr S (gr S a0 0) 12) = (0, 1) := hG.1 _ 7 T_9 12 (by decide)
        refine ww_getr (ci := 7) (k0 := 12) C dX9_match_37 rfl rfl inm7 (by decide) T_9 q390 rfl T_10 (by decide) ?_
        refine ww_iload_n C dX9_match_40 rfl 1 rfl ?_
        refine ww_iload_n C dX9_match_41 rfl 2 rfl ?_
        obtain ⟨u11, e_12, E⟩ := bind_of E
        refine ww_callI C (runs_V (n := 2) (st := []) C [.int a1, .int a2] (M_X1_pair l G ad N hG (gr S (gr S a0 0) 12) a1 a2 u7.2 T_10 e_12) ⟨q1210, q113, by decide⟩ q1207 q1208 q1209 (ci := 1) rfl T_10 rfl (Nat.le_of_ble_eq_true rfl) ⟨Nat.le_of_ble_eq_true rfl, Nat.le_of_ble_eq_true rfl⟩ ⟨Nat.zero_le _, Nat.zero_le _⟩ dX9_match_42 rfl) ?_
        refine ww_pop C dX9_match_45 rfl ?_
        refine ww_aload_n C dX9_match_46 rfl 0 rfl ?_
        have T_13 : gs S (gr S a0 0) = (0, 7) := hG.1 _ 9 T0 0 (by decide)
        refine ww_getr (ci := 9) (k0 := 0) C dX9_match_47 rfl rfl inm9 (by decide) T0 q524 rfl T_13 (by decide) ?_
        have T_14 : gs S (gr S (gr S a0 0) 12) = (0, 1) := hG.1 _ 7 T_13 12 (by decide)
        refine ww_getr (ci := 7) (k0 := 12) C dX9_match_50 rfl rfl inm7 (by decide) T_13 q390 rfl T_14 (by decide) ?_
        have T_15 : gs S (gr S (gr S (gr S a0 0) 12) 3) = (1, 6) := hG.1 _ 1 T_14 3 (by decide)
        refine ww_getr (ci := 1) (k0 := 3) C dX9_match_53 rfl rfl inm1 (by decide) T_14 q354 rfl T_15 (by decide) ?_
        refine ww_iload_n C dX9_match_56 rfl 3 rfl ?_
        refine ww_iald C dX9_match_57 T_15 E (fun _ E => ?_)
        exact ww_iret C HR HL dX9_match_58 E
      · refine ww_iconst (v := (-1)) C dX9_match_31 (by decide) ?_
        exact ww_iret C HR HL dX9_match_32 E
section P_X9_on
variable {p : Program} {l : Launch} {e : Env} {s : State} {m : MethodId} {args : Array Value} {below : List Frame} {meth : Method} {c : Code} {G : GG} {A : Nat → Prop} {ad : Nat → Nat} {S : ST} {N : Nat} {r : Int32} {dy' : DY}
end P_X9_on
set_option maxHeartbeats 4000000 in
set_option maxRecDepth 100000 in
theorem M_X9_on (l : Launch) (G : GG) (ad : Nat → Nat) {S : ST} (N : Nat) (hG : Good S) (a0 : Nat) (a1 : Int32) (a2 : Int32) (dy : DY) (T0 : gs S a0 = (0, 9)) {r : Int32} {dy' : DY} (E : F_X9_on S N a0 a1 a2 dy = some (r, dy')) : MC l yX9_on cX9_on 3 (Option.some Jvm.ClassFile.FieldType.int) (3) G ad [.ref (ad a0), .int a1, .int a2] S dy (fun A => QI G ad A S r dy') := by
  rw [F_X9_on_s] at E
  refine mc_of RX9 (by decide) rfl (Nat.le_of_ble_eq_true rfl) (fun p e s m args below meth c A C HR HL => ?_)
  refine ww_sub (lv' := [(0, .ref (ad a0)), (1, .int a1), (2, .int a2)]) [0, 1, 2] rfl ?_
  refine ww_aload_n C dX9_on_0 rfl 0 rfl ?_
  have T_1 : gs S (gr S a0 0) = (0, 7) := hG.1 _ 9 T0 0 (by decide)
  refine ww_getr (ci := 9) (k0 := 0) C dX9_on_1 rfl rfl inm9 (by decide) T0 q524 rfl T_1 (by decide) ?_
  refine ww_getz (ci := 7) (k0 := 11) C dX9_on_4 rfl rfl inm7 (by decide) T_1 q388 rfl ?_
  refine ww_if_ne (tgt := 12) C dX9_on_7 (by decide) E (fun _ E => ?_) (fun _ E => ?_)
  · refine ww_aload_n C dX9_on_12 rfl 0 rfl ?_
    have T_2 : gs S (gr S a0 0) = (0, 7) := hG.1 _ 9 T0 0 (by decide)
    refine ww_getr (ci := 9) (k0 := 0) C dX9_on_13 rfl rfl inm9 (by decide) T0 q524 rfl T_2 (by decide) ?_
    have T_3 : gs S (gr S (gr S a0 0) 8) = (0, 4) := hG.1 _ 7 T_2 8 (by decide)
    refine ww_getr (ci := 7) (k0 := 8) C dX9_on_16 rfl rfl inm7 (by decide) T_2 q382 rfl T_3 (by decide) ?_
    refine ww_iload_n C dX9_on_19 rfl 1 rfl ?_
    refine ww_iload_n C dX9_on_20 rfl 2 rfl ?_
    obtain ⟨u4, e_5, E⟩ := bind_of E
    refine ww_callI C (runs_V (n := 2) (st := []) C [.int a1, .int a2] (M_X4_isWall l G ad N hG (gr S (gr S a0 0) 8) a1 a2 dy T_3 e_5) ⟨q727, q110, by decide⟩ q1027 q725 q726 (ci := 4) rfl T_3 rfl (Nat.le_of_ble_eq_true rfl) ⟨Nat.le_of_ble_eq_true rfl, Nat.le_of_ble_eq_true rfl⟩ ⟨Nat.zero_le _, Nat.zero_le _⟩ dX9_on_21 rfl) ?_
    refine ww_if_eq (tgt := 32) C dX9_on_24 (by decide) E (fun _ E => ?_) (fun _ E => ?_)
    · refine ww_aload_n C dX9_on_32 rfl 0 rfl ?_
      have T_6 : gs S (gr S a0 0) = (0, 7) := hG.1 _ 9 T0 0 (by decide)
      refine ww_getr (ci := 9) (k0 := 0) C dX9_on_33 rfl rfl inm9 (by decide) T0 q524 rfl T_6 (by decide) ?_
      have T_7 : gs S (gr S (gr S a0 0) 10) = (0, 8) := hG.1 _ 7 T_6 10 (by decide)
      refine ww_getr (ci := 7) (k0 := 10) C dX9_on_36 rfl rfl inm7 (by decide) T_6 q386 rfl T_7 (by decide) ?_
      refine ww_iload_n C dX9_on_39 rfl 1 rfl ?_
      refine ww_iload_n C dX9_on_40 rfl 2 rfl ?_
      obtain ⟨u8, e_9, E⟩ := bind_of E
      refine ww_callI C (runs_V (n := 2) (st := []) C [.int a1, .int a2] (M_X8_whoIsOn l G ad N hG (gr S (gr S a0 0) 10) a1 a2 u4.2 T_7 e_9) ⟨q994, q112, by decide⟩ q1028 q992 q993 (ci := 8) rfl T_7 rfl (Nat.le_of_ble_eq_true rfl) ⟨Nat.le_of_ble_eq_true rfl, Nat.le_of_ble_eq_true rfl⟩ ⟨Nat.zero_le _, Nat.zero_le _⟩ dX9_on_41 rfl) ?_
      exact ww_iret C HR HL dX9_on_44 E
    · refine ww_bipush (v := 100) C dX9_on_27 (by decide) ?_
      refine ww_goto (tgt := 44) C dX9_on_29 (by decide) ?_
      exact ww_iret C HR HL dX9_on_44 E
  · refine ww_iconst (v := (-1)) C dX9_on_10 (by decide) ?_
    exact ww_iret C HR HL dX9_on_11 E
section P_X9_opened
variable {p : Program} {l : Launch} {e : Env} {s : State} {m : MethodId} {args : Array Value} {below : List Frame} {meth : Method} {c : Code} {G : GG} {A : Nat → Prop} {ad : Nat → Nat} {S : ST} {N : Nat} {r : Int32} {dy' : DY}
end P_X9_opened
set_option maxHeartbeats 4000000 in
set_option maxRecDepth 100000 in
theorem M_X9_opened (l : Launch) (G : GG) (ad : Nat → Nat) {S : ST} (N : Nat) (hG : Good S) (a0 : Nat) (a1 : Int32) (a2 : Int32) (a3 : Int32) (a4 : Int32) (dy : DY) (T0 : gs S a0 = (0, 9)) {r : Int32} {dy' : DY} (E : F_X9_opened S N a0 a1 a2 a3 a4 dy = some (r, dy')) : MC l yX9_opened cX9_opened 5 (Option.some Jvm.ClassFile.FieldType.int) (8) G ad [.ref (ad a0), .int a1, .int a2, .int a3, .int a4] S dy (fun A => QI G ad A S r dy') := by
  rw [F_X9_opened_s] at E
  refine mc_of RX9 (by decide) rfl (Nat.le_of_ble_eq_true rfl) (fun p e s m args below meth c A C HR HL => ?_)
  refine ww_sub (lv' := [(0, .ref (ad a0)), (1, .int a1), (2, .int a2), (3, .int a3), (4, .int a4)]) [0, 1, 2, 3, 4] rfl ?_
  refine ww_iload C dX9_opened_0 4 rfl ?_
  refine ww_bipush (v := 100) C dX9_opened_2 (by decide) ?_
  obtain ⟨u1, e_2, E⟩ := bind_of E
  refine ww_callI C (runs_S (n := 2) (st := []) C [.int a4, .int (100 : Int32)] (M_X9_isTime l G ad N hG a4 (100 : Int32) dy e_2) ⟨q1108, q108, by decide⟩ q1106 q1107 rfl (Nat.le_of_ble_eq_true rfl) ⟨Nat.le_of_ble_eq_true rfl, Nat.le_of_ble_eq_true rfl⟩ ⟨Nat.zero_le _, Nat.zero_le _⟩ dX9_opened_4 rfl) ?_
  refine ww_if_eq (tgt := 19) C dX9_opened_7 (by decide) E (fun _ E => ?_) (fun _ E => ?_)
  · refine ww_iconst (v := (-1)) C dX9_opened_19 (by decide) ?_
    exact ww_iret C HR HL dX9_opened_20 E
  · refine ww_aload_n C dX9_opened_10 rfl 0 rfl ?_
    refine ww_iload_n C dX9_opened_11 rfl 1 rfl ?_
    refine ww_iload_n C dX9_opened_12 rfl 2 rfl ?_
    obtain ⟨u3, e_4, E⟩ := bind_of E
    refine ww_callI C (runs_V (n := 2) (st := []) C [.int a1, .int a2] (M_X9_prepare l G ad N hG a0 a1 a2 u1.2 T0 e_4) ⟨q1060, q108, by decide⟩ q1057 q1059 q27 (ci := 9) rfl T0 rfl (Nat.le_of_ble_eq_true rfl) ⟨Nat.le_of_ble_eq_true rfl, Nat.le_of_ble_eq_true rfl⟩ ⟨Nat.zero_le _, Nat.zero_le _⟩ dX9_opened_13 rfl) ?_
    refine ww_if_ne (tgt := 21) C dX9_opened_16 (by decide) E (fun _ E => ?_) (fun _ E => ?_)
    · refine ww_aload_n C dX9_opened_21 rfl 0 rfl ?_
      refine ww_iload_n C dX9_opened_22 rfl 3 rfl ?_
      refine ww_iload C dX9_opened_23 4 rfl ?_
      refine ww_iconst (v := 0) C dX9_opened_25 (by decide) ?_
      obtain ⟨u5, e_6, E⟩ := bind_of E
      refine ww_callI C (runs_V (n := 3) (st := []) C [.int a3, .int a4, .int (0 : Int32)] (M_X9_bestChange l G ad N hG a0 a3 a4 (0 : Int32) u3.2 T0 e_6) ⟨q1124, q108, by decide⟩ q1121 q1123 q33 (ci := 9) rfl T0 rfl (Nat.le_of_ble_eq_true rfl) ⟨Nat.le_of_ble_eq_true rfl, Nat.le_of_ble_eq_true rfl⟩ ⟨Nat.zero_le _, Nat.zero_le _⟩ dX9_opened_26 rfl) ?_
      exact ww_iret C HR HL dX9_opened_29 E
    · refine ww_iconst (v := (-1)) C dX9_opened_19 (by decide) ?_
      exact ww_iret C HR HL dX9_opened_20 E
section P_X9_passage
variable {p : Program} {l : Launch} {e : Env} {s : State} {m : MethodId} {args : Array Value} {below : List Frame} {meth : Method} {c : Code} {G : GG} {A : Nat → Prop} {ad : Nat → Nat} {S : ST} {N : Nat} {r : Int32} {dy' : DY}
end P_X9_passage
set_option maxHeartbeats 4000000 in
set_option maxRecDepth 100000 in
theorem M_X9_passage (l : Launch) (G : GG) (ad : Nat → Nat) {S : ST} (N : Nat) (hG : Good S) (a0 : Nat) (a1 : Int32) (dy : DY) (T0 : gs S a0 = (0, 9)) {r : Int32} {dy' : DY} (E : F_X9_passage S N a0 a1 dy = some (r, dy')) : MC l yX9_passage cX9_passage 5 (Option.some Jvm.ClassFile.FieldType.int) (11) G ad [.ref (ad a0), .int a1] S dy (fun A => QI G ad A S r dy') := by
  rw [F_X9_passage_s] at E
  refine mc_of RX9 (by decide) rfl (Nat.le_of_ble_eq_true rfl) (fun p e s m args below meth c A C HR HL => ?_)
  refine ww_sub (lv' := [(0, .ref (ad a0)), (1, .int a1)]) [0, 1] rfl ?_
  refine ww_aload_n C dX9_passage_0 rfl 0 rfl ?_
  have T_1 : gs S (gr S a0 0) = (0, 7) := hG.1 _ 9 T0 0 (by decide)
  refine ww_getr (ci := 9) (k0 := 0) C dX9_passage_1 rfl rfl inm9 (by decide) T0 q524 rfl T_1 (by decide) ?_
  obtain ⟨u2, e_3, E⟩ := bind_of E
  refine ww_callI C (runs_V (n := 0) (st := []) C [] (M_X7_takeTape l G ad N hG (gr S a0 0) dy T_1 e_3) ⟨q574, q109, by decide⟩ q571 q572 q573 (ci := 7) rfl T_1 rfl (Nat.le_of_ble_eq_true rfl) ⟨Nat.le_of_ble_eq_true rfl, Nat.le_of_ble_eq_true rfl⟩ ⟨Nat.zero_le _, Nat.zero_le _⟩ dX9_passage_4 rfl) ?_
  refine ww_istore_n (lv' := [(2, .int u2.1), (0, .ref (ad a0)), (1, .int a1)]) C dX9_passage_7 rfl (by decide) rfl ?_
  refine ww_iload_n C dX9_passage_8 rfl 2 rfl ?_
  refine ww_aload_n C dX9_passage_9 rfl 1 rfl ?_
  have T_4 : gs S (gr S a0 0) = (0, 7) := hG.1 _ 9 T0 0 (by decide)
  refine ww_getr (ci := 9) (k0 := 0) C dX9_passage_10 rfl rfl inm9 (by decide) T0 q524 rfl T_4 (by decide) ?_
  refine ww_geti (ci := 7) (k0 := 5) C dX9_passage_13 rfl rfl inm7 (by decide) T_4 q377 rfl ?_
  obtain ⟨u5, e_6, E⟩ := bind_of E
  refine ww_callI C (runs_S (n := 2) (st := []) C [.int a1, .int (gi u2.2 (gr S a0 0) 5)] (M_X9_slotFor l G ad N hG a1 (gi u2.2 (gr S a0 0) 5) u2.2 e_6) ⟨q577, q108, by decide⟩ q575 q576 rfl (Nat.le_of_ble_eq_true rfl) ⟨Nat.le_of_ble_eq_true rfl, Nat.le_of_ble_eq_true rfl⟩ ⟨Nat.zero_le _, Nat.zero_le _⟩ dX9_passage_16 rfl) ?_
  refine ww_istore_n (lv' := [(3, .int u5.1), (2, .int u2.1), (0, .ref (ad a0)), (1, .int a1)]) C dX9_passage_19 rfl (by decide) rfl ?_
  refine ww_iload_n C dX9_passage_20 rfl 0 rfl ?_
  refine ww_bipush (v := (-2)) C dX9_passage_21 (by decide) ?_
  refine ww_icmp_ne (tgt := 29) C dX9_passage_23 (by decide) E (fun _ E => ?_) (fun _ E => ?_)
  · refine ww_aload_n C dX9_passage_29 rfl 2 rfl ?_
    have T_7 : gs S (gr S a0 8) = (0, 5) := hG.1 _ 9 T0 8 (by decide)
    refine ww_getr (ci := 9) (k0 := 8) C dX9_passage_30 rfl rfl inm9 (by decide) T0 q532 rfl T_7 (by decide) ?_
    refine ww_iload_n C dX9_passage_33 rfl 1 rfl ?_
    obtain ⟨u8, e_9, E⟩ := bind_of E
    refine ww_callI C (runs_V (n := 1) (st := []) C [.int u2.1] (M_X5_read l G ad N hG (gr S a0 8) u2.1 u5.2 T_7 e_9) ⟨q581, q116, by decide⟩ q578 q579 q580 (ci := 5) rfl T_7 rfl (Nat.le_of_ble_eq_true rfl) ⟨Nat.le_of_ble_eq_true rfl, Nat.le_of_ble_eq_true rfl⟩ ⟨Nat.zero_le _, Nat.zero_le _⟩ dX9_passage_34 rfl) ?_
    refine ww_istore (lv' := [(4, .int u8.1), (3, .int u5.1), (2, .int u2.1), (0, .ref (ad a0)), (1, .int a1)]) C dX9_passage_37 (by decide) rfl ?_
    refine ww_aload_n C dX9_passage_39 rfl 3 rfl ?_
    have T_10 : gs S (gr S a0 0) = (0, 7) := hG.1 _ 9 T0 0 (by decide)
    refine ww_getr (ci := 9) (k0 := 0) C dX9_passage_40 rfl rfl inm9 (by decide) T0 q524 rfl T_10 (by decide) ?_
    refine ww_aload_n C dX9_passage_43 rfl 3 rfl ?_
    have T_11 : gs S (gr S a0 3) = (0, 6) := hG.1 _ 9 T0 3 (by decide)
    refine ww_getr (ci := 9) (k0 := 3) C dX9_passage_44 rfl rfl inm9 (by decide) T0 q527 rfl T_11 (by decide) ?_
    refine ww_geti (ci := 6) (k0 := 6) C dX9_passage_47 rfl rfl inm6 (by decide) T_11 q434 rfl ?_
    refine ww_puti (ci := 7) (k0 := 2) C dX9_passage_50 rfl rfl inm7 tyX7_ok nmX7 (by decide) T_10 q372 rfl rfl rfl ?_
    refine ww_bd E (fun dy12 E => ?_)
    refine ww_aload_n C dX9_passage_53 rfl 3 rfl ?_
    have T_13 : gs S (gr S a0 0) = (0, 7) := hG.1 _ 9 T0 0 (by decide)
    refine ww_getr (ci := 9) (k0 := 0) C dX9_passage_54 rfl rfl inm9 (by decide) T0 q524 rfl T_13 (by decide) ?_
    refine ww_aload_n C dX9_passage_57 rfl 3 rfl ?_
    have T_14 : gs S (gr S a0 3) = (0, 6) := hG.1 _ 9 T0 3 (by decide)
    refine ww_getr (ci := 9) (k0 := 3) C dX9_passage_58 rfl rfl inm9 (by decide) T0 q527 rfl T_14 (by decide) ?_
    refine ww_geti (ci := 6) (k0 := 7) C dX9_passage_61 rfl rfl inm6 (by decide) T_14 q436 rfl ?_
    refine ww_puti (ci := 7) (k0 := 3) C dX9_passage_64 rfl rfl inm7 tyX7_ok nmX7 (by decide) T_13 q374 rfl rfl rfl ?_
    refine ww_bd E (fun dy15 E => ?_)
    refine ww_iload C dX9_passage_67 0 rfl ?_
    refine ww_if_ne (tgt := 74) C dX9_passage_69 (by decide) E (fun _ E => ?_) (fun _ E => ?_)
    · refine ww_aload_n C dX9_passage_74 rfl 3 rfl ?_
      have T_16 : gs S (gr S a0 0) = (0, 7) := hG.1 _ 9 T0 0 (by decide)
      refine ww_getr (ci := 9) (k0 := 0) C dX9_passage_75 rfl rfl inm9 (by decide) T0 q524 rfl T_16 (by decide) ?_
      refine ww_iload_n C dX9_passage_78 rfl 1 rfl ?_
      refine ww_aload_n C dX9_passage_79 rfl 3 rfl ?_
      have T_17 : gs S (gr S a0 4) = (0, 4) := hG.1 _ 9 T0 4 (by decide)
      refine ww_getr (ci := 9) (k0 := 4) C dX9_passage_80 rfl rfl inm9 (by decide) T0 q528 rfl T_17 (by decide) ?_
      obtain ⟨u18, e_19, E⟩ := bind_of E
      refine ww_callV C (runs_V (n := 2) (st := []) C [.int u5.1, .ref (ad (gr S a0 4))] (M_X7_keepPassage l G ad N hG (gr S a0 0) u5.1 (gr S a0 4) dy15 T_16 T_17 e_19) ⟨q783, q109, by decide⟩ q780 q781 q782 (ci := 7) rfl T_16 rfl (Nat.le_of_ble_eq_true rfl) ⟨Nat.le_of_ble_eq_true rfl, Nat.le_of_ble_eq_true rfl⟩ ⟨Nat.zero_le _, Nat.zero_le _⟩ dX9_passage_83 rfl) ?_
      refine ww_iload_n C dX9_passage_86 rfl 1 rfl ?_
      exact ww_iret C HR HL dX9_passage_87 E
    · refine ww_iconst (v := (-1)) C dX9_passage_72 (by decide) ?_
      exact ww_iret C HR HL dX9_passage_73 E
  · refine ww_bipush (v := (-2)) C dX9_passage_26 (by decide) ?_
    exact ww_iret C HR HL dX9_passage_28 E
section P_X9_pillar
variable {p : Program} {l : Launch} {e : Env} {s : State} {m : MethodId} {args : Array Value} {below : List Frame} {meth : Method} {c : Code} {G : GG} {A : Nat → Prop} {ad : Nat → Nat} {S : ST} {N : Nat} {r : Int32} {dy' : DY}
end P_X9_pillar
set_option maxHeartbeats 4000000 in
set_option maxRecDepth 100000 in
theorem M_X9_pillar (l : Launch) (G : GG) (ad : Nat → Nat) {S : ST} (N : Nat) (hG : Good S) (a0 : Nat) (a1 : Int32) (a2 : Int32) (a3 : Int32) (a4 : Int32) (dy : DY) (T0 : gs S a0 = (0, 9)) {r : Int32} {dy' : DY} (E : F_X9_pillar S N a0 a1 a2 a3 a4 dy = some (r, dy')) : MC l yX9_pillar cX9_pillar 5 (Option.some Jvm.ClassFile.FieldType.int) (8) G ad [.ref (ad a0), .int a1, .int a2, .int a3, .int a4] S dy (fun A => QI G ad A S r dy') := by
  rw [F_X9_pillar_s] at E
  refine mc_of RX9 (by decide) rfl (Nat.le_of_ble_eq_true rfl) (fun p e s m args below meth c A C HR HL => ?_)
  refine ww_sub (lv' := [(0, .ref (ad a0)), (1, .int a1), (2, .int a2), (3, .int a3), (4, .int a4)]) [0, 1, 2, 3, 4] rfl ?_
  refine ww_iload C dX9_pillar_0 4 rfl ?_
  refine ww_bipush (v := 100) C dX9_pillar_2 (by decide) ?_
  obtain ⟨u1, e_2, E⟩ := bind_of E
  refine ww_callI C (runs_S (n := 2) (st := []) C [.int a4, .int (100 : Int32)] (M_X9_isTime l G ad N hG a4 (100 : Int32) dy e_2) ⟨q1108, q108, by decide⟩ q1106 q1107 rfl (Nat.le_of_ble_eq_true rfl) ⟨Nat.le_of_ble_eq_true rfl, Nat.le_of_ble_eq_true rfl⟩ ⟨Nat.zero_le _, Nat.zero_le _⟩ dX9_pillar_4 rfl) ?_
  refine ww_if_eq (tgt := 19) C dX9_pillar_7 (by decide) E (fun _ E => ?_) (fun _ E => ?_)
  · refine ww_iconst (v := (-1)) C dX9_pillar_19 (by decide) ?_
    exact ww_iret C HR HL dX9_pillar_20 E
  · refine ww_aload_n C dX9_pillar_10 rfl 0 rfl ?_
    refine ww_iload_n C dX9_pillar_11 rfl 1 rfl ?_
    refine ww_iload_n C dX9_pillar_12 rfl 2 rfl ?_
    obtain ⟨u3, e_4, E⟩ := bind_of E
    refine ww_callI C (runs_V (n := 2) (st := []) C [.int a1, .int a2] (M_X9_prepare l G ad N hG a0 a1 a2 u1.2 T0 e_4) ⟨q1060, q108, by decide⟩ q1057 q1059 q27 (ci := 9) rfl T0 rfl (Nat.le_of_ble_eq_true rfl) ⟨Nat.le_of_ble_eq_true rfl, Nat.le_of_ble_eq_true rfl⟩ ⟨Nat.zero_le _, Nat.zero_le _⟩ dX9_pillar_13 rfl) ?_
    refine ww_if_ne (tgt := 21) C dX9_pillar_16 (by decide) E (fun _ E => ?_) (fun _ E => ?_)
    · refine ww_aload_n C dX9_pillar_21 rfl 0 rfl ?_
      refine ww_iload_n C dX9_pillar_22 rfl 3 rfl ?_
      refine ww_iload C dX9_pillar_23 4 rfl ?_
      refine ww_iconst (v := 1) C dX9_pillar_25 (by decide) ?_
      obtain ⟨u5, e_6, E⟩ := bind_of E
      refine ww_callI C (runs_V (n := 3) (st := []) C [.int a3, .int a4, .int (1 : Int32)] (M_X9_bestChange l G ad N hG a0 a3 a4 (1 : Int32) u3.2 T0 e_6) ⟨q1124, q108, by decide⟩ q1121 q1123 q33 (ci := 9) rfl T0 rfl (Nat.le_of_ble_eq_true rfl) ⟨Nat.le_of_ble_eq_true rfl, Nat.le_of_ble_eq_true rfl⟩ ⟨Nat.zero_le _, Nat.zero_le _⟩ dX9_pillar_26 rfl) ?_
      exact ww_iret C HR HL dX9_pillar_29 E
    · refine ww_iconst (v := (-1)) C dX9_pillar_19 (by decide) ?_
      exact ww_iret C HR HL dX9_pillar_20 E
section P_X9_ran
variable {p : Program} {l : Launch} {e : Env} {s : State} {m : MethodId} {args : Array Value} {below : List Frame} {meth : Method} {c : Code} {G : GG} {A : Nat → Prop} {ad : Nat → Nat} {S : ST} {N : Nat} {r : Int32} {dy' : DY}
end P_X9_ran
set_option maxHeartbeats 4000000 in
set_option maxRecDepth 100000 in
theorem M_X9_ran (l : Launch) (G : GG) (ad : Nat → Nat) {S : ST} (N : Nat) (hG : Good S) (a0 : Nat) (a1 : Int32) (a2 : Int32) (dy : DY) (T0 : gs S a0 = (0, 9)) {r : Int32} {dy' : DY} (E : F_X9_ran S N a0 a1 a2 dy = some (r, dy')) : MC l yX9_ran cX9_ran 4 (Option.some Jvm.ClassFile.FieldType.int) (2) G ad [.ref (ad a0), .int a1, .int a2] S dy (fun A => QI G ad A S r dy') := by
  rw [F_X9_ran_s] at E
  refine mc_of RX9 (by decide) rfl (Nat.le_of_ble_eq_true rfl) (fun p e s m args below meth c A C HR HL => ?_)
  refine ww_sub (lv' := [(0, .ref (ad a0)), (1, .int a1), (2, .int a2)]) [0, 1, 2] rfl ?_
  refine ww_aload_n C dX9_ran_0 rfl 0 rfl ?_
  have T_1 : gs S (gr S a0 0) = (0, 7) := hG.1 _ 9 T0 0 (by decide)
  refine ww_getr (ci := 9) (k0 := 0) C dX9_ran_1 rfl rfl inm9 (by decide) T0 q524 rfl T_1 (by decide) ?_
  refine ww_getz (ci := 7) (k0 := 11) C dX9_ran_4 rfl rfl inm7 (by decide) T_1 q388 rfl ?_
  refine ww_if_eq (tgt := 24) C dX9_ran_7 (by decide) E (fun _ E => ?_) (fun _ E => ?_)
  · refine ww_bipush (v := (-2)) C dX9_ran_24 (by decide) ?_
    exact ww_iret C HR HL dX9_ran_26 E
  · refine ww_aload_n C dX9_ran_10 rfl 0 rfl ?_
    have T_2 : gs S (gr S a0 0) = (0, 7) := hG.1 _ 9 T0 0 (by decide)
    refine ww_getr (ci := 9) (k0 := 0) C dX9_ran_11 rfl rfl inm9 (by decide) T0 q524 rfl T_2 (by decide) ?_
    have T_3 : gs S (gr S (gr S a0 0) 8) = (0, 4) := hG.1 _ 7 T_2 8 (by decide)
    refine ww_getr (ci := 7) (k0 := 8) C dX9_ran_14 rfl rfl inm7 (by decide) T_2 q382 rfl T_3 (by decide) ?_
    refine ww_iload_n C dX9_ran_17 rfl 1 rfl ?_
    obtain ⟨u4, e_5, E⟩ := bind_of E
    refine ww_callI C (runs_V (n := 1) (st := []) C [.int a1] (M_X4_has l G ad N hG (gr S (gr S a0 0) 8) a1 dy T_3 e_5) ⟨q764, q110, by decide⟩ q889 q762 q763 (ci := 4) rfl T_3 rfl (Nat.le_of_ble_eq_true rfl) ⟨Nat.le_of_ble_eq_true rfl, Nat.le_of_ble_eq_true rfl⟩ ⟨Nat.zero_le _, Nat.zero_le _⟩ dX9_ran_18 rfl) ?_
    refine ww_if_ne (tgt := 27) C dX9_ran_21 (by decide) E (fun _ E => ?_) (fun _ E => ?_)
    · refine ww_aload_n C dX9_ran_27 rfl 0 rfl ?_
      have T_6 : gs S (gr S a0 0) = (0, 7) := hG.1 _ 9 T0 0 (by decide)
      refine ww_getr (ci := 9) (k0 := 0) C dX9_ran_28 rfl rfl inm9 (by decide) T0 q524 rfl T_6 (by decide) ?_
      have T_7 : gs S (gr S (gr S a0 0) 10) = (0, 8) := hG.1 _ 7 T_6 10 (by decide)
      refine ww_getr (ci := 7) (k0 := 10) C dX9_ran_31 rfl rfl inm7 (by decide) T_6 q386 rfl T_7 (by decide) ?_
      refine ww_astore_n (lv' := [(3, .ref (ad (gr S (gr S a0 0) 10))), (0, .ref (ad a0)), (1, .int a1), (2, .int a2)]) C dX9_ran_34 rfl (by decide) rfl ?_
      refine ww_iload_n C dX9_ran_35 rfl 3 rfl ?_
      by_cases s_8 : a2 = (0 : Int32)
      · rw [if_pos s_8] at E
        refine ww_tabIn (tgt := 80) C dX9_ran_36 s_8 (by decide) (by decide) rfl (by decide) ?_
        refine ww_aload_n C dX9_ran_80 rfl 0 rfl ?_
        have T_9 : gs S (gr S (gr S (gr S a0 0) 10) 9) = (1, 48) := hG.1 _ 8 T_7 9 (by decide)
        refine ww_getr (ci := 8) (k0 := 9) C dX9_ran_81 rfl rfl inm8 (by decide) T_7 q279 rfl T_9 (by decide) ?_
        refine ww_iload_n C dX9_ran_84 rfl 2 rfl ?_
        refine ww_iald C dX9_ran_85 T_9 E (fun _ E => ?_)
        exact ww_iret C HR HL dX9_ran_86 E
      rw [if_neg s_8] at E
      by_cases s_10 : a2 = (1 : Int32)
      · rw [if_pos s_10] at E
        refine ww_tabIn (tgt := 87) C dX9_ran_36 s_10 (by decide) (by decide) rfl (by decide) ?_
        refine ww_aload_n C dX9_ran_87 rfl 0 rfl ?_
        have T_11 : gs S (gr S (gr S (gr S a0 0) 10) 10) = (1, 48) := hG.1 _ 8 T_7 10 (by decide)
        refine ww_getr (ci := 8) (k0 := 10) C dX9_ran_88 rfl rfl inm8 (by decide) T_7 q282 rfl T_11 (by decide) ?_
        refine ww_iload_n C dX9_ran_91 rfl 2 rfl ?_
        refine ww_iald C dX9_ran_92 T_11 E (fun _ E => ?_)
        exact ww_iret C HR HL dX9_ran_93 E
      rw [if_neg s_10] at E
      by_cases s_12 : a2 = (2 : Int32)
      · rw [if_pos s_12] at E
        refine ww_tabIn (tgt := 94) C dX9_ran_36 s_12 (by decide) (by decide) rfl (by decide) ?_
        refine ww_aload_n C dX9_ran_94 rfl 0 rfl ?_
        have T_13 : gs S (gr S (gr S (gr S a0 0) 10) 11) = (1, 12) := hG.1 _ 8 T_7 11 (by decide)
        refine ww_getr (ci := 8) (k0 := 11) C dX9_ran_95 rfl rfl inm8 (by decide) T_7 q284 rfl T_13 (by decide) ?_
        refine ww_iload_n C dX9_ran_98 rfl 2 rfl ?_
        refine ww_iald C dX9_ran_99 T_13 E (fun _ E => ?_)
        exact ww_iret C HR HL dX9_ran_100 E
      rw [if_neg s_12] at E
      by_cases s_14 : a2 = (3 : Int32)
      · rw [if_pos s_14] at E
        refine ww_tabIn (tgt := 101) C dX9_ran_36 s_14 (by decide) (by decide) rfl (by decide) ?_
        refine ww_aload_n C dX9_ran_101 rfl 0 rfl ?_
        have T_15 : gs S (gr S (gr S (gr S a0 0) 10) 12) = (1, 12) := hG.1 _ 8 T_7 12 (by decide)
        refine ww_getr (ci := 8) (k0 := 12) C dX9_ran_102 rfl rfl inm8 (by decide) T_7 q286 rfl T_15 (by decide) ?_
        refine ww_iload_n C dX9_ran_105 rfl 2 rfl ?_
        refine ww_iald C dX9_ran_106 T_15 E (fun _ E => ?_)
        exact ww_iret C HR HL dX9_ran_107 E
      rw [if_neg s_14] at E
      by_cases s_16 : a2 = (4 : Int32)
      · rw [if_pos s_16] at E
        refine ww_tabIn (tgt := 108) C dX9_ran_36 s_16 (by decide) (by decide) rfl (by decide) ?_
        refine ww_aload_n C dX9_ran_108 rfl 0 rfl ?_
        have T_17 : gs S (gr S (gr S (gr S a0 0) 10) 13) = (1, 12) := hG.1 _ 8 T_7 13 (by decide)
        refine ww_getr (ci := 8) (k0 := 13) C dX9_ran_109 rfl rfl inm8 (by decide) T_7 q288 rfl T_17 (by decide) ?_
        refine ww_iload_n C dX9_ran_112 rfl 2 rfl ?_
        refine ww_iald C dX9_ran_113 T_17 E (fun _ E => ?_)
        exact ww_iret C HR HL dX9_ran_114 E
      rw [if_neg s_16] at E
      by_cases s_18 : a2 = (5 : Int32)
      · rw [if_pos s_18] at E
        refine ww_tabIn (tgt := 115) C dX9_ran_36 s_18 (by decide) (by decide) rfl (by decide) ?_
        refine ww_aload_n C dX9_ran_115 rfl 0 rfl ?_
        have T_19 : gs S (gr S (gr S (gr S a0 0) 10) 14) = (1, 12) := hG.1 _ 8 T_7 14 (by decide)
        refine ww_getr (ci := 8) (k0 := 14) C dX9_ran_116 rfl rfl inm8 (by decide) T_7 q290 rfl T_19 (by decide) ?_
        refine ww_iload_n C dX9_ran_119 rfl 2 rfl ?_
        refine ww_iald C dX9_ran_120 T_19 E (fun _ E => ?_)
        exact ww_iret C HR HL dX9_ran_121 E
      rw [if_neg s_18] at E
      by_cases s_20 : a2 = (6 : Int32)
      · rw [if_pos s_20] at E
        refine ww_tabIn (tgt := 122) C dX9_ran_36 s_20 (by decide) (by decide) rfl (by decide) ?_
        refine ww_aload_n C dX9_ran_122 rfl 0 rfl ?_
        have T_21 : gs S (gr S (gr S (gr S a0 0) 10) 15) = (1, 12) := hG.1 _ 8 T_7 15 (by decide)
        refine ww_getr (ci := 8) (k0 := 15) C dX9_ran_123 rfl rfl inm8 (by decide) T_7 q293 rfl T_21 (by decide) ?_
        refine ww_iload_n C dX9_ran_126 rfl 2 rfl ?_
        refine ww_iald C dX9_ran_127 T_21 E (fun _ E => ?_)
        exact ww_iret C HR HL dX9_ran_128 E
      rw [if_neg s_20] at E
      refine ww_tabOut (tgt := 129) C dX9_ran_36 (tab_out (fun v h1 h2 => ?_)) (by decide) ?_
      · rcases (show v = 0 ∨ v = 1 ∨ v = 2 ∨ v = 3 ∨ v = 4 ∨ v = 5 ∨ v = 6 by omega) with rfl | rfl | rfl | rfl | rfl | rfl | rfl
        · exact ti_ne s_8 (by decide)
        · exact ti_ne s_10 (by decide)
        · exact ti_ne s_12 (by decide)
        · exact ti_ne s_14 (by decide)
        · exact ti_ne s_16 (by decide)
        · exact ti_ne s_18 (by decide)
        · exact ti_ne s_20 (by decide)
      refine ww_bipush (v := (-2)) C dX9_ran_129 (by decide) ?_
      exact ww_iret C HR HL dX9_ran_131 E
    · refine ww_bipush (v := (-2)) C dX9_ran_24 (by decide) ?_
      exact ww_iret C HR HL dX9_ran_26 E
section P_X9_rules
variable {p : Program} {l : Launch} {e : Env} {s : State} {m : MethodId} {args : Array Value} {below : List Frame} {meth : Method} {c : Code} {G : GG} {A : Nat → Prop} {ad : Nat → Nat} {S : ST} {N : Nat} {r : Int32} {dy' : DY}
end P_X9_rules
set_option maxHeartbeats 4000000 in
set_option maxRecDepth 100000 in
theorem M_X9_rules (l : Launch) (G : GG) (ad : Nat → Nat) {S : ST} (N : Nat) (hG : Good S) (a0 : Nat) (a1 : Int32) (dy : DY) (T0 : gs S a0 = (0, 9)) {r : Int32} {dy' : DY} (E : F_X9_rules S N a0 a1 dy = some (r, dy')) : MC l yX9_rules cX9_rules 3 (Option.some Jvm.ClassFile.FieldType.int) (2) G ad [.ref (ad a0), .int a1] S dy (fun A => QI G ad A S r dy') := by
  rw [F_X9_rules_s] at E
  refine mc_of RX9 (by decide) rfl (Nat.le_of_ble_eq_true rfl) (fun p e s m args below meth c A C HR HL => ?_)
  refine ww_sub (lv' := [(0, .ref (ad a0)), (1, .int a1)]) [0, 1] rfl ?_
  refine ww_aload_n C dX9_rules_0 rfl 0 rfl ?_
  have T_1 : gs S (gr S a0 0) = (0, 7) := hG.1 _ 9 T0 0 (by decide)
  refine ww_getr (ci := 9) (k0 := 0) C dX9_rules_1 rfl rfl inm9 (by decide) T0 q524 rfl T_1 (by decide) ?_
  refine ww_iload_n C dX9_rules_4 rfl 1 rfl ?_
  obtain ⟨u2, e_3, E⟩ := bind_of E
  refine ww_callR C (runs_V (n := 1) (st := []) C [.int a1] (M_X7_lawOf l G ad N hG (gr S a0 0) a1 dy T_1 e_3) ⟨q897, q109, by decide⟩ q894 q895 q896 (ci := 7) rfl T_1 rfl (Nat.le_of_ble_eq_true rfl) ⟨Nat.le_of_ble_eq_true rfl, Nat.le_of_ble_eq_true rfl⟩ ⟨Nat.zero_le _, Nat.zero_le _⟩ dX9_rules_5 rfl) ?_
  by_cases z_4 : u2.1 = 0
  · rw [if_pos z_4] at E
    rw [show rV ad u2.1 = .null by rw [z_4]; rfl]
    refine ww_astore_nN (lv' := [(2, .null), (0, .ref (ad a0)), (1, .int a1)]) C dX9_rules_8 rfl (by decide) rfl ?_
    refine ww_aload_nN C dX9_rules_9 rfl 0 rfl ?_
    refine ww_ifnonnullF C dX9_rules_10 ?_
    refine ww_iconst (v := (-1)) C dX9_rules_13 (by decide) ?_
    refine ww_goto (tgt := 21) C dX9_rules_14 (by decide) ?_
    exact ww_iret C HR HL dX9_rules_21 E
  rw [if_neg z_4] at E
  obtain ⟨T_5, E⟩ := gd_of E
  rw [rV_pos z_4]
  refine ww_astore_n (lv' := [(2, .ref (ad u2.1)), (0, .ref (ad a0)), (1, .int a1)]) C dX9_rules_8 rfl (by decide) rfl ?_
  refine ww_aload_n C dX9_rules_9 rfl 0 rfl ?_
  refine ww_ifnonnullT (tgt := 17) C dX9_rules_10 (by decide) ?_
  refine ww_aload_n C dX9_rules_17 rfl 0 rfl ?_
  refine ww_geti (ci := 2) (k0 := 0) C dX9_rules_18 rfl rfl inm2 (by decide) T_5 q233 rfl ?_
  exact ww_iret C HR HL dX9_rules_21 E
section P_X9_run
variable {p : Program} {l : Launch} {e : Env} {s : State} {m : MethodId} {args : Array Value} {below : List Frame} {meth : Method} {c : Code} {G : GG} {A : Nat → Prop} {ad : Nat → Nat} {S : ST} {N : Nat} {r : Int32} {dy' : DY}
end P_X9_run
set_option maxHeartbeats 4000000 in
set_option maxRecDepth 100000 in
theorem M_X9_run (l : Launch) (G : GG) (ad : Nat → Nat) {S : ST} (N : Nat) (hG : Good S) (a0 : Nat) (a1 : Int32) (a2 : Int32) (a3 : Int32) (dy : DY) (T0 : gs S a0 = (0, 9)) {r : Int32} {dy' : DY} (E : F_X9_run S N a0 a1 a2 a3 dy = some (r, dy')) : MC l yX9_run cX9_run 6 (Option.some Jvm.ClassFile.FieldType.boolean) (3) G ad [.ref (ad a0), .int a1, .int a2, .int a3] S dy (fun A => QI G ad A S r dy') := by
  rw [F_X9_run_s] at E
  refine mc_of RX9 (by decide) rfl (Nat.le_of_ble_eq_true rfl) (fun p e s m args below meth c A C HR HL => ?_)
  refine ww_sub (lv' := [(0, .ref (ad a0)), (1, .int a1), (2, .int a2), (3, .int a3)]) [0, 1, 2, 3] rfl ?_
  refine ww_aload_n C dX9_run_0 rfl 0 rfl ?_
  have T_1 : gs S (gr S a0 0) = (0, 7) := hG.1 _ 9 T0 0 (by decide)
  refine ww_getr (ci := 9) (k0 := 0) C dX9_run_1 rfl rfl inm9 (by decide) T0 q524 rfl T_1 (by decide) ?_
  refine ww_iload_n C dX9_run_4 rfl 1 rfl ?_
  obtain ⟨u2, e_3, E⟩ := bind_of E
  refine ww_callR C (runs_V (n := 1) (st := []) C [.int a1] (M_X7_passageOf l G ad N hG (gr S a0 0) a1 dy T_1 e_3) ⟨q884, q109, by decide⟩ q881 q882 q883 (ci := 7) rfl T_1 rfl (Nat.le_of_ble_eq_true rfl) ⟨Nat.le_of_ble_eq_true rfl, Nat.le_of_ble_eq_true rfl⟩ ⟨Nat.zero_le _, Nat.zero_le _⟩ dX9_run_5 rfl) ?_
  by_cases z_4 : u2.1 = 0
  · rw [if_pos z_4] at E
    rw [show rV ad u2.1 = .null by rw [z_4]; rfl]
    refine ww_astoreN (lv' := [(4, .null), (0, .ref (ad a0)), (1, .int a1), (2, .int a2), (3, .int a3)]) C dX9_run_8 (by decide) rfl ?_
    refine ww_aload_n C dX9_run_10 rfl 1 rfl ?_
    have T_6 : gs S (gr S a0 0) = (0, 7) := hG.1 _ 9 T0 0 (by decide)
    refine ww_getr (ci := 9) (k0 := 0) C dX9_run_11 rfl rfl inm9 (by decide) T0 q524 rfl T_6 (by decide) ?_
    refine ww_iload_n C dX9_run_14 rfl 3 rfl ?_
    obtain ⟨u7, e_8, E⟩ := bind_of E
    refine ww_callR C (runs_V (n := 1) (st := []) C [.int a2] (M_X7_lawOf l G ad N hG (gr S a0 0) a2 u2.2 T_6 e_8) ⟨q897, q109, by decide⟩ q894 q895 q896 (ci := 7) rfl T_6 rfl (Nat.le_of_ble_eq_true rfl) ⟨Nat.le_of_ble_eq_true rfl, Nat.le_of_ble_eq_true rfl⟩ ⟨Nat.zero_le _, Nat.zero_le _⟩ dX9_run_15 rfl) ?_
    by_cases z_9 : u7.1 = 0
    · rw [if_pos z_9] at E
      rw [show rV ad u7.1 = .null by rw [z_9]; rfl]
      refine ww_astoreN (lv' := [(5, .null), (4, .null), (0, .ref (ad a0)), (1, .int a1), (2, .int a2), (3, .int a3)]) C dX9_run_18 (by decide) rfl ?_
      refine ww_aloadN C dX9_run_20 1 rfl ?_
      refine ww_ifnullT (tgt := 30) C dX9_run_22 (by decide) ?_
      refine ww_iconst (v := 0) C dX9_run_30 (by decide) ?_
      exact ww_zret C HR HL dX9_run_31 (Or.inl rfl) E
    rw [if_neg z_9] at E
    obtain ⟨T_10, E⟩ := gd_of E
    rw [rV_pos z_9]
    refine ww_astore (lv' := [(5, .ref (ad u7.1)), (4, .null), (0, .ref (ad a0)), (1, .int a1), (2, .int a2), (3, .int a3)]) C dX9_run_18 (by decide) rfl ?_
    refine ww_aloadN C dX9_run_20 1 rfl ?_
    refine ww_ifnullT (tgt := 30) C dX9_run_22 (by decide) ?_
    refine ww_iconst (v := 0) C dX9_run_30 (by decide) ?_
    exact ww_zret C HR HL dX9_run_31 (Or.inl rfl) E
  rw [if_neg z_4] at E
  obtain ⟨T_5, E⟩ := gd_of E
  rw [rV_pos z_4]
  refine ww_astore (lv' := [(4, .ref (ad u2.1)), (0, .ref (ad a0)), (1, .int a1), (2, .int a2), (3, .int a3)]) C dX9_run_8 (by decide) rfl ?_
  refine ww_aload_n C dX9_run_10 rfl 1 rfl ?_
  have T_11 : gs S (gr S a0 0) = (0, 7) := hG.1 _ 9 T0 0 (by decide)
  refine ww_getr (ci := 9) (k0 := 0) C dX9_run_11 rfl rfl inm9 (by decide) T0 q524 rfl T_11 (by decide) ?_
  refine ww_iload_n C dX9_run_14 rfl 3 rfl ?_
  obtain ⟨u12, e_13, E⟩ := bind_of E
  refine ww_callR C (runs_V (n := 1) (st := []) C [.int a2] (M_X7_lawOf l G ad N hG (gr S a0 0) a2 u2.2 T_11 e_13) ⟨q897, q109, by decide⟩ q894 q895 q896 (ci := 7) rfl T_11 rfl (Nat.le_of_ble_eq_true rfl) ⟨Nat.le_of_ble_eq_true rfl, Nat.le_of_ble_eq_true rfl⟩ ⟨Nat.zero_le _, Nat.zero_le _⟩ dX9_run_15 rfl) ?_
  by_cases z_14 : u12.1 = 0
  · rw [if_pos z_14] at E
    rw [show rV ad u12.1 = .null by rw [z_14]; rfl]
    refine ww_astoreN (lv' := [(5, .null), (4, .ref (ad u2.1)), (0, .ref (ad a0)), (1, .int a1), (2, .int a2), (3, .int a3)]) C dX9_run_18 (by decide) rfl ?_
    refine ww_aload C dX9_run_20 1 rfl ?_
    refine ww_ifnullF C dX9_run_22 ?_
    refine ww_aloadN C dX9_run_25 0 rfl ?_
    refine ww_ifnonnullF C dX9_run_27 ?_
    refine ww_iconst (v := 0) C dX9_run_30 (by decide) ?_
    exact ww_zret C HR HL dX9_run_31 (Or.inl rfl) E
  rw [if_neg z_14] at E
  obtain ⟨T_15, E⟩ := gd_of E
  rw [rV_pos z_14]
  refine ww_astore (lv' := [(5, .ref (ad u12.1)), (4, .ref (ad u2.1)), (0, .ref (ad a0)), (1, .int a1), (2, .int a2), (3, .int a3)]) C dX9_run_18 (by decide) rfl ?_
  refine ww_aload C dX9_run_20 1 rfl ?_
  refine ww_ifnullF C dX9_run_22 ?_
  refine ww_aload C dX9_run_25 0 rfl ?_
  refine ww_ifnonnullT (tgt := 32) C dX9_run_27 (by decide) ?_
  refine ww_aload_n C dX9_run_32 rfl 2 rfl ?_
  have T_16 : gs S (gr S a0 0) = (0, 7) := hG.1 _ 9 T0 0 (by decide)
  refine ww_getr (ci := 9) (k0 := 0) C dX9_run_33 rfl rfl inm9 (by decide) T0 q524 rfl T_16 (by decide) ?_
  have T_17 : gs S (gr S (gr S a0 0) 8) = (0, 4) := hG.1 _ 7 T_16 8 (by decide)
  refine ww_getr (ci := 7) (k0 := 8) C dX9_run_36 rfl rfl inm7 (by decide) T_16 q382 rfl T_17 (by decide) ?_
  refine ww_aload C dX9_run_39 1 rfl ?_
  obtain ⟨u18, e_19, E⟩ := bind_of E
  refine ww_callV C (runs_V (n := 1) (st := []) C [.ref (ad u2.1)] (M_X4_copyFrom l G ad N hG (gr S (gr S a0 0) 8) u2.1 u12.2 T_17 T_5 e_19) ⟨q787, q110, by decide⟩ q902 q785 q786 (ci := 4) rfl T_17 rfl (Nat.le_of_ble_eq_true rfl) ⟨Nat.le_of_ble_eq_true rfl, Nat.le_of_ble_eq_true rfl⟩ ⟨Nat.zero_le _, Nat.zero_le _⟩ dX9_run_41 rfl) ?_
  refine ww_aload_n C dX9_run_44 rfl 2 rfl ?_
  have T_20 : gs S (gr S a0 0) = (0, 7) := hG.1 _ 9 T0 0 (by decide)
  refine ww_getr (ci := 9) (k0 := 0) C dX9_run_45 rfl rfl inm9 (by decide) T0 q524 rfl T_20 (by decide) ?_
  have T_21 : gs S (gr S (gr S a0 0) 9) = (0, 2) := hG.1 _ 7 T_20 9 (by decide)
  refine ww_getr (ci := 7) (k0 := 9) C dX9_run_48 rfl rfl inm7 (by decide) T_20 q384 rfl T_21 (by decide) ?_
  refine ww_aload C dX9_run_51 0 rfl ?_
  obtain ⟨u22, e_23, E⟩ := bind_of E
  refine ww_callV C (runs_V (n := 1) (st := []) C [.ref (ad u12.1)] (M_X2_copyFrom l G ad N hG (gr S (gr S a0 0) 9) u12.1 u18 T_21 T_15 e_23) ⟨q871, q111, by decide⟩ q903 q869 q870 (ci := 2) rfl T_21 rfl (Nat.le_of_ble_eq_true rfl) ⟨Nat.le_of_ble_eq_true rfl, Nat.le_of_ble_eq_true rfl⟩ ⟨Nat.zero_le _, Nat.zero_le _⟩ dX9_run_53 rfl) ?_
  refine ww_aload_n C dX9_run_56 rfl 2 rfl ?_
  have T_24 : gs S (gr S a0 0) = (0, 7) := hG.1 _ 9 T0 0 (by decide)
  refine ww_getr (ci := 9) (k0 := 0) C dX9_run_57 rfl rfl inm9 (by decide) T0 q524 rfl T_24 (by decide) ?_
  have T_25 : gs S (gr S (gr S a0 0) 10) = (0, 8) := hG.1 _ 7 T_24 10 (by decide)
  refine ww_getr (ci := 7) (k0 := 10) C dX9_run_60 rfl rfl inm7 (by decide) T_24 q386 rfl T_25 (by decide) ?_
  refine ww_iload_n C dX9_run_63 rfl 5 rfl ?_
  obtain ⟨u26, e_27, E⟩ := bind_of E
  refine ww_callV C (runs_V (n := 1) (st := []) C [.int a3] (M_X8_begin l G ad N hG (gr S (gr S a0 0) 10) a3 u22 T_25 e_27) ⟨q907, q112, by decide⟩ q904 q905 q906 (ci := 8) rfl T_25 rfl (Nat.le_of_ble_eq_true rfl) ⟨Nat.le_of_ble_eq_true rfl, Nat.le_of_ble_eq_true rfl⟩ ⟨Nat.zero_le _, Nat.zero_le _⟩ dX9_run_64 rfl) ?_
  refine ww_aload_n C dX9_run_67 rfl 2 rfl ?_
  have T_28 : gs S (gr S a0 0) = (0, 7) := hG.1 _ 9 T0 0 (by decide)
  refine ww_getr (ci := 9) (k0 := 0) C dX9_run_68 rfl rfl inm9 (by decide) T0 q524 rfl T_28 (by decide) ?_
  refine ww_iconst (v := 1) C dX9_run_71 (by decide) ?_
  refine ww_putz (ci := 7) (k0 := 11) C dX9_run_72 rfl rfl inm7 tyX7_ok nmX7 (by decide) T_28 q388 rfl rfl rfl (Or.inr rfl) ?_
  refine ww_bd E (fun dy29 E => ?_)
  refine ww_iconst (v := 1) C dX9_run_75 (by decide) ?_
  exact ww_zret C HR HL dX9_run_76 (Or.inr rfl) E
section P_X9_slack
variable {p : Program} {l : Launch} {e : Env} {s : State} {m : MethodId} {args : Array Value} {below : List Frame} {meth : Method} {c : Code} {G : GG} {A : Nat → Prop} {ad : Nat → Nat} {S : ST} {N : Nat} {r : Int32} {dy' : DY}
set_option maxHeartbeats 4000000 in
set_option maxRecDepth 100000 in
theorem B_X9_slack_37 (C : CX p s m args c cX9_slack 7 RX9 G A) (HR : meth.sig.returnType = (Option.some Jvm.ClassFile.FieldType.int)) (HL : meth.locks = false) (hG : Good S) : ∀ k : Nat, ∀ (x0 : Nat) (x3 : Int32) (x4 : Int32) (x5 : Int32) (x6 : Int32) (dy : DY), gs S x0 = (0, 9) → (F_X9_slack_37 S N k) x0 x3 x4 x5 x6 dy = some (r, dy') → WJ p l e (rmD (7)) s m args below meth c 7 G A 0 0 (MQ below (QI G ad A S r dy') args s 0 0 A) ad 37 [(0, .ref (ad x0)), (3, .int x3), (4, .int x4), (5, .int x5), (6, .int x6)] [] S dy := by
  intro k
  induction k with
  | zero => exact fun _ _ _ _ _ _ _ E => nomatch (show none = some (r, dy') from E)
  | succ k ih =>
    intro x0 x3 x4 x5 x6 dy Tx0 E
    rw [F_X9_slack_37_s] at E
    refine ww_iload C dX9_slack_37 4 rfl ?_
    refine ww_if_lt (tgt := 80) C dX9_slack_39 (by decide) E (fun _ E => ?_) (fun _ E => ?_)
    · refine ww_iconst (v := (-1)) C dX9_slack_80 (by decide) ?_
      exact ww_iret C HR HL dX9_slack_81 E
    · refine ww_aload_n C dX9_slack_42 rfl 0 rfl ?_
      have T_1 : gs S (gr S x0 4) = (0, 4) := hG.1 _ 9 Tx0 4 (by decide)
      refine ww_getr (ci := 9) (k0 := 4) C dX9_slack_43 rfl rfl inm9 (by decide) Tx0 q528 rfl T_1 (by decide) ?_
      have T_2 : gs S (gr S (gr S x0 4) 9) = (1, 12) := hG.1 _ 4 T_1 9 (by decide)
      refine ww_getr (ci := 4) (k0 := 9) C dX9_slack_46 rfl rfl inm4 (by decide) T_1 q184 rfl T_2 (by decide) ?_
      refine ww_iload C dX9_slack_49 3 rfl ?_
      refine ww_iload C dX9_slack_51 4 rfl ?_
      refine ww_iast C dX9_slack_53 T_2 E (fun _ E => ?_)
      refine ww_bd E (fun dy3 E => ?_)
      refine ww_aload_n C dX9_slack_54 rfl 0 rfl ?_
      refine ww_iload_n C dX9_slack_55 rfl 1 rfl ?_
      refine ww_iload C dX9_slack_56 2 rfl ?_
      obtain ⟨u4, e_5, E⟩ := bind_of E
      refine ww_callI C (runs_V (n := 2) (st := []) C [.int x3, .int x4] (M_X9_arrivals l G ad N hG x0 x3 x4 dy3 Tx0 e_5) ⟨q1116, q108, by decide⟩ q1113 q1115 q32 (ci := 9) rfl Tx0 rfl (Nat.le_of_ble_eq_true rfl) ⟨Nat.le_of_ble_eq_true rfl, Nat.le_of_ble_eq_true rfl⟩ ⟨Nat.zero_le _, Nat.zero_le _⟩ dX9_slack_58 rfl) ?_
      refine ww_aload_n C dX9_slack_61 rfl 0 rfl ?_
      have T_6 : gs S (gr S x0 4) = (0, 4) := hG.1 _ 9 Tx0 4 (by decide)
      refine ww_getr (ci := 9) (k0 := 4) C dX9_slack_62 rfl rfl inm9 (by decide) Tx0 q528 rfl T_6 (by decide) ?_
      refine ww_geti (ci := 4) (k0 := 3) C dX9_slack_65 rfl rfl inm4 (by decide) T_6 q164 rfl ?_
      refine ww_icmp_ne (tgt := 74) C dX9_slack_68 (by decide) E (fun _ E => ?_) (fun _ E => ?_)
      · refine ww_iinc (v := (x6 + (-1 : Int32))) (lv' := [(6, .int (x6 + (-1 : Int32))), (0, .ref (ad x0)), (3, .int x3), (4, .int x4), (5, .int x5)]) C dX9_slack_74 4 rfl rfl (by decide) rfl ?_
        refine ww_goto (tgt := 37) C dX9_slack_77 (by decide) ?_
        refine ww_sub (lv' := [(0, .ref (ad x0)), (3, .int x3), (4, .int x4), (5, .int x5), (6, .int (x6 + (-1 : Int32)))]) [1, 2, 3, 4, 0] rfl ?_
        exact ih x0 x3 x4 x5 (x6 + (-1 : Int32)) u4.2 Tx0 E
      · refine ww_iload C dX9_slack_71 4 rfl ?_
        exact ww_iret C HR HL dX9_slack_73 E
end P_X9_slack
set_option maxHeartbeats 4000000 in
set_option maxRecDepth 100000 in
theorem M_X9_slack (l : Launch) (G : GG) (ad : Nat → Nat) {S : ST} (N : Nat) (hG : Good S) (a0 : Nat) (a1 : Int32) (a2 : Int32) (a3 : Int32) (a4 : Int32) (a5 : Int32) (dy : DY) (T0 : gs S a0 = (0, 9)) {r : Int32} {dy' : DY} (E : F_X9_slack S N a0 a1 a2 a3 a4 a5 dy = some (r, dy')) : MC l yX9_slack cX9_slack 7 (Option.some Jvm.ClassFile.FieldType.int) (7) G ad [.ref (ad a0), .int a1, .int a2, .int a3, .int a4, .int a5] S dy (fun A => QI G ad A S r dy') := by
  rw [F_X9_slack_s] at E
  refine mc_of RX9 (by decide) rfl (Nat.le_of_ble_eq_true rfl) (fun p e s m args below meth c A C HR HL => ?_)
  refine ww_sub (lv' := [(0, .ref (ad a0)), (1, .int a1), (2, .int a2), (3, .int a3), (4, .int a4), (5, .int a5)]) [0, 1, 2, 3, 4, 5] rfl ?_
  refine ww_iload C dX9_slack_0 4 rfl ?_
  refine ww_sipush (v := 200) C dX9_slack_2 (by decide) ?_
  obtain ⟨u1, e_2, E⟩ := bind_of E
  refine ww_callI C (runs_S (n := 2) (st := []) C [.int a4, .int (200 : Int32)] (M_X9_isTime l G ad N hG a4 (200 : Int32) dy e_2) ⟨q1108, q108, by decide⟩ q1106 q1107 rfl (Nat.le_of_ble_eq_true rfl) ⟨Nat.le_of_ble_eq_true rfl, Nat.le_of_ble_eq_true rfl⟩ ⟨Nat.zero_le _, Nat.zero_le _⟩ dX9_slack_5 rfl) ?_
  refine ww_if_eq (tgt := 32) C dX9_slack_8 (by decide) E (fun _ E => ?_) (fun _ E => ?_)
  · refine ww_iconst (v := (-1)) C dX9_slack_32 (by decide) ?_
    exact ww_iret C HR HL dX9_slack_33 E
  · refine ww_aload_n C dX9_slack_11 rfl 0 rfl ?_
    refine ww_iload_n C dX9_slack_12 rfl 1 rfl ?_
    refine ww_iload_n C dX9_slack_13 rfl 2 rfl ?_
    obtain ⟨u3, e_4, E⟩ := bind_of E
    refine ww_callI C (runs_V (n := 2) (st := []) C [.int a1, .int a2] (M_X9_prepare l G ad N hG a0 a1 a2 u1.2 T0 e_4) ⟨q1060, q108, by decide⟩ q1057 q1059 q27 (ci := 9) rfl T0 rfl (Nat.le_of_ble_eq_true rfl) ⟨Nat.le_of_ble_eq_true rfl, Nat.le_of_ble_eq_true rfl⟩ ⟨Nat.zero_le _, Nat.zero_le _⟩ dX9_slack_14 rfl) ?_
    refine ww_if_eq (tgt := 32) C dX9_slack_17 (by decide) E (fun _ E => ?_) (fun _ E => ?_)
    · refine ww_iconst (v := (-1)) C dX9_slack_32 (by decide) ?_
      exact ww_iret C HR HL dX9_slack_33 E
    · refine ww_aload_n C dX9_slack_20 rfl 0 rfl ?_
      have T_5 : gs S (gr S a0 4) = (0, 4) := hG.1 _ 9 T0 4 (by decide)
      refine ww_getr (ci := 9) (k0 := 4) C dX9_slack_21 rfl rfl inm9 (by decide) T0 q528 rfl T_5 (by decide) ?_
      refine ww_iload C dX9_slack_24 5 rfl ?_
      obtain ⟨u6, e_7, E⟩ := bind_of E
      refine ww_callI C (runs_V (n := 1) (st := []) C [.int a5] (M_X4_has l G ad N hG (gr S a0 4) a5 u3.2 T_5 e_7) ⟨q764, q110, by decide⟩ q889 q762 q763 (ci := 4) rfl T_5 rfl (Nat.le_of_ble_eq_true rfl) ⟨Nat.le_of_ble_eq_true rfl, Nat.le_of_ble_eq_true rfl⟩ ⟨Nat.zero_le _, Nat.zero_le _⟩ dX9_slack_26 rfl) ?_
      refine ww_if_ne (tgt := 34) C dX9_slack_29 (by decide) E (fun _ E => ?_) (fun _ E => ?_)
      · refine ww_iconst (v := 3) C dX9_slack_34 (by decide) ?_
        refine ww_istore (lv' := [(6, .int (3 : Int32)), (0, .ref (ad a0)), (1, .int a1), (2, .int a2), (3, .int a3), (4, .int a4), (5, .int a5)]) C dX9_slack_35 (by decide) rfl ?_
        refine ww_sub (lv' := [(0, .ref (ad a0)), (3, .int a3), (4, .int a4), (5, .int a5), (6, .int (3 : Int32))]) [1, 4, 5, 6, 0] rfl ?_
        exact (B_X9_slack_37 C HR HL hG N) a0 a3 a4 a5 (3 : Int32) u6.2 T0 E
      · refine ww_iconst (v := (-1)) C dX9_slack_32 (by decide) ?_
        exact ww_iret C HR HL dX9_slack_33 E
section P_X9_state
variable {p : Program} {l : Launch} {e : Env} {s : State} {m : MethodId} {args : Array Value} {below : List Frame} {meth : Method} {c : Code} {G : GG} {A : Nat → Prop} {ad : Nat → Nat} {S : ST} {N : Nat} {r : Int32} {dy' : DY}
end P_X9_state
set_option maxHeartbeats 4000000 in
set_option maxRecDepth 100000 in
theorem M_X9_state (l : Launch) (G : GG) (ad : Nat → Nat) {S : ST} (N : Nat) (hG : Good S) (a0 : Nat) (a1 : Int32) (dy : DY) (T0 : gs S a0 = (0, 9)) {r : Int32} {dy' : DY} (E : F_X9_state S N a0 a1 dy = some (r, dy')) : MC l yX9_state cX9_state 3 (Option.some Jvm.ClassFile.FieldType.int) (3) G ad [.ref (ad a0), .int a1] S dy (fun A => QI G ad A S r dy') := by
  rw [F_X9_state_s] at E
  refine mc_of RX9 (by decide) rfl (Nat.le_of_ble_eq_true rfl) (fun p e s m args below meth c A C HR HL => ?_)
  refine ww_sub (lv' := [(0, .ref (ad a0)), (1, .int a1)]) [0, 1] rfl ?_
  refine ww_aload_n C dX9_state_0 rfl 0 rfl ?_
  have T_1 : gs S (gr S a0 0) = (0, 7) := hG.1 _ 9 T0 0 (by decide)
  refine ww_getr (ci := 9) (k0 := 0) C dX9_state_1 rfl rfl inm9 (by decide) T0 q524 rfl T_1 (by decide) ?_
  refine ww_getz (ci := 7) (k0 := 11) C dX9_state_4 rfl rfl inm7 (by decide) T_1 q388 rfl ?_
  refine ww_if_ne (tgt := 12) C dX9_state_7 (by decide) E (fun _ E => ?_) (fun _ E => ?_)
  · refine ww_aload_n C dX9_state_12 rfl 0 rfl ?_
    have T_2 : gs S (gr S a0 0) = (0, 7) := hG.1 _ 9 T0 0 (by decide)
    refine ww_getr (ci := 9) (k0 := 0) C dX9_state_13 rfl rfl inm9 (by decide) T0 q524 rfl T_2 (by decide) ?_
    have T_3 : gs S (gr S (gr S a0 0) 10) = (0, 8) := hG.1 _ 7 T_2 10 (by decide)
    refine ww_getr (ci := 7) (k0 := 10) C dX9_state_16 rfl rfl inm7 (by decide) T_2 q386 rfl T_3 (by decide) ?_
    refine ww_astore_n (lv' := [(2, .ref (ad (gr S (gr S a0 0) 10))), (0, .ref (ad a0)), (1, .int a1)]) C dX9_state_19 rfl (by decide) rfl ?_
    refine ww_iload_n C dX9_state_20 rfl 2 rfl ?_
    by_cases s_4 : a1 = (0 : Int32)
    · rw [if_pos s_4] at E
      refine ww_tabIn (tgt := 64) C dX9_state_21 s_4 (by decide) (by decide) rfl (by decide) ?_
      refine ww_aload_n C dX9_state_64 rfl 0 rfl ?_
      refine ww_geti (ci := 8) (k0 := 2) C dX9_state_65 rfl rfl inm8 (by decide) T_3 q264 rfl ?_
      exact ww_iret C HR HL dX9_state_68 E
    rw [if_neg s_4] at E
    by_cases s_5 : a1 = (1 : Int32)
    · rw [if_pos s_5] at E
      refine ww_tabIn (tgt := 69) C dX9_state_21 s_5 (by decide) (by decide) rfl (by decide) ?_
      refine ww_aload_n C dX9_state_69 rfl 0 rfl ?_
      refine ww_geti (ci := 8) (k0 := 5) C dX9_state_70 rfl rfl inm8 (by decide) T_3 q270 rfl ?_
      exact ww_iret C HR HL dX9_state_73 E
    rw [if_neg s_5] at E
    by_cases s_6 : a1 = (2 : Int32)
    · rw [if_pos s_6] at E
      refine ww_tabIn (tgt := 74) C dX9_state_21 s_6 (by decide) (by decide) rfl (by decide) ?_
      refine ww_aload_n C dX9_state_74 rfl 0 rfl ?_
      refine ww_geti (ci := 8) (k0 := 7) C dX9_state_75 rfl rfl inm8 (by decide) T_3 q275 rfl ?_
      refine ww_bipush (v := 10) C dX9_state_78 (by decide) ?_
      refine ww_icmp_lt (tgt := 87) C dX9_state_80 (by decide) E (fun _ E => ?_) (fun _ E => ?_)
      · refine ww_iconst (v := 0) C dX9_state_87 (by decide) ?_
        exact ww_iret C HR HL dX9_state_88 E
      · refine ww_iconst (v := 1) C dX9_state_83 (by decide) ?_
        refine ww_goto (tgt := 88) C dX9_state_84 (by decide) ?_
        exact ww_iret C HR HL dX9_state_88 E
    rw [if_neg s_6] at E
    by_cases s_7 : a1 = (3 : Int32)
    · rw [if_pos s_7] at E
      refine ww_tabIn (tgt := 89) C dX9_state_21 s_7 (by decide) (by decide) rfl (by decide) ?_
      refine ww_aload_n C dX9_state_89 rfl 0 rfl ?_
      refine ww_geti (ci := 8) (k0 := 6) C dX9_state_90 rfl rfl inm8 (by decide) T_3 q273 rfl ?_
      exact ww_iret C HR HL dX9_state_93 E
    rw [if_neg s_7] at E
    by_cases s_8 : a1 = (4 : Int32)
    · rw [if_pos s_8] at E
      refine ww_tabIn (tgt := 94) C dX9_state_21 s_8 (by decide) (by decide) rfl (by decide) ?_
      refine ww_aload_n C dX9_state_94 rfl 0 rfl ?_
      obtain ⟨u9, e_10, E⟩ := bind_of E
      refine ww_callI C (runs_V (n := 0) (st := []) C [] (M_X8_lanes l G ad N hG (gr S (gr S a0 0) 10) dy T_3 e_10) ⟨q1036, q112, by decide⟩ q1033 q1034 q1035 (ci := 8) rfl T_3 rfl (Nat.le_of_ble_eq_true rfl) ⟨Nat.le_of_ble_eq_true rfl, Nat.le_of_ble_eq_true rfl⟩ ⟨Nat.zero_le _, Nat.zero_le _⟩ dX9_state_95 rfl) ?_
      exact ww_iret C HR HL dX9_state_98 E
    rw [if_neg s_8] at E
    by_cases s_11 : a1 = (5 : Int32)
    · rw [if_pos s_11] at E
      refine ww_tabIn (tgt := 99) C dX9_state_21 s_11 (by decide) (by decide) rfl (by decide) ?_
      refine ww_aload_n C dX9_state_99 rfl 0 rfl ?_
      obtain ⟨u12, e_13, E⟩ := bind_of E
      refine ww_callI C (runs_V (n := 0) (st := []) C [] (M_X8_mixedRows l G ad N hG (gr S (gr S a0 0) 10) dy T_3 e_13) ⟨q1044, q112, by decide⟩ q1041 q1042 q1043 (ci := 8) rfl T_3 rfl (Nat.le_of_ble_eq_true rfl) ⟨Nat.le_of_ble_eq_true rfl, Nat.le_of_ble_eq_true rfl⟩ ⟨Nat.zero_le _, Nat.zero_le _⟩ dX9_state_100 rfl) ?_
      exact ww_iret C HR HL dX9_state_103 E
    rw [if_neg s_11] at E
    by_cases s_14 : a1 = (6 : Int32)
    · rw [if_pos s_14] at E
      refine ww_tabIn (tgt := 104) C dX9_state_21 s_14 (by decide) (by decide) rfl (by decide) ?_
      refine ww_aload_n C dX9_state_104 rfl 0 rfl ?_
      refine ww_geti (ci := 8) (k0 := 4) C dX9_state_105 rfl rfl inm8 (by decide) T_3 q267 rfl ?_
      exact ww_iret C HR HL dX9_state_108 E
    rw [if_neg s_14] at E
    refine ww_tabOut (tgt := 109) C dX9_state_21 (tab_out (fun v h1 h2 => ?_)) (by decide) ?_
    · rcases (show v = 0 ∨ v = 1 ∨ v = 2 ∨ v = 3 ∨ v = 4 ∨ v = 5 ∨ v = 6 by omega) with rfl | rfl | rfl | rfl | rfl | rfl | rfl
      · exact ti_ne s_4 (by decide)
      · exact ti_ne s_5 (by decide)
      · exact ti_ne s_6 (by decide)
      · exact ti_ne s_7 (by decide)
      · exact ti_ne s_8 (by decide)
      · exact ti_ne s_11 (by decide)
      · exact ti_ne s_14 (by decide)
    refine ww_iconst (v := (-1)) C dX9_state_109 (by decide) ?_
    exact ww_iret C HR HL dX9_state_110 E
  · refine ww_iconst (v := (-1)) C dX9_state_10 (by decide) ?_
    exact ww_iret C HR HL dX9_state_11 E
section P_X9_touch
variable {p : Program} {l : Launch} {e : Env} {s : State} {m : MethodId} {args : Array Value} {below : List Frame} {meth : Method} {c : Code} {G : GG} {A : Nat → Prop} {ad : Nat → Nat} {S : ST} {N : Nat} {r : Int32} {dy' : DY}
set_option maxHeartbeats 4000000 in
set_option maxRecDepth 100000 in
theorem B_X9_touch_66 (C : CX p s m args c cX9_touch 8 RX9 G A) (HR : meth.sig.returnType = (Option.some Jvm.ClassFile.FieldType.int)) (HL : meth.locks = false) (hG : Good S) : ∀ k : Nat, ∀ (x0 : Nat) (x4 : Int32) (x5 : Int32) (x6 : Int32) (x7 : Int32) (dy : DY), gs S x0 = (0, 9) → (F_X9_touch_66 S N k) x0 x4 x5 x6 x7 dy = some (r, dy') → WJ p l e (rmD (6)) s m args below meth c 8 G A 0 0 (MQ below (QI G ad A S r dy') args s 0 0 A) ad 66 [(0, .ref (ad x0)), (4, .int x4), (5, .int x5), (6, .int x6), (7, .int x7)] [] S dy := by
  intro k
  induction k with
  | zero => exact fun _ _ _ _ _ _ _ E => nomatch (show none = some (r, dy') from E)
  | succ k ih =>
    intro x0 x4 x5 x6 x7 dy Tx0 E
    rw [F_X9_touch_66_s] at E
    refine ww_iload C dX9_touch_66 4 rfl ?_
    refine ww_iload C dX9_touch_68 1 rfl ?_
    refine ww_icmp_ge (tgt := 104) C dX9_touch_70 (by decide) E (fun _ E => ?_) (fun _ E => ?_)
    · refine ww_iconst (v := (-1)) C dX9_touch_104 (by decide) ?_
      exact ww_iret C HR HL dX9_touch_105 E
    · refine ww_aload_n C dX9_touch_73 rfl 0 rfl ?_
      have T_1 : gs S (gr S x0 6) = (0, 8) := hG.1 _ 9 Tx0 6 (by decide)
      refine ww_getr (ci := 9) (k0 := 6) C dX9_touch_74 rfl rfl inm9 (by decide) Tx0 q530 rfl T_1 (by decide) ?_
      refine ww_iload C dX9_touch_77 2 rfl ?_
      refine ww_iload C dX9_touch_79 3 rfl ?_
      obtain ⟨u2, e_3, E⟩ := bind_of E
      refine ww_callI C (runs_V (n := 2) (st := []) C [.int x5, .int x6] (M_X8_touches l G ad N hG (gr S x0 6) x5 x6 dy T_1 e_3) ⟨q1159, q112, by decide⟩ q1156 q1157 q1158 (ci := 8) rfl T_1 rfl (Nat.le_of_ble_eq_true rfl) ⟨Nat.le_of_ble_eq_true rfl, Nat.le_of_ble_eq_true rfl⟩ ⟨Nat.zero_le _, Nat.zero_le _⟩ dX9_touch_81 rfl) ?_
      refine ww_if_eq (tgt := 90) C dX9_touch_84 (by decide) E (fun _ E => ?_) (fun _ E => ?_)
      · refine ww_aload_n C dX9_touch_90 rfl 0 rfl ?_
        have T_4 : gs S (gr S x0 6) = (0, 8) := hG.1 _ 9 Tx0 6 (by decide)
        refine ww_getr (ci := 9) (k0 := 6) C dX9_touch_91 rfl rfl inm9 (by decide) Tx0 q530 rfl T_4 (by decide) ?_
        obtain ⟨u5, e_6, E⟩ := bind_of E
        refine ww_callI C (runs_V (n := 0) (st := []) C [] (M_X8_pass l G ad N hG (gr S x0 6) u2.2 T_4 e_6) ⟨q923, q112, by decide⟩ q920 q921 q922 (ci := 8) rfl T_4 rfl (Nat.le_of_ble_eq_true rfl) ⟨Nat.le_of_ble_eq_true rfl, Nat.le_of_ble_eq_true rfl⟩ ⟨Nat.zero_le _, Nat.zero_le _⟩ dX9_touch_94 rfl) ?_
        refine ww_pop C dX9_touch_97 rfl ?_
        refine ww_iinc (v := (x7 + (1 : Int32))) (lv' := [(7, .int (x7 + (1 : Int32))), (0, .ref (ad x0)), (4, .int x4), (5, .int x5), (6, .int x6)]) C dX9_touch_98 4 rfl rfl (by decide) rfl ?_
        refine ww_goto (tgt := 66) C dX9_touch_101 (by decide) ?_
        refine ww_sub (lv' := [(0, .ref (ad x0)), (4, .int x4), (5, .int x5), (6, .int x6), (7, .int (x7 + (1 : Int32)))]) [1, 2, 3, 4, 0] rfl ?_
        exact ih x0 x4 x5 x6 (x7 + (1 : Int32)) u5.2 Tx0 E
      · refine ww_iload C dX9_touch_87 4 rfl ?_
        exact ww_iret C HR HL dX9_touch_89 E
end P_X9_touch
set_option maxHeartbeats 4000000 in
set_option maxRecDepth 100000 in
theorem M_X9_touch (l : Launch) (G : GG) (ad : Nat → Nat) {S : ST} (N : Nat) (hG : Good S) (a0 : Nat) (a1 : Int32) (a2 : Int32) (a3 : Int32) (a4 : Int32) (a5 : Int32) (a6 : Int32) (dy : DY) (T0 : gs S a0 = (0, 9)) {r : Int32} {dy' : DY} (E : F_X9_touch S N a0 a1 a2 a3 a4 a5 a6 dy = some (r, dy')) : MC l yX9_touch cX9_touch 8 (Option.some Jvm.ClassFile.FieldType.int) (6) G ad [.ref (ad a0), .int a1, .int a2, .int a3, .int a4, .int a5, .int a6] S dy (fun A => QI G ad A S r dy') := by
  rw [F_X9_touch_s] at E
  refine mc_of RX9 (by decide) rfl (Nat.le_of_ble_eq_true rfl) (fun p e s m args below meth c A C HR HL => ?_)
  refine ww_sub (lv' := [(0, .ref (ad a0)), (1, .int a1), (2, .int a2), (3, .int a3), (4, .int a4), (5, .int a5), (6, .int a6)]) [0, 1, 2, 3, 4, 5, 6] rfl ?_
  refine ww_iload C dX9_touch_0 4 rfl ?_
  refine ww_sipush (v := 200) C dX9_touch_2 (by decide) ?_
  obtain ⟨u1, e_2, E⟩ := bind_of E
  refine ww_callI C (runs_S (n := 2) (st := []) C [.int a4, .int (200 : Int32)] (M_X9_isTime l G ad N hG a4 (200 : Int32) dy e_2) ⟨q1108, q108, by decide⟩ q1106 q1107 rfl (Nat.le_of_ble_eq_true rfl) ⟨Nat.le_of_ble_eq_true rfl, Nat.le_of_ble_eq_true rfl⟩ ⟨Nat.zero_le _, Nat.zero_le _⟩ dX9_touch_5 rfl) ?_
  refine ww_if_eq (tgt := 20) C dX9_touch_8 (by decide) E (fun _ E => ?_) (fun _ E => ?_)
  · refine ww_iconst (v := (-1)) C dX9_touch_20 (by decide) ?_
    exact ww_iret C HR HL dX9_touch_21 E
  · refine ww_aload_n C dX9_touch_11 rfl 0 rfl ?_
    refine ww_iload_n C dX9_touch_12 rfl 1 rfl ?_
    refine ww_iload_n C dX9_touch_13 rfl 2 rfl ?_
    obtain ⟨u3, e_4, E⟩ := bind_of E
    refine ww_callI C (runs_V (n := 2) (st := []) C [.int a1, .int a2] (M_X9_prepare l G ad N hG a0 a1 a2 u1.2 T0 e_4) ⟨q1060, q108, by decide⟩ q1057 q1059 q27 (ci := 9) rfl T0 rfl (Nat.le_of_ble_eq_true rfl) ⟨Nat.le_of_ble_eq_true rfl, Nat.le_of_ble_eq_true rfl⟩ ⟨Nat.zero_le _, Nat.zero_le _⟩ dX9_touch_14 rfl) ?_
    refine ww_if_ne (tgt := 22) C dX9_touch_17 (by decide) E (fun _ E => ?_) (fun _ E => ?_)
    · refine ww_aload_n C dX9_touch_22 rfl 0 rfl ?_
      have T_5 : gs S (gr S a0 4) = (0, 4) := hG.1 _ 9 T0 4 (by decide)
      refine ww_getr (ci := 9) (k0 := 4) C dX9_touch_23 rfl rfl inm9 (by decide) T0 q528 rfl T_5 (by decide) ?_
      refine ww_iload C dX9_touch_26 5 rfl ?_
      obtain ⟨u6, e_7, E⟩ := bind_of E
      refine ww_callI C (runs_V (n := 1) (st := []) C [.int a5] (M_X4_has l G ad N hG (gr S a0 4) a5 u3.2 T_5 e_7) ⟨q764, q110, by decide⟩ q889 q762 q763 (ci := 4) rfl T_5 rfl (Nat.le_of_ble_eq_true rfl) ⟨Nat.le_of_ble_eq_true rfl, Nat.le_of_ble_eq_true rfl⟩ ⟨Nat.zero_le _, Nat.zero_le _⟩ dX9_touch_28 rfl) ?_
      refine ww_if_eq (tgt := 53) C dX9_touch_31 (by decide) E (fun _ E => ?_) (fun _ E => ?_)
      · refine ww_iconst (v := (-1)) C dX9_touch_53 (by decide) ?_
        exact ww_iret C HR HL dX9_touch_54 E
      · refine ww_aload_n C dX9_touch_34 rfl 0 rfl ?_
        have T_8 : gs S (gr S a0 4) = (0, 4) := hG.1 _ 9 T0 4 (by decide)
        refine ww_getr (ci := 9) (k0 := 4) C dX9_touch_35 rfl rfl inm9 (by decide) T0 q528 rfl T_8 (by decide) ?_
        refine ww_iload C dX9_touch_38 6 rfl ?_
        obtain ⟨u9, e_10, E⟩ := bind_of E
        refine ww_callI C (runs_V (n := 1) (st := []) C [.int a6] (M_X4_has l G ad N hG (gr S a0 4) a6 u6.2 T_8 e_10) ⟨q764, q110, by decide⟩ q889 q762 q763 (ci := 4) rfl T_8 rfl (Nat.le_of_ble_eq_true rfl) ⟨Nat.le_of_ble_eq_true rfl, Nat.le_of_ble_eq_true rfl⟩ ⟨Nat.zero_le _, Nat.zero_le _⟩ dX9_touch_40 rfl) ?_
        refine ww_if_eq (tgt := 53) C dX9_touch_43 (by decide) E (fun _ E => ?_) (fun _ E => ?_)
        · refine ww_iconst (v := (-1)) C dX9_touch_53 (by decide) ?_
          exact ww_iret C HR HL dX9_touch_54 E
        · refine ww_iload C dX9_touch_46 5 rfl ?_
          refine ww_iload C dX9_touch_48 6 rfl ?_
          refine ww_icmp_ne (tgt := 55) C dX9_touch_50 (by decide) E (fun _ E => ?_) (fun _ E => ?_)
          · refine ww_aload_n C dX9_touch_55 rfl 0 rfl ?_
            have T_11 : gs S (gr S a0 6) = (0, 8) := hG.1 _ 9 T0 6 (by decide)
            refine ww_getr (ci := 9) (k0 := 6) C dX9_touch_56 rfl rfl inm9 (by decide) T0 q530 rfl T_11 (by decide) ?_
            refine ww_iload_n C dX9_touch_59 rfl 3 rfl ?_
            obtain ⟨u12, e_13, E⟩ := bind_of E
            refine ww_callV C (runs_V (n := 1) (st := []) C [.int a3] (M_X8_begin l G ad N hG (gr S a0 6) a3 u9.2 T_11 e_13) ⟨q907, q112, by decide⟩ q904 q905 q906 (ci := 8) rfl T_11 rfl (Nat.le_of_ble_eq_true rfl) ⟨Nat.le_of_ble_eq_true rfl, Nat.le_of_ble_eq_true rfl⟩ ⟨Nat.zero_le _, Nat.zero_le _⟩ dX9_touch_60 rfl) ?_
            refine ww_iconst (v := 0) C dX9_touch_63 (by decide) ?_
            refine ww_istore (lv' := [(7, .int (0 : Int32)), (0, .ref (ad a0)), (1, .int a1), (2, .int a2), (3, .int a3), (4, .int a4), (5, .int a5), (6, .int a6)]) C dX9_touch_64 (by decide) rfl ?_
            refine ww_sub (lv' := [(0, .ref (ad a0)), (4, .int a4), (5, .int a5), (6, .int a6), (7, .int (0 : Int32))]) [1, 5, 6, 7, 0] rfl ?_
            exact (B_X9_touch_66 C HR HL hG N) a0 a4 a5 a6 (0 : Int32) u12 T0 E
          · refine ww_iconst (v := (-1)) C dX9_touch_53 (by decide) ?_
            exact ww_iret C HR HL dX9_touch_54 E
    · refine ww_iconst (v := (-1)) C dX9_touch_20 (by decide) ?_
      exact ww_iret C HR HL dX9_touch_21 E
section P_X9_track
variable {p : Program} {l : Launch} {e : Env} {s : State} {m : MethodId} {args : Array Value} {below : List Frame} {meth : Method} {c : Code} {G : GG} {A : Nat → Prop} {ad : Nat → Nat} {S : ST} {N : Nat} {r : Int32} {dy' : DY}
set_option maxHeartbeats 4000000 in
set_option maxRecDepth 100000 in
theorem B_X9_track_67 (C : CX p s m args c cX9_track 8 RX9 G A) (HR : meth.sig.returnType = (Option.some Jvm.ClassFile.FieldType.int)) (HL : meth.locks = false) (hG : Good S) : ∀ k : Nat, ∀ (x0 : Nat) (x3 : Int32) (x4 : Int32) (x6 : Int32) (x7 : Int32) (dy : DY), gs S x0 = (0, 9) → (F_X9_track_67 S N k) x0 x3 x4 x6 x7 dy = some (r, dy') → WJ p l e (rmD (4)) s m args below meth c 8 G A 0 0 (MQ below (QI G ad A S r dy') args s 0 0 A) ad 67 [(0, .ref (ad x0)), (3, .int x3), (4, .int x4), (6, .int x6), (7, .int x7)] [] S dy := by
  intro k
  induction k with
  | zero => exact fun _ _ _ _ _ _ _ E => nomatch (show none = some (r, dy') from E)
  | succ k ih =>
    intro x0 x3 x4 x6 x7 dy Tx0 E
    rw [F_X9_track_67_s] at E
    refine ww_iload C dX9_track_67 4 rfl ?_
    refine ww_iload C dX9_track_69 2 rfl ?_
    refine ww_icmp_ge (tgt := 131) C dX9_track_71 (by decide) E (fun _ E => ?_) (fun _ E => ?_)
    · refine ww_iload C dX9_track_131 3 rfl ?_
      exact ww_iret C HR HL dX9_track_133 E
    · refine ww_iload C dX9_track_74 3 rfl ?_
      refine ww_iconst (v := (-1)) C dX9_track_76 (by decide) ?_
      refine ww_icmp_eq (tgt := 131) C dX9_track_77 (by decide) E (fun _ E => ?_) (fun _ E => ?_)
      · refine ww_iload C dX9_track_131 3 rfl ?_
        exact ww_iret C HR HL dX9_track_133 E
      · refine ww_aload_n C dX9_track_80 rfl 0 rfl ?_
        have T_1 : gs S (gr S x0 0) = (0, 7) := hG.1 _ 9 Tx0 0 (by decide)
        refine ww_getr (ci := 9) (k0 := 0) C dX9_track_81 rfl rfl inm9 (by decide) Tx0 q524 rfl T_1 (by decide) ?_
        have T_2 : gs S (gr S (gr S x0 0) 12) = (0, 1) := hG.1 _ 7 T_1 12 (by decide)
        refine ww_getr (ci := 7) (k0 := 12) C dX9_track_84 rfl rfl inm7 (by decide) T_1 q390 rfl T_2 (by decide) ?_
        refine ww_iload C dX9_track_87 4 rfl ?_
        refine ww_iload_n C dX9_track_89 rfl 1 rfl ?_
        obtain ⟨u3, e_4, E⟩ := bind_of E
        refine ww_callI C (runs_V (n := 2) (st := []) C [.int x7, .int x3] (M_X1_pair l G ad N hG (gr S (gr S x0 0) 12) x7 x3 dy T_2 e_4) ⟨q1210, q113, by decide⟩ q1207 q1208 q1209 (ci := 1) rfl T_2 rfl (Nat.le_of_ble_eq_true rfl) ⟨Nat.le_of_ble_eq_true rfl, Nat.le_of_ble_eq_true rfl⟩ ⟨Nat.zero_le _, Nat.zero_le _⟩ dX9_track_90 rfl) ?_
        refine ww_pop C dX9_track_93 rfl ?_
        refine ww_iload C dX9_track_94 3 rfl ?_
        refine ww_if_lt (tgt := 122) C dX9_track_96 (by decide) E (fun _ E => ?_) (fun _ E => ?_)
        · refine ww_iconst (v := (-1)) C dX9_track_122 (by decide) ?_
          refine ww_istore (lv' := [(6, .int (-1 : Int32)), (0, .ref (ad x0)), (3, .int x3), (4, .int x4), (7, .int x7)]) C dX9_track_123 (by decide) rfl ?_
          refine ww_iinc (v := (x7 + (1 : Int32))) (lv' := [(7, .int (x7 + (1 : Int32))), (6, .int (-1 : Int32)), (0, .ref (ad x0)), (3, .int x3), (4, .int x4)]) C dX9_track_125 4 rfl rfl (by decide) rfl ?_
          refine ww_goto (tgt := 67) C dX9_track_128 (by decide) ?_
          refine ww_sub (lv' := [(0, .ref (ad x0)), (3, .int x3), (4, .int x4), (6, .int (-1 : Int32)), (7, .int (x7 + (1 : Int32)))]) [2, 3, 4, 1, 0] rfl ?_
          exact ih x0 x3 x4 (-1 : Int32) (x7 + (1 : Int32)) u3.2 Tx0 E
        · refine ww_iload C dX9_track_99 3 rfl ?_
          refine ww_bipush (v := 6) C dX9_track_101 (by decide) ?_
          refine ww_icmp_ge (tgt := 122) C dX9_track_103 (by decide) E (fun _ E => ?_) (fun _ E => ?_)
          · refine ww_iconst (v := (-1)) C dX9_track_122 (by decide) ?_
            refine ww_istore (lv' := [(6, .int (-1 : Int32)), (0, .ref (ad x0)), (3, .int x3), (4, .int x4), (7, .int x7)]) C dX9_track_123 (by decide) rfl ?_
            refine ww_iinc (v := (x7 + (1 : Int32))) (lv' := [(7, .int (x7 + (1 : Int32))), (6, .int (-1 : Int32)), (0, .ref (ad x0)), (3, .int x3), (4, .int x4)]) C dX9_track_125 4 rfl rfl (by decide) rfl ?_
            refine ww_goto (tgt := 67) C dX9_track_128 (by decide) ?_
            refine ww_sub (lv' := [(0, .ref (ad x0)), (3, .int x3), (4, .int x4), (6, .int (-1 : Int32)), (7, .int (x7 + (1 : Int32)))]) [2, 3, 4, 1, 0] rfl ?_
            exact ih x0 x3 x4 (-1 : Int32) (x7 + (1 : Int32)) u3.2 Tx0 E
          · refine ww_aload_n C dX9_track_106 rfl 0 rfl ?_
            have T_5 : gs S (gr S x0 0) = (0, 7) := hG.1 _ 9 Tx0 0 (by decide)
            refine ww_getr (ci := 9) (k0 := 0) C dX9_track_107 rfl rfl inm9 (by decide) Tx0 q524 rfl T_5 (by decide) ?_
            have T_6 : gs S (gr S (gr S x0 0) 12) = (0, 1) := hG.1 _ 7 T_5 12 (by decide)
            refine ww_getr (ci := 7) (k0 := 12) C dX9_track_110 rfl rfl inm7 (by decide) T_5 q390 rfl T_6 (by decide) ?_
            have T_7 : gs S (gr S (gr S (gr S x0 0) 12) 3) = (1, 6) := hG.1 _ 1 T_6 3 (by decide)
            refine ww_getr (ci := 1) (k0 := 3) C dX9_track_113 rfl rfl inm1 (by decide) T_6 q354 rfl T_7 (by decide) ?_
            refine ww_iload C dX9_track_116 3 rfl ?_
            refine ww_iald C dX9_track_118 T_7 E (fun _ E => ?_)
            refine ww_goto (tgt := 123) C dX9_track_119 (by decide) ?_
            refine ww_istore (lv' := [(6, .int (gi u3.2 (gr S (gr S (gr S x0 0) 12) 3) x6.toNatClampNeg)), (0, .ref (ad x0)), (3, .int x3), (4, .int x4), (7, .int x7)]) C dX9_track_123 (by decide) rfl ?_
            refine ww_iinc (v := (x7 + (1 : Int32))) (lv' := [(7, .int (x7 + (1 : Int32))), (6, .int (gi u3.2 (gr S (gr S (gr S x0 0) 12) 3) x6.toNatClampNeg)), (0, .ref (ad x0)), (3, .int x3), (4, .int x4)]) C dX9_track_125 4 rfl rfl (by decide) rfl ?_
            refine ww_goto (tgt := 67) C dX9_track_128 (by decide) ?_
            refine ww_sub (lv' := [(0, .ref (ad x0)), (3, .int x3), (4, .int x4), (6, .int (gi u3.2 (gr S (gr S (gr S x0 0) 12) 3) x6.toNatClampNeg)), (7, .int (x7 + (1 : Int32)))]) [2, 3, 4, 1, 0] rfl ?_
            exact ih x0 x3 x4 (gi u3.2 (gr S (gr S (gr S x0 0) 12) 3) x6.toNatClampNeg) (x7 + (1 : Int32)) u3.2 Tx0 E
set_option maxHeartbeats 4000000 in
set_option maxRecDepth 100000 in
theorem B_X9_track_30 (C : CX p s m args c cX9_track 8 RX9 G A) (HR : meth.sig.returnType = (Option.some Jvm.ClassFile.FieldType.int)) (HL : meth.locks = false) (hG : Good S) : ∀ (x0 : Nat) (x1 : Int32) (x2 : Int32) (x3 : Int32) (x4 : Int32) (y0 : Int32) (dy : DY), gs S x0 = (0, 9) → F_X9_track_30 S N x0 x1 x2 x3 x4 y0 dy = some (r, dy') → WJ p l e (rmD (4)) s m args below meth c 8 G A 0 0 (MQ below (QI G ad A S r dy') args s 0 0 A) ad 30 [(0, .ref (ad x0)), (1, .int x1), (2, .int x2), (3, .int x3), (4, .int x4)] [.int y0] S dy := by
  intro x0 x1 x2 x3 x4 y0 dy Tx0 E
  rw [F_X9_track_30_s] at E
  refine ww_istore (lv' := [(5, .int y0), (0, .ref (ad x0)), (1, .int x1), (2, .int x2), (3, .int x3), (4, .int x4)]) C dX9_track_30 (by decide) rfl ?_
  refine ww_iload C dX9_track_32 0 rfl ?_
  refine ww_if_eq (tgt := 59) C dX9_track_34 (by decide) E (fun _ E => ?_) (fun _ E => ?_)
  · refine ww_iconst (v := (-1)) C dX9_track_59 (by decide) ?_
    exact ww_iret C HR HL dX9_track_60 E
  · refine ww_iload_n C dX9_track_37 rfl 4 rfl ?_
    obtain ⟨u1, e_2, E⟩ := bind_of E
    refine ww_callI C (runs_S (n := 1) (st := []) C [.int x3] (M_X9_isPrice l G ad N hG x3 dy e_2) ⟨q1205, q108, by decide⟩ q1203 q1204 rfl (Nat.le_of_ble_eq_true rfl) ⟨Nat.le_of_ble_eq_true rfl, Nat.le_of_ble_eq_true rfl⟩ ⟨Nat.zero_le _, Nat.zero_le _⟩ dX9_track_38 rfl) ?_
    refine ww_if_eq (tgt := 59) C dX9_track_41 (by decide) E (fun _ E => ?_) (fun _ E => ?_)
    · refine ww_iconst (v := (-1)) C dX9_track_59 (by decide) ?_
      exact ww_iret C HR HL dX9_track_60 E
    · refine ww_aload_n C dX9_track_44 rfl 1 rfl ?_
      have T_3 : gs S (gr S x0 0) = (0, 7) := hG.1 _ 9 Tx0 0 (by decide)
      refine ww_getr (ci := 9) (k0 := 0) C dX9_track_45 rfl rfl inm9 (by decide) Tx0 q524 rfl T_3 (by decide) ?_
      have T_4 : gs S (gr S (gr S x0 0) 12) = (0, 1) := hG.1 _ 7 T_3 12 (by decide)
      refine ww_getr (ci := 7) (k0 := 12) C dX9_track_48 rfl rfl inm7 (by decide) T_3 q390 rfl T_4 (by decide) ?_
      refine ww_iload_n C dX9_track_51 rfl 2 rfl ?_
      refine ww_iload_n C dX9_track_52 rfl 3 rfl ?_
      obtain ⟨u5, e_6, E⟩ := bind_of E
      refine ww_callI C (runs_V (n := 2) (st := []) C [.int x1, .int x2] (M_X1_has l G ad N hG (gr S (gr S x0 0) 12) x1 x2 u1.2 T_4 e_6) ⟨q1183, q113, by decide⟩ q1206 q1181 q1182 (ci := 1) rfl T_4 rfl (Nat.le_of_ble_eq_true rfl) ⟨Nat.le_of_ble_eq_true rfl, Nat.le_of_ble_eq_true rfl⟩ ⟨Nat.zero_le _, Nat.zero_le _⟩ dX9_track_53 rfl) ?_
      refine ww_if_ne (tgt := 61) C dX9_track_56 (by decide) E (fun _ E => ?_) (fun _ E => ?_)
      · refine ww_iload_n C dX9_track_61 rfl 3 rfl ?_
        refine ww_istore (lv' := [(6, .int x2), (5, .int y0), (0, .ref (ad x0)), (1, .int x1), (2, .int x2), (3, .int x3), (4, .int x4)]) C dX9_track_62 (by decide) rfl ?_
        refine ww_iload_n C dX9_track_64 rfl 3 rfl ?_
        refine ww_istore (lv' := [(7, .int x1), (6, .int x2), (5, .int y0), (0, .ref (ad x0)), (1, .int x1), (2, .int x2), (3, .int x3), (4, .int x4)]) C dX9_track_65 (by decide) rfl ?_
        refine ww_sub (lv' := [(0, .ref (ad x0)), (3, .int x3), (4, .int x4), (6, .int x2), (7, .int x1)]) [3, 6, 7, 1, 0] rfl ?_
        exact (B_X9_track_67 C HR HL hG N) x0 x3 x4 x2 x1 u5.2 Tx0 E
      · refine ww_iconst (v := (-1)) C dX9_track_59 (by decide) ?_
        exact ww_iret C HR HL dX9_track_60 E
end P_X9_track
set_option maxHeartbeats 4000000 in
set_option maxRecDepth 100000 in
theorem M_X9_track (l : Launch) (G : GG) (ad : Nat → Nat) {S : ST} (N : Nat) (hG : Good S) (a0 : Nat) (a1 : Int32) (a2 : Int32) (a3 : Int32) (a4 : Int32) (dy : DY) (T0 : gs S a0 = (0, 9)) {r : Int32} {dy' : DY} (E : F_X9_track S N a0 a1 a2 a3 a4 dy = some (r, dy')) : MC l yX9_track cX9_track 8 (Option.some Jvm.ClassFile.FieldType.int) (4) G ad [.ref (ad a0), .int a1, .int a2, .int a3, .int a4] S dy (fun A => QI G ad A S r dy') := by
  rw [F_X9_track_s] at E
  refine mc_of RX9 (by decide) rfl (Nat.le_of_ble_eq_true rfl) (fun p e s m args below meth c A C HR HL => ?_)
  refine ww_sub (lv' := [(0, .ref (ad a0)), (1, .int a1), (2, .int a2), (3, .int a3), (4, .int a4)]) [0, 1, 2, 3, 4] rfl ?_
  refine ww_iload_n C dX9_track_0 rfl 1 rfl ?_
  refine ww_bipush (v := 8) C dX9_track_1 (by decide) ?_
  obtain ⟨u1, e_2, E⟩ := bind_of E
  refine ww_callI C (runs_S (n := 2) (st := []) C [.int a1, .int (8 : Int32)] (M_X9_isFrame l G ad N hG a1 (8 : Int32) dy e_2) ⟨q1190, q108, by decide⟩ q1188 q1189 rfl (Nat.le_of_ble_eq_true rfl) ⟨Nat.le_of_ble_eq_true rfl, Nat.le_of_ble_eq_true rfl⟩ ⟨Nat.zero_le _, Nat.zero_le _⟩ dX9_track_3 rfl) ?_
  refine ww_if_eq (tgt := 29) C dX9_track_6 (by decide) E (fun _ E => ?_) (fun _ E => ?_)
  · refine ww_iconst (v := 0) C dX9_track_29 (by decide) ?_
    refine ww_sub (lv' := [(0, .ref (ad a0)), (1, .int a1), (2, .int a2), (3, .int a3), (4, .int a4)]) [0, 1, 2, 3, 4] rfl ?_
    exact (B_X9_track_30 C HR HL hG) a0 a1 a2 a3 a4 (0 : Int32) u1.2 T0 E
  · refine ww_iload C dX9_track_9 4 rfl ?_
    refine ww_bipush (v := 8) C dX9_track_11 (by decide) ?_
    obtain ⟨u3, e_4, E⟩ := bind_of E
    refine ww_callI C (runs_S (n := 2) (st := []) C [.int a4, .int (8 : Int32)] (M_X9_isFrame l G ad N hG a4 (8 : Int32) u1.2 e_4) ⟨q1190, q108, by decide⟩ q1188 q1189 rfl (Nat.le_of_ble_eq_true rfl) ⟨Nat.le_of_ble_eq_true rfl, Nat.le_of_ble_eq_true rfl⟩ ⟨Nat.zero_le _, Nat.zero_le _⟩ dX9_track_13 rfl) ?_
    refine ww_if_eq (tgt := 29) C dX9_track_16 (by decide) E (fun _ E => ?_) (fun _ E => ?_)
    · refine ww_iconst (v := 0) C dX9_track_29 (by decide) ?_
      refine ww_sub (lv' := [(0, .ref (ad a0)), (1, .int a1), (2, .int a2), (3, .int a3), (4, .int a4)]) [0, 1, 2, 3, 4] rfl ?_
      exact (B_X9_track_30 C HR HL hG) a0 a1 a2 a3 a4 (0 : Int32) u3.2 T0 E
    · refine ww_iload_n C dX9_track_19 rfl 1 rfl ?_
      refine ww_iload C dX9_track_20 4 rfl ?_
      refine ww_icmp_gt (tgt := 29) C dX9_track_22 (by decide) E (fun _ E => ?_) (fun _ E => ?_)
      · refine ww_iconst (v := 0) C dX9_track_29 (by decide) ?_
        refine ww_sub (lv' := [(0, .ref (ad a0)), (1, .int a1), (2, .int a2), (3, .int a3), (4, .int a4)]) [0, 1, 2, 3, 4] rfl ?_
        exact (B_X9_track_30 C HR HL hG) a0 a1 a2 a3 a4 (0 : Int32) u3.2 T0 E
      · refine ww_iconst (v := 1) C dX9_track_25 (by decide) ?_
        refine ww_goto (tgt := 30) C dX9_track_26 (by decide) ?_
        refine ww_sub (lv' := [(0, .ref (ad a0)), (1, .int a1), (2, .int a2), (3, .int a3), (4, .int a4)]) [0, 1, 2, 3, 4] rfl ?_
        exact (B_X9_track_30 C HR HL hG) a0 a1 a2 a3 a4 (1 : Int32) u3.2 T0 E
section P_X9_two
variable {p : Program} {l : Launch} {e : Env} {s : State} {m : MethodId} {args : Array Value} {below : List Frame} {meth : Method} {c : Code} {G : GG} {A : Nat → Prop} {ad : Nat → Nat} {S : ST} {N : Nat} {r : Int32} {dy' : DY}
set_option maxHeartbeats 4000000 in
set_option maxRecDepth 100000 in
theorem B_X9_two_84 (C : CX p s m args c cX9_two 6 RX9 G A) (HR : meth.sig.returnType = (Option.some Jvm.ClassFile.FieldType.int)) (HL : meth.locks = false) (hG : Good S) : ∀ (y0 : Nat) (y1 : Int32) (y2 : Int32) (dy : DY), gs S y0 = (0, 0) → F_X9_two_84 S N y0 y1 y2 dy = some (r, dy') → WJ p l e (rmD (42)) s m args below meth c 6 G A 0 0 (MQ below (QI G ad A S r dy') args s 0 0 A) ad 84 [] [.int y2, .int y1, .ref (ad y0)] S dy := by
  intro y0 y1 y2 dy Ty0 E
  rw [F_X9_two_84_s] at E
  obtain ⟨u1, e_2, E⟩ := bind_of E
  refine ww_callI C (runs_V (n := 2) (st := []) C [.int y1, .int y2] (M_X0_parts l G ad N hG y0 y1 y2 dy Ty0 e_2) ⟨q1064, q115, by decide⟩ q1061 q1062 q1063 (ci := 0) rfl Ty0 rfl (Nat.le_of_ble_eq_true rfl) ⟨Nat.le_of_ble_eq_true rfl, Nat.le_of_ble_eq_true rfl⟩ ⟨Nat.zero_le _, Nat.zero_le _⟩ dX9_two_84 rfl) ?_
  exact ww_iret C HR HL dX9_two_87 E
set_option maxHeartbeats 4000000 in
set_option maxRecDepth 100000 in
theorem B_X9_two_24 (C : CX p s m args c cX9_two 6 RX9 G A) (HR : meth.sig.returnType = (Option.some Jvm.ClassFile.FieldType.int)) (HL : meth.locks = false) (hG : Good S) : ∀ (x0 : Nat) (x1 : Int32) (x2 : Int32) (x3 : Int32) (x4 : Int32) (y0 : Int32) (dy : DY), gs S x0 = (0, 9) → F_X9_two_24 S N x0 x1 x2 x3 x4 y0 dy = some (r, dy') → WJ p l e (rmD (42)) s m args below meth c 6 G A 0 0 (MQ below (QI G ad A S r dy') args s 0 0 A) ad 24 [(0, .ref (ad x0)), (1, .int x1), (2, .int x2), (3, .int x3), (4, .int x4)] [.int y0] S dy := by
  intro x0 x1 x2 x3 x4 y0 dy Tx0 E
  rw [F_X9_two_24_s] at E
  refine ww_istore (lv' := [(5, .int y0), (0, .ref (ad x0)), (1, .int x1), (2, .int x2), (3, .int x3), (4, .int x4)]) C dX9_two_24 (by decide) rfl ?_
  refine ww_iload C dX9_two_26 0 rfl ?_
  refine ww_if_eq (tgt := 50) C dX9_two_28 (by decide) E (fun _ E => ?_) (fun _ E => ?_)
  · refine ww_iconst (v := (-1)) C dX9_two_50 (by decide) ?_
    exact ww_iret C HR HL dX9_two_51 E
  · refine ww_iload_n C dX9_two_31 rfl 4 rfl ?_
    refine ww_if_lt (tgt := 50) C dX9_two_32 (by decide) E (fun _ E => ?_) (fun _ E => ?_)
    · refine ww_iconst (v := (-1)) C dX9_two_50 (by decide) ?_
      exact ww_iret C HR HL dX9_two_51 E
    · refine ww_iload_n C dX9_two_35 rfl 4 rfl ?_
      refine ww_bipush (v := 8) C dX9_two_36 (by decide) ?_
      refine ww_icmp_gt (tgt := 50) C dX9_two_38 (by decide) E (fun _ E => ?_) (fun _ E => ?_)
      · refine ww_iconst (v := (-1)) C dX9_two_50 (by decide) ?_
        exact ww_iret C HR HL dX9_two_51 E
      · refine ww_aload_n C dX9_two_41 rfl 1 rfl ?_
        refine ww_iload_n C dX9_two_42 rfl 2 rfl ?_
        refine ww_iload_n C dX9_two_43 rfl 3 rfl ?_
        obtain ⟨u1, e_2, E⟩ := bind_of E
        refine ww_callI C (runs_V (n := 2) (st := []) C [.int x1, .int x2] (M_X9_prepare l G ad N hG x0 x1 x2 dy Tx0 e_2) ⟨q1060, q108, by decide⟩ q1057 q1059 q27 (ci := 9) rfl Tx0 rfl (Nat.le_of_ble_eq_true rfl) ⟨Nat.le_of_ble_eq_true rfl, Nat.le_of_ble_eq_true rfl⟩ ⟨Nat.zero_le _, Nat.zero_le _⟩ dX9_two_44 rfl) ?_
        refine ww_if_ne (tgt := 52) C dX9_two_47 (by decide) E (fun _ E => ?_) (fun _ E => ?_)
        · refine ww_aload_n C dX9_two_52 rfl 1 rfl ?_
          have T_3 : gs S (gr S x0 4) = (0, 4) := hG.1 _ 9 Tx0 4 (by decide)
          refine ww_getr (ci := 9) (k0 := 4) C dX9_two_53 rfl rfl inm9 (by decide) Tx0 q528 rfl T_3 (by decide) ?_
          refine ww_geti (ci := 4) (k0 := 3) C dX9_two_56 rfl rfl inm4 (by decide) T_3 q164 rfl ?_
          refine ww_iconst (v := 2) C dX9_two_59 (by decide) ?_
          refine ww_icmp_eq (tgt := 65) C dX9_two_60 (by decide) E (fun _ E => ?_) (fun _ E => ?_)
          · refine ww_aload_n C dX9_two_65 rfl 1 rfl ?_
            have T_4 : gs S (gr S x0 7) = (0, 0) := hG.1 _ 9 Tx0 7 (by decide)
            refine ww_getr (ci := 9) (k0 := 7) C dX9_two_66 rfl rfl inm9 (by decide) Tx0 q531 rfl T_4 (by decide) ?_
            refine ww_iload_n C dX9_two_69 rfl 4 rfl ?_
            refine ww_iload C dX9_two_70 5 rfl ?_
            refine ww_if_ne (tgt := 79) C dX9_two_72 (by decide) E (fun _ E => ?_) (fun _ E => ?_)
            · refine ww_iload C dX9_two_79 5 rfl ?_
              refine ww_bipush (v := 9) C dX9_two_81 (by decide) ?_
              refine ww_isub C dX9_two_83 ?_
              refine ww_sub (lv' := []) [] rfl ?_
              exact (B_X9_two_84 C HR HL hG) (gr S x0 7) x3 (x4 - (9 : Int32)) u1.2 T_4 E
            · refine ww_iconst (v := 0) C dX9_two_75 (by decide) ?_
              refine ww_goto (tgt := 84) C dX9_two_76 (by decide) ?_
              refine ww_sub (lv' := []) [] rfl ?_
              exact (B_X9_two_84 C HR HL hG) (gr S x0 7) x3 (0 : Int32) u1.2 T_4 E
          · refine ww_iconst (v := (-1)) C dX9_two_63 (by decide) ?_
            exact ww_iret C HR HL dX9_two_64 E
        · refine ww_iconst (v := (-1)) C dX9_two_50 (by decide) ?_
          exact ww_iret C HR HL dX9_two_51 E
end P_X9_two
set_option maxHeartbeats 4000000 in
set_option maxRecDepth 100000 in
theorem M_X9_two (l : Launch) (G : GG) (ad : Nat → Nat) {S : ST} (N : Nat) (hG : Good S) (a0 : Nat) (a1 : Int32) (a2 : Int32) (a3 : Int32) (a4 : Int32) (dy : DY) (T0 : gs S a0 = (0, 9)) {r : Int32} {dy' : DY} (E : F_X9_two S N a0 a1 a2 a3 a4 dy = some (r, dy')) : MC l yX9_two cX9_two 6 (Option.some Jvm.ClassFile.FieldType.int) (42) G ad [.ref (ad a0), .int a1, .int a2, .int a3, .int a4] S dy (fun A => QI G ad A S r dy') := by
  rw [F_X9_two_s] at E
  refine mc_of RX9 (by decide) rfl (Nat.le_of_ble_eq_true rfl) (fun p e s m args below meth c A C HR HL => ?_)
  refine ww_sub (lv' := [(0, .ref (ad a0)), (1, .int a1), (2, .int a2), (3, .int a3), (4, .int a4)]) [0, 1, 2, 3, 4] rfl ?_
  refine ww_iload C dX9_two_0 4 rfl ?_
  refine ww_if_eq (tgt := 19) C dX9_two_2 (by decide) E (fun _ E => ?_) (fun _ E => ?_)
  · refine ww_iconst (v := 1) C dX9_two_19 (by decide) ?_
    refine ww_goto (tgt := 24) C dX9_two_20 (by decide) ?_
    refine ww_sub (lv' := [(0, .ref (ad a0)), (1, .int a1), (2, .int a2), (3, .int a3), (4, .int a4)]) [0, 1, 2, 3, 4] rfl ?_
    exact (B_X9_two_24 C HR HL hG) a0 a1 a2 a3 a4 (1 : Int32) dy T0 E
  · refine ww_iload C dX9_two_5 4 rfl ?_
    refine ww_bipush (v := 10) C dX9_two_7 (by decide) ?_
    refine ww_icmp_lt (tgt := 23) C dX9_two_9 (by decide) E (fun _ E => ?_) (fun _ E => ?_)
    · refine ww_iconst (v := 0) C dX9_two_23 (by decide) ?_
      refine ww_sub (lv' := [(0, .ref (ad a0)), (1, .int a1), (2, .int a2), (3, .int a3), (4, .int a4)]) [0, 1, 2, 3, 4] rfl ?_
      exact (B_X9_two_24 C HR HL hG) a0 a1 a2 a3 a4 (0 : Int32) dy T0 E
    · refine ww_iload C dX9_two_12 4 rfl ?_
      refine ww_bipush (v := 19) C dX9_two_14 (by decide) ?_
      refine ww_icmp_ge (tgt := 23) C dX9_two_16 (by decide) E (fun _ E => ?_) (fun _ E => ?_)
      · refine ww_iconst (v := 0) C dX9_two_23 (by decide) ?_
        refine ww_sub (lv' := [(0, .ref (ad a0)), (1, .int a1), (2, .int a2), (3, .int a3), (4, .int a4)]) [0, 1, 2, 3, 4] rfl ?_
        exact (B_X9_two_24 C HR HL hG) a0 a1 a2 a3 a4 (0 : Int32) dy T0 E
      · refine ww_iconst (v := 1) C dX9_two_19 (by decide) ?_
        refine ww_goto (tgt := 24) C dX9_two_20 (by decide) ?_
        refine ww_sub (lv' := [(0, .ref (ad a0)), (1, .int a1), (2, .int a2), (3, .int a3), (4, .int a4)]) [0, 1, 2, 3, 4] rfl ?_
        exact (B_X9_two_24 C HR HL hG) a0 a1 a2 a3 a4 (1 : Int32) dy T0 E
section P_X9_walker
variable {p : Program} {l : Launch} {e : Env} {s : State} {m : MethodId} {args : Array Value} {below : List Frame} {meth : Method} {c : Code} {G : GG} {A : Nat → Prop} {ad : Nat → Nat} {S : ST} {N : Nat} {r : Int32} {dy' : DY}
end P_X9_walker
set_option maxHeartbeats 4000000 in
set_option maxRecDepth 100000 in
theorem M_X9_walker (l : Launch) (G : GG) (ad : Nat → Nat) {S : ST} (N : Nat) (hG : Good S) (a0 : Nat) (a1 : Int32) (a2 : Int32) (a3 : Int32) (dy : DY) (T0 : gs S a0 = (0, 9)) {r : Int32} {dy' : DY} (E : F_X9_walker S N a0 a1 a2 a3 dy = some (r, dy')) : MC l yX9_walker cX9_walker 5 (Option.some Jvm.ClassFile.FieldType.int) (2) G ad [.ref (ad a0), .int a1, .int a2, .int a3] S dy (fun A => QI G ad A S r dy') := by
  rw [F_X9_walker_s] at E
  refine mc_of RX9 (by decide) rfl (Nat.le_of_ble_eq_true rfl) (fun p e s m args below meth c A C HR HL => ?_)
  refine ww_sub (lv' := [(0, .ref (ad a0)), (1, .int a1), (2, .int a2), (3, .int a3)]) [0, 1, 2, 3] rfl ?_
  refine ww_aload_n C dX9_walker_0 rfl 0 rfl ?_
  have T_1 : gs S (gr S a0 0) = (0, 7) := hG.1 _ 9 T0 0 (by decide)
  refine ww_getr (ci := 9) (k0 := 0) C dX9_walker_1 rfl rfl inm9 (by decide) T0 q524 rfl T_1 (by decide) ?_
  refine ww_iload_n C dX9_walker_4 rfl 1 rfl ?_
  obtain ⟨u2, e_3, E⟩ := bind_of E
  refine ww_callR C (runs_V (n := 1) (st := []) C [.int a1] (M_X7_passageOf l G ad N hG (gr S a0 0) a1 dy T_1 e_3) ⟨q884, q109, by decide⟩ q881 q882 q883 (ci := 7) rfl T_1 rfl (Nat.le_of_ble_eq_true rfl) ⟨Nat.le_of_ble_eq_true rfl, Nat.le_of_ble_eq_true rfl⟩ ⟨Nat.zero_le _, Nat.zero_le _⟩ dX9_walker_5 rfl) ?_
  by_cases z_4 : u2.1 = 0
  · rw [if_pos z_4] at E
    rw [show rV ad u2.1 = .null by rw [z_4]; rfl]
    refine ww_astoreN (lv' := [(4, .null), (0, .ref (ad a0)), (1, .int a1), (2, .int a2), (3, .int a3)]) C dX9_walker_8 (by decide) rfl ?_
    refine ww_aloadN C dX9_walker_10 0 rfl ?_
    refine ww_ifnullT (tgt := 24) C dX9_walker_12 (by decide) ?_
    refine ww_bipush (v := (-2)) C dX9_walker_24 (by decide) ?_
    exact ww_iret C HR HL dX9_walker_26 E
  rw [if_neg z_4] at E
  obtain ⟨T_5, E⟩ := gd_of E
  rw [rV_pos z_4]
  refine ww_astore (lv' := [(4, .ref (ad u2.1)), (0, .ref (ad a0)), (1, .int a1), (2, .int a2), (3, .int a3)]) C dX9_walker_8 (by decide) rfl ?_
  refine ww_aload C dX9_walker_10 0 rfl ?_
  refine ww_ifnullF C dX9_walker_12 ?_
  refine ww_aload C dX9_walker_15 0 rfl ?_
  refine ww_iload_n C dX9_walker_17 rfl 3 rfl ?_
  obtain ⟨u6, e_7, E⟩ := bind_of E
  refine ww_callI C (runs_V (n := 1) (st := []) C [.int a2] (M_X4_has l G ad N hG u2.1 a2 u2.2 T_5 e_7) ⟨q764, q110, by decide⟩ q889 q762 q763 (ci := 4) rfl T_5 rfl (Nat.le_of_ble_eq_true rfl) ⟨Nat.le_of_ble_eq_true rfl, Nat.le_of_ble_eq_true rfl⟩ ⟨Nat.zero_le _, Nat.zero_le _⟩ dX9_walker_18 rfl) ?_
  refine ww_if_ne (tgt := 27) C dX9_walker_21 (by decide) E (fun _ E => ?_) (fun _ E => ?_)
  · refine ww_iload_n C dX9_walker_27 rfl 4 rfl ?_
    by_cases s_8 : a3 = (0 : Int32)
    · rw [if_pos s_8] at E
      refine ww_tabIn (tgt := 76) C dX9_walker_28 s_8 (by decide) (by decide) rfl (by decide) ?_
      refine ww_aload C dX9_walker_76 0 rfl ?_
      have T_9 : gs S (gr S u2.1 5) = (1, 12) := hG.1 _ 4 T_5 5 (by decide)
      refine ww_getr (ci := 4) (k0 := 5) C dX9_walker_78 rfl rfl inm4 (by decide) T_5 q169 rfl T_9 (by decide) ?_
      refine ww_iload_n C dX9_walker_81 rfl 3 rfl ?_
      refine ww_iald C dX9_walker_82 T_9 E (fun _ E => ?_)
      exact ww_iret C HR HL dX9_walker_83 E
    rw [if_neg s_8] at E
    by_cases s_10 : a3 = (1 : Int32)
    · rw [if_pos s_10] at E
      refine ww_tabIn (tgt := 84) C dX9_walker_28 s_10 (by decide) (by decide) rfl (by decide) ?_
      refine ww_aload C dX9_walker_84 0 rfl ?_
      have T_11 : gs S (gr S u2.1 6) = (1, 12) := hG.1 _ 4 T_5 6 (by decide)
      refine ww_getr (ci := 4) (k0 := 6) C dX9_walker_86 rfl rfl inm4 (by decide) T_5 q172 rfl T_11 (by decide) ?_
      refine ww_iload_n C dX9_walker_89 rfl 3 rfl ?_
      refine ww_iald C dX9_walker_90 T_11 E (fun _ E => ?_)
      exact ww_iret C HR HL dX9_walker_91 E
    rw [if_neg s_10] at E
    by_cases s_12 : a3 = (2 : Int32)
    · rw [if_pos s_12] at E
      refine ww_tabIn (tgt := 92) C dX9_walker_28 s_12 (by decide) (by decide) rfl (by decide) ?_
      refine ww_aload C dX9_walker_92 0 rfl ?_
      have T_13 : gs S (gr S u2.1 7) = (1, 12) := hG.1 _ 4 T_5 7 (by decide)
      refine ww_getr (ci := 4) (k0 := 7) C dX9_walker_94 rfl rfl inm4 (by decide) T_5 q175 rfl T_13 (by decide) ?_
      refine ww_iload_n C dX9_walker_97 rfl 3 rfl ?_
      refine ww_iald C dX9_walker_98 T_13 E (fun _ E => ?_)
      refine ww_if_le (tgt := 106) C dX9_walker_99 (by decide) E (fun _ E => ?_) (fun _ E => ?_)
      · refine ww_iconst (v := 0) C dX9_walker_106 (by decide) ?_
        exact ww_iret C HR HL dX9_walker_107 E
      · refine ww_iconst (v := 1) C dX9_walker_102 (by decide) ?_
        refine ww_goto (tgt := 107) C dX9_walker_103 (by decide) ?_
        exact ww_iret C HR HL dX9_walker_107 E
    rw [if_neg s_12] at E
    by_cases s_14 : a3 = (3 : Int32)
    · rw [if_pos s_14] at E
      refine ww_tabIn (tgt := 108) C dX9_walker_28 s_14 (by decide) (by decide) rfl (by decide) ?_
      refine ww_aload C dX9_walker_108 0 rfl ?_
      have T_15 : gs S (gr S u2.1 8) = (1, 12) := hG.1 _ 4 T_5 8 (by decide)
      refine ww_getr (ci := 4) (k0 := 8) C dX9_walker_110 rfl rfl inm4 (by decide) T_5 q179 rfl T_15 (by decide) ?_
      refine ww_iload_n C dX9_walker_113 rfl 3 rfl ?_
      refine ww_iald C dX9_walker_114 T_15 E (fun _ E => ?_)
      exact ww_iret C HR HL dX9_walker_115 E
    rw [if_neg s_14] at E
    by_cases s_16 : a3 = (4 : Int32)
    · rw [if_pos s_16] at E
      refine ww_tabIn (tgt := 116) C dX9_walker_28 s_16 (by decide) (by decide) rfl (by decide) ?_
      refine ww_aload C dX9_walker_116 0 rfl ?_
      have T_17 : gs S (gr S u2.1 9) = (1, 12) := hG.1 _ 4 T_5 9 (by decide)
      refine ww_getr (ci := 4) (k0 := 9) C dX9_walker_118 rfl rfl inm4 (by decide) T_5 q184 rfl T_17 (by decide) ?_
      refine ww_iload_n C dX9_walker_121 rfl 3 rfl ?_
      refine ww_iald C dX9_walker_122 T_17 E (fun _ E => ?_)
      exact ww_iret C HR HL dX9_walker_123 E
    rw [if_neg s_16] at E
    by_cases s_18 : a3 = (5 : Int32)
    · rw [if_pos s_18] at E
      refine ww_tabIn (tgt := 124) C dX9_walker_28 s_18 (by decide) (by decide) rfl (by decide) ?_
      refine ww_aload C dX9_walker_124 0 rfl ?_
      have T_19 : gs S (gr S u2.1 10) = (1, 12) := hG.1 _ 4 T_5 10 (by decide)
      refine ww_getr (ci := 4) (k0 := 10) C dX9_walker_126 rfl rfl inm4 (by decide) T_5 q188 rfl T_19 (by decide) ?_
      refine ww_iload_n C dX9_walker_129 rfl 3 rfl ?_
      refine ww_iald C dX9_walker_130 T_19 E (fun _ E => ?_)
      exact ww_iret C HR HL dX9_walker_131 E
    rw [if_neg s_18] at E
    by_cases s_20 : a3 = (6 : Int32)
    · rw [if_pos s_20] at E
      refine ww_tabIn (tgt := 132) C dX9_walker_28 s_20 (by decide) (by decide) rfl (by decide) ?_
      refine ww_aload C dX9_walker_132 0 rfl ?_
      have T_21 : gs S (gr S u2.1 11) = (1, 12) := hG.1 _ 4 T_5 11 (by decide)
      refine ww_getr (ci := 4) (k0 := 11) C dX9_walker_134 rfl rfl inm4 (by decide) T_5 q191 rfl T_21 (by decide) ?_
      refine ww_iload_n C dX9_walker_137 rfl 3 rfl ?_
      refine ww_iald C dX9_walker_138 T_21 E (fun _ E => ?_)
      exact ww_iret C HR HL dX9_walker_139 E
    rw [if_neg s_20] at E
    by_cases s_22 : a3 = (7 : Int32)
    · rw [if_pos s_22] at E
      refine ww_tabIn (tgt := 140) C dX9_walker_28 s_22 (by decide) (by decide) rfl (by decide) ?_
      refine ww_aload C dX9_walker_140 0 rfl ?_
      have T_23 : gs S (gr S u2.1 12) = (1, 12) := hG.1 _ 4 T_5 12 (by decide)
      refine ww_getr (ci := 4) (k0 := 12) C dX9_walker_142 rfl rfl inm4 (by decide) T_5 q194 rfl T_23 (by decide) ?_
      refine ww_iload_n C dX9_walker_145 rfl 3 rfl ?_
      refine ww_iald C dX9_walker_146 T_23 E (fun _ E => ?_)
      exact ww_iret C HR HL dX9_walker_147 E
    rw [if_neg s_22] at E
    refine ww_tabOut (tgt := 148) C dX9_walker_28 (tab_out (fun v h1 h2 => ?_)) (by decide) ?_
    · rcases (show v = 0 ∨ v = 1 ∨ v = 2 ∨ v = 3 ∨ v = 4 ∨ v = 5 ∨ v = 6 ∨ v = 7 by omega) with rfl | rfl | rfl | rfl | rfl | rfl | rfl | rfl
      · exact ti_ne s_8 (by decide)
      · exact ti_ne s_10 (by decide)
      · exact ti_ne s_12 (by decide)
      · exact ti_ne s_14 (by decide)
      · exact ti_ne s_16 (by decide)
      · exact ti_ne s_18 (by decide)
      · exact ti_ne s_20 (by decide)
      · exact ti_ne s_22 (by decide)
    refine ww_bipush (v := (-2)) C dX9_walker_148 (by decide) ?_
    exact ww_iret C HR HL dX9_walker_150 E
  · refine ww_bipush (v := (-2)) C dX9_walker_24 (by decide) ?_
    exact ww_iret C HR HL dX9_walker_26 E
section P_X9_worth
variable {p : Program} {l : Launch} {e : Env} {s : State} {m : MethodId} {args : Array Value} {below : List Frame} {meth : Method} {c : Code} {G : GG} {A : Nat → Prop} {ad : Nat → Nat} {S : ST} {N : Nat} {r : Int32} {dy' : DY}
end P_X9_worth
set_option maxHeartbeats 4000000 in
set_option maxRecDepth 100000 in
theorem M_X9_worth (l : Launch) (G : GG) (ad : Nat → Nat) {S : ST} (N : Nat) (hG : Good S) (a0 : Nat) (a1 : Int32) (a2 : Int32) (dy : DY) (T0 : gs S a0 = (0, 9)) {r : Int32} {dy' : DY} (E : F_X9_worth S N a0 a1 a2 dy = some (r, dy')) : MC l yX9_worth cX9_worth 3 (Option.some Jvm.ClassFile.FieldType.int) (4) G ad [.ref (ad a0), .int a1, .int a2] S dy (fun A => QI G ad A S r dy') := by
  rw [F_X9_worth_s] at E
  refine mc_of RX9 (by decide) rfl (Nat.le_of_ble_eq_true rfl) (fun p e s m args below meth c A C HR HL => ?_)
  refine ww_sub (lv' := [(0, .ref (ad a0)), (1, .int a1), (2, .int a2)]) [0, 1, 2] rfl ?_
  refine ww_iload_n C dX9_worth_0 rfl 1 rfl ?_
  refine ww_bipush (v := 7) C dX9_worth_1 (by decide) ?_
  obtain ⟨u1, e_2, E⟩ := bind_of E
  refine ww_callI C (runs_S (n := 2) (st := []) C [.int a1, .int (7 : Int32)] (M_X9_isFrame l G ad N hG a1 (7 : Int32) dy e_2) ⟨q1190, q108, by decide⟩ q1188 q1189 rfl (Nat.le_of_ble_eq_true rfl) ⟨Nat.le_of_ble_eq_true rfl, Nat.le_of_ble_eq_true rfl⟩ ⟨Nat.zero_le _, Nat.zero_le _⟩ dX9_worth_3 rfl) ?_
  refine ww_if_eq (tgt := 16) C dX9_worth_6 (by decide) E (fun _ E => ?_) (fun _ E => ?_)
  · refine ww_iconst (v := (-1)) C dX9_worth_16 (by decide) ?_
    exact ww_iret C HR HL dX9_worth_17 E
  · refine ww_iload_n C dX9_worth_9 rfl 2 rfl ?_
    obtain ⟨u3, e_4, E⟩ := bind_of E
    refine ww_callI C (runs_S (n := 1) (st := []) C [.int a2] (M_X9_isPrice l G ad N hG a2 u1.2 e_4) ⟨q1205, q108, by decide⟩ q1203 q1204 rfl (Nat.le_of_ble_eq_true rfl) ⟨Nat.le_of_ble_eq_true rfl, Nat.le_of_ble_eq_true rfl⟩ ⟨Nat.zero_le _, Nat.zero_le _⟩ dX9_worth_10 rfl) ?_
    refine ww_if_ne (tgt := 18) C dX9_worth_13 (by decide) E (fun _ E => ?_) (fun _ E => ?_)
    · refine ww_aload_n C dX9_worth_18 rfl 0 rfl ?_
      have T_5 : gs S (gr S a0 0) = (0, 7) := hG.1 _ 9 T0 0 (by decide)
      refine ww_getr (ci := 9) (k0 := 0) C dX9_worth_19 rfl rfl inm9 (by decide) T0 q524 rfl T_5 (by decide) ?_
      have T_6 : gs S (gr S (gr S a0 0) 12) = (0, 1) := hG.1 _ 7 T_5 12 (by decide)
      refine ww_getr (ci := 7) (k0 := 12) C dX9_worth_22 rfl rfl inm7 (by decide) T_5 q390 rfl T_6 (by decide) ?_
      refine ww_iload_n C dX9_worth_25 rfl 1 rfl ?_
      refine ww_iload_n C dX9_worth_26 rfl 2 rfl ?_
      obtain ⟨u7, e_8, E⟩ := bind_of E
      refine ww_callI C (runs_V (n := 2) (st := []) C [.int a1, .int a2] (M_X1_pair l G ad N hG (gr S (gr S a0 0) 12) a1 a2 u3.2 T_6 e_8) ⟨q1210, q113, by decide⟩ q1207 q1208 q1209 (ci := 1) rfl T_6 rfl (Nat.le_of_ble_eq_true rfl) ⟨Nat.le_of_ble_eq_true rfl, Nat.le_of_ble_eq_true rfl⟩ ⟨Nat.zero_le _, Nat.zero_le _⟩ dX9_worth_27 rfl) ?_
      exact ww_iret C HR HL dX9_worth_30 E
    · refine ww_iconst (v := (-1)) C dX9_worth_16 (by decide) ?_
      exact ww_iret C HR HL dX9_worth_17 E
