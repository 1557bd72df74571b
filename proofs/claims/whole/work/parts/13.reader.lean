noncomputable def F_X6_breakOff (S : ST) (N : Nat) (a0 : Nat) (dy : DY) : Option DY := (if (gi dy a0 6) = (1 : Int32) then some dy else bd (si dy a0 6 (1 : Int32)) fun dy1 => bd (si dy1 a0 7 (gi dy1 a0 3)) fun dy2 => some dy2)
theorem F_X6_breakOff_s (S : ST) (N : Nat) (a0 : Nat) (dy : DY) : F_X6_breakOff S N a0 dy = (if (gi dy a0 6) = (1 : Int32) then some dy else bd (si dy a0 6 (1 : Int32)) fun dy1 => bd (si dy1 a0 7 (gi dy1 a0 3)) fun dy2 => some dy2) := rfl
noncomputable def F_X6_isWord_36 (S : ST) (N : Nat) : Nat → Nat → Nat → Int32 → DY → Option (Int32 × DY) := fun k => Nat.rec (motive := fun _ => Nat → Nat → Int32 → DY → Option (Int32 × DY)) (fun _ _ _ _ => none) (fun _ ih x0 x1 x2 dy => (if (slenI x1) ≤ x2 then some ((1 : Int32), dy) else (if (gi dy x0 1) ≤ ((gi dy x0 3) + x2) then some ((1 : Int32), dy) else if ib ((gi dy x0 3) + x2) 500 then if ib x2 (sLen.getD x1 0) then (if (nr 2 (gi dy (gr S x0 0) ((gi dy x0 3) + x2).toNatClampNeg)) = (schI x1 x2) then ih x0 x1 (x2 + (1 : Int32)) dy else some ((0 : Int32), dy)) else none else none))) k
theorem F_X6_isWord_36_s (S : ST) (N : Nat) (k : Nat) (x0 : Nat) (x1 : Nat) (x2 : Int32) (dy : DY) : F_X6_isWord_36 S N (k + 1) x0 x1 x2 dy = (if (slenI x1) ≤ x2 then some ((1 : Int32), dy) else (if (gi dy x0 1) ≤ ((gi dy x0 3) + x2) then some ((1 : Int32), dy) else if ib ((gi dy x0 3) + x2) 500 then if ib x2 (sLen.getD x1 0) then (if (nr 2 (gi dy (gr S x0 0) ((gi dy x0 3) + x2).toNatClampNeg)) = (schI x1 x2) then (F_X6_isWord_36 S N k) x0 x1 (x2 + (1 : Int32)) dy else some ((0 : Int32), dy)) else none else none)) := rfl
noncomputable def F_X6_isWord (S : ST) (N : Nat) (a0 : Nat) (a1 : Nat) (dy : DY) : Option (Int32 × DY) := (if (gi dy a0 6) = (1 : Int32) then some ((0 : Int32), dy) else (if (gi dy a0 2) = (1 : Int32) then (if ((gi dy a0 4) - (gi dy a0 3)) = (slenI a1) then (F_X6_isWord_36 S N N) a0 a1 (0 : Int32) dy else some ((0 : Int32), dy)) else some ((0 : Int32), dy)))
theorem F_X6_isWord_s (S : ST) (N : Nat) (a0 : Nat) (a1 : Nat) (dy : DY) : F_X6_isWord S N a0 a1 dy = (if (gi dy a0 6) = (1 : Int32) then some ((0 : Int32), dy) else (if (gi dy a0 2) = (1 : Int32) then (if ((gi dy a0 4) - (gi dy a0 3)) = (slenI a1) then (F_X6_isWord_36 S N N) a0 a1 (0 : Int32) dy else some ((0 : Int32), dy)) else some ((0 : Int32), dy))) := rfl
noncomputable def F_X6_isDigit (S : ST) (N : Nat) (a0 : Int32) (dy : DY) : Option (Int32 × DY) := (if a0 < (48 : Int32) then some ((0 : Int32), dy) else (if (57 : Int32) < a0 then some ((0 : Int32), dy) else some ((1 : Int32), dy)))
theorem F_X6_isDigit_s (S : ST) (N : Nat) (a0 : Int32) (dy : DY) : F_X6_isDigit S N a0 dy = (if a0 < (48 : Int32) then some ((0 : Int32), dy) else (if (57 : Int32) < a0 then some ((0 : Int32), dy) else some ((1 : Int32), dy))) := rfl
noncomputable def F_X6_isLetter (S : ST) (N : Nat) (a0 : Int32) (dy : DY) : Option (Int32 × DY) := (if a0 < (97 : Int32) then some ((0 : Int32), dy) else (if (122 : Int32) < a0 then some ((0 : Int32), dy) else some ((1 : Int32), dy)))
theorem F_X6_isLetter_s (S : ST) (N : Nat) (a0 : Int32) (dy : DY) : F_X6_isLetter S N a0 dy = (if a0 < (97 : Int32) then some ((0 : Int32), dy) else (if (122 : Int32) < a0 then some ((0 : Int32), dy) else some ((1 : Int32), dy))) := rfl
noncomputable def F_X6_step_39 (S : ST) (N : Nat) (K0 : Nat → DY → Option DY) (x0 : Nat) (dy : DY) : Option DY := bd (si dy x0 4 ((gi dy x0 4) + (1 : Int32))) fun dy1 => K0 x0 dy1
theorem F_X6_step_39_s (S : ST) (N : Nat) (K0 : Nat → DY → Option DY) (x0 : Nat) (dy : DY) : F_X6_step_39 S N K0 x0 dy = (bd (si dy x0 4 ((gi dy x0 4) + (1 : Int32))) fun dy1 => K0 x0 dy1) := rfl
noncomputable def F_X6_step_104 (S : ST) (N : Nat) : Nat → Nat → DY → Option DY := fun k => Nat.rec (motive := fun _ => Nat → DY → Option DY) (fun _ _ => none) (fun _ ih x0 dy => (if (gi dy x0 1) ≤ (gi dy x0 4) then some dy else if ib (gi dy x0 4) 500 then (F_X6_isLetter S N (nr 2 (gi dy (gr S x0 0) (gi dy x0 4).toNatClampNeg)) dy).bind fun u2 => (if u2.1 = 0 then some u2.2 else bd (si u2.2 x0 4 ((gi u2.2 x0 4) + (1 : Int32))) fun dy4 => ih x0 dy4) else none)) k
theorem F_X6_step_104_s (S : ST) (N : Nat) (k : Nat) (x0 : Nat) (dy : DY) : F_X6_step_104 S N (k + 1) x0 dy = (if (gi dy x0 1) ≤ (gi dy x0 4) then some dy else if ib (gi dy x0 4) 500 then (F_X6_isLetter S N (nr 2 (gi dy (gr S x0 0) (gi dy x0 4).toNatClampNeg)) dy).bind fun u2 => (if u2.1 = 0 then some u2.2 else bd (si u2.2 x0 4 ((gi u2.2 x0 4) + (1 : Int32))) fun dy4 => (F_X6_step_104 S N k) x0 dy4) else none) := rfl
noncomputable def F_X6_step_246 (S : ST) (N : Nat) (y0 : Nat) (y1 : Int32) (dy : DY) : Option DY := bd (si dy y0 2 y1) fun dy1 => some dy1
theorem F_X6_step_246_s (S : ST) (N : Nat) (y0 : Nat) (y1 : Int32) (dy : DY) : F_X6_step_246 S N y0 y1 dy = (bd (si dy y0 2 y1) fun dy1 => some dy1) := rfl
noncomputable def F_X6_step_227 (S : ST) (N : Nat) (x0 : Nat) (dy : DY) : Option DY := (if (3 : Int32) < ((gi dy x0 4) - (gi dy x0 3)) then (F_X6_step_246 S N) x0 (4 : Int32) dy else (F_X6_step_246 S N) x0 (2 : Int32) dy)
theorem F_X6_step_227_s (S : ST) (N : Nat) (x0 : Nat) (dy : DY) : F_X6_step_227 S N x0 dy = (if (3 : Int32) < ((gi dy x0 4) - (gi dy x0 3)) then (F_X6_step_246 S N) x0 (4 : Int32) dy else (F_X6_step_246 S N) x0 (2 : Int32) dy) := rfl
noncomputable def F_X6_step_158 (S : ST) (N : Nat) : Nat → Nat → DY → Option DY := fun k => Nat.rec (motive := fun _ => Nat → DY → Option DY) (fun _ _ => none) (fun _ ih x0 dy => (if (gi dy x0 1) ≤ (gi dy x0 4) then (F_X6_step_227 S N) x0 dy else if ib (gi dy x0 4) 500 then (F_X6_isDigit S N (nr 2 (gi dy (gr S x0 0) (gi dy x0 4).toNatClampNeg)) dy).bind fun u2 => (if u2.1 = 0 then (F_X6_step_227 S N) x0 u2.2 else if ib (gi u2.2 x0 4) 500 then bd (si u2.2 x0 5 (if (1000 : Int32) < ((((gi u2.2 x0 5) * (10 : Int32)) + (nr 2 (gi u2.2 (gr S x0 0) (gi u2.2 x0 4).toNatClampNeg))) - (48 : Int32)) then (1000 : Int32) else ((((gi u2.2 x0 5) * (10 : Int32)) + (nr 2 (gi u2.2 (gr S x0 0) (gi u2.2 x0 4).toNatClampNeg))) - (48 : Int32)))) fun dy5 => bd (si dy5 x0 4 ((gi dy5 x0 4) + (1 : Int32))) fun dy6 => ih x0 dy6 else none) else none)) k
theorem F_X6_step_158_s (S : ST) (N : Nat) (k : Nat) (x0 : Nat) (dy : DY) : F_X6_step_158 S N (k + 1) x0 dy = (if (gi dy x0 1) ≤ (gi dy x0 4) then (F_X6_step_227 S N) x0 dy else if ib (gi dy x0 4) 500 then (F_X6_isDigit S N (nr 2 (gi dy (gr S x0 0) (gi dy x0 4).toNatClampNeg)) dy).bind fun u2 => (if u2.1 = 0 then (F_X6_step_227 S N) x0 u2.2 else if ib (gi u2.2 x0 4) 500 then bd (si u2.2 x0 5 (if (1000 : Int32) < ((((gi u2.2 x0 5) * (10 : Int32)) + (nr 2 (gi u2.2 (gr S x0 0) (gi u2.2 x0 4).toNatClampNeg))) - (48 : Int32)) then (1000 : Int32) else ((((gi u2.2 x0 5) * (10 : Int32)) + (nr 2 (gi u2.2 (gr S x0 0) (gi u2.2 x0 4).toNatClampNeg))) - (48 : Int32)))) fun dy5 => bd (si dy5 x0 4 ((gi dy5 x0 4) + (1 : Int32))) fun dy6 => (F_X6_step_158 S N k) x0 dy6 else none) else none) := rfl
noncomputable def F_X6_step_298 (S : ST) (N : Nat) (x0 : Nat) (y0 : Nat) (y1 : Int32) (dy : DY) : Option DY := bd (si dy y0 2 y1) fun dy1 => bd (si dy1 x0 4 ((gi dy1 x0 4) + (1 : Int32))) fun dy2 => some dy2
theorem F_X6_step_298_s (S : ST) (N : Nat) (x0 : Nat) (y0 : Nat) (y1 : Int32) (dy : DY) : F_X6_step_298 S N x0 y0 y1 dy = (bd (si dy y0 2 y1) fun dy1 => bd (si dy1 x0 4 ((gi dy1 x0 4) + (1 : Int32))) fun dy2 => some dy2) := rfl
noncomputable def F_X6_step_52 (S : ST) (N : Nat) (x0 : Nat) (dy : DY) : Option DY := bd (si dy x0 3 (gi dy x0 4)) fun dy1 => bd (si dy1 x0 5 (0 : Int32)) fun dy2 => (if (gi dy2 x0 3) < (gi dy2 x0 1) then if ib (gi dy2 x0 3) 500 then (F_X6_isLetter S N (nr 2 (gi dy2 (gr S x0 0) (gi dy2 x0 3).toNatClampNeg)) dy2).bind fun u4 => (if u4.1 = 0 then if ib (gi u4.2 x0 3) 500 then (F_X6_isDigit S N (nr 2 (gi u4.2 (gr S x0 0) (gi u4.2 x0 3).toNatClampNeg)) u4.2).bind fun u7 => (if u7.1 = 0 then if ib (gi u7.2 x0 3) 500 then (if (nr 2 (gi u7.2 (gr S x0 0) (gi u7.2 x0 3).toNatClampNeg)) = (58 : Int32) then (F_X6_step_298 S N) x0 x0 (3 : Int32) u7.2 else (if (nr 2 (gi u7.2 (gr S x0 0) (gi u7.2 x0 3).toNatClampNeg)) = (59 : Int32) then (F_X6_step_298 S N) x0 x0 (3 : Int32) u7.2 else (if (nr 2 (gi u7.2 (gr S x0 0) (gi u7.2 x0 3).toNatClampNeg)) = (60 : Int32) then (F_X6_step_298 S N) x0 x0 (3 : Int32) u7.2 else (if (nr 2 (gi u7.2 (gr S x0 0) (gi u7.2 x0 3).toNatClampNeg)) = (62 : Int32) then (F_X6_step_298 S N) x0 x0 (3 : Int32) u7.2 else (if (nr 2 (gi u7.2 (gr S x0 0) (gi u7.2 x0 3).toNatClampNeg)) = (61 : Int32) then (F_X6_step_298 S N) x0 x0 (3 : Int32) u7.2 else (F_X6_step_298 S N) x0 x0 (4 : Int32) u7.2))))) else none else (F_X6_step_158 S N N) x0 u7.2) else none else bd (si u4.2 x0 2 (1 : Int32)) fun dy10 => (F_X6_step_104 S N N) x0 dy10) else none else bd (si dy2 x0 2 (0 : Int32)) fun dy11 => some dy11)
theorem F_X6_step_52_s (S : ST) (N : Nat) (x0 : Nat) (dy : DY) : F_X6_step_52 S N x0 dy = (bd (si dy x0 3 (gi dy x0 4)) fun dy1 => bd (si dy1 x0 5 (0 : Int32)) fun dy2 => (if (gi dy2 x0 3) < (gi dy2 x0 1) then if ib (gi dy2 x0 3) 500 then (F_X6_isLetter S N (nr 2 (gi dy2 (gr S x0 0) (gi dy2 x0 3).toNatClampNeg)) dy2).bind fun u4 => (if u4.1 = 0 then if ib (gi u4.2 x0 3) 500 then (F_X6_isDigit S N (nr 2 (gi u4.2 (gr S x0 0) (gi u4.2 x0 3).toNatClampNeg)) u4.2).bind fun u7 => (if u7.1 = 0 then if ib (gi u7.2 x0 3) 500 then (if (nr 2 (gi u7.2 (gr S x0 0) (gi u7.2 x0 3).toNatClampNeg)) = (58 : Int32) then (F_X6_step_298 S N) x0 x0 (3 : Int32) u7.2 else (if (nr 2 (gi u7.2 (gr S x0 0) (gi u7.2 x0 3).toNatClampNeg)) = (59 : Int32) then (F_X6_step_298 S N) x0 x0 (3 : Int32) u7.2 else (if (nr 2 (gi u7.2 (gr S x0 0) (gi u7.2 x0 3).toNatClampNeg)) = (60 : Int32) then (F_X6_step_298 S N) x0 x0 (3 : Int32) u7.2 else (if (nr 2 (gi u7.2 (gr S x0 0) (gi u7.2 x0 3).toNatClampNeg)) = (62 : Int32) then (F_X6_step_298 S N) x0 x0 (3 : Int32) u7.2 else (if (nr 2 (gi u7.2 (gr S x0 0) (gi u7.2 x0 3).toNatClampNeg)) = (61 : Int32) then (F_X6_step_298 S N) x0 x0 (3 : Int32) u7.2 else (F_X6_step_298 S N) x0 x0 (4 : Int32) u7.2))))) else none else (F_X6_step_158 S N N) x0 u7.2) else none else bd (si u4.2 x0 2 (1 : Int32)) fun dy10 => (F_X6_step_104 S N N) x0 dy10) else none else bd (si dy2 x0 2 (0 : Int32)) fun dy11 => some dy11)) := rfl
noncomputable def F_X6_step_0 (S : ST) (N : Nat) : Nat → Nat → DY → Option DY := fun k => Nat.rec (motive := fun _ => Nat → DY → Option DY) (fun _ _ => none) (fun _ ih x0 dy => (if (gi dy x0 1) ≤ (gi dy x0 4) then (F_X6_step_52 S N) x0 dy else if ib (gi dy x0 4) 500 then (if (nr 2 (gi dy (gr S x0 0) (gi dy x0 4).toNatClampNeg)) = (32 : Int32) then (F_X6_step_39 S N ih) x0 dy else if ib (gi dy x0 4) 500 then (if (nr 2 (gi dy (gr S x0 0) (gi dy x0 4).toNatClampNeg)) = (10 : Int32) then (F_X6_step_39 S N ih) x0 dy else (F_X6_step_52 S N) x0 dy) else none) else none)) k
theorem F_X6_step_0_s (S : ST) (N : Nat) (k : Nat) (x0 : Nat) (dy : DY) : F_X6_step_0 S N (k + 1) x0 dy = (if (gi dy x0 1) ≤ (gi dy x0 4) then (F_X6_step_52 S N) x0 dy else if ib (gi dy x0 4) 500 then (if (nr 2 (gi dy (gr S x0 0) (gi dy x0 4).toNatClampNeg)) = (32 : Int32) then (F_X6_step_39 S N (F_X6_step_0 S N k)) x0 dy else if ib (gi dy x0 4) 500 then (if (nr 2 (gi dy (gr S x0 0) (gi dy x0 4).toNatClampNeg)) = (10 : Int32) then (F_X6_step_39 S N (F_X6_step_0 S N k)) x0 dy else (F_X6_step_52 S N) x0 dy) else none) else none) := rfl
noncomputable def F_X6_step (S : ST) (N : Nat) (a0 : Nat) (dy : DY) : Option DY := (F_X6_step_0 S N N) a0 dy
theorem F_X6_step_s (S : ST) (N : Nat) (a0 : Nat) (dy : DY) : F_X6_step S N a0 dy = ((F_X6_step_0 S N N) a0 dy) := rfl
noncomputable def F_X6_takesWord (S : ST) (N : Nat) (a0 : Nat) (a1 : Nat) (dy : DY) : Option (Int32 × DY) := (F_X6_isWord S N a0 a1 dy).bind fun u1 => (if u1.1 = 0 then if zb u1.1 then some (u1.1, u1.2) else none else (F_X6_step S N a0 u1.2).bind fun u3 => if zb u1.1 then some (u1.1, u3) else none)
theorem F_X6_takesWord_s (S : ST) (N : Nat) (a0 : Nat) (a1 : Nat) (dy : DY) : F_X6_takesWord S N a0 a1 dy = ((F_X6_isWord S N a0 a1 dy).bind fun u1 => (if u1.1 = 0 then if zb u1.1 then some (u1.1, u1.2) else none else (F_X6_step S N a0 u1.2).bind fun u3 => if zb u1.1 then some (u1.1, u3) else none)) := rfl
noncomputable def F_X6_isSign (S : ST) (N : Nat) (a0 : Nat) (a1 : Int32) (dy : DY) : Option (Int32 × DY) := (if (gi dy a0 6) = (1 : Int32) then some ((0 : Int32), dy) else (if (gi dy a0 2) = (3 : Int32) then (if (gi dy a0 1) ≤ (gi dy a0 3) then some ((0 : Int32), dy) else if ib (gi dy a0 3) 500 then (if (nr 2 (gi dy (gr S a0 0) (gi dy a0 3).toNatClampNeg)) = a1 then some ((1 : Int32), dy) else some ((0 : Int32), dy)) else none) else some ((0 : Int32), dy)))
theorem F_X6_isSign_s (S : ST) (N : Nat) (a0 : Nat) (a1 : Int32) (dy : DY) : F_X6_isSign S N a0 a1 dy = (if (gi dy a0 6) = (1 : Int32) then some ((0 : Int32), dy) else (if (gi dy a0 2) = (3 : Int32) then (if (gi dy a0 1) ≤ (gi dy a0 3) then some ((0 : Int32), dy) else if ib (gi dy a0 3) 500 then (if (nr 2 (gi dy (gr S a0 0) (gi dy a0 3).toNatClampNeg)) = a1 then some ((1 : Int32), dy) else some ((0 : Int32), dy)) else none) else some ((0 : Int32), dy))) := rfl
noncomputable def F_X6_needSign (S : ST) (N : Nat) (a0 : Nat) (a1 : Int32) (dy : DY) : Option DY := (F_X6_isSign S N a0 a1 dy).bind fun u1 => (if u1.1 = 0 then (F_X6_breakOff S N a0 u1.2).bind fun u3 => some u3 else (F_X6_step S N a0 u1.2).bind fun u5 => some u5)
theorem F_X6_needSign_s (S : ST) (N : Nat) (a0 : Nat) (a1 : Int32) (dy : DY) : F_X6_needSign S N a0 a1 dy = ((F_X6_isSign S N a0 a1 dy).bind fun u1 => (if u1.1 = 0 then (F_X6_breakOff S N a0 u1.2).bind fun u3 => some u3 else (F_X6_step S N a0 u1.2).bind fun u5 => some u5)) := rfl
noncomputable def F_X6_isSound (S : ST) (N : Nat) (a0 : Nat) (dy : DY) : Option (Int32 × DY) := (if (gi dy a0 6) = 0 then some ((1 : Int32), dy) else some ((0 : Int32), dy))
theorem F_X6_isSound_s (S : ST) (N : Nat) (a0 : Nat) (dy : DY) : F_X6_isSound S N a0 dy = (if (gi dy a0 6) = 0 then some ((1 : Int32), dy) else some ((0 : Int32), dy)) := rfl
noncomputable def F_X6_needNumber_16 (S : ST) (N : Nat) (x0 : Nat) (dy : DY) : Option (Int32 × DY) := (F_X6_breakOff S N x0 dy).bind fun u1 => some ((0 : Int32), u1)
theorem F_X6_needNumber_16_s (S : ST) (N : Nat) (x0 : Nat) (dy : DY) : F_X6_needNumber_16 S N x0 dy = ((F_X6_breakOff S N x0 dy).bind fun u1 => some ((0 : Int32), u1)) := rfl
noncomputable def F_X6_needNumber (S : ST) (N : Nat) (a0 : Nat) (dy : DY) : Option (Int32 × DY) := (if (gi dy a0 6) = (1 : Int32) then (F_X6_needNumber_16 S N) a0 dy else (if (gi dy a0 2) = (2 : Int32) then (F_X6_step S N a0 dy).bind fun u1 => some ((gi dy a0 5), u1) else (F_X6_needNumber_16 S N) a0 dy))
theorem F_X6_needNumber_s (S : ST) (N : Nat) (a0 : Nat) (dy : DY) : F_X6_needNumber S N a0 dy = (if (gi dy a0 6) = (1 : Int32) then (F_X6_needNumber_16 S N) a0 dy else (if (gi dy a0 2) = (2 : Int32) then (F_X6_step S N a0 dy).bind fun u1 => some ((gi dy a0 5), u1) else (F_X6_needNumber_16 S N) a0 dy)) := rfl
noncomputable def F_X6_note (S : ST) (N : Nat) (a0 : Nat) (a1 : Int32) (a2 : Int32) (dy : DY) : Option DY := (if (gi dy a0 6) = 0 then bd (si dy a0 6 a1) fun dy1 => bd (si dy1 a0 7 a2) fun dy2 => some dy2 else some dy)
theorem F_X6_note_s (S : ST) (N : Nat) (a0 : Nat) (a1 : Int32) (a2 : Int32) (dy : DY) : F_X6_note S N a0 a1 a2 dy = (if (gi dy a0 6) = 0 then bd (si dy a0 6 a1) fun dy1 => bd (si dy1 a0 7 a2) fun dy2 => some dy2 else some dy) := rfl
noncomputable def F_X6_goesOn (S : ST) (N : Nat) (a0 : Nat) (dy : DY) : Option (Int32 × DY) := (if (gi dy a0 6) = (1 : Int32) then some ((0 : Int32), dy) else (if (gi dy a0 2) = 0 then some ((0 : Int32), dy) else some ((1 : Int32), dy)))
theorem F_X6_goesOn_s (S : ST) (N : Nat) (a0 : Nat) (dy : DY) : F_X6_goesOn S N a0 dy = (if (gi dy a0 6) = (1 : Int32) then some ((0 : Int32), dy) else (if (gi dy a0 2) = 0 then some ((0 : Int32), dy) else some ((1 : Int32), dy))) := rfl
noncomputable def F_X6_open (S : ST) (N : Nat) (a0 : Nat) (a1 : Int32) (dy : DY) : Option DY := bd (si dy a0 1 (if (0 : Int32) < (if (500 : Int32) < a1 then (500 : Int32) else a1) then (if (500 : Int32) < a1 then (500 : Int32) else a1) else (0 : Int32))) fun dy2 => bd (si dy2 a0 4 (0 : Int32)) fun dy3 => bd (si dy3 a0 6 (0 : Int32)) fun dy4 => bd (si dy4 a0 7 (-1 : Int32)) fun dy5 => (F_X6_step S N a0 dy5).bind fun u6 => some u6
theorem F_X6_open_s (S : ST) (N : Nat) (a0 : Nat) (a1 : Int32) (dy : DY) : F_X6_open S N a0 a1 dy = (bd (si dy a0 1 (if (0 : Int32) < (if (500 : Int32) < a1 then (500 : Int32) else a1) then (if (500 : Int32) < a1 then (500 : Int32) else a1) else (0 : Int32))) fun dy2 => bd (si dy2 a0 4 (0 : Int32)) fun dy3 => bd (si dy3 a0 6 (0 : Int32)) fun dy4 => bd (si dy4 a0 7 (-1 : Int32)) fun dy5 => (F_X6_step S N a0 dy5).bind fun u6 => some u6) := rfl
noncomputable def F_X6_needNumber__23 (S : ST) (N : Nat) (x0 : Nat) (x3 : Int32) (x4 : Int32) (dy : DY) : Option (Int32 × DY) := (F_X6_note S N x0 (2 : Int32) x3 dy).bind fun u1 => some (x4, u1)
theorem F_X6_needNumber__23_s (S : ST) (N : Nat) (x0 : Nat) (x3 : Int32) (x4 : Int32) (dy : DY) : F_X6_needNumber__23 S N x0 x3 x4 dy = ((F_X6_note S N x0 (2 : Int32) x3 dy).bind fun u1 => some (x4, u1)) := rfl
noncomputable def F_X6_needNumber_ (S : ST) (N : Nat) (a0 : Nat) (a1 : Int32) (a2 : Int32) (dy : DY) : Option (Int32 × DY) := (F_X6_needNumber S N a0 dy).bind fun u1 => (if u1.1 < a1 then (F_X6_needNumber__23 S N) a0 (gi dy a0 3) u1.1 u1.2 else (if u1.1 ≤ a2 then some (u1.1, u1.2) else (F_X6_needNumber__23 S N) a0 (gi dy a0 3) u1.1 u1.2))
theorem F_X6_needNumber__s (S : ST) (N : Nat) (a0 : Nat) (a1 : Int32) (a2 : Int32) (dy : DY) : F_X6_needNumber_ S N a0 a1 a2 dy = ((F_X6_needNumber S N a0 dy).bind fun u1 => (if u1.1 < a1 then (F_X6_needNumber__23 S N) a0 (gi dy a0 3) u1.1 u1.2 else (if u1.1 ≤ a2 then some (u1.1, u1.2) else (F_X6_needNumber__23 S N) a0 (gi dy a0 3) u1.1 u1.2))) := rfl
noncomputable def F_X6_needWord (S : ST) (N : Nat) (a0 : Nat) (a1 : Nat) (dy : DY) : Option DY := (F_X6_takesWord S N a0 a1 dy).bind fun u1 => (if u1.1 = 0 then (F_X6_breakOff S N a0 u1.2).bind fun u3 => some u3 else some u1.2)
theorem F_X6_needWord_s (S : ST) (N : Nat) (a0 : Nat) (a1 : Nat) (dy : DY) : F_X6_needWord S N a0 a1 dy = ((F_X6_takesWord S N a0 a1 dy).bind fun u1 => (if u1.1 = 0 then (F_X6_breakOff S N a0 u1.2).bind fun u3 => some u3 else some u1.2)) := rfl
theorem dX6_breakOff_0 : decode cX6_breakOff 0 = .ok (.aload_n 0, 1) := by decide +kernel
theorem dX6_breakOff_1 : decode cX6_breakOff 1 = .ok (.getfield 31, 3) := by decide +kernel
theorem dX6_breakOff_4 : decode cX6_breakOff 4 = .ok (.iconst 1, 1) := by decide +kernel
theorem dX6_breakOff_5 : decode cX6_breakOff 5 = .ok (.if_icmp .eq 16, 3) := by decide +kernel
theorem dX6_breakOff_8 : decode cX6_breakOff 8 = .ok (.aload_n 0, 1) := by decide +kernel
theorem dX6_breakOff_9 : decode cX6_breakOff 9 = .ok (.iconst 1, 1) := by decide +kernel
theorem dX6_breakOff_10 : decode cX6_breakOff 10 = .ok (.putfield 31, 3) := by decide +kernel
theorem dX6_breakOff_13 : decode cX6_breakOff 13 = .ok (.aload_n 0, 1) := by decide +kernel
theorem dX6_breakOff_14 : decode cX6_breakOff 14 = .ok (.aload_n 0, 1) := by decide +kernel
theorem dX6_breakOff_15 : decode cX6_breakOff 15 = .ok (.getfield 40, 3) := by decide +kernel
theorem dX6_breakOff_18 : decode cX6_breakOff 18 = .ok (.putfield 34, 3) := by decide +kernel
theorem dX6_breakOff_21 : decode cX6_breakOff 21 = .ok (.return_, 1) := by decide +kernel
theorem dX6_isWord_0 : decode cX6_isWord 0 = .ok (.aload_n 0, 1) := by decide +kernel
theorem dX6_isWord_1 : decode cX6_isWord 1 = .ok (.getfield 31, 3) := by decide +kernel
theorem dX6_isWord_4 : decode cX6_isWord 4 = .ok (.iconst 1, 1) := by decide +kernel
theorem dX6_isWord_5 : decode cX6_isWord 5 = .ok (.if_icmp .eq 27, 3) := by decide +kernel
theorem dX6_isWord_8 : decode cX6_isWord 8 = .ok (.aload_n 0, 1) := by decide +kernel
theorem dX6_isWord_9 : decode cX6_isWord 9 = .ok (.getfield 46, 3) := by decide +kernel
theorem dX6_isWord_12 : decode cX6_isWord 12 = .ok (.iconst 1, 1) := by decide +kernel
theorem dX6_isWord_13 : decode cX6_isWord 13 = .ok (.if_icmp .ne 19, 3) := by decide +kernel
theorem dX6_isWord_16 : decode cX6_isWord 16 = .ok (.aload_n 0, 1) := by decide +kernel
theorem dX6_isWord_17 : decode cX6_isWord 17 = .ok (.getfield 28, 3) := by decide +kernel
theorem dX6_isWord_20 : decode cX6_isWord 20 = .ok (.aload_n 0, 1) := by decide +kernel
theorem dX6_isWord_21 : decode cX6_isWord 21 = .ok (.getfield 40, 3) := by decide +kernel
theorem dX6_isWord_24 : decode cX6_isWord 24 = .ok (.isub, 1) := by decide +kernel
theorem dX6_isWord_25 : decode cX6_isWord 25 = .ok (.aload_n 1, 1) := by decide +kernel
theorem dX6_isWord_26 : decode cX6_isWord 26 = .ok (.invokevirtual 56, 3) := by decide +kernel
theorem dX6_isWord_29 : decode cX6_isWord 29 = .ok (.if_icmp .eq 5, 3) := by decide +kernel
theorem dX6_isWord_32 : decode cX6_isWord 32 = .ok (.iconst 0, 1) := by decide +kernel
theorem dX6_isWord_33 : decode cX6_isWord 33 = .ok (.ireturn, 1) := by decide +kernel
theorem dX6_isWord_34 : decode cX6_isWord 34 = .ok (.iconst 0, 1) := by decide +kernel
theorem dX6_isWord_35 : decode cX6_isWord 35 = .ok (.istore_n 2, 1) := by decide +kernel
theorem dX6_isWord_36 : decode cX6_isWord 36 = .ok (.iload_n 2, 1) := by decide +kernel
theorem dX6_isWord_37 : decode cX6_isWord 37 = .ok (.aload_n 1, 1) := by decide +kernel
theorem dX6_isWord_38 : decode cX6_isWord 38 = .ok (.invokevirtual 56, 3) := by decide +kernel
theorem dX6_isWord_41 : decode cX6_isWord 41 = .ok (.if_icmp .ge 43, 3) := by decide +kernel
theorem dX6_isWord_44 : decode cX6_isWord 44 = .ok (.aload_n 0, 1) := by decide +kernel
theorem dX6_isWord_45 : decode cX6_isWord 45 = .ok (.getfield 40, 3) := by decide +kernel
theorem dX6_isWord_48 : decode cX6_isWord 48 = .ok (.iload_n 2, 1) := by decide +kernel
theorem dX6_isWord_49 : decode cX6_isWord 49 = .ok (.iadd, 1) := by decide +kernel
theorem dX6_isWord_50 : decode cX6_isWord 50 = .ok (.aload_n 0, 1) := by decide +kernel
theorem dX6_isWord_51 : decode cX6_isWord 51 = .ok (.getfield 24, 3) := by decide +kernel
theorem dX6_isWord_54 : decode cX6_isWord 54 = .ok (.if_icmp .ge 30, 3) := by decide +kernel
theorem dX6_isWord_57 : decode cX6_isWord 57 = .ok (.aload_n 0, 1) := by decide +kernel
theorem dX6_isWord_58 : decode cX6_isWord 58 = .ok (.getfield 9, 3) := by decide +kernel
theorem dX6_isWord_61 : decode cX6_isWord 61 = .ok (.aload_n 0, 1) := by decide +kernel
theorem dX6_isWord_62 : decode cX6_isWord 62 = .ok (.getfield 40, 3) := by decide +kernel
theorem dX6_isWord_65 : decode cX6_isWord 65 = .ok (.iload_n 2, 1) := by decide +kernel
theorem dX6_isWord_66 : decode cX6_isWord 66 = .ok (.iadd, 1) := by decide +kernel
theorem dX6_isWord_67 : decode cX6_isWord 67 = .ok (.baload, 1) := by decide +kernel
theorem dX6_isWord_68 : decode cX6_isWord 68 = .ok (.aload_n 1, 1) := by decide +kernel
theorem dX6_isWord_69 : decode cX6_isWord 69 = .ok (.iload_n 2, 1) := by decide +kernel
theorem dX6_isWord_70 : decode cX6_isWord 70 = .ok (.invokevirtual 62, 3) := by decide +kernel
theorem dX6_isWord_73 : decode cX6_isWord 73 = .ok (.if_icmp .eq 5, 3) := by decide +kernel
theorem dX6_isWord_76 : decode cX6_isWord 76 = .ok (.iconst 0, 1) := by decide +kernel
theorem dX6_isWord_77 : decode cX6_isWord 77 = .ok (.ireturn, 1) := by decide +kernel
theorem dX6_isWord_78 : decode cX6_isWord 78 = .ok (.iinc 2 1, 3) := by decide +kernel
theorem dX6_isWord_81 : decode cX6_isWord 81 = .ok (.goto (-45), 3) := by decide +kernel
theorem dX6_isWord_84 : decode cX6_isWord 84 = .ok (.iconst 1, 1) := by decide +kernel
theorem dX6_isWord_85 : decode cX6_isWord 85 = .ok (.ireturn, 1) := by decide +kernel
theorem dX6_isDigit_0 : decode cX6_isDigit 0 = .ok (.iload_n 0, 1) := by decide +kernel
theorem dX6_isDigit_1 : decode cX6_isDigit 1 = .ok (.bipush 48, 2) := by decide +kernel
theorem dX6_isDigit_3 : decode cX6_isDigit 3 = .ok (.if_icmp .lt 13, 3) := by decide +kernel
theorem dX6_isDigit_6 : decode cX6_isDigit 6 = .ok (.iload_n 0, 1) := by decide +kernel
theorem dX6_isDigit_7 : decode cX6_isDigit 7 = .ok (.bipush 57, 2) := by decide +kernel
theorem dX6_isDigit_9 : decode cX6_isDigit 9 = .ok (.if_icmp .gt 7, 3) := by decide +kernel
theorem dX6_isDigit_12 : decode cX6_isDigit 12 = .ok (.iconst 1, 1) := by decide +kernel
theorem dX6_isDigit_13 : decode cX6_isDigit 13 = .ok (.goto 4, 3) := by decide +kernel
theorem dX6_isDigit_16 : decode cX6_isDigit 16 = .ok (.iconst 0, 1) := by decide +kernel
theorem dX6_isDigit_17 : decode cX6_isDigit 17 = .ok (.ireturn, 1) := by decide +kernel
theorem dX6_isLetter_0 : decode cX6_isLetter 0 = .ok (.iload_n 0, 1) := by decide +kernel
theorem dX6_isLetter_1 : decode cX6_isLetter 1 = .ok (.bipush 97, 2) := by decide +kernel
theorem dX6_isLetter_3 : decode cX6_isLetter 3 = .ok (.if_icmp .lt 13, 3) := by decide +kernel
theorem dX6_isLetter_6 : decode cX6_isLetter 6 = .ok (.iload_n 0, 1) := by decide +kernel
theorem dX6_isLetter_7 : decode cX6_isLetter 7 = .ok (.bipush 122, 2) := by decide +kernel
theorem dX6_isLetter_9 : decode cX6_isLetter 9 = .ok (.if_icmp .gt 7, 3) := by decide +kernel
theorem dX6_isLetter_12 : decode cX6_isLetter 12 = .ok (.iconst 1, 1) := by decide +kernel
theorem dX6_isLetter_13 : decode cX6_isLetter 13 = .ok (.goto 4, 3) := by decide +kernel
theorem dX6_isLetter_16 : decode cX6_isLetter 16 = .ok (.iconst 0, 1) := by decide +kernel
theorem dX6_isLetter_17 : decode cX6_isLetter 17 = .ok (.ireturn, 1) := by decide +kernel
theorem dX6_step_0 : decode cX6_step 0 = .ok (.aload_n 0, 1) := by decide +kernel
theorem dX6_step_1 : decode cX6_step 1 = .ok (.getfield 28, 3) := by decide +kernel
theorem dX6_step_4 : decode cX6_step 4 = .ok (.aload_n 0, 1) := by decide +kernel
theorem dX6_step_5 : decode cX6_step 5 = .ok (.getfield 24, 3) := by decide +kernel
theorem dX6_step_8 : decode cX6_step 8 = .ok (.if_icmp .ge 44, 3) := by decide +kernel
theorem dX6_step_11 : decode cX6_step 11 = .ok (.aload_n 0, 1) := by decide +kernel
theorem dX6_step_12 : decode cX6_step 12 = .ok (.getfield 9, 3) := by decide +kernel
theorem dX6_step_15 : decode cX6_step 15 = .ok (.aload_n 0, 1) := by decide +kernel
theorem dX6_step_16 : decode cX6_step 16 = .ok (.getfield 28, 3) := by decide +kernel
theorem dX6_step_19 : decode cX6_step 19 = .ok (.baload, 1) := by decide +kernel
theorem dX6_step_20 : decode cX6_step 20 = .ok (.bipush 32, 2) := by decide +kernel
theorem dX6_step_22 : decode cX6_step 22 = .ok (.if_icmp .eq 17, 3) := by decide +kernel
theorem dX6_step_25 : decode cX6_step 25 = .ok (.aload_n 0, 1) := by decide +kernel
theorem dX6_step_26 : decode cX6_step 26 = .ok (.getfield 9, 3) := by decide +kernel
theorem dX6_step_29 : decode cX6_step 29 = .ok (.aload_n 0, 1) := by decide +kernel
theorem dX6_step_30 : decode cX6_step 30 = .ok (.getfield 28, 3) := by decide +kernel
theorem dX6_step_33 : decode cX6_step 33 = .ok (.baload, 1) := by decide +kernel
theorem dX6_step_34 : decode cX6_step 34 = .ok (.bipush 10, 2) := by decide +kernel
theorem dX6_step_36 : decode cX6_step 36 = .ok (.if_icmp .ne 16, 3) := by decide +kernel
theorem dX6_step_39 : decode cX6_step 39 = .ok (.aload_n 0, 1) := by decide +kernel
theorem dX6_step_40 : decode cX6_step 40 = .ok (.dup, 1) := by decide +kernel
theorem dX6_step_41 : decode cX6_step 41 = .ok (.getfield 28, 3) := by decide +kernel
theorem dX6_step_44 : decode cX6_step 44 = .ok (.iconst 1, 1) := by decide +kernel
theorem dX6_step_45 : decode cX6_step 45 = .ok (.iadd, 1) := by decide +kernel
theorem dX6_step_46 : decode cX6_step 46 = .ok (.putfield 28, 3) := by decide +kernel
theorem dX6_step_49 : decode cX6_step 49 = .ok (.goto (-49), 3) := by decide +kernel
theorem dX6_step_52 : decode cX6_step 52 = .ok (.aload_n 0, 1) := by decide +kernel
theorem dX6_step_53 : decode cX6_step 53 = .ok (.aload_n 0, 1) := by decide +kernel
theorem dX6_step_54 : decode cX6_step 54 = .ok (.getfield 28, 3) := by decide +kernel
theorem dX6_step_57 : decode cX6_step 57 = .ok (.putfield 40, 3) := by decide +kernel
theorem dX6_step_60 : decode cX6_step 60 = .ok (.aload_n 0, 1) := by decide +kernel
theorem dX6_step_61 : decode cX6_step 61 = .ok (.iconst 0, 1) := by decide +kernel
theorem dX6_step_62 : decode cX6_step 62 = .ok (.putfield 43, 3) := by decide +kernel
theorem dX6_step_65 : decode cX6_step 65 = .ok (.aload_n 0, 1) := by decide +kernel
theorem dX6_step_66 : decode cX6_step 66 = .ok (.getfield 40, 3) := by decide +kernel
theorem dX6_step_69 : decode cX6_step 69 = .ok (.aload_n 0, 1) := by decide +kernel
theorem dX6_step_70 : decode cX6_step 70 = .ok (.getfield 24, 3) := by decide +kernel
theorem dX6_step_73 : decode cX6_step 73 = .ok (.if_icmp .lt 11, 3) := by decide +kernel
theorem dX6_step_76 : decode cX6_step 76 = .ok (.aload_n 0, 1) := by decide +kernel
theorem dX6_step_77 : decode cX6_step 77 = .ok (.iconst 0, 1) := by decide +kernel
theorem dX6_step_78 : decode cX6_step 78 = .ok (.putfield 46, 3) := by decide +kernel
theorem dX6_step_81 : decode cX6_step 81 = .ok (.goto 230, 3) := by decide +kernel
theorem dX6_step_84 : decode cX6_step 84 = .ok (.aload_n 0, 1) := by decide +kernel
theorem dX6_step_85 : decode cX6_step 85 = .ok (.getfield 9, 3) := by decide +kernel
theorem dX6_step_88 : decode cX6_step 88 = .ok (.aload_n 0, 1) := by decide +kernel
theorem dX6_step_89 : decode cX6_step 89 = .ok (.getfield 40, 3) := by decide +kernel
theorem dX6_step_92 : decode cX6_step 92 = .ok (.baload, 1) := by decide +kernel
theorem dX6_step_93 : decode cX6_step 93 = .ok (.invokestatic 49, 3) := by decide +kernel
theorem dX6_step_96 : decode cX6_step 96 = .ok (.ifCond .eq 47, 3) := by decide +kernel
theorem dX6_step_99 : decode cX6_step 99 = .ok (.aload_n 0, 1) := by decide +kernel
theorem dX6_step_100 : decode cX6_step 100 = .ok (.iconst 1, 1) := by decide +kernel
theorem dX6_step_101 : decode cX6_step 101 = .ok (.putfield 46, 3) := by decide +kernel
theorem dX6_step_104 : decode cX6_step 104 = .ok (.aload_n 0, 1) := by decide +kernel
theorem dX6_step_105 : decode cX6_step 105 = .ok (.getfield 28, 3) := by decide +kernel
theorem dX6_step_108 : decode cX6_step 108 = .ok (.aload_n 0, 1) := by decide +kernel
theorem dX6_step_109 : decode cX6_step 109 = .ok (.getfield 24, 3) := by decide +kernel
theorem dX6_step_112 : decode cX6_step 112 = .ok (.if_icmp .ge 199, 3) := by decide +kernel
theorem dX6_step_115 : decode cX6_step 115 = .ok (.aload_n 0, 1) := by decide +kernel
theorem dX6_step_116 : decode cX6_step 116 = .ok (.getfield 9, 3) := by decide +kernel
theorem dX6_step_119 : decode cX6_step 119 = .ok (.aload_n 0, 1) := by decide +kernel
theorem dX6_step_120 : decode cX6_step 120 = .ok (.getfield 28, 3) := by decide +kernel
theorem dX6_step_123 : decode cX6_step 123 = .ok (.baload, 1) := by decide +kernel
theorem dX6_step_124 : decode cX6_step 124 = .ok (.invokestatic 49, 3) := by decide +kernel
theorem dX6_step_127 : decode cX6_step 127 = .ok (.ifCond .eq 184, 3) := by decide +kernel
theorem dX6_step_130 : decode cX6_step 130 = .ok (.aload_n 0, 1) := by decide +kernel
theorem dX6_step_131 : decode cX6_step 131 = .ok (.dup, 1) := by decide +kernel
theorem dX6_step_132 : decode cX6_step 132 = .ok (.getfield 28, 3) := by decide +kernel
theorem dX6_step_135 : decode cX6_step 135 = .ok (.iconst 1, 1) := by decide +kernel
theorem dX6_step_136 : decode cX6_step 136 = .ok (.iadd, 1) := by decide +kernel
theorem dX6_step_137 : decode cX6_step 137 = .ok (.putfield 28, 3) := by decide +kernel
theorem dX6_step_140 : decode cX6_step 140 = .ok (.goto (-36), 3) := by decide +kernel
theorem dX6_step_143 : decode cX6_step 143 = .ok (.aload_n 0, 1) := by decide +kernel
theorem dX6_step_144 : decode cX6_step 144 = .ok (.getfield 9, 3) := by decide +kernel
theorem dX6_step_147 : decode cX6_step 147 = .ok (.aload_n 0, 1) := by decide +kernel
theorem dX6_step_148 : decode cX6_step 148 = .ok (.getfield 40, 3) := by decide +kernel
theorem dX6_step_151 : decode cX6_step 151 = .ok (.baload, 1) := by decide +kernel
theorem dX6_step_152 : decode cX6_step 152 = .ok (.invokestatic 53, 3) := by decide +kernel
theorem dX6_step_155 : decode cX6_step 155 = .ok (.ifCond .eq 97, 3) := by decide +kernel
theorem dX6_step_158 : decode cX6_step 158 = .ok (.aload_n 0, 1) := by decide +kernel
theorem dX6_step_159 : decode cX6_step 159 = .ok (.getfield 28, 3) := by decide +kernel
theorem dX6_step_162 : decode cX6_step 162 = .ok (.aload_n 0, 1) := by decide +kernel
theorem dX6_step_163 : decode cX6_step 163 = .ok (.getfield 24, 3) := by decide +kernel
theorem dX6_step_166 : decode cX6_step 166 = .ok (.if_icmp .ge 61, 3) := by decide +kernel
theorem dX6_step_169 : decode cX6_step 169 = .ok (.aload_n 0, 1) := by decide +kernel
theorem dX6_step_170 : decode cX6_step 170 = .ok (.getfield 9, 3) := by decide +kernel
theorem dX6_step_173 : decode cX6_step 173 = .ok (.aload_n 0, 1) := by decide +kernel
theorem dX6_step_174 : decode cX6_step 174 = .ok (.getfield 28, 3) := by decide +kernel
theorem dX6_step_177 : decode cX6_step 177 = .ok (.baload, 1) := by decide +kernel
theorem dX6_step_178 : decode cX6_step 178 = .ok (.invokestatic 53, 3) := by decide +kernel
theorem dX6_step_181 : decode cX6_step 181 = .ok (.ifCond .eq 46, 3) := by decide +kernel
theorem dX6_step_184 : decode cX6_step 184 = .ok (.aload_n 0, 1) := by decide +kernel
theorem dX6_step_185 : decode cX6_step 185 = .ok (.aload_n 0, 1) := by decide +kernel
theorem dX6_step_186 : decode cX6_step 186 = .ok (.getfield 43, 3) := by decide +kernel
theorem dX6_step_189 : decode cX6_step 189 = .ok (.bipush 10, 2) := by decide +kernel
theorem dX6_step_191 : decode cX6_step 191 = .ok (.imul, 1) := by decide +kernel
theorem dX6_step_192 : decode cX6_step 192 = .ok (.aload_n 0, 1) := by decide +kernel
theorem dX6_step_193 : decode cX6_step 193 = .ok (.getfield 9, 3) := by decide +kernel
theorem dX6_step_196 : decode cX6_step 196 = .ok (.aload_n 0, 1) := by decide +kernel
theorem dX6_step_197 : decode cX6_step 197 = .ok (.getfield 28, 3) := by decide +kernel
theorem dX6_step_200 : decode cX6_step 200 = .ok (.baload, 1) := by decide +kernel
theorem dX6_step_201 : decode cX6_step 201 = .ok (.iadd, 1) := by decide +kernel
theorem dX6_step_202 : decode cX6_step 202 = .ok (.bipush 48, 2) := by decide +kernel
theorem dX6_step_204 : decode cX6_step 204 = .ok (.isub, 1) := by decide +kernel
theorem dX6_step_205 : decode cX6_step 205 = .ok (.sipush 1000, 3) := by decide +kernel
theorem dX6_step_208 : decode cX6_step 208 = .ok (.invokestatic 15, 3) := by decide +kernel
theorem dX6_step_211 : decode cX6_step 211 = .ok (.putfield 43, 3) := by decide +kernel
theorem dX6_step_214 : decode cX6_step 214 = .ok (.aload_n 0, 1) := by decide +kernel
theorem dX6_step_215 : decode cX6_step 215 = .ok (.dup, 1) := by decide +kernel
theorem dX6_step_216 : decode cX6_step 216 = .ok (.getfield 28, 3) := by decide +kernel
theorem dX6_step_219 : decode cX6_step 219 = .ok (.iconst 1, 1) := by decide +kernel
theorem dX6_step_220 : decode cX6_step 220 = .ok (.iadd, 1) := by decide +kernel
theorem dX6_step_221 : decode cX6_step 221 = .ok (.putfield 28, 3) := by decide +kernel
theorem dX6_step_224 : decode cX6_step 224 = .ok (.goto (-66), 3) := by decide +kernel
theorem dX6_step_227 : decode cX6_step 227 = .ok (.aload_n 0, 1) := by decide +kernel
theorem dX6_step_228 : decode cX6_step 228 = .ok (.aload_n 0, 1) := by decide +kernel
theorem dX6_step_229 : decode cX6_step 229 = .ok (.getfield 28, 3) := by decide +kernel
theorem dX6_step_232 : decode cX6_step 232 = .ok (.aload_n 0, 1) := by decide +kernel
theorem dX6_step_233 : decode cX6_step 233 = .ok (.getfield 40, 3) := by decide +kernel
theorem dX6_step_236 : decode cX6_step 236 = .ok (.isub, 1) := by decide +kernel
theorem dX6_step_237 : decode cX6_step 237 = .ok (.iconst 3, 1) := by decide +kernel
theorem dX6_step_238 : decode cX6_step 238 = .ok (.if_icmp .gt 7, 3) := by decide +kernel
theorem dX6_step_241 : decode cX6_step 241 = .ok (.iconst 2, 1) := by decide +kernel
theorem dX6_step_242 : decode cX6_step 242 = .ok (.goto 4, 3) := by decide +kernel
theorem dX6_step_245 : decode cX6_step 245 = .ok (.iconst 4, 1) := by decide +kernel
theorem dX6_step_246 : decode cX6_step 246 = .ok (.putfield 46, 3) := by decide +kernel
theorem dX6_step_249 : decode cX6_step 249 = .ok (.goto 62, 3) := by decide +kernel
theorem dX6_step_252 : decode cX6_step 252 = .ok (.aload_n 0, 1) := by decide +kernel
theorem dX6_step_253 : decode cX6_step 253 = .ok (.getfield 9, 3) := by decide +kernel
theorem dX6_step_256 : decode cX6_step 256 = .ok (.aload_n 0, 1) := by decide +kernel
theorem dX6_step_257 : decode cX6_step 257 = .ok (.getfield 40, 3) := by decide +kernel
theorem dX6_step_260 : decode cX6_step 260 = .ok (.baload, 1) := by decide +kernel
theorem dX6_step_261 : decode cX6_step 261 = .ok (.istore_n 1, 1) := by decide +kernel
theorem dX6_step_262 : decode cX6_step 262 = .ok (.aload_n 0, 1) := by decide +kernel
theorem dX6_step_263 : decode cX6_step 263 = .ok (.iload_n 1, 1) := by decide +kernel
theorem dX6_step_264 : decode cX6_step 264 = .ok (.bipush 58, 2) := by decide +kernel
theorem dX6_step_266 : decode cX6_step 266 = .ok (.if_icmp .eq 27, 3) := by decide +kernel
theorem dX6_step_269 : decode cX6_step 269 = .ok (.iload_n 1, 1) := by decide +kernel
theorem dX6_step_270 : decode cX6_step 270 = .ok (.bipush 59, 2) := by decide +kernel
theorem dX6_step_272 : decode cX6_step 272 = .ok (.if_icmp .eq 21, 3) := by decide +kernel
theorem dX6_step_275 : decode cX6_step 275 = .ok (.iload_n 1, 1) := by decide +kernel
theorem dX6_step_276 : decode cX6_step 276 = .ok (.bipush 60, 2) := by decide +kernel
theorem dX6_step_278 : decode cX6_step 278 = .ok (.if_icmp .eq 15, 3) := by decide +kernel
theorem dX6_step_281 : decode cX6_step 281 = .ok (.iload_n 1, 1) := by decide +kernel
theorem dX6_step_282 : decode cX6_step 282 = .ok (.bipush 62, 2) := by decide +kernel
theorem dX6_step_284 : decode cX6_step 284 = .ok (.if_icmp .eq 9, 3) := by decide +kernel
theorem dX6_step_287 : decode cX6_step 287 = .ok (.iload_n 1, 1) := by decide +kernel
theorem dX6_step_288 : decode cX6_step 288 = .ok (.bipush 61, 2) := by decide +kernel
theorem dX6_step_290 : decode cX6_step 290 = .ok (.if_icmp .ne 7, 3) := by decide +kernel
theorem dX6_step_293 : decode cX6_step 293 = .ok (.iconst 3, 1) := by decide +kernel
theorem dX6_step_294 : decode cX6_step 294 = .ok (.goto 4, 3) := by decide +kernel
theorem dX6_step_297 : decode cX6_step 297 = .ok (.iconst 4, 1) := by decide +kernel
theorem dX6_step_298 : decode cX6_step 298 = .ok (.putfield 46, 3) := by decide +kernel
theorem dX6_step_301 : decode cX6_step 301 = .ok (.aload_n 0, 1) := by decide +kernel
theorem dX6_step_302 : decode cX6_step 302 = .ok (.dup, 1) := by decide +kernel
theorem dX6_step_303 : decode cX6_step 303 = .ok (.getfield 28, 3) := by decide +kernel
theorem dX6_step_306 : decode cX6_step 306 = .ok (.iconst 1, 1) := by decide +kernel
theorem dX6_step_307 : decode cX6_step 307 = .ok (.iadd, 1) := by decide +kernel
theorem dX6_step_308 : decode cX6_step 308 = .ok (.putfield 28, 3) := by decide +kernel
theorem dX6_step_311 : decode cX6_step 311 = .ok (.return_, 1) := by decide +kernel
theorem dX6_takesWord_0 : decode cX6_takesWord 0 = .ok (.aload_n 0, 1) := by decide +kernel
theorem dX6_takesWord_1 : decode cX6_takesWord 1 = .ok (.aload_n 1, 1) := by decide +kernel
theorem dX6_takesWord_2 : decode cX6_takesWord 2 = .ok (.invokevirtual 66, 3) := by decide +kernel
theorem dX6_takesWord_5 : decode cX6_takesWord 5 = .ok (.istore_n 2, 1) := by decide +kernel
theorem dX6_takesWord_6 : decode cX6_takesWord 6 = .ok (.iload_n 2, 1) := by decide +kernel
theorem dX6_takesWord_7 : decode cX6_takesWord 7 = .ok (.ifCond .eq 7, 3) := by decide +kernel
theorem dX6_takesWord_10 : decode cX6_takesWord 10 = .ok (.aload_n 0, 1) := by decide +kernel
theorem dX6_takesWord_11 : decode cX6_takesWord 11 = .ok (.invokevirtual 37, 3) := by decide +kernel
theorem dX6_takesWord_14 : decode cX6_takesWord 14 = .ok (.iload_n 2, 1) := by decide +kernel
theorem dX6_takesWord_15 : decode cX6_takesWord 15 = .ok (.ireturn, 1) := by decide +kernel
theorem dX6_isSign_0 : decode cX6_isSign 0 = .ok (.aload_n 0, 1) := by decide +kernel
theorem dX6_isSign_1 : decode cX6_isSign 1 = .ok (.getfield 31, 3) := by decide +kernel
theorem dX6_isSign_4 : decode cX6_isSign 4 = .ok (.iconst 1, 1) := by decide +kernel
theorem dX6_isSign_5 : decode cX6_isSign 5 = .ok (.if_icmp .eq 39, 3) := by decide +kernel
theorem dX6_isSign_8 : decode cX6_isSign 8 = .ok (.aload_n 0, 1) := by decide +kernel
theorem dX6_isSign_9 : decode cX6_isSign 9 = .ok (.getfield 46, 3) := by decide +kernel
theorem dX6_isSign_12 : decode cX6_isSign 12 = .ok (.iconst 3, 1) := by decide +kernel
theorem dX6_isSign_13 : decode cX6_isSign 13 = .ok (.if_icmp .ne 31, 3) := by decide +kernel
theorem dX6_isSign_16 : decode cX6_isSign 16 = .ok (.aload_n 0, 1) := by decide +kernel
theorem dX6_isSign_17 : decode cX6_isSign 17 = .ok (.getfield 40, 3) := by decide +kernel
theorem dX6_isSign_20 : decode cX6_isSign 20 = .ok (.aload_n 0, 1) := by decide +kernel
theorem dX6_isSign_21 : decode cX6_isSign 21 = .ok (.getfield 24, 3) := by decide +kernel
theorem dX6_isSign_24 : decode cX6_isSign 24 = .ok (.if_icmp .ge 20, 3) := by decide +kernel
theorem dX6_isSign_27 : decode cX6_isSign 27 = .ok (.aload_n 0, 1) := by decide +kernel
theorem dX6_isSign_28 : decode cX6_isSign 28 = .ok (.getfield 9, 3) := by decide +kernel
theorem dX6_isSign_31 : decode cX6_isSign 31 = .ok (.aload_n 0, 1) := by decide +kernel
theorem dX6_isSign_32 : decode cX6_isSign 32 = .ok (.getfield 40, 3) := by decide +kernel
theorem dX6_isSign_35 : decode cX6_isSign 35 = .ok (.baload, 1) := by decide +kernel
theorem dX6_isSign_36 : decode cX6_isSign 36 = .ok (.iload_n 1, 1) := by decide +kernel
theorem dX6_isSign_37 : decode cX6_isSign 37 = .ok (.if_icmp .ne 7, 3) := by decide +kernel
theorem dX6_isSign_40 : decode cX6_isSign 40 = .ok (.iconst 1, 1) := by decide +kernel
theorem dX6_isSign_41 : decode cX6_isSign 41 = .ok (.goto 4, 3) := by decide +kernel
theorem dX6_isSign_44 : decode cX6_isSign 44 = .ok (.iconst 0, 1) := by decide +kernel
theorem dX6_isSign_45 : decode cX6_isSign 45 = .ok (.ireturn, 1) := by decide +kernel
theorem dX6_needSign_0 : decode cX6_needSign 0 = .ok (.aload_n 0, 1) := by decide +kernel
theorem dX6_needSign_1 : decode cX6_needSign 1 = .ok (.iload_n 1, 1) := by decide +kernel
theorem dX6_needSign_2 : decode cX6_needSign 2 = .ok (.invokevirtual 76, 3) := by decide +kernel
theorem dX6_needSign_5 : decode cX6_needSign 5 = .ok (.ifCond .eq 10, 3) := by decide +kernel
theorem dX6_needSign_8 : decode cX6_needSign 8 = .ok (.aload_n 0, 1) := by decide +kernel
theorem dX6_needSign_9 : decode cX6_needSign 9 = .ok (.invokevirtual 37, 3) := by decide +kernel
theorem dX6_needSign_12 : decode cX6_needSign 12 = .ok (.goto 7, 3) := by decide +kernel
theorem dX6_needSign_15 : decode cX6_needSign 15 = .ok (.aload_n 0, 1) := by decide +kernel
theorem dX6_needSign_16 : decode cX6_needSign 16 = .ok (.invokevirtual 73, 3) := by decide +kernel
theorem dX6_needSign_19 : decode cX6_needSign 19 = .ok (.return_, 1) := by decide +kernel
theorem dX6_isSound_0 : decode cX6_isSound 0 = .ok (.aload_n 0, 1) := by decide +kernel
theorem dX6_isSound_1 : decode cX6_isSound 1 = .ok (.getfield 31, 3) := by decide +kernel
theorem dX6_isSound_4 : decode cX6_isSound 4 = .ok (.ifCond .ne 7, 3) := by decide +kernel
theorem dX6_isSound_7 : decode cX6_isSound 7 = .ok (.iconst 1, 1) := by decide +kernel
theorem dX6_isSound_8 : decode cX6_isSound 8 = .ok (.goto 4, 3) := by decide +kernel
theorem dX6_isSound_11 : decode cX6_isSound 11 = .ok (.iconst 0, 1) := by decide +kernel
theorem dX6_isSound_12 : decode cX6_isSound 12 = .ok (.ireturn, 1) := by decide +kernel
theorem dX6_needNumber_0 : decode cX6_needNumber 0 = .ok (.aload_n 0, 1) := by decide +kernel
theorem dX6_needNumber_1 : decode cX6_needNumber 1 = .ok (.getfield 31, 3) := by decide +kernel
theorem dX6_needNumber_4 : decode cX6_needNumber 4 = .ok (.iconst 1, 1) := by decide +kernel
theorem dX6_needNumber_5 : decode cX6_needNumber 5 = .ok (.if_icmp .eq 11, 3) := by decide +kernel
theorem dX6_needNumber_8 : decode cX6_needNumber 8 = .ok (.aload_n 0, 1) := by decide +kernel
theorem dX6_needNumber_9 : decode cX6_needNumber 9 = .ok (.getfield 46, 3) := by decide +kernel
theorem dX6_needNumber_12 : decode cX6_needNumber 12 = .ok (.iconst 2, 1) := by decide +kernel
theorem dX6_needNumber_13 : decode cX6_needNumber 13 = .ok (.if_icmp .eq 9, 3) := by decide +kernel
theorem dX6_needNumber_16 : decode cX6_needNumber 16 = .ok (.aload_n 0, 1) := by decide +kernel
theorem dX6_needNumber_17 : decode cX6_needNumber 17 = .ok (.invokevirtual 73, 3) := by decide +kernel
theorem dX6_needNumber_20 : decode cX6_needNumber 20 = .ok (.iconst 0, 1) := by decide +kernel
theorem dX6_needNumber_21 : decode cX6_needNumber 21 = .ok (.ireturn, 1) := by decide +kernel
theorem dX6_needNumber_22 : decode cX6_needNumber 22 = .ok (.aload_n 0, 1) := by decide +kernel
theorem dX6_needNumber_23 : decode cX6_needNumber 23 = .ok (.getfield 43, 3) := by decide +kernel
theorem dX6_needNumber_26 : decode cX6_needNumber 26 = .ok (.istore_n 1, 1) := by decide +kernel
theorem dX6_needNumber_27 : decode cX6_needNumber 27 = .ok (.aload_n 0, 1) := by decide +kernel
theorem dX6_needNumber_28 : decode cX6_needNumber 28 = .ok (.invokevirtual 37, 3) := by decide +kernel
theorem dX6_needNumber_31 : decode cX6_needNumber 31 = .ok (.iload_n 1, 1) := by decide +kernel
theorem dX6_needNumber_32 : decode cX6_needNumber 32 = .ok (.ireturn, 1) := by decide +kernel
theorem dX6_note_0 : decode cX6_note 0 = .ok (.aload_n 0, 1) := by decide +kernel
theorem dX6_note_1 : decode cX6_note 1 = .ok (.getfield 31, 3) := by decide +kernel
theorem dX6_note_4 : decode cX6_note 4 = .ok (.ifCond .ne 13, 3) := by decide +kernel
theorem dX6_note_7 : decode cX6_note 7 = .ok (.aload_n 0, 1) := by decide +kernel
theorem dX6_note_8 : decode cX6_note 8 = .ok (.iload_n 1, 1) := by decide +kernel
theorem dX6_note_9 : decode cX6_note 9 = .ok (.putfield 31, 3) := by decide +kernel
theorem dX6_note_12 : decode cX6_note 12 = .ok (.aload_n 0, 1) := by decide +kernel
theorem dX6_note_13 : decode cX6_note 13 = .ok (.iload_n 2, 1) := by decide +kernel
theorem dX6_note_14 : decode cX6_note 14 = .ok (.putfield 34, 3) := by decide +kernel
theorem dX6_note_17 : decode cX6_note 17 = .ok (.return_, 1) := by decide +kernel
theorem dX6_goesOn_0 : decode cX6_goesOn 0 = .ok (.aload_n 0, 1) := by decide +kernel
theorem dX6_goesOn_1 : decode cX6_goesOn 1 = .ok (.getfield 31, 3) := by decide +kernel
theorem dX6_goesOn_4 : decode cX6_goesOn 4 = .ok (.iconst 1, 1) := by decide +kernel
theorem dX6_goesOn_5 : decode cX6_goesOn 5 = .ok (.if_icmp .eq 14, 3) := by decide +kernel
theorem dX6_goesOn_8 : decode cX6_goesOn 8 = .ok (.aload_n 0, 1) := by decide +kernel
theorem dX6_goesOn_9 : decode cX6_goesOn 9 = .ok (.getfield 46, 3) := by decide +kernel
theorem dX6_goesOn_12 : decode cX6_goesOn 12 = .ok (.ifCond .eq 7, 3) := by decide +kernel
theorem dX6_goesOn_15 : decode cX6_goesOn 15 = .ok (.iconst 1, 1) := by decide +kernel
theorem dX6_goesOn_16 : decode cX6_goesOn 16 = .ok (.goto 4, 3) := by decide +kernel
theorem dX6_goesOn_19 : decode cX6_goesOn 19 = .ok (.iconst 0, 1) := by decide +kernel
theorem dX6_goesOn_20 : decode cX6_goesOn 20 = .ok (.ireturn, 1) := by decide +kernel
theorem dX6_open_0 : decode cX6_open 0 = .ok (.aload_n 0, 1) := by decide +kernel
theorem dX6_open_1 : decode cX6_open 1 = .ok (.iconst 0, 1) := by decide +kernel
theorem dX6_open_2 : decode cX6_open 2 = .ok (.iload_n 1, 1) := by decide +kernel
theorem dX6_open_3 : decode cX6_open 3 = .ok (.aload_n 0, 1) := by decide +kernel
theorem dX6_open_4 : decode cX6_open 4 = .ok (.getfield 9, 3) := by decide +kernel
theorem dX6_open_7 : decode cX6_open 7 = .ok (.arraylength, 1) := by decide +kernel
theorem dX6_open_8 : decode cX6_open 8 = .ok (.invokestatic 15, 3) := by decide +kernel
theorem dX6_open_11 : decode cX6_open 11 = .ok (.invokestatic 21, 3) := by decide +kernel
theorem dX6_open_14 : decode cX6_open 14 = .ok (.putfield 24, 3) := by decide +kernel
theorem dX6_open_17 : decode cX6_open 17 = .ok (.aload_n 0, 1) := by decide +kernel
theorem dX6_open_18 : decode cX6_open 18 = .ok (.iconst 0, 1) := by decide +kernel
theorem dX6_open_19 : decode cX6_open 19 = .ok (.putfield 28, 3) := by decide +kernel
theorem dX6_open_22 : decode cX6_open 22 = .ok (.aload_n 0, 1) := by decide +kernel
theorem dX6_open_23 : decode cX6_open 23 = .ok (.iconst 0, 1) := by decide +kernel
theorem dX6_open_24 : decode cX6_open 24 = .ok (.putfield 31, 3) := by decide +kernel
theorem dX6_open_27 : decode cX6_open 27 = .ok (.aload_n 0, 1) := by decide +kernel
theorem dX6_open_28 : decode cX6_open 28 = .ok (.iconst (-1), 1) := by decide +kernel
theorem dX6_open_29 : decode cX6_open 29 = .ok (.putfield 34, 3) := by decide +kernel
theorem dX6_open_32 : decode cX6_open 32 = .ok (.aload_n 0, 1) := by decide +kernel
theorem dX6_open_33 : decode cX6_open 33 = .ok (.invokevirtual 37, 3) := by decide +kernel
theorem dX6_open_36 : decode cX6_open 36 = .ok (.return_, 1) := by decide +kernel
theorem dX6_needNumber__0 : decode cX6_needNumber_ 0 = .ok (.aload_n 0, 1) := by decide +kernel
theorem dX6_needNumber__1 : decode cX6_needNumber_ 1 = .ok (.getfield 40, 3) := by decide +kernel
theorem dX6_needNumber__4 : decode cX6_needNumber_ 4 = .ok (.istore_n 3, 1) := by decide +kernel
theorem dX6_needNumber__5 : decode cX6_needNumber_ 5 = .ok (.aload_n 0, 1) := by decide +kernel
theorem dX6_needNumber__6 : decode cX6_needNumber_ 6 = .ok (.invokevirtual 80, 3) := by decide +kernel
theorem dX6_needNumber__9 : decode cX6_needNumber_ 9 = .ok (.istore 4, 2) := by decide +kernel
theorem dX6_needNumber__11 : decode cX6_needNumber_ 11 = .ok (.iload 4, 2) := by decide +kernel
theorem dX6_needNumber__13 : decode cX6_needNumber_ 13 = .ok (.iload_n 1, 1) := by decide +kernel
theorem dX6_needNumber__14 : decode cX6_needNumber_ 14 = .ok (.if_icmp .lt 9, 3) := by decide +kernel
theorem dX6_needNumber__17 : decode cX6_needNumber_ 17 = .ok (.iload 4, 2) := by decide +kernel
theorem dX6_needNumber__19 : decode cX6_needNumber_ 19 = .ok (.iload_n 2, 1) := by decide +kernel
theorem dX6_needNumber__20 : decode cX6_needNumber_ 20 = .ok (.if_icmp .le 9, 3) := by decide +kernel
theorem dX6_needNumber__23 : decode cX6_needNumber_ 23 = .ok (.aload_n 0, 1) := by decide +kernel
theorem dX6_needNumber__24 : decode cX6_needNumber_ 24 = .ok (.iconst 2, 1) := by decide +kernel
theorem dX6_needNumber__25 : decode cX6_needNumber_ 25 = .ok (.iload_n 3, 1) := by decide +kernel
theorem dX6_needNumber__26 : decode cX6_needNumber_ 26 = .ok (.invokevirtual 83, 3) := by decide +kernel
theorem dX6_needNumber__29 : decode cX6_needNumber_ 29 = .ok (.iload 4, 2) := by decide +kernel
theorem dX6_needNumber__31 : decode cX6_needNumber_ 31 = .ok (.ireturn, 1) := by decide +kernel
theorem dX6_needWord_0 : decode cX6_needWord 0 = .ok (.aload_n 0, 1) := by decide +kernel
theorem dX6_needWord_1 : decode cX6_needWord 1 = .ok (.aload_n 1, 1) := by decide +kernel
theorem dX6_needWord_2 : decode cX6_needWord 2 = .ok (.invokevirtual 70, 3) := by decide +kernel
theorem dX6_needWord_5 : decode cX6_needWord 5 = .ok (.ifCond .ne 7, 3) := by decide +kernel
theorem dX6_needWord_8 : decode cX6_needWord 8 = .ok (.aload_n 0, 1) := by decide +kernel
theorem dX6_needWord_9 : decode cX6_needWord 9 = .ok (.invokevirtual 73, 3) := by decide +kernel
theorem dX6_needWord_12 : decode cX6_needWord 12 = .ok (.return_, 1) := by decide +kernel
section P_X6_breakOff
variable {p : Program} {l : Launch} {e : Env} {s : State} {m : MethodId} {args : Array Value} {below : List Frame} {meth : Method} {c : Code} {G : GG} {A : Nat → Prop} {ad : Nat → Nat} {S : ST} {N : Nat} {dy' : DY}
end P_X6_breakOff
set_option maxHeartbeats 4000000 in
set_option maxRecDepth 100000 in
theorem M_X6_breakOff (l : Launch) (G : GG) (ad : Nat → Nat) {S : ST} (N : Nat) (hG : Good S) (a0 : Nat) (dy : DY) (T0 : gs S a0 = (0, 6)) {dy' : DY} (E : F_X6_breakOff S N a0 dy = some dy') : MC l yX6_breakOff cX6_breakOff 1 (Option.none : Option Jvm.ClassFile.FieldType) (1) G ad [.ref (ad a0)] S dy (fun A => QV G ad A S dy') := by
  rw [F_X6_breakOff_s] at E
  refine mc_of RX6 (by decide) rfl (Nat.le_of_ble_eq_true rfl) (fun p e s m args below meth c A C HR HL => ?_)
  refine ww_sub (lv' := [(0, .ref (ad a0))]) [0] rfl ?_
  refine ww_aload_n C dX6_breakOff_0 rfl 0 rfl ?_
  refine ww_geti (ci := 6) (k0 := 6) C dX6_breakOff_1 rfl rfl inm6 (by decide) T0 q433 rfl ?_
  refine ww_iconst (v := 1) C dX6_breakOff_4 (by decide) ?_
  refine ww_icmp_eq (tgt := 21) C dX6_breakOff_5 (by decide) E (fun _ E => ?_) (fun _ E => ?_)
  · exact ww_vret C HR HL dX6_breakOff_21 E
  · refine ww_aload_n C dX6_breakOff_8 rfl 0 rfl ?_
    refine ww_iconst (v := 1) C dX6_breakOff_9 (by decide) ?_
    refine ww_puti (ci := 6) (k0 := 6) C dX6_breakOff_10 rfl rfl inm6 tyX6_ok nmX6 (by decide) T0 q433 rfl rfl rfl ?_
    refine ww_bd E (fun dy1 E => ?_)
    refine ww_aload_n C dX6_breakOff_13 rfl 0 rfl ?_
    refine ww_aload_n C dX6_breakOff_14 rfl 0 rfl ?_
    refine ww_geti (ci := 6) (k0 := 3) C dX6_breakOff_15 rfl rfl inm6 (by decide) T0 q430 rfl ?_
    refine ww_puti (ci := 6) (k0 := 7) C dX6_breakOff_18 rfl rfl inm6 tyX6_ok nmX6 (by decide) T0 q435 rfl rfl rfl ?_
    refine ww_bd E (fun dy2 E => ?_)
    exact ww_vret C HR HL dX6_breakOff_21 E
section P_X6_isWord
variable {p : Program} {l : Launch} {e : Env} {s : State} {m : MethodId} {args : Array Value} {below : List Frame} {meth : Method} {c : Code} {G : GG} {A : Nat → Prop} {ad : Nat → Nat} {S : ST} {N : Nat} {r : Int32} {dy' : DY}
set_option maxHeartbeats 4000000 in
set_option maxRecDepth 100000 in
theorem B_X6_isWord_36 (C : CX p s m args c cX6_isWord 3 RX6 G A) (HR : meth.sig.returnType = (Option.some Jvm.ClassFile.FieldType.boolean)) (HL : meth.locks = false) (hG : Good S) : ∀ k : Nat, ∀ (x0 : Nat) (x1 : Nat) (x2 : Int32) (dy : DY), gs S x0 = (0, 6) → x1 < 30 → (F_X6_isWord_36 S N k) x0 x1 x2 dy = some (r, dy') → WJ p l e (rmD (5)) s m args below meth c 3 G A 0 0 (MQ below (QI G ad A S r dy') args s 0 0 A) ad 36 [(0, .ref (ad x0)), (1, .ref (G.2.2.1 x1)), (2, .int x2)] [] S dy := by
  intro k
  induction k with
  | zero => exact fun _ _ _ _ _ _ E => nomatch (show none = some (r, dy') from E)
  | succ k ih =>
    intro x0 x1 x2 dy Tx0 Tx1 E
    rw [F_X6_isWord_36_s] at E
    refine ww_iload_n C dX6_isWord_36 rfl 2 rfl ?_
    refine ww_aload_n C dX6_isWord_37 rfl 1 rfl ?_
    refine ww_slen C dX6_isWord_38 Tx1 q619 (Nat.le_of_ble_eq_true rfl) (Nat.le_of_ble_eq_true rfl) (Nat.le_of_ble_eq_true rfl) ?_
    refine ww_icmp_ge (tgt := 84) C dX6_isWord_41 (by decide) E (fun _ E => ?_) (fun _ E => ?_)
    · refine ww_iconst (v := 1) C dX6_isWord_84 (by decide) ?_
      exact ww_zret C HR HL dX6_isWord_85 (Or.inr rfl) E
    · refine ww_aload_n C dX6_isWord_44 rfl 0 rfl ?_
      refine ww_geti (ci := 6) (k0 := 3) C dX6_isWord_45 rfl rfl inm6 (by decide) Tx0 q430 rfl ?_
      refine ww_iload_n C dX6_isWord_48 rfl 2 rfl ?_
      refine ww_iadd C dX6_isWord_49 ?_
      refine ww_aload_n C dX6_isWord_50 rfl 0 rfl ?_
      refine ww_geti (ci := 6) (k0 := 1) C dX6_isWord_51 rfl rfl inm6 (by decide) Tx0 q426 rfl ?_
      refine ww_icmp_ge (tgt := 84) C dX6_isWord_54 (by decide) E (fun _ E => ?_) (fun _ E => ?_)
      · refine ww_iconst (v := 1) C dX6_isWord_84 (by decide) ?_
        exact ww_zret C HR HL dX6_isWord_85 (Or.inr rfl) E
      · refine ww_aload_n C dX6_isWord_57 rfl 0 rfl ?_
        have T_1 : gs S (gr S x0 0) = (2, 500) := hG.1 _ 6 Tx0 0 (by decide)
        refine ww_getr (ci := 6) (k0 := 0) C dX6_isWord_58 rfl rfl inm6 (by decide) Tx0 q425 rfl T_1 (by decide) ?_
        refine ww_aload_n C dX6_isWord_61 rfl 0 rfl ?_
        refine ww_geti (ci := 6) (k0 := 3) C dX6_isWord_62 rfl rfl inm6 (by decide) Tx0 q430 rfl ?_
        refine ww_iload_n C dX6_isWord_65 rfl 2 rfl ?_
        refine ww_iadd C dX6_isWord_66 ?_
        refine ww_bald C dX6_isWord_67 T_1 E (fun _ E => ?_)
        refine ww_aload_n C dX6_isWord_68 rfl 1 rfl ?_
        refine ww_iload_n C dX6_isWord_69 rfl 2 rfl ?_
        refine ww_schar C dX6_isWord_70 Tx1 q629 (Nat.le_of_ble_eq_true rfl) (Nat.le_of_ble_eq_true rfl) (Nat.le_of_ble_eq_true rfl) E (fun _ E => ?_)
        refine ww_icmp_eq (tgt := 78) C dX6_isWord_73 (by decide) E (fun _ E => ?_) (fun _ E => ?_)
        · refine ww_iinc (v := (x2 + (1 : Int32))) (lv' := [(2, .int (x2 + (1 : Int32))), (0, .ref (ad x0)), (1, .ref (G.2.2.1 x1))]) C dX6_isWord_78 2 rfl rfl (by decide) rfl ?_
          refine ww_goto (tgt := 36) C dX6_isWord_81 (by decide) ?_
          refine ww_sub (lv' := [(0, .ref (ad x0)), (1, .ref (G.2.2.1 x1)), (2, .int (x2 + (1 : Int32)))]) [1, 2, 0] rfl ?_
          exact ih x0 x1 (x2 + (1 : Int32)) dy Tx0 Tx1 E
        · refine ww_iconst (v := 0) C dX6_isWord_76 (by decide) ?_
          exact ww_zret C HR HL dX6_isWord_77 (Or.inl rfl) E
end P_X6_isWord
set_option maxHeartbeats 4000000 in
set_option maxRecDepth 100000 in
theorem M_X6_isWord (l : Launch) (G : GG) (ad : Nat → Nat) {S : ST} (N : Nat) (hG : Good S) (a0 : Nat) (a1 : Nat) (dy : DY) (T0 : gs S a0 = (0, 6)) (T1 : a1 < 30) {r : Int32} {dy' : DY} (E : F_X6_isWord S N a0 a1 dy = some (r, dy')) : MC l yX6_isWord cX6_isWord 3 (Option.some Jvm.ClassFile.FieldType.boolean) (5) G ad [.ref (ad a0), .ref (G.2.2.1 a1)] S dy (fun A => QI G ad A S r dy') := by
  rw [F_X6_isWord_s] at E
  refine mc_of RX6 (by decide) rfl (Nat.le_of_ble_eq_true rfl) (fun p e s m args below meth c A C HR HL => ?_)
  refine ww_sub (lv' := [(0, .ref (ad a0)), (1, .ref (G.2.2.1 a1))]) [0, 1] rfl ?_
  refine ww_aload_n C dX6_isWord_0 rfl 0 rfl ?_
  refine ww_geti (ci := 6) (k0 := 6) C dX6_isWord_1 rfl rfl inm6 (by decide) T0 q433 rfl ?_
  refine ww_iconst (v := 1) C dX6_isWord_4 (by decide) ?_
  refine ww_icmp_eq (tgt := 32) C dX6_isWord_5 (by decide) E (fun _ E => ?_) (fun _ E => ?_)
  · refine ww_iconst (v := 0) C dX6_isWord_32 (by decide) ?_
    exact ww_zret C HR HL dX6_isWord_33 (Or.inl rfl) E
  · refine ww_aload_n C dX6_isWord_8 rfl 0 rfl ?_
    refine ww_geti (ci := 6) (k0 := 2) C dX6_isWord_9 rfl rfl inm6 (by decide) T0 q427 rfl ?_
    refine ww_iconst (v := 1) C dX6_isWord_12 (by decide) ?_
    refine ww_icmp_ne (tgt := 32) C dX6_isWord_13 (by decide) E (fun _ E => ?_) (fun _ E => ?_)
    · refine ww_iconst (v := 0) C dX6_isWord_32 (by decide) ?_
      exact ww_zret C HR HL dX6_isWord_33 (Or.inl rfl) E
    · refine ww_aload_n C dX6_isWord_16 rfl 0 rfl ?_
      refine ww_geti (ci := 6) (k0 := 4) C dX6_isWord_17 rfl rfl inm6 (by decide) T0 q431 rfl ?_
      refine ww_aload_n C dX6_isWord_20 rfl 0 rfl ?_
      refine ww_geti (ci := 6) (k0 := 3) C dX6_isWord_21 rfl rfl inm6 (by decide) T0 q430 rfl ?_
      refine ww_isub C dX6_isWord_24 ?_
      refine ww_aload_n C dX6_isWord_25 rfl 1 rfl ?_
      refine ww_slen C dX6_isWord_26 T1 q619 (Nat.le_of_ble_eq_true rfl) (Nat.le_of_ble_eq_true rfl) (Nat.le_of_ble_eq_true rfl) ?_
      refine ww_icmp_eq (tgt := 34) C dX6_isWord_29 (by decide) E (fun _ E => ?_) (fun _ E => ?_)
      · refine ww_iconst (v := 0) C dX6_isWord_34 (by decide) ?_
        refine ww_istore_n (lv' := [(2, .int (0 : Int32)), (0, .ref (ad a0)), (1, .ref (G.2.2.1 a1))]) C dX6_isWord_35 rfl (by decide) rfl ?_
        refine ww_sub (lv' := [(0, .ref (ad a0)), (1, .ref (G.2.2.1 a1)), (2, .int (0 : Int32))]) [1, 2, 0] rfl ?_
        exact (B_X6_isWord_36 C HR HL hG N) a0 a1 (0 : Int32) dy T0 T1 E
      · refine ww_iconst (v := 0) C dX6_isWord_32 (by decide) ?_
        exact ww_zret C HR HL dX6_isWord_33 (Or.inl rfl) E
section P_X6_isDigit
variable {p : Program} {l : Launch} {e : Env} {s : State} {m : MethodId} {args : Array Value} {below : List Frame} {meth : Method} {c : Code} {G : GG} {A : Nat → Prop} {ad : Nat → Nat} {S : ST} {N : Nat} {r : Int32} {dy' : DY}
end P_X6_isDigit
set_option maxHeartbeats 4000000 in
set_option maxRecDepth 100000 in
theorem M_X6_isDigit (l : Launch) (G : GG) (ad : Nat → Nat) {S : ST} (N : Nat) (hG : Good S) (a0 : Int32) (dy : DY) {r : Int32} {dy' : DY} (E : F_X6_isDigit S N a0 dy = some (r, dy')) : MC l yX6_isDigit cX6_isDigit 1 (Option.some Jvm.ClassFile.FieldType.boolean) (1) G ad [.int a0] S dy (fun A => QI G ad A S r dy') := by
  rw [F_X6_isDigit_s] at E
  refine mc_of RX6 (by decide) rfl (Nat.le_of_ble_eq_true rfl) (fun p e s m args below meth c A C HR HL => ?_)
  refine ww_sub (lv' := [(0, .int a0)]) [0] rfl ?_
  refine ww_iload_n C dX6_isDigit_0 rfl 0 rfl ?_
  refine ww_bipush (v := 48) C dX6_isDigit_1 (by decide) ?_
  refine ww_icmp_lt (tgt := 16) C dX6_isDigit_3 (by decide) E (fun _ E => ?_) (fun _ E => ?_)
  · refine ww_iconst (v := 0) C dX6_isDigit_16 (by decide) ?_
    exact ww_zret C HR HL dX6_isDigit_17 (Or.inl rfl) E
  · refine ww_iload_n C dX6_isDigit_6 rfl 0 rfl ?_
    refine ww_bipush (v := 57) C dX6_isDigit_7 (by decide) ?_
    refine ww_icmp_gt (tgt := 16) C dX6_isDigit_9 (by decide) E (fun _ E => ?_) (fun _ E => ?_)
    · refine ww_iconst (v := 0) C dX6_isDigit_16 (by decide) ?_
      exact ww_zret C HR HL dX6_isDigit_17 (Or.inl rfl) E
    · refine ww_iconst (v := 1) C dX6_isDigit_12 (by decide) ?_
      refine ww_goto (tgt := 17) C dX6_isDigit_13 (by decide) ?_
      exact ww_zret C HR HL dX6_isDigit_17 (Or.inr rfl) E
section P_X6_isLetter
variable {p : Program} {l : Launch} {e : Env} {s : State} {m : MethodId} {args : Array Value} {below : List Frame} {meth : Method} {c : Code} {G : GG} {A : Nat → Prop} {ad : Nat → Nat} {S : ST} {N : Nat} {r : Int32} {dy' : DY}
end P_X6_isLetter
set_option maxHeartbeats 4000000 in
set_option maxRecDepth 100000 in
theorem M_X6_isLetter (l : Launch) (G : GG) (ad : Nat → Nat) {S : ST} (N : Nat) (hG : Good S) (a0 : Int32) (dy : DY) {r : Int32} {dy' : DY} (E : F_X6_isLetter S N a0 dy = some (r, dy')) : MC l yX6_isLetter cX6_isLetter 1 (Option.some Jvm.ClassFile.FieldType.boolean) (1) G ad [.int a0] S dy (fun A => QI G ad A S r dy') := by
  rw [F_X6_isLetter_s] at E
  refine mc_of RX6 (by decide) rfl (Nat.le_of_ble_eq_true rfl) (fun p e s m args below meth c A C HR HL => ?_)
  refine ww_sub (lv' := [(0, .int a0)]) [0] rfl ?_
  refine ww_iload_n C dX6_isLetter_0 rfl 0 rfl ?_
  refine ww_bipush (v := 97) C dX6_isLetter_1 (by decide) ?_
  refine ww_icmp_lt (tgt := 16) C dX6_isLetter_3 (by decide) E (fun _ E => ?_) (fun _ E => ?_)
  · refine ww_iconst (v := 0) C dX6_isLetter_16 (by decide) ?_
    exact ww_zret C HR HL dX6_isLetter_17 (Or.inl rfl) E
  · refine ww_iload_n C dX6_isLetter_6 rfl 0 rfl ?_
    refine ww_bipush (v := 122) C dX6_isLetter_7 (by decide) ?_
    refine ww_icmp_gt (tgt := 16) C dX6_isLetter_9 (by decide) E (fun _ E => ?_) (fun _ E => ?_)
    · refine ww_iconst (v := 0) C dX6_isLetter_16 (by decide) ?_
      exact ww_zret C HR HL dX6_isLetter_17 (Or.inl rfl) E
    · refine ww_iconst (v := 1) C dX6_isLetter_12 (by decide) ?_
      refine ww_goto (tgt := 17) C dX6_isLetter_13 (by decide) ?_
      exact ww_zret C HR HL dX6_isLetter_17 (Or.inr rfl) E
section P_X6_step
variable {p : Program} {l : Launch} {e : Env} {s : State} {m : MethodId} {args : Array Value} {below : List Frame} {meth : Method} {c : Code} {G : GG} {A : Nat → Prop} {ad : Nat → Nat} {S : ST} {N : Nat} {dy' : DY}
set_option maxHeartbeats 4000000 in
set_option maxRecDepth 100000 in
theorem B_X6_step_39 (C : CX p s m args c cX6_step 2 RX6 G A) (HR : meth.sig.returnType = (Option.none : Option Jvm.ClassFile.FieldType)) (HL : meth.locks = false) (hG : Good S) {K0 : Nat → DY → Option DY} (hK0 : ∀ (x0 : Nat) (dy : DY), gs S x0 = (0, 6) → K0 x0 dy = some dy' → WJ p l e (rmD (2)) s m args below meth c 2 G A 0 0 (MQ below (QV G ad A S dy') args s 0 0 A) ad 0 [(0, .ref (ad x0))] [] S dy) : ∀ (x0 : Nat) (dy : DY), gs S x0 = (0, 6) → F_X6_step_39 S N K0 x0 dy = some dy' → WJ p l e (rmD (2)) s m args below meth c 2 G A 0 0 (MQ below (QV G ad A S dy') args s 0 0 A) ad 39 [(0, .ref (ad x0))] [] S dy := by
  intro x0 dy Tx0 E
  rw [F_X6_step_39_s] at E
  refine ww_aload_n C dX6_step_39 rfl 0 rfl ?_
  refine ww_dup C dX6_step_40 rfl ?_
  refine ww_geti (ci := 6) (k0 := 4) C dX6_step_41 rfl rfl inm6 (by decide) Tx0 q431 rfl ?_
  refine ww_iconst (v := 1) C dX6_step_44 (by decide) ?_
  refine ww_iadd C dX6_step_45 ?_
  refine ww_puti (ci := 6) (k0 := 4) C dX6_step_46 rfl rfl inm6 tyX6_ok nmX6 (by decide) Tx0 q431 rfl rfl rfl ?_
  refine ww_bd E (fun dy1 E => ?_)
  refine ww_goto (tgt := 0) C dX6_step_49 (by decide) ?_
  refine ww_sub (lv' := [(0, .ref (ad x0))]) [0] rfl ?_
  exact hK0 x0 dy1 Tx0 E
set_option maxHeartbeats 4000000 in
set_option maxRecDepth 100000 in
theorem B_X6_step_104 (C : CX p s m args c cX6_step 2 RX6 G A) (HR : meth.sig.returnType = (Option.none : Option Jvm.ClassFile.FieldType)) (HL : meth.locks = false) (hG : Good S) : ∀ k : Nat, ∀ (x0 : Nat) (dy : DY), gs S x0 = (0, 6) → (F_X6_step_104 S N k) x0 dy = some dy' → WJ p l e (rmD (2)) s m args below meth c 2 G A 0 0 (MQ below (QV G ad A S dy') args s 0 0 A) ad 104 [(0, .ref (ad x0))] [] S dy := by
  intro k
  induction k with
  | zero => exact fun _ _ _ E => nomatch (show none = some dy' from E)
  | succ k ih =>
    intro x0 dy Tx0 E
    rw [F_X6_step_104_s] at E
    refine ww_aload_n C dX6_step_104 rfl 0 rfl ?_
    refine ww_geti (ci := 6) (k0 := 4) C dX6_step_105 rfl rfl inm6 (by decide) Tx0 q431 rfl ?_
    refine ww_aload_n C dX6_step_108 rfl 0 rfl ?_
    refine ww_geti (ci := 6) (k0 := 1) C dX6_step_109 rfl rfl inm6 (by decide) Tx0 q426 rfl ?_
    refine ww_icmp_ge (tgt := 311) C dX6_step_112 (by decide) E (fun _ E => ?_) (fun _ E => ?_)
    · exact ww_vret C HR HL dX6_step_311 E
    · refine ww_aload_n C dX6_step_115 rfl 0 rfl ?_
      have T_1 : gs S (gr S x0 0) = (2, 500) := hG.1 _ 6 Tx0 0 (by decide)
      refine ww_getr (ci := 6) (k0 := 0) C dX6_step_116 rfl rfl inm6 (by decide) Tx0 q425 rfl T_1 (by decide) ?_
      refine ww_aload_n C dX6_step_119 rfl 0 rfl ?_
      refine ww_geti (ci := 6) (k0 := 4) C dX6_step_120 rfl rfl inm6 (by decide) Tx0 q431 rfl ?_
      refine ww_bald C dX6_step_123 T_1 E (fun _ E => ?_)
      obtain ⟨u2, e_3, E⟩ := bind_of E
      refine ww_callI C (runs_S (n := 1) (st := []) C [.int (nr 2 (gi dy (gr S x0 0) (gi dy x0 4).toNatClampNeg))] (M_X6_isLetter l G ad N hG (nr 2 (gi dy (gr S x0 0) (gi dy x0 4).toNatClampNeg)) dy e_3) ⟨q598, q114, by decide⟩ q596 q597 rfl (Nat.le_of_ble_eq_true rfl) ⟨Nat.le_of_ble_eq_true rfl, Nat.le_of_ble_eq_true rfl⟩ ⟨Nat.zero_le _, Nat.zero_le _⟩ dX6_step_124 rfl) ?_
      refine ww_if_eq (tgt := 311) C dX6_step_127 (by decide) E (fun _ E => ?_) (fun _ E => ?_)
      · exact ww_vret C HR HL dX6_step_311 E
      · refine ww_aload_n C dX6_step_130 rfl 0 rfl ?_
        refine ww_dup C dX6_step_131 rfl ?_
        refine ww_geti (ci := 6) (k0 := 4) C dX6_step_132 rfl rfl inm6 (by decide) Tx0 q431 rfl ?_
        refine ww_iconst (v := 1) C dX6_step_135 (by decide) ?_
        refine ww_iadd C dX6_step_136 ?_
        refine ww_puti (ci := 6) (k0 := 4) C dX6_step_137 rfl rfl inm6 tyX6_ok nmX6 (by decide) Tx0 q431 rfl rfl rfl ?_
        refine ww_bd E (fun dy4 E => ?_)
        refine ww_goto (tgt := 104) C dX6_step_140 (by decide) ?_
        refine ww_sub (lv' := [(0, .ref (ad x0))]) [0] rfl ?_
        exact ih x0 dy4 Tx0 E
set_option maxHeartbeats 4000000 in
set_option maxRecDepth 100000 in
theorem B_X6_step_246 (C : CX p s m args c cX6_step 2 RX6 G A) (HR : meth.sig.returnType = (Option.none : Option Jvm.ClassFile.FieldType)) (HL : meth.locks = false) (hG : Good S) : ∀ (y0 : Nat) (y1 : Int32) (dy : DY), gs S y0 = (0, 6) → F_X6_step_246 S N y0 y1 dy = some dy' → WJ p l e (rmD (2)) s m args below meth c 2 G A 0 0 (MQ below (QV G ad A S dy') args s 0 0 A) ad 246 [] [.int y1, .ref (ad y0)] S dy := by
  intro y0 y1 dy Ty0 E
  rw [F_X6_step_246_s] at E
  refine ww_puti (ci := 6) (k0 := 2) C dX6_step_246 rfl rfl inm6 tyX6_ok nmX6 (by decide) Ty0 q427 rfl rfl rfl ?_
  refine ww_bd E (fun dy1 E => ?_)
  refine ww_goto (tgt := 311) C dX6_step_249 (by decide) ?_
  exact ww_vret C HR HL dX6_step_311 E
set_option maxHeartbeats 4000000 in
set_option maxRecDepth 100000 in
theorem B_X6_step_227 (C : CX p s m args c cX6_step 2 RX6 G A) (HR : meth.sig.returnType = (Option.none : Option Jvm.ClassFile.FieldType)) (HL : meth.locks = false) (hG : Good S) : ∀ (x0 : Nat) (dy : DY), gs S x0 = (0, 6) → F_X6_step_227 S N x0 dy = some dy' → WJ p l e (rmD (2)) s m args below meth c 2 G A 0 0 (MQ below (QV G ad A S dy') args s 0 0 A) ad 227 [(0, .ref (ad x0))] [] S dy := by
  intro x0 dy Tx0 E
  rw [F_X6_step_227_s] at E
  refine ww_aload_n C dX6_step_227 rfl 0 rfl ?_
  refine ww_aload_n C dX6_step_228 rfl 0 rfl ?_
  refine ww_geti (ci := 6) (k0 := 4) C dX6_step_229 rfl rfl inm6 (by decide) Tx0 q431 rfl ?_
  refine ww_aload_n C dX6_step_232 rfl 0 rfl ?_
  refine ww_geti (ci := 6) (k0 := 3) C dX6_step_233 rfl rfl inm6 (by decide) Tx0 q430 rfl ?_
  refine ww_isub C dX6_step_236 ?_
  refine ww_iconst (v := 3) C dX6_step_237 (by decide) ?_
  refine ww_icmp_gt (tgt := 245) C dX6_step_238 (by decide) E (fun _ E => ?_) (fun _ E => ?_)
  · refine ww_iconst (v := 4) C dX6_step_245 (by decide) ?_
    refine ww_sub (lv' := []) [] rfl ?_
    exact (B_X6_step_246 C HR HL hG) x0 (4 : Int32) dy Tx0 E
  · refine ww_iconst (v := 2) C dX6_step_241 (by decide) ?_
    refine ww_goto (tgt := 246) C dX6_step_242 (by decide) ?_
    refine ww_sub (lv' := []) [] rfl ?_
    exact (B_X6_step_246 C HR HL hG) x0 (2 : Int32) dy Tx0 E
set_option maxHeartbeats 4000000 in
set_option maxRecDepth 100000 in
theorem B_X6_step_158 (C : CX p s m args c cX6_step 2 RX6 G A) (HR : meth.sig.returnType = (Option.none : Option Jvm.ClassFile.FieldType)) (HL : meth.locks = false) (hG : Good S) : ∀ k : Nat, ∀ (x0 : Nat) (dy : DY), gs S x0 = (0, 6) → (F_X6_step_158 S N k) x0 dy = some dy' → WJ p l e (rmD (2)) s m args below meth c 2 G A 0 0 (MQ below (QV G ad A S dy') args s 0 0 A) ad 158 [(0, .ref (ad x0))] [] S dy := by
  intro k
  induction k with
  | zero => exact fun _ _ _ E => nomatch (show none = some dy' from E)
  | succ k ih =>
    intro x0 dy Tx0 E
    rw [F_X6_step_158_s] at E
    refine ww_aload_n C dX6_step_158 rfl 0 rfl ?_
    refine ww_geti (ci := 6) (k0 := 4) C dX6_step_159 rfl rfl inm6 (by decide) Tx0 q431 rfl ?_
    refine ww_aload_n C dX6_step_162 rfl 0 rfl ?_
    refine ww_geti (ci := 6) (k0 := 1) C dX6_step_163 rfl rfl inm6 (by decide) Tx0 q426 rfl ?_
    refine ww_icmp_ge (tgt := 227) C dX6_step_166 (by decide) E (fun _ E => ?_) (fun _ E => ?_)
    · refine ww_sub (lv' := [(0, .ref (ad x0))]) [0] rfl ?_
      exact (B_X6_step_227 C HR HL hG) x0 dy Tx0 E
    · refine ww_aload_n C dX6_step_169 rfl 0 rfl ?_
      have T_1 : gs S (gr S x0 0) = (2, 500) := hG.1 _ 6 Tx0 0 (by decide)
      refine ww_getr (ci := 6) (k0 := 0) C dX6_step_170 rfl rfl inm6 (by decide) Tx0 q425 rfl T_1 (by decide) ?_
      refine ww_aload_n C dX6_step_173 rfl 0 rfl ?_
      refine ww_geti (ci := 6) (k0 := 4) C dX6_step_174 rfl rfl inm6 (by decide) Tx0 q431 rfl ?_
      refine ww_bald C dX6_step_177 T_1 E (fun _ E => ?_)
      obtain ⟨u2, e_3, E⟩ := bind_of E
      refine ww_callI C (runs_S (n := 1) (st := []) C [.int (nr 2 (gi dy (gr S x0 0) (gi dy x0 4).toNatClampNeg))] (M_X6_isDigit l G ad N hG (nr 2 (gi dy (gr S x0 0) (gi dy x0 4).toNatClampNeg)) dy e_3) ⟨q601, q114, by decide⟩ q599 q600 rfl (Nat.le_of_ble_eq_true rfl) ⟨Nat.le_of_ble_eq_true rfl, Nat.le_of_ble_eq_true rfl⟩ ⟨Nat.zero_le _, Nat.zero_le _⟩ dX6_step_178 rfl) ?_
      refine ww_if_eq (tgt := 227) C dX6_step_181 (by decide) E (fun _ E => ?_) (fun _ E => ?_)
      · refine ww_sub (lv' := [(0, .ref (ad x0))]) [0] rfl ?_
        exact (B_X6_step_227 C HR HL hG) x0 u2.2 Tx0 E
      · refine ww_aload_n C dX6_step_184 rfl 0 rfl ?_
        refine ww_aload_n C dX6_step_185 rfl 0 rfl ?_
        refine ww_geti (ci := 6) (k0 := 5) C dX6_step_186 rfl rfl inm6 (by decide) Tx0 q432 rfl ?_
        refine ww_bipush (v := 10) C dX6_step_189 (by decide) ?_
        refine ww_imul C dX6_step_191 ?_
        refine ww_aload_n C dX6_step_192 rfl 0 rfl ?_
        have T_4 : gs S (gr S x0 0) = (2, 500) := hG.1 _ 6 Tx0 0 (by decide)
        refine ww_getr (ci := 6) (k0 := 0) C dX6_step_193 rfl rfl inm6 (by decide) Tx0 q425 rfl T_4 (by decide) ?_
        refine ww_aload_n C dX6_step_196 rfl 0 rfl ?_
        refine ww_geti (ci := 6) (k0 := 4) C dX6_step_197 rfl rfl inm6 (by decide) Tx0 q431 rfl ?_
        refine ww_bald C dX6_step_200 T_4 E (fun _ E => ?_)
        refine ww_iadd C dX6_step_201 ?_
        refine ww_bipush (v := 48) C dX6_step_202 (by decide) ?_
        refine ww_isub C dX6_step_204 ?_
        refine ww_sipush (v := 1000) C dX6_step_205 (by decide) ?_
        refine ww_mmin C dX6_step_208 q586 q587 q119 q588 (Nat.le_of_ble_eq_true rfl) (Nat.le_of_ble_eq_true rfl) (Nat.le_of_ble_eq_true rfl) (Nat.zero_le _) (Nat.zero_le _) ?_
        refine ww_puti (ci := 6) (k0 := 5) C dX6_step_211 rfl rfl inm6 tyX6_ok nmX6 (by decide) Tx0 q432 rfl rfl rfl ?_
        refine ww_bd E (fun dy5 E => ?_)
        refine ww_aload_n C dX6_step_214 rfl 0 rfl ?_
        refine ww_dup C dX6_step_215 rfl ?_
        refine ww_geti (ci := 6) (k0 := 4) C dX6_step_216 rfl rfl inm6 (by decide) Tx0 q431 rfl ?_
        refine ww_iconst (v := 1) C dX6_step_219 (by decide) ?_
        refine ww_iadd C dX6_step_220 ?_
        refine ww_puti (ci := 6) (k0 := 4) C dX6_step_221 rfl rfl inm6 tyX6_ok nmX6 (by decide) Tx0 q431 rfl rfl rfl ?_
        refine ww_bd E (fun dy6 E => ?_)
        refine ww_goto (tgt := 158) C dX6_step_224 (by decide) ?_
        refine ww_sub (lv' := [(0, .ref (ad x0))]) [0] rfl ?_
        exact ih x0 dy6 Tx0 E
set_option maxHeartbeats 4000000 in
set_option maxRecDepth 100000 in
theorem B_X6_step_298 (C : CX p s m args c cX6_step 2 RX6 G A) (HR : meth.sig.returnType = (Option.none : Option Jvm.ClassFile.FieldType)) (HL : meth.locks = false) (hG : Good S) : ∀ (x0 : Nat) (y0 : Nat) (y1 : Int32) (dy : DY), gs S x0 = (0, 6) → gs S y0 = (0, 6) → F_X6_step_298 S N x0 y0 y1 dy = some dy' → WJ p l e (rmD (2)) s m args below meth c 2 G A 0 0 (MQ below (QV G ad A S dy') args s 0 0 A) ad 298 [(0, .ref (ad x0))] [.int y1, .ref (ad y0)] S dy := by
  intro x0 y0 y1 dy Tx0 Ty0 E
  rw [F_X6_step_298_s] at E
  refine ww_puti (ci := 6) (k0 := 2) C dX6_step_298 rfl rfl inm6 tyX6_ok nmX6 (by decide) Ty0 q427 rfl rfl rfl ?_
  refine ww_bd E (fun dy1 E => ?_)
  refine ww_aload_n C dX6_step_301 rfl 0 rfl ?_
  refine ww_dup C dX6_step_302 rfl ?_
  refine ww_geti (ci := 6) (k0 := 4) C dX6_step_303 rfl rfl inm6 (by decide) Tx0 q431 rfl ?_
  refine ww_iconst (v := 1) C dX6_step_306 (by decide) ?_
  refine ww_iadd C dX6_step_307 ?_
  refine ww_puti (ci := 6) (k0 := 4) C dX6_step_308 rfl rfl inm6 tyX6_ok nmX6 (by decide) Tx0 q431 rfl rfl rfl ?_
  refine ww_bd E (fun dy2 E => ?_)
  exact ww_vret C HR HL dX6_step_311 E
set_option maxHeartbeats 4000000 in
set_option maxRecDepth 100000 in
theorem B_X6_step_52 (C : CX p s m args c cX6_step 2 RX6 G A) (HR : meth.sig.returnType = (Option.none : Option Jvm.ClassFile.FieldType)) (HL : meth.locks = false) (hG : Good S) : ∀ (x0 : Nat) (dy : DY), gs S x0 = (0, 6) → F_X6_step_52 S N x0 dy = some dy' → WJ p l e (rmD (2)) s m args below meth c 2 G A 0 0 (MQ below (QV G ad A S dy') args s 0 0 A) ad 52 [(0, .ref (ad x0))] [] S dy := by
  intro x0 dy Tx0 E
  rw [F_X6_step_52_s] at E
  refine ww_aload_n C dX6_step_52 rfl 0 rfl ?_
  refine ww_aload_n C dX6_step_53 rfl 0 rfl ?_
  refine ww_geti (ci := 6) (k0 := 4) C dX6_step_54 rfl rfl inm6 (by decide) Tx0 q431 rfl ?_
  refine ww_puti (ci := 6) (k0 := 3) C dX6_step_57 rfl rfl inm6 tyX6_ok nmX6 (by decide) Tx0 q430 rfl rfl rfl ?_
  refine ww_bd E (fun dy1 E => ?_)
  refine ww_aload_n C dX6_step_60 rfl 0 rfl ?_
  refine ww_iconst (v := 0) C dX6_step_61 (by decide) ?_
  refine ww_puti (ci := 6) (k0 := 5) C dX6_step_62 rfl rfl inm6 tyX6_ok nmX6 (by decide) Tx0 q432 rfl rfl rfl ?_
  refine ww_bd E (fun dy2 E => ?_)
  refine ww_aload_n C dX6_step_65 rfl 0 rfl ?_
  refine ww_geti (ci := 6) (k0 := 3) C dX6_step_66 rfl rfl inm6 (by decide) Tx0 q430 rfl ?_
  refine ww_aload_n C dX6_step_69 rfl 0 rfl ?_
  refine ww_geti (ci := 6) (k0 := 1) C dX6_step_70 rfl rfl inm6 (by decide) Tx0 q426 rfl ?_
  refine ww_icmp_lt (tgt := 84) C dX6_step_73 (by decide) E (fun _ E => ?_) (fun _ E => ?_)
  · refine ww_aload_n C dX6_step_84 rfl 0 rfl ?_
    have T_3 : gs S (gr S x0 0) = (2, 500) := hG.1 _ 6 Tx0 0 (by decide)
    refine ww_getr (ci := 6) (k0 := 0) C dX6_step_85 rfl rfl inm6 (by decide) Tx0 q425 rfl T_3 (by decide) ?_
    refine ww_aload_n C dX6_step_88 rfl 0 rfl ?_
    refine ww_geti (ci := 6) (k0 := 3) C dX6_step_89 rfl rfl inm6 (by decide) Tx0 q430 rfl ?_
    refine ww_bald C dX6_step_92 T_3 E (fun _ E => ?_)
    obtain ⟨u4, e_5, E⟩ := bind_of E
    refine ww_callI C (runs_S (n := 1) (st := []) C [.int (nr 2 (gi dy2 (gr S x0 0) (gi dy2 x0 3).toNatClampNeg))] (M_X6_isLetter l G ad N hG (nr 2 (gi dy2 (gr S x0 0) (gi dy2 x0 3).toNatClampNeg)) dy2 e_5) ⟨q598, q114, by decide⟩ q596 q597 rfl (Nat.le_of_ble_eq_true rfl) ⟨Nat.le_of_ble_eq_true rfl, Nat.le_of_ble_eq_true rfl⟩ ⟨Nat.zero_le _, Nat.zero_le _⟩ dX6_step_93 rfl) ?_
    refine ww_if_eq (tgt := 143) C dX6_step_96 (by decide) E (fun _ E => ?_) (fun _ E => ?_)
    · refine ww_aload_n C dX6_step_143 rfl 0 rfl ?_
      have T_6 : gs S (gr S x0 0) = (2, 500) := hG.1 _ 6 Tx0 0 (by decide)
      refine ww_getr (ci := 6) (k0 := 0) C dX6_step_144 rfl rfl inm6 (by decide) Tx0 q425 rfl T_6 (by decide) ?_
      refine ww_aload_n C dX6_step_147 rfl 0 rfl ?_
      refine ww_geti (ci := 6) (k0 := 3) C dX6_step_148 rfl rfl inm6 (by decide) Tx0 q430 rfl ?_
      refine ww_bald C dX6_step_151 T_6 E (fun _ E => ?_)
      obtain ⟨u7, e_8, E⟩ := bind_of E
      refine ww_callI C (runs_S (n := 1) (st := []) C [.int (nr 2 (gi u4.2 (gr S x0 0) (gi u4.2 x0 3).toNatClampNeg))] (M_X6_isDigit l G ad N hG (nr 2 (gi u4.2 (gr S x0 0) (gi u4.2 x0 3).toNatClampNeg)) u4.2 e_8) ⟨q601, q114, by decide⟩ q599 q600 rfl (Nat.le_of_ble_eq_true rfl) ⟨Nat.le_of_ble_eq_true rfl, Nat.le_of_ble_eq_true rfl⟩ ⟨Nat.zero_le _, Nat.zero_le _⟩ dX6_step_152 rfl) ?_
      refine ww_if_eq (tgt := 252) C dX6_step_155 (by decide) E (fun _ E => ?_) (fun _ E => ?_)
      · refine ww_aload_n C dX6_step_252 rfl 0 rfl ?_
        have T_9 : gs S (gr S x0 0) = (2, 500) := hG.1 _ 6 Tx0 0 (by decide)
        refine ww_getr (ci := 6) (k0 := 0) C dX6_step_253 rfl rfl inm6 (by decide) Tx0 q425 rfl T_9 (by decide) ?_
        refine ww_aload_n C dX6_step_256 rfl 0 rfl ?_
        refine ww_geti (ci := 6) (k0 := 3) C dX6_step_257 rfl rfl inm6 (by decide) Tx0 q430 rfl ?_
        refine ww_bald C dX6_step_260 T_9 E (fun _ E => ?_)
        refine ww_istore_n (lv' := [(1, .int (nr 2 (gi u7.2 (gr S x0 0) (gi u7.2 x0 3).toNatClampNeg))), (0, .ref (ad x0))]) C dX6_step_261 rfl (by decide) rfl ?_
        refine ww_aload_n C dX6_step_262 rfl 1 rfl ?_
        refine ww_iload_n C dX6_step_263 rfl 0 rfl ?_
        refine ww_bipush (v := 58) C dX6_step_264 (by decide) ?_
        refine ww_icmp_eq (tgt := 293) C dX6_step_266 (by decide) E (fun _ E => ?_) (fun _ E => ?_)
        · refine ww_iconst (v := 3) C dX6_step_293 (by decide) ?_
          refine ww_goto (tgt := 298) C dX6_step_294 (by decide) ?_
          refine ww_sub (lv' := [(0, .ref (ad x0))]) [1] rfl ?_
          exact (B_X6_step_298 C HR HL hG) x0 x0 (3 : Int32) u7.2 Tx0 Tx0 E
        · refine ww_iload_n C dX6_step_269 rfl 0 rfl ?_
          refine ww_bipush (v := 59) C dX6_step_270 (by decide) ?_
          refine ww_icmp_eq (tgt := 293) C dX6_step_272 (by decide) E (fun _ E => ?_) (fun _ E => ?_)
          · refine ww_iconst (v := 3) C dX6_step_293 (by decide) ?_
            refine ww_goto (tgt := 298) C dX6_step_294 (by decide) ?_
            refine ww_sub (lv' := [(0, .ref (ad x0))]) [1] rfl ?_
            exact (B_X6_step_298 C HR HL hG) x0 x0 (3 : Int32) u7.2 Tx0 Tx0 E
          · refine ww_iload_n C dX6_step_275 rfl 0 rfl ?_
            refine ww_bipush (v := 60) C dX6_step_276 (by decide) ?_
            refine ww_icmp_eq (tgt := 293) C dX6_step_278 (by decide) E (fun _ E => ?_) (fun _ E => ?_)
            · refine ww_iconst (v := 3) C dX6_step_293 (by decide) ?_
              refine ww_goto (tgt := 298) C dX6_step_294 (by decide) ?_
              refine ww_sub (lv' := [(0, .ref (ad x0))]) [1] rfl ?_
              exact (B_X6_step_298 C HR HL hG) x0 x0 (3 : Int32) u7.2 Tx0 Tx0 E
            · refine ww_iload_n C dX6_step_281 rfl 0 rfl ?_
              refine ww_bipush (v := 62) C dX6_step_282 (by decide) ?_
              refine ww_icmp_eq (tgt := 293) C dX6_step_284 (by decide) E (fun _ E => ?_) (fun _ E => ?_)
              · refine ww_iconst (v := 3) C dX6_step_293 (by decide) ?_
                refine ww_goto (tgt := 298) C dX6_step_294 (by decide) ?_
                refine ww_sub (lv' := [(0, .ref (ad x0))]) [1] rfl ?_
                exact (B_X6_step_298 C HR HL hG) x0 x0 (3 : Int32) u7.2 Tx0 Tx0 E
              · refine ww_iload_n C dX6_step_287 rfl 0 rfl ?_
                refine ww_bipush (v := 61) C dX6_step_288 (by decide) ?_
                refine ww_icmp_ne (tgt := 297) C dX6_step_290 (by decide) E (fun _ E => ?_) (fun _ E => ?_)
                · refine ww_iconst (v := 4) C dX6_step_297 (by decide) ?_
                  refine ww_sub (lv' := [(0, .ref (ad x0))]) [1] rfl ?_
                  exact (B_X6_step_298 C HR HL hG) x0 x0 (4 : Int32) u7.2 Tx0 Tx0 E
                · refine ww_iconst (v := 3) C dX6_step_293 (by decide) ?_
                  refine ww_goto (tgt := 298) C dX6_step_294 (by decide) ?_
                  refine ww_sub (lv' := [(0, .ref (ad x0))]) [1] rfl ?_
                  exact (B_X6_step_298 C HR HL hG) x0 x0 (3 : Int32) u7.2 Tx0 Tx0 E
      · refine ww_sub (lv' := [(0, .ref (ad x0))]) [0] rfl ?_
        exact (B_X6_step_158 C HR HL hG N) x0 u7.2 Tx0 E
    · refine ww_aload_n C dX6_step_99 rfl 0 rfl ?_
      refine ww_iconst (v := 1) C dX6_step_100 (by decide) ?_
      refine ww_puti (ci := 6) (k0 := 2) C dX6_step_101 rfl rfl inm6 tyX6_ok nmX6 (by decide) Tx0 q427 rfl rfl rfl ?_
      refine ww_bd E (fun dy10 E => ?_)
      refine ww_sub (lv' := [(0, .ref (ad x0))]) [0] rfl ?_
      exact (B_X6_step_104 C HR HL hG N) x0 dy10 Tx0 E
  · refine ww_aload_n C dX6_step_76 rfl 0 rfl ?_
    refine ww_iconst (v := 0) C dX6_step_77 (by decide) ?_
    refine ww_puti (ci := 6) (k0 := 2) C dX6_step_78 rfl rfl inm6 tyX6_ok nmX6 (by decide) Tx0 q427 rfl rfl rfl ?_
    refine ww_bd E (fun dy11 E => ?_)
    refine ww_goto (tgt := 311) C dX6_step_81 (by decide) ?_
    exact ww_vret C HR HL dX6_step_311 E
set_option maxHeartbeats 4000000 in
set_option maxRecDepth 100000 in
theorem B_X6_step_0 (C : CX p s m args c cX6_step 2 RX6 G A) (HR : meth.sig.returnType = (Option.none : Option Jvm.ClassFile.FieldType)) (HL : meth.locks = false) (hG : Good S) : ∀ k : Nat, ∀ (x0 : Nat) (dy : DY), gs S x0 = (0, 6) → (F_X6_step_0 S N k) x0 dy = some dy' → WJ p l e (rmD (2)) s m args below meth c 2 G A 0 0 (MQ below (QV G ad A S dy') args s 0 0 A) ad 0 [(0, .ref (ad x0))] [] S dy := by
  intro k
  induction k with
  | zero => exact fun _ _ _ E => nomatch (show none = some dy' from E)
  | succ k ih =>
    intro x0 dy Tx0 E
    rw [F_X6_step_0_s] at E
    refine ww_aload_n C dX6_step_0 rfl 0 rfl ?_
    refine ww_geti (ci := 6) (k0 := 4) C dX6_step_1 rfl rfl inm6 (by decide) Tx0 q431 rfl ?_
    refine ww_aload_n C dX6_step_4 rfl 0 rfl ?_
    refine ww_geti (ci := 6) (k0 := 1) C dX6_step_5 rfl rfl inm6 (by decide) Tx0 q426 rfl ?_
    refine ww_icmp_ge (tgt := 52) C dX6_step_8 (by decide) E (fun _ E => ?_) (fun _ E => ?_)
    · refine ww_sub (lv' := [(0, .ref (ad x0))]) [0] rfl ?_
      exact (B_X6_step_52 C HR HL hG) x0 dy Tx0 E
    · refine ww_aload_n C dX6_step_11 rfl 0 rfl ?_
      have T_1 : gs S (gr S x0 0) = (2, 500) := hG.1 _ 6 Tx0 0 (by decide)
      refine ww_getr (ci := 6) (k0 := 0) C dX6_step_12 rfl rfl inm6 (by decide) Tx0 q425 rfl T_1 (by decide) ?_
      refine ww_aload_n C dX6_step_15 rfl 0 rfl ?_
      refine ww_geti (ci := 6) (k0 := 4) C dX6_step_16 rfl rfl inm6 (by decide) Tx0 q431 rfl ?_
      refine ww_bald C dX6_step_19 T_1 E (fun _ E => ?_)
      refine ww_bipush (v := 32) C dX6_step_20 (by decide) ?_
      refine ww_icmp_eq (tgt := 39) C dX6_step_22 (by decide) E (fun _ E => ?_) (fun _ E => ?_)
      · refine ww_sub (lv' := [(0, .ref (ad x0))]) [0] rfl ?_
        exact (B_X6_step_39 C HR HL hG ih) x0 dy Tx0 E
      · refine ww_aload_n C dX6_step_25 rfl 0 rfl ?_
        have T_2 : gs S (gr S x0 0) = (2, 500) := hG.1 _ 6 Tx0 0 (by decide)
        refine ww_getr (ci := 6) (k0 := 0) C dX6_step_26 rfl rfl inm6 (by decide) Tx0 q425 rfl T_2 (by decide) ?_
        refine ww_aload_n C dX6_step_29 rfl 0 rfl ?_
        refine ww_geti (ci := 6) (k0 := 4) C dX6_step_30 rfl rfl inm6 (by decide) Tx0 q431 rfl ?_
        refine ww_bald C dX6_step_33 T_2 E (fun _ E => ?_)
        refine ww_bipush (v := 10) C dX6_step_34 (by decide) ?_
        refine ww_icmp_ne (tgt := 52) C dX6_step_36 (by decide) E (fun _ E => ?_) (fun _ E => ?_)
        · refine ww_sub (lv' := [(0, .ref (ad x0))]) [0] rfl ?_
          exact (B_X6_step_52 C HR HL hG) x0 dy Tx0 E
        · refine ww_sub (lv' := [(0, .ref (ad x0))]) [0] rfl ?_
          exact (B_X6_step_39 C HR HL hG ih) x0 dy Tx0 E
end P_X6_step
set_option maxHeartbeats 4000000 in
set_option maxRecDepth 100000 in
theorem M_X6_step (l : Launch) (G : GG) (ad : Nat → Nat) {S : ST} (N : Nat) (hG : Good S) (a0 : Nat) (dy : DY) (T0 : gs S a0 = (0, 6)) {dy' : DY} (E : F_X6_step S N a0 dy = some dy') : MC l yX6_step cX6_step 2 (Option.none : Option Jvm.ClassFile.FieldType) (2) G ad [.ref (ad a0)] S dy (fun A => QV G ad A S dy') := by
  rw [F_X6_step_s] at E
  refine mc_of RX6 (by decide) rfl (Nat.le_of_ble_eq_true rfl) (fun p e s m args below meth c A C HR HL => ?_)
  refine ww_sub (lv' := [(0, .ref (ad a0))]) [0] rfl ?_
  refine ww_sub (lv' := [(0, .ref (ad a0))]) [0] rfl ?_
  exact (B_X6_step_0 C HR HL hG N) a0 dy T0 E
section P_X6_takesWord
variable {p : Program} {l : Launch} {e : Env} {s : State} {m : MethodId} {args : Array Value} {below : List Frame} {meth : Method} {c : Code} {G : GG} {A : Nat → Prop} {ad : Nat → Nat} {S : ST} {N : Nat} {r : Int32} {dy' : DY}
end P_X6_takesWord
set_option maxHeartbeats 4000000 in
set_option maxRecDepth 100000 in
theorem M_X6_takesWord (l : Launch) (G : GG) (ad : Nat → Nat) {S : ST} (N : Nat) (hG : Good S) (a0 : Nat) (a1 : Nat) (dy : DY) (T0 : gs S a0 = (0, 6)) (T1 : a1 < 30) {r : Int32} {dy' : DY} (E : F_X6_takesWord S N a0 a1 dy = some (r, dy')) : MC l yX6_takesWord cX6_takesWord 3 (Option.some Jvm.ClassFile.FieldType.boolean) (6) G ad [.ref (ad a0), .ref (G.2.2.1 a1)] S dy (fun A => QI G ad A S r dy') := by
  rw [F_X6_takesWord_s] at E
  refine mc_of RX6 (by decide) rfl (Nat.le_of_ble_eq_true rfl) (fun p e s m args below meth c A C HR HL => ?_)
  refine ww_sub (lv' := [(0, .ref (ad a0)), (1, .ref (G.2.2.1 a1))]) [0, 1] rfl ?_
  refine ww_aload_n C dX6_takesWord_0 rfl 0 rfl ?_
  refine ww_aload_n C dX6_takesWord_1 rfl 1 rfl ?_
  obtain ⟨u1, e_2, E⟩ := bind_of E
  refine ww_callI C (runs_V (n := 1) (st := []) C [.ref (G.2.2.1 a1)] (M_X6_isWord l G ad N hG a0 a1 dy T0 T1 e_2) ⟨q618, q114, by decide⟩ q615 q616 q617 (ci := 6) rfl T0 rfl (Nat.le_of_ble_eq_true rfl) ⟨Nat.le_of_ble_eq_true rfl, Nat.le_of_ble_eq_true rfl⟩ ⟨Nat.zero_le _, Nat.zero_le _⟩ dX6_takesWord_2 rfl) ?_
  refine ww_istore_n (lv' := [(2, .int u1.1), (0, .ref (ad a0)), (1, .ref (G.2.2.1 a1))]) C dX6_takesWord_5 rfl (by decide) rfl ?_
  refine ww_iload_n C dX6_takesWord_6 rfl 0 rfl ?_
  refine ww_if_eq (tgt := 14) C dX6_takesWord_7 (by decide) E (fun _ E => ?_) (fun _ E => ?_)
  · refine ww_iload_n C dX6_takesWord_14 rfl 0 rfl ?_
    obtain ⟨z_, E⟩ := gd_of E
    exact ww_zret C HR HL dX6_takesWord_15 z_ E
  · refine ww_aload_n C dX6_takesWord_10 rfl 1 rfl ?_
    obtain ⟨u3, e_4, E⟩ := bind_of E
    refine ww_callV C (runs_V (n := 0) (st := []) C [] (M_X6_step l G ad N hG a0 u1.2 T0 e_4) ⟨q595, q114, by decide⟩ q592 q593 q594 (ci := 6) rfl T0 rfl (Nat.le_of_ble_eq_true rfl) ⟨Nat.le_of_ble_eq_true rfl, Nat.le_of_ble_eq_true rfl⟩ ⟨Nat.zero_le _, Nat.zero_le _⟩ dX6_takesWord_11 rfl) ?_
    refine ww_iload_n C dX6_takesWord_14 rfl 0 rfl ?_
    obtain ⟨z_, E⟩ := gd_of E
    exact ww_zret C HR HL dX6_takesWord_15 z_ E
section P_X6_isSign
variable {p : Program} {l : Launch} {e : Env} {s : State} {m : MethodId} {args : Array Value} {below : List Frame} {meth : Method} {c : Code} {G : GG} {A : Nat → Prop} {ad : Nat → Nat} {S : ST} {N : Nat} {r : Int32} {dy' : DY}
end P_X6_isSign
set_option maxHeartbeats 4000000 in
set_option maxRecDepth 100000 in
theorem M_X6_isSign (l : Launch) (G : GG) (ad : Nat → Nat) {S : ST} (N : Nat) (hG : Good S) (a0 : Nat) (a1 : Int32) (dy : DY) (T0 : gs S a0 = (0, 6)) {r : Int32} {dy' : DY} (E : F_X6_isSign S N a0 a1 dy = some (r, dy')) : MC l yX6_isSign cX6_isSign 2 (Option.some Jvm.ClassFile.FieldType.boolean) (1) G ad [.ref (ad a0), .int a1] S dy (fun A => QI G ad A S r dy') := by
  rw [F_X6_isSign_s] at E
  refine mc_of RX6 (by decide) rfl (Nat.le_of_ble_eq_true rfl) (fun p e s m args below meth c A C HR HL => ?_)
  refine ww_sub (lv' := [(0, .ref (ad a0)), (1, .int a1)]) [0, 1] rfl ?_
  refine ww_aload_n C dX6_isSign_0 rfl 0 rfl ?_
  refine ww_geti (ci := 6) (k0 := 6) C dX6_isSign_1 rfl rfl inm6 (by decide) T0 q433 rfl ?_
  refine ww_iconst (v := 1) C dX6_isSign_4 (by decide) ?_
  refine ww_icmp_eq (tgt := 44) C dX6_isSign_5 (by decide) E (fun _ E => ?_) (fun _ E => ?_)
  · refine ww_iconst (v := 0) C dX6_isSign_44 (by decide) ?_
    exact ww_zret C HR HL dX6_isSign_45 (Or.inl rfl) E
  · refine ww_aload_n C dX6_isSign_8 rfl 0 rfl ?_
    refine ww_geti (ci := 6) (k0 := 2) C dX6_isSign_9 rfl rfl inm6 (by decide) T0 q427 rfl ?_
    refine ww_iconst (v := 3) C dX6_isSign_12 (by decide) ?_
    refine ww_icmp_ne (tgt := 44) C dX6_isSign_13 (by decide) E (fun _ E => ?_) (fun _ E => ?_)
    · refine ww_iconst (v := 0) C dX6_isSign_44 (by decide) ?_
      exact ww_zret C HR HL dX6_isSign_45 (Or.inl rfl) E
    · refine ww_aload_n C dX6_isSign_16 rfl 0 rfl ?_
      refine ww_geti (ci := 6) (k0 := 3) C dX6_isSign_17 rfl rfl inm6 (by decide) T0 q430 rfl ?_
      refine ww_aload_n C dX6_isSign_20 rfl 0 rfl ?_
      refine ww_geti (ci := 6) (k0 := 1) C dX6_isSign_21 rfl rfl inm6 (by decide) T0 q426 rfl ?_
      refine ww_icmp_ge (tgt := 44) C dX6_isSign_24 (by decide) E (fun _ E => ?_) (fun _ E => ?_)
      · refine ww_iconst (v := 0) C dX6_isSign_44 (by decide) ?_
        exact ww_zret C HR HL dX6_isSign_45 (Or.inl rfl) E
      · refine ww_aload_n C dX6_isSign_27 rfl 0 rfl ?_
        have T_1 : gs S (gr S a0 0) = (2, 500) := hG.1 _ 6 T0 0 (by decide)
        refine ww_getr (ci := 6) (k0 := 0) C dX6_isSign_28 rfl rfl inm6 (by decide) T0 q425 rfl T_1 (by decide) ?_
        refine ww_aload_n C dX6_isSign_31 rfl 0 rfl ?_
        refine ww_geti (ci := 6) (k0 := 3) C dX6_isSign_32 rfl rfl inm6 (by decide) T0 q430 rfl ?_
        refine ww_bald C dX6_isSign_35 T_1 E (fun _ E => ?_)
        refine ww_iload_n C dX6_isSign_36 rfl 1 rfl ?_
        refine ww_icmp_ne (tgt := 44) C dX6_isSign_37 (by decide) E (fun _ E => ?_) (fun _ E => ?_)
        · refine ww_iconst (v := 0) C dX6_isSign_44 (by decide) ?_
          exact ww_zret C HR HL dX6_isSign_45 (Or.inl rfl) E
        · refine ww_iconst (v := 1) C dX6_isSign_40 (by decide) ?_
          refine ww_goto (tgt := 45) C dX6_isSign_41 (by decide) ?_
          exact ww_zret C HR HL dX6_isSign_45 (Or.inr rfl) E
section P_X6_needSign
variable {p : Program} {l : Launch} {e : Env} {s : State} {m : MethodId} {args : Array Value} {below : List Frame} {meth : Method} {c : Code} {G : GG} {A : Nat → Prop} {ad : Nat → Nat} {S : ST} {N : Nat} {dy' : DY}
end P_X6_needSign
set_option maxHeartbeats 4000000 in
set_option maxRecDepth 100000 in
theorem M_X6_needSign (l : Launch) (G : GG) (ad : Nat → Nat) {S : ST} (N : Nat) (hG : Good S) (a0 : Nat) (a1 : Int32) (dy : DY) (T0 : gs S a0 = (0, 6)) {dy' : DY} (E : F_X6_needSign S N a0 a1 dy = some dy') : MC l yX6_needSign cX6_needSign 2 (Option.none : Option Jvm.ClassFile.FieldType) (3) G ad [.ref (ad a0), .int a1] S dy (fun A => QV G ad A S dy') := by
  rw [F_X6_needSign_s] at E
  refine mc_of RX6 (by decide) rfl (Nat.le_of_ble_eq_true rfl) (fun p e s m args below meth c A C HR HL => ?_)
  refine ww_sub (lv' := [(0, .ref (ad a0)), (1, .int a1)]) [0, 1] rfl ?_
  refine ww_aload_n C dX6_needSign_0 rfl 0 rfl ?_
  refine ww_iload_n C dX6_needSign_1 rfl 1 rfl ?_
  obtain ⟨u1, e_2, E⟩ := bind_of E
  refine ww_callI C (runs_V (n := 1) (st := []) C [.int a1] (M_X6_isSign l G ad N hG a0 a1 dy T0 e_2) ⟨q690, q114, by decide⟩ q687 q688 q689 (ci := 6) rfl T0 rfl (Nat.le_of_ble_eq_true rfl) ⟨Nat.le_of_ble_eq_true rfl, Nat.le_of_ble_eq_true rfl⟩ ⟨Nat.zero_le _, Nat.zero_le _⟩ dX6_needSign_2 rfl) ?_
  refine ww_if_eq (tgt := 15) C dX6_needSign_5 (by decide) E (fun _ E => ?_) (fun _ E => ?_)
  · refine ww_aload_n C dX6_needSign_15 rfl 0 rfl ?_
    obtain ⟨u3, e_4, E⟩ := bind_of E
    refine ww_callV C (runs_V (n := 0) (st := []) C [] (M_X6_breakOff l G ad N hG a0 u1.2 T0 e_4) ⟨q670, q114, by decide⟩ q667 q668 q669 (ci := 6) rfl T0 rfl (Nat.le_of_ble_eq_true rfl) ⟨Nat.le_of_ble_eq_true rfl, Nat.le_of_ble_eq_true rfl⟩ ⟨Nat.zero_le _, Nat.zero_le _⟩ dX6_needSign_16 rfl) ?_
    exact ww_vret C HR HL dX6_needSign_19 E
  · refine ww_aload_n C dX6_needSign_8 rfl 0 rfl ?_
    obtain ⟨u5, e_6, E⟩ := bind_of E
    refine ww_callV C (runs_V (n := 0) (st := []) C [] (M_X6_step l G ad N hG a0 u1.2 T0 e_6) ⟨q595, q114, by decide⟩ q592 q593 q594 (ci := 6) rfl T0 rfl (Nat.le_of_ble_eq_true rfl) ⟨Nat.le_of_ble_eq_true rfl, Nat.le_of_ble_eq_true rfl⟩ ⟨Nat.zero_le _, Nat.zero_le _⟩ dX6_needSign_9 rfl) ?_
    refine ww_goto (tgt := 19) C dX6_needSign_12 (by decide) ?_
    exact ww_vret C HR HL dX6_needSign_19 E
section P_X6_isSound
variable {p : Program} {l : Launch} {e : Env} {s : State} {m : MethodId} {args : Array Value} {below : List Frame} {meth : Method} {c : Code} {G : GG} {A : Nat → Prop} {ad : Nat → Nat} {S : ST} {N : Nat} {r : Int32} {dy' : DY}
end P_X6_isSound
set_option maxHeartbeats 4000000 in
set_option maxRecDepth 100000 in
theorem M_X6_isSound (l : Launch) (G : GG) (ad : Nat → Nat) {S : ST} (N : Nat) (hG : Good S) (a0 : Nat) (dy : DY) (T0 : gs S a0 = (0, 6)) {r : Int32} {dy' : DY} (E : F_X6_isSound S N a0 dy = some (r, dy')) : MC l yX6_isSound cX6_isSound 1 (Option.some Jvm.ClassFile.FieldType.boolean) (1) G ad [.ref (ad a0)] S dy (fun A => QI G ad A S r dy') := by
  rw [F_X6_isSound_s] at E
  refine mc_of RX6 (by decide) rfl (Nat.le_of_ble_eq_true rfl) (fun p e s m args below meth c A C HR HL => ?_)
  refine ww_sub (lv' := [(0, .ref (ad a0))]) [0] rfl ?_
  refine ww_aload_n C dX6_isSound_0 rfl 0 rfl ?_
  refine ww_geti (ci := 6) (k0 := 6) C dX6_isSound_1 rfl rfl inm6 (by decide) T0 q433 rfl ?_
  refine ww_if_ne (tgt := 11) C dX6_isSound_4 (by decide) E (fun _ E => ?_) (fun _ E => ?_)
  · refine ww_iconst (v := 0) C dX6_isSound_11 (by decide) ?_
    exact ww_zret C HR HL dX6_isSound_12 (Or.inl rfl) E
  · refine ww_iconst (v := 1) C dX6_isSound_7 (by decide) ?_
    refine ww_goto (tgt := 12) C dX6_isSound_8 (by decide) ?_
    exact ww_zret C HR HL dX6_isSound_12 (Or.inr rfl) E
section P_X6_needNumber
variable {p : Program} {l : Launch} {e : Env} {s : State} {m : MethodId} {args : Array Value} {below : List Frame} {meth : Method} {c : Code} {G : GG} {A : Nat → Prop} {ad : Nat → Nat} {S : ST} {N : Nat} {r : Int32} {dy' : DY}
set_option maxHeartbeats 4000000 in
set_option maxRecDepth 100000 in
theorem B_X6_needNumber_16 (C : CX p s m args c cX6_needNumber 2 RX6 G A) (HR : meth.sig.returnType = (Option.some Jvm.ClassFile.FieldType.int)) (HL : meth.locks = false) (hG : Good S) : ∀ (x0 : Nat) (dy : DY), gs S x0 = (0, 6) → F_X6_needNumber_16 S N x0 dy = some (r, dy') → WJ p l e (rmD (3)) s m args below meth c 2 G A 0 0 (MQ below (QI G ad A S r dy') args s 0 0 A) ad 16 [(0, .ref (ad x0))] [] S dy := by
  intro x0 dy Tx0 E
  rw [F_X6_needNumber_16_s] at E
  refine ww_aload_n C dX6_needNumber_16 rfl 0 rfl ?_
  obtain ⟨u1, e_2, E⟩ := bind_of E
  refine ww_callV C (runs_V (n := 0) (st := []) C [] (M_X6_breakOff l G ad N hG x0 dy Tx0 e_2) ⟨q670, q114, by decide⟩ q667 q668 q669 (ci := 6) rfl Tx0 rfl (Nat.le_of_ble_eq_true rfl) ⟨Nat.le_of_ble_eq_true rfl, Nat.le_of_ble_eq_true rfl⟩ ⟨Nat.zero_le _, Nat.zero_le _⟩ dX6_needNumber_17 rfl) ?_
  refine ww_iconst (v := 0) C dX6_needNumber_20 (by decide) ?_
  exact ww_iret C HR HL dX6_needNumber_21 E
end P_X6_needNumber
set_option maxHeartbeats 4000000 in
set_option maxRecDepth 100000 in
theorem M_X6_needNumber (l : Launch) (G : GG) (ad : Nat → Nat) {S : ST} (N : Nat) (hG : Good S) (a0 : Nat) (dy : DY) (T0 : gs S a0 = (0, 6)) {r : Int32} {dy' : DY} (E : F_X6_needNumber S N a0 dy = some (r, dy')) : MC l yX6_needNumber cX6_needNumber 2 (Option.some Jvm.ClassFile.FieldType.int) (3) G ad [.ref (ad a0)] S dy (fun A => QI G ad A S r dy') := by
  rw [F_X6_needNumber_s] at E
  refine mc_of RX6 (by decide) rfl (Nat.le_of_ble_eq_true rfl) (fun p e s m args below meth c A C HR HL => ?_)
  refine ww_sub (lv' := [(0, .ref (ad a0))]) [0] rfl ?_
  refine ww_aload_n C dX6_needNumber_0 rfl 0 rfl ?_
  refine ww_geti (ci := 6) (k0 := 6) C dX6_needNumber_1 rfl rfl inm6 (by decide) T0 q433 rfl ?_
  refine ww_iconst (v := 1) C dX6_needNumber_4 (by decide) ?_
  refine ww_icmp_eq (tgt := 16) C dX6_needNumber_5 (by decide) E (fun _ E => ?_) (fun _ E => ?_)
  · refine ww_sub (lv' := [(0, .ref (ad a0))]) [0] rfl ?_
    exact (B_X6_needNumber_16 C HR HL hG) a0 dy T0 E
  · refine ww_aload_n C dX6_needNumber_8 rfl 0 rfl ?_
    refine ww_geti (ci := 6) (k0 := 2) C dX6_needNumber_9 rfl rfl inm6 (by decide) T0 q427 rfl ?_
    refine ww_iconst (v := 2) C dX6_needNumber_12 (by decide) ?_
    refine ww_icmp_eq (tgt := 22) C dX6_needNumber_13 (by decide) E (fun _ E => ?_) (fun _ E => ?_)
    · refine ww_aload_n C dX6_needNumber_22 rfl 0 rfl ?_
      refine ww_geti (ci := 6) (k0 := 5) C dX6_needNumber_23 rfl rfl inm6 (by decide) T0 q432 rfl ?_
      refine ww_istore_n (lv' := [(1, .int (gi dy a0 5)), (0, .ref (ad a0))]) C dX6_needNumber_26 rfl (by decide) rfl ?_
      refine ww_aload_n C dX6_needNumber_27 rfl 1 rfl ?_
      obtain ⟨u1, e_2, E⟩ := bind_of E
      refine ww_callV C (runs_V (n := 0) (st := []) C [] (M_X6_step l G ad N hG a0 dy T0 e_2) ⟨q595, q114, by decide⟩ q592 q593 q594 (ci := 6) rfl T0 rfl (Nat.le_of_ble_eq_true rfl) ⟨Nat.le_of_ble_eq_true rfl, Nat.le_of_ble_eq_true rfl⟩ ⟨Nat.zero_le _, Nat.zero_le _⟩ dX6_needNumber_28 rfl) ?_
      refine ww_iload_n C dX6_needNumber_31 rfl 0 rfl ?_
      exact ww_iret C HR HL dX6_needNumber_32 E
    · refine ww_sub (lv' := [(0, .ref (ad a0))]) [0] rfl ?_
      exact (B_X6_needNumber_16 C HR HL hG) a0 dy T0 E
section P_X6_note
variable {p : Program} {l : Launch} {e : Env} {s : State} {m : MethodId} {args : Array Value} {below : List Frame} {meth : Method} {c : Code} {G : GG} {A : Nat → Prop} {ad : Nat → Nat} {S : ST} {N : Nat} {dy' : DY}
end P_X6_note
set_option maxHeartbeats 4000000 in
set_option maxRecDepth 100000 in
theorem M_X6_note (l : Launch) (G : GG) (ad : Nat → Nat) {S : ST} (N : Nat) (hG : Good S) (a0 : Nat) (a1 : Int32) (a2 : Int32) (dy : DY) (T0 : gs S a0 = (0, 6)) {dy' : DY} (E : F_X6_note S N a0 a1 a2 dy = some dy') : MC l yX6_note cX6_note 3 (Option.none : Option Jvm.ClassFile.FieldType) (1) G ad [.ref (ad a0), .int a1, .int a2] S dy (fun A => QV G ad A S dy') := by
  rw [F_X6_note_s] at E
  refine mc_of RX6 (by decide) rfl (Nat.le_of_ble_eq_true rfl) (fun p e s m args below meth c A C HR HL => ?_)
  refine ww_sub (lv' := [(0, .ref (ad a0)), (1, .int a1), (2, .int a2)]) [0, 1, 2] rfl ?_
  refine ww_aload_n C dX6_note_0 rfl 0 rfl ?_
  refine ww_geti (ci := 6) (k0 := 6) C dX6_note_1 rfl rfl inm6 (by decide) T0 q433 rfl ?_
  refine ww_if_ne (tgt := 17) C dX6_note_4 (by decide) E (fun _ E => ?_) (fun _ E => ?_)
  · exact ww_vret C HR HL dX6_note_17 E
  · refine ww_aload_n C dX6_note_7 rfl 0 rfl ?_
    refine ww_iload_n C dX6_note_8 rfl 1 rfl ?_
    refine ww_puti (ci := 6) (k0 := 6) C dX6_note_9 rfl rfl inm6 tyX6_ok nmX6 (by decide) T0 q433 rfl rfl rfl ?_
    refine ww_bd E (fun dy1 E => ?_)
    refine ww_aload_n C dX6_note_12 rfl 0 rfl ?_
    refine ww_iload_n C dX6_note_13 rfl 2 rfl ?_
    refine ww_puti (ci := 6) (k0 := 7) C dX6_note_14 rfl rfl inm6 tyX6_ok nmX6 (by decide) T0 q435 rfl rfl rfl ?_
    refine ww_bd E (fun dy2 E => ?_)
    exact ww_vret C HR HL dX6_note_17 E
section P_X6_goesOn
variable {p : Program} {l : Launch} {e : Env} {s : State} {m : MethodId} {args : Array Value} {below : List Frame} {meth : Method} {c : Code} {G : GG} {A : Nat → Prop} {ad : Nat → Nat} {S : ST} {N : Nat} {r : Int32} {dy' : DY}
end P_X6_goesOn
set_option maxHeartbeats 4000000 in
set_option maxRecDepth 100000 in
theorem M_X6_goesOn (l : Launch) (G : GG) (ad : Nat → Nat) {S : ST} (N : Nat) (hG : Good S) (a0 : Nat) (dy : DY) (T0 : gs S a0 = (0, 6)) {r : Int32} {dy' : DY} (E : F_X6_goesOn S N a0 dy = some (r, dy')) : MC l yX6_goesOn cX6_goesOn 1 (Option.some Jvm.ClassFile.FieldType.boolean) (1) G ad [.ref (ad a0)] S dy (fun A => QI G ad A S r dy') := by
  rw [F_X6_goesOn_s] at E
  refine mc_of RX6 (by decide) rfl (Nat.le_of_ble_eq_true rfl) (fun p e s m args below meth c A C HR HL => ?_)
  refine ww_sub (lv' := [(0, .ref (ad a0))]) [0] rfl ?_
  refine ww_aload_n C dX6_goesOn_0 rfl 0 rfl ?_
  refine ww_geti (ci := 6) (k0 := 6) C dX6_goesOn_1 rfl rfl inm6 (by decide) T0 q433 rfl ?_
  refine ww_iconst (v := 1) C dX6_goesOn_4 (by decide) ?_
  refine ww_icmp_eq (tgt := 19) C dX6_goesOn_5 (by decide) E (fun _ E => ?_) (fun _ E => ?_)
  · refine ww_iconst (v := 0) C dX6_goesOn_19 (by decide) ?_
    exact ww_zret C HR HL dX6_goesOn_20 (Or.inl rfl) E
  · refine ww_aload_n C dX6_goesOn_8 rfl 0 rfl ?_
    refine ww_geti (ci := 6) (k0 := 2) C dX6_goesOn_9 rfl rfl inm6 (by decide) T0 q427 rfl ?_
    refine ww_if_eq (tgt := 19) C dX6_goesOn_12 (by decide) E (fun _ E => ?_) (fun _ E => ?_)
    · refine ww_iconst (v := 0) C dX6_goesOn_19 (by decide) ?_
      exact ww_zret C HR HL dX6_goesOn_20 (Or.inl rfl) E
    · refine ww_iconst (v := 1) C dX6_goesOn_15 (by decide) ?_
      refine ww_goto (tgt := 20) C dX6_goesOn_16 (by decide) ?_
      exact ww_zret C HR HL dX6_goesOn_20 (Or.inr rfl) E
section P_X6_open
variable {p : Program} {l : Launch} {e : Env} {s : State} {m : MethodId} {args : Array Value} {below : List Frame} {meth : Method} {c : Code} {G : GG} {A : Nat → Prop} {ad : Nat → Nat} {S : ST} {N : Nat} {dy' : DY}
end P_X6_open
set_option maxHeartbeats 4000000 in
set_option maxRecDepth 100000 in
theorem M_X6_open (l : Launch) (G : GG) (ad : Nat → Nat) {S : ST} (N : Nat) (hG : Good S) (a0 : Nat) (a1 : Int32) (dy : DY) (T0 : gs S a0 = (0, 6)) {dy' : DY} (E : F_X6_open S N a0 a1 dy = some dy') : MC l yX6_open cX6_open 2 (Option.none : Option Jvm.ClassFile.FieldType) (3) G ad [.ref (ad a0), .int a1] S dy (fun A => QV G ad A S dy') := by
  rw [F_X6_open_s] at E
  refine mc_of RX6 (by decide) rfl (Nat.le_of_ble_eq_true rfl) (fun p e s m args below meth c A C HR HL => ?_)
  refine ww_sub (lv' := [(0, .ref (ad a0)), (1, .int a1)]) [0, 1] rfl ?_
  refine ww_aload_n C dX6_open_0 rfl 0 rfl ?_
  refine ww_iconst (v := 0) C dX6_open_1 (by decide) ?_
  refine ww_iload_n C dX6_open_2 rfl 1 rfl ?_
  refine ww_aload_n C dX6_open_3 rfl 0 rfl ?_
  have T_1 : gs S (gr S a0 0) = (2, 500) := hG.1 _ 6 T0 0 (by decide)
  refine ww_getr (ci := 6) (k0 := 0) C dX6_open_4 rfl rfl inm6 (by decide) T0 q425 rfl T_1 (by decide) ?_
  refine ww_alen (v := (500 : Int32)) C dX6_open_7 T_1 (by decide) (by decide) rfl (by decide) ?_
  refine ww_mmin C dX6_open_8 q586 q587 q119 q588 (Nat.le_of_ble_eq_true rfl) (Nat.le_of_ble_eq_true rfl) (Nat.le_of_ble_eq_true rfl) (Nat.zero_le _) (Nat.zero_le _) ?_
  refine ww_mmax C dX6_open_11 q589 q590 q119 q591 (Nat.le_of_ble_eq_true rfl) (Nat.le_of_ble_eq_true rfl) (Nat.le_of_ble_eq_true rfl) (Nat.zero_le _) (Nat.zero_le _) ?_
  refine ww_puti (ci := 6) (k0 := 1) C dX6_open_14 rfl rfl inm6 tyX6_ok nmX6 (by decide) T0 q426 rfl rfl rfl ?_
  refine ww_bd E (fun dy2 E => ?_)
  refine ww_aload_n C dX6_open_17 rfl 0 rfl ?_
  refine ww_iconst (v := 0) C dX6_open_18 (by decide) ?_
  refine ww_puti (ci := 6) (k0 := 4) C dX6_open_19 rfl rfl inm6 tyX6_ok nmX6 (by decide) T0 q431 rfl rfl rfl ?_
  refine ww_bd E (fun dy3 E => ?_)
  refine ww_aload_n C dX6_open_22 rfl 0 rfl ?_
  refine ww_iconst (v := 0) C dX6_open_23 (by decide) ?_
  refine ww_puti (ci := 6) (k0 := 6) C dX6_open_24 rfl rfl inm6 tyX6_ok nmX6 (by decide) T0 q433 rfl rfl rfl ?_
  refine ww_bd E (fun dy4 E => ?_)
  refine ww_aload_n C dX6_open_27 rfl 0 rfl ?_
  refine ww_iconst (v := (-1)) C dX6_open_28 (by decide) ?_
  refine ww_puti (ci := 6) (k0 := 7) C dX6_open_29 rfl rfl inm6 tyX6_ok nmX6 (by decide) T0 q435 rfl rfl rfl ?_
  refine ww_bd E (fun dy5 E => ?_)
  refine ww_aload_n C dX6_open_32 rfl 0 rfl ?_
  obtain ⟨u6, e_7, E⟩ := bind_of E
  refine ww_callV C (runs_V (n := 0) (st := []) C [] (M_X6_step l G ad N hG a0 dy5 T0 e_7) ⟨q595, q114, by decide⟩ q592 q593 q594 (ci := 6) rfl T0 rfl (Nat.le_of_ble_eq_true rfl) ⟨Nat.le_of_ble_eq_true rfl, Nat.le_of_ble_eq_true rfl⟩ ⟨Nat.zero_le _, Nat.zero_le _⟩ dX6_open_33 rfl) ?_
  exact ww_vret C HR HL dX6_open_36 E
section P_X6_needNumber_
variable {p : Program} {l : Launch} {e : Env} {s : State} {m : MethodId} {args : Array Value} {below : List Frame} {meth : Method} {c : Code} {G : GG} {A : Nat → Prop} {ad : Nat → Nat} {S : ST} {N : Nat} {r : Int32} {dy' : DY}
set_option maxHeartbeats 4000000 in
set_option maxRecDepth 100000 in
theorem B_X6_needNumber__23 (C : CX p s m args c cX6_needNumber_ 5 RX6 G A) (HR : meth.sig.returnType = (Option.some Jvm.ClassFile.FieldType.int)) (HL : meth.locks = false) (hG : Good S) : ∀ (x0 : Nat) (x3 : Int32) (x4 : Int32) (dy : DY), gs S x0 = (0, 6) → F_X6_needNumber__23 S N x0 x3 x4 dy = some (r, dy') → WJ p l e (rmD (4)) s m args below meth c 5 G A 0 0 (MQ below (QI G ad A S r dy') args s 0 0 A) ad 23 [(0, .ref (ad x0)), (3, .int x3), (4, .int x4)] [] S dy := by
  intro x0 x3 x4 dy Tx0 E
  rw [F_X6_needNumber__23_s] at E
  refine ww_aload_n C dX6_needNumber__23 rfl 0 rfl ?_
  refine ww_iconst (v := 2) C dX6_needNumber__24 (by decide) ?_
  refine ww_iload_n C dX6_needNumber__25 rfl 1 rfl ?_
  obtain ⟨u1, e_2, E⟩ := bind_of E
  refine ww_callV C (runs_V (n := 2) (st := []) C [.int (2 : Int32), .int x3] (M_X6_note l G ad N hG x0 (2 : Int32) x3 dy Tx0 e_2) ⟨q682, q114, by decide⟩ q679 q680 q681 (ci := 6) rfl Tx0 rfl (Nat.le_of_ble_eq_true rfl) ⟨Nat.le_of_ble_eq_true rfl, Nat.le_of_ble_eq_true rfl⟩ ⟨Nat.zero_le _, Nat.zero_le _⟩ dX6_needNumber__26 rfl) ?_
  refine ww_iload C dX6_needNumber__29 2 rfl ?_
  exact ww_iret C HR HL dX6_needNumber__31 E
end P_X6_needNumber_
set_option maxHeartbeats 4000000 in
set_option maxRecDepth 100000 in
theorem M_X6_needNumber_ (l : Launch) (G : GG) (ad : Nat → Nat) {S : ST} (N : Nat) (hG : Good S) (a0 : Nat) (a1 : Int32) (a2 : Int32) (dy : DY) (T0 : gs S a0 = (0, 6)) {r : Int32} {dy' : DY} (E : F_X6_needNumber_ S N a0 a1 a2 dy = some (r, dy')) : MC l yX6_needNumber_ cX6_needNumber_ 5 (Option.some Jvm.ClassFile.FieldType.int) (4) G ad [.ref (ad a0), .int a1, .int a2] S dy (fun A => QI G ad A S r dy') := by
  rw [F_X6_needNumber__s] at E
  refine mc_of RX6 (by decide) rfl (Nat.le_of_ble_eq_true rfl) (fun p e s m args below meth c A C HR HL => ?_)
  refine ww_sub (lv' := [(0, .ref (ad a0)), (1, .int a1), (2, .int a2)]) [0, 1, 2] rfl ?_
  refine ww_aload_n C dX6_needNumber__0 rfl 0 rfl ?_
  refine ww_geti (ci := 6) (k0 := 3) C dX6_needNumber__1 rfl rfl inm6 (by decide) T0 q430 rfl ?_
  refine ww_istore_n (lv' := [(3, .int (gi dy a0 3)), (0, .ref (ad a0)), (1, .int a1), (2, .int a2)]) C dX6_needNumber__4 rfl (by decide) rfl ?_
  refine ww_aload_n C dX6_needNumber__5 rfl 1 rfl ?_
  obtain ⟨u1, e_2, E⟩ := bind_of E
  refine ww_callI C (runs_V (n := 0) (st := []) C [] (M_X6_needNumber l G ad N hG a0 dy T0 e_2) ⟨q678, q114, by decide⟩ q675 q676 q677 (ci := 6) rfl T0 rfl (Nat.le_of_ble_eq_true rfl) ⟨Nat.le_of_ble_eq_true rfl, Nat.le_of_ble_eq_true rfl⟩ ⟨Nat.zero_le _, Nat.zero_le _⟩ dX6_needNumber__6 rfl) ?_
  refine ww_istore (lv' := [(4, .int u1.1), (3, .int (gi dy a0 3)), (0, .ref (ad a0)), (1, .int a1), (2, .int a2)]) C dX6_needNumber__9 (by decide) rfl ?_
  refine ww_iload C dX6_needNumber__11 0 rfl ?_
  refine ww_iload_n C dX6_needNumber__13 rfl 3 rfl ?_
  refine ww_icmp_lt (tgt := 23) C dX6_needNumber__14 (by decide) E (fun _ E => ?_) (fun _ E => ?_)
  · refine ww_sub (lv' := [(0, .ref (ad a0)), (3, .int (gi dy a0 3)), (4, .int u1.1)]) [2, 1, 0] rfl ?_
    exact (B_X6_needNumber__23 C HR HL hG) a0 (gi dy a0 3) u1.1 u1.2 T0 E
  · refine ww_iload C dX6_needNumber__17 0 rfl ?_
    refine ww_iload_n C dX6_needNumber__19 rfl 4 rfl ?_
    refine ww_icmp_le (tgt := 29) C dX6_needNumber__20 (by decide) E (fun _ E => ?_) (fun _ E => ?_)
    · refine ww_iload C dX6_needNumber__29 0 rfl ?_
      exact ww_iret C HR HL dX6_needNumber__31 E
    · refine ww_sub (lv' := [(0, .ref (ad a0)), (3, .int (gi dy a0 3)), (4, .int u1.1)]) [2, 1, 0] rfl ?_
      exact (B_X6_needNumber__23 C HR HL hG) a0 (gi dy a0 3) u1.1 u1.2 T0 E
section P_X6_needWord
variable {p : Program} {l : Launch} {e : Env} {s : State} {m : MethodId} {args : Array Value} {below : List Frame} {meth : Method} {c : Code} {G : GG} {A : Nat → Prop} {ad : Nat → Nat} {S : ST} {N : Nat} {dy' : DY}
end P_X6_needWord
set_option maxHeartbeats 4000000 in
set_option maxRecDepth 100000 in
theorem M_X6_needWord (l : Launch) (G : GG) (ad : Nat → Nat) {S : ST} (N : Nat) (hG : Good S) (a0 : Nat) (a1 : Nat) (dy : DY) (T0 : gs S a0 = (0, 6)) (T1 : a1 < 30) {dy' : DY} (E : F_X6_needWord S N a0 a1 dy = some dy') : MC l yX6_needWord cX6_needWord 2 (Option.none : Option Jvm.ClassFile.FieldType) (7) G ad [.ref (ad a0), .ref (G.2.2.1 a1)] S dy (fun A => QV G ad A S dy') := by
  rw [F_X6_needWord_s] at E
  refine mc_of RX6 (by decide) rfl (Nat.le_of_ble_eq_true rfl) (fun p e s m args below meth c A C HR HL => ?_)
  refine ww_sub (lv' := [(0, .ref (ad a0)), (1, .ref (G.2.2.1 a1))]) [0, 1] rfl ?_
  refine ww_aload_n C dX6_needWord_0 rfl 0 rfl ?_
  refine ww_aload_n C dX6_needWord_1 rfl 1 rfl ?_
  obtain ⟨u1, e_2, E⟩ := bind_of E
  refine ww_callI C (runs_V (n := 1) (st := []) C [.ref (G.2.2.1 a1)] (M_X6_takesWord l G ad N hG a0 a1 dy T0 T1 e_2) ⟨q614, q114, by decide⟩ q611 q612 q613 (ci := 6) rfl T0 rfl (Nat.le_of_ble_eq_true rfl) ⟨Nat.le_of_ble_eq_true rfl, Nat.le_of_ble_eq_true rfl⟩ ⟨Nat.zero_le _, Nat.zero_le _⟩ dX6_needWord_2 rfl) ?_
  refine ww_if_ne (tgt := 12) C dX6_needWord_5 (by decide) E (fun _ E => ?_) (fun _ E => ?_)
  · exact ww_vret C HR HL dX6_needWord_12 E
  · refine ww_aload_n C dX6_needWord_8 rfl 0 rfl ?_
    obtain ⟨u3, e_4, E⟩ := bind_of E
    refine ww_callV C (runs_V (n := 0) (st := []) C [] (M_X6_breakOff l G ad N hG a0 u1.2 T0 e_4) ⟨q670, q114, by decide⟩ q667 q668 q669 (ci := 6) rfl T0 rfl (Nat.le_of_ble_eq_true rfl) ⟨Nat.le_of_ble_eq_true rfl, Nat.le_of_ble_eq_true rfl⟩ ⟨Nat.zero_le _, Nat.zero_le _⟩ dX6_needWord_9 rfl) ?_
    exact ww_vret C HR HL dX6_needWord_12 E
