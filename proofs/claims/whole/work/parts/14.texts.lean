noncomputable def F_X3_deedWord (S : ST) (N : Nat) (a0 : Int32) (dy : DY) : Option (Nat × DY) := (if a0 = (0 : Int32) then some (26, dy) else if a0 = (1 : Int32) then some (17, dy) else if a0 = (2 : Int32) then some (18, dy) else if a0 = (3 : Int32) then some (27, dy) else if a0 = (4 : Int32) then some (28, dy) else some (29, dy))
theorem F_X3_deedWord_s (S : ST) (N : Nat) (a0 : Int32) (dy : DY) : F_X3_deedWord S N a0 dy = (if a0 = (0 : Int32) then some (26, dy) else if a0 = (1 : Int32) then some (17, dy) else if a0 = (2 : Int32) then some (18, dy) else if a0 = (3 : Int32) then some (27, dy) else if a0 = (4 : Int32) then some (28, dy) else some (29, dy)) := rfl
noncomputable def F_X3_findWord (S : ST) (N : Nat) (a0 : Int32) (dy : DY) : Option (Nat × DY) := (if a0 = (0 : Int32) then some (14, dy) else if a0 = (1 : Int32) then some (15, dy) else if a0 = (2 : Int32) then some (16, dy) else if a0 = (3 : Int32) then some (17, dy) else if a0 = (4 : Int32) then some (18, dy) else if a0 = (5 : Int32) then some (19, dy) else if a0 = (6 : Int32) then some (20, dy) else if a0 = (7 : Int32) then some (21, dy) else if a0 = (8 : Int32) then some (22, dy) else if a0 = (9 : Int32) then some (23, dy) else some (24, dy))
theorem F_X3_findWord_s (S : ST) (N : Nat) (a0 : Int32) (dy : DY) : F_X3_findWord S N a0 dy = (if a0 = (0 : Int32) then some (14, dy) else if a0 = (1 : Int32) then some (15, dy) else if a0 = (2 : Int32) then some (16, dy) else if a0 = (3 : Int32) then some (17, dy) else if a0 = (4 : Int32) then some (18, dy) else if a0 = (5 : Int32) then some (19, dy) else if a0 = (6 : Int32) then some (20, dy) else if a0 = (7 : Int32) then some (21, dy) else if a0 = (8 : Int32) then some (22, dy) else if a0 = (9 : Int32) then some (23, dy) else some (24, dy)) := rfl
noncomputable def F_X3_readDeed_2 (S : ST) (N : Nat) : Nat → Nat → Int32 → DY → Option (Int32 × DY) := fun k => Nat.rec (motive := fun _ => Nat → Int32 → DY → Option (Int32 × DY)) (fun _ _ _ => none) (fun _ ih x0 x1 dy => (if (6 : Int32) ≤ x1 then (F_X6_breakOff S N (gr S x0 0) dy).bind fun u2 => some ((5 : Int32), u2) else (F_X3_deedWord S N x1 dy).bind fun u5 => if u5.1 < 30 then (F_X6_takesWord S N (gr S x0 0) u5.1 u5.2).bind fun u8 => (if u8.1 = 0 then ih x0 (x1 + (1 : Int32)) u8.2 else some (x1, u8.2)) else none)) k
theorem F_X3_readDeed_2_s (S : ST) (N : Nat) (k : Nat) (x0 : Nat) (x1 : Int32) (dy : DY) : F_X3_readDeed_2 S N (k + 1) x0 x1 dy = (if (6 : Int32) ≤ x1 then (F_X6_breakOff S N (gr S x0 0) dy).bind fun u2 => some ((5 : Int32), u2) else (F_X3_deedWord S N x1 dy).bind fun u5 => if u5.1 < 30 then (F_X6_takesWord S N (gr S x0 0) u5.1 u5.2).bind fun u8 => (if u8.1 = 0 then (F_X3_readDeed_2 S N k) x0 (x1 + (1 : Int32)) u8.2 else some (x1, u8.2)) else none) := rfl
noncomputable def F_X3_readDeed (S : ST) (N : Nat) (a0 : Nat) (dy : DY) : Option (Int32 × DY) := (F_X3_readDeed_2 S N N) a0 (0 : Int32) dy
theorem F_X3_readDeed_s (S : ST) (N : Nat) (a0 : Nat) (dy : DY) : F_X3_readDeed S N a0 dy = ((F_X3_readDeed_2 S N N) a0 (0 : Int32) dy) := rfl
noncomputable def F_X3_readFind_2 (S : ST) (N : Nat) : Nat → Nat → Int32 → DY → Option (Int32 × DY) := fun k => Nat.rec (motive := fun _ => Nat → Int32 → DY → Option (Int32 × DY)) (fun _ _ _ => none) (fun _ ih x0 x1 dy => (if (11 : Int32) ≤ x1 then (F_X6_breakOff S N (gr S x0 0) dy).bind fun u2 => some ((0 : Int32), u2) else (F_X3_findWord S N x1 dy).bind fun u5 => if u5.1 < 30 then (F_X6_takesWord S N (gr S x0 0) u5.1 u5.2).bind fun u8 => (if u8.1 = 0 then ih x0 (x1 + (1 : Int32)) u8.2 else some (x1, u8.2)) else none)) k
theorem F_X3_readFind_2_s (S : ST) (N : Nat) (k : Nat) (x0 : Nat) (x1 : Int32) (dy : DY) : F_X3_readFind_2 S N (k + 1) x0 x1 dy = (if (11 : Int32) ≤ x1 then (F_X6_breakOff S N (gr S x0 0) dy).bind fun u2 => some ((0 : Int32), u2) else (F_X3_findWord S N x1 dy).bind fun u5 => if u5.1 < 30 then (F_X6_takesWord S N (gr S x0 0) u5.1 u5.2).bind fun u8 => (if u8.1 = 0 then (F_X3_readFind_2 S N k) x0 (x1 + (1 : Int32)) u8.2 else some (x1, u8.2)) else none) := rfl
noncomputable def F_X3_readFind (S : ST) (N : Nat) (a0 : Nat) (dy : DY) : Option (Int32 × DY) := (F_X3_readFind_2 S N N) a0 (0 : Int32) dy
theorem F_X3_readFind_s (S : ST) (N : Nat) (a0 : Nat) (dy : DY) : F_X3_readFind S N a0 dy = ((F_X3_readFind_2 S N N) a0 (0 : Int32) dy) := rfl
noncomputable def F_X3_readSign (S : ST) (N : Nat) (a0 : Nat) (dy : DY) : Option (Int32 × DY) := (F_X6_isSign S N (gr S a0 0) (60 : Int32) dy).bind fun u2 => (if u2.1 = 0 then (F_X6_isSign S N (gr S a0 0) (62 : Int32) u2.2).bind fun u5 => (if u5.1 = 0 then (F_X6_needSign S N (gr S a0 0) (61 : Int32) u5.2).bind fun u8 => some ((2 : Int32), u8) else (F_X6_step S N (gr S a0 0) u5.2).bind fun u11 => some ((1 : Int32), u11)) else (F_X6_step S N (gr S a0 0) u2.2).bind fun u14 => some ((0 : Int32), u14))
theorem F_X3_readSign_s (S : ST) (N : Nat) (a0 : Nat) (dy : DY) : F_X3_readSign S N a0 dy = ((F_X6_isSign S N (gr S a0 0) (60 : Int32) dy).bind fun u2 => (if u2.1 = 0 then (F_X6_isSign S N (gr S a0 0) (62 : Int32) u2.2).bind fun u5 => (if u5.1 = 0 then (F_X6_needSign S N (gr S a0 0) (61 : Int32) u5.2).bind fun u8 => some ((2 : Int32), u8) else (F_X6_step S N (gr S a0 0) u5.2).bind fun u11 => some ((1 : Int32), u11)) else (F_X6_step S N (gr S a0 0) u2.2).bind fun u14 => some ((0 : Int32), u14))) := rfl
noncomputable def F_X3_readTest_62 (S : ST) (N : Nat) (x0 : Nat) (x1 : Int32) (x2 : Int32) (x3 : Int32) (x4 : Int32) (x5 : Int32) (dy : DY) : Option DY := (F_X6_isSound S N (gr S x0 0) dy).bind fun u2 => (if u2.1 = 0 then some u2.2 else (F_X2_setTest S N (gr S x0 1) x1 x3 x4 x5 x2 u2.2).bind fun u5 => some u5)
theorem F_X3_readTest_62_s (S : ST) (N : Nat) (x0 : Nat) (x1 : Int32) (x2 : Int32) (x3 : Int32) (x4 : Int32) (x5 : Int32) (dy : DY) : F_X3_readTest_62 S N x0 x1 x2 x3 x4 x5 dy = ((F_X6_isSound S N (gr S x0 0) dy).bind fun u2 => (if u2.1 = 0 then some u2.2 else (F_X2_setTest S N (gr S x0 1) x1 x3 x4 x5 x2 u2.2).bind fun u5 => some u5)) := rfl
noncomputable def F_X3_readTest_20 (S : ST) (N : Nat) (x0 : Nat) (x1 : Int32) (dy : DY) : Option DY := (F_X6_takesWord S N (gr S x0 0) 13 dy).bind fun u2 => (F_X3_readFind S N x0 u2.2).bind fun u4 => (if (8 : Int32) ≤ u4.1 then (F_X3_readTest_62 S N) x0 x1 u2.1 u4.1 (2 : Int32) (1 : Int32) u4.2 else (F_X3_readSign S N x0 u4.2).bind fun u6 => (F_X6_needNumber S N (gr S x0 0) u6.2).bind fun u9 => (F_X3_readTest_62 S N) x0 x1 u2.1 u4.1 u6.1 u9.1 u9.2)
theorem F_X3_readTest_20_s (S : ST) (N : Nat) (x0 : Nat) (x1 : Int32) (dy : DY) : F_X3_readTest_20 S N x0 x1 dy = ((F_X6_takesWord S N (gr S x0 0) 13 dy).bind fun u2 => (F_X3_readFind S N x0 u2.2).bind fun u4 => (if (8 : Int32) ≤ u4.1 then (F_X3_readTest_62 S N) x0 x1 u2.1 u4.1 (2 : Int32) (1 : Int32) u4.2 else (F_X3_readSign S N x0 u4.2).bind fun u6 => (F_X6_needNumber S N (gr S x0 0) u6.2).bind fun u9 => (F_X3_readTest_62 S N) x0 x1 u2.1 u4.1 u6.1 u9.1 u9.2)) := rfl
noncomputable def F_X3_readTest (S : ST) (N : Nat) (a0 : Nat) (a1 : Int32) (dy : DY) : Option DY := (if a1 < (4 : Int32) then (F_X3_readTest_20 S N) a0 a1 dy else (F_X6_note S N (gr S a0 0) (3 : Int32) (gi dy (gr S a0 0) 3) dy).bind fun u3 => (F_X3_readTest_20 S N) a0 a1 u3)
theorem F_X3_readTest_s (S : ST) (N : Nat) (a0 : Nat) (a1 : Int32) (dy : DY) : F_X3_readTest S N a0 a1 dy = (if a1 < (4 : Int32) then (F_X3_readTest_20 S N) a0 a1 dy else (F_X6_note S N (gr S a0 0) (3 : Int32) (gi dy (gr S a0 0) 3) dy).bind fun u3 => (F_X3_readTest_20 S N) a0 a1 u3) := rfl
noncomputable def F_X3_readRule_51 (S : ST) (N : Nat) (K60 : Nat → Int32 → DY → Option DY) (x0 : Nat) (x1 : Int32) (dy : DY) : Option DY := (F_X6_needSign S N (gr S x0 0) (58 : Int32) dy).bind fun u2 => K60 x0 x1 u2
theorem F_X3_readRule_51_s (S : ST) (N : Nat) (K60 : Nat → Int32 → DY → Option DY) (x0 : Nat) (x1 : Int32) (dy : DY) : F_X3_readRule_51 S N K60 x0 x1 dy = ((F_X6_needSign S N (gr S x0 0) (58 : Int32) dy).bind fun u2 => K60 x0 x1 u2) := rfl
noncomputable def F_X3_readRule_21 (S : ST) (N : Nat) (K60 : Nat → Int32 → DY → Option DY) : Nat → Nat → Int32 → DY → Option DY := fun k => Nat.rec (motive := fun _ => Nat → Int32 → DY → Option DY) (fun _ _ _ => none) (fun _ ih x0 x1 dy => (if (500 : Int32) ≤ x1 then (F_X3_readRule_51 S N K60) x0 x1 dy else (F_X6_takesWord S N (gr S x0 0) 25 dy).bind fun u2 => (if u2.1 = 0 then (F_X3_readRule_51 S N K60) x0 x1 u2.2 else (F_X3_readTest S N x0 x1 u2.2).bind fun u4 => ih x0 (x1 + (1 : Int32)) u4))) k
theorem F_X3_readRule_21_s (S : ST) (N : Nat) (K60 : Nat → Int32 → DY → Option DY) (k : Nat) (x0 : Nat) (x1 : Int32) (dy : DY) : F_X3_readRule_21 S N K60 (k + 1) x0 x1 dy = (if (500 : Int32) ≤ x1 then (F_X3_readRule_51 S N K60) x0 x1 dy else (F_X6_takesWord S N (gr S x0 0) 25 dy).bind fun u2 => (if u2.1 = 0 then (F_X3_readRule_51 S N K60) x0 x1 u2.2 else (F_X3_readTest S N x0 x1 u2.2).bind fun u4 => (F_X3_readRule_21 S N K60 k) x0 (x1 + (1 : Int32)) u4)) := rfl
noncomputable def F_X3_readRule_60 (S : ST) (N : Nat) (x0 : Nat) (x1 : Int32) (dy : DY) : Option DY := (F_X3_readDeed S N x0 dy).bind fun u1 => (F_X6_needSign S N (gr S x0 0) (59 : Int32) u1.2).bind fun u4 => (F_X6_isSound S N (gr S x0 0) u4).bind fun u7 => (if u7.1 = 0 then some u7.2 else (F_X2_addRule S N (gr S x0 1) u1.1 x1 u7.2).bind fun u10 => some u10)
theorem F_X3_readRule_60_s (S : ST) (N : Nat) (x0 : Nat) (x1 : Int32) (dy : DY) : F_X3_readRule_60 S N x0 x1 dy = ((F_X3_readDeed S N x0 dy).bind fun u1 => (F_X6_needSign S N (gr S x0 0) (59 : Int32) u1.2).bind fun u4 => (F_X6_isSound S N (gr S x0 0) u4).bind fun u7 => (if u7.1 = 0 then some u7.2 else (F_X2_addRule S N (gr S x0 1) u1.1 x1 u7.2).bind fun u10 => some u10)) := rfl
noncomputable def F_X3_readRule (S : ST) (N : Nat) (a0 : Nat) (dy : DY) : Option DY := (F_X6_takesWord S N (gr S a0 0) 12 dy).bind fun u2 => (if u2.1 = 0 then (F_X3_readRule_60 S N) a0 (0 : Int32) u2.2 else (F_X3_readTest S N a0 (0 : Int32) u2.2).bind fun u4 => (F_X3_readRule_21 S N (F_X3_readRule_60 S N) N) a0 (1 : Int32) u4)
theorem F_X3_readRule_s (S : ST) (N : Nat) (a0 : Nat) (dy : DY) : F_X3_readRule S N a0 dy = ((F_X6_takesWord S N (gr S a0 0) 12 dy).bind fun u2 => (if u2.1 = 0 then (F_X3_readRule_60 S N) a0 (0 : Int32) u2.2 else (F_X3_readTest S N a0 (0 : Int32) u2.2).bind fun u4 => (F_X3_readRule_21 S N (F_X3_readRule_60 S N) N) a0 (1 : Int32) u4)) := rfl
noncomputable def F_X3_read_56 (S : ST) (N : Nat) (K18 : Nat → Int32 → DY → Option (Int32 × DY)) (x0 : Nat) (x2 : Int32) (dy : DY) : Option (Int32 × DY) := (F_X3_readRule S N x0 dy).bind fun u1 => K18 x0 (x2 + (1 : Int32)) u1
theorem F_X3_read_56_s (S : ST) (N : Nat) (K18 : Nat → Int32 → DY → Option (Int32 × DY)) (x0 : Nat) (x2 : Int32) (dy : DY) : F_X3_read_56 S N K18 x0 x2 dy = ((F_X3_readRule S N x0 dy).bind fun u1 => K18 x0 (x2 + (1 : Int32)) u1) := rfl
noncomputable def F_X3_read_66 (S : ST) (N : Nat) (x0 : Nat) (dy : DY) : Option (Int32 × DY) := (F_X6_isSound S N (gr S x0 0) dy).bind fun u2 => if zb u2.1 then some (u2.1, u2.2) else none
theorem F_X3_read_66_s (S : ST) (N : Nat) (x0 : Nat) (dy : DY) : F_X3_read_66 S N x0 dy = ((F_X6_isSound S N (gr S x0 0) dy).bind fun u2 => if zb u2.1 then some (u2.1, u2.2) else none) := rfl
noncomputable def F_X3_read_18 (S : ST) (N : Nat) : Nat → Nat → Int32 → DY → Option (Int32 × DY) := fun k => Nat.rec (motive := fun _ => Nat → Int32 → DY → Option (Int32 × DY)) (fun _ _ _ => none) (fun _ ih x0 x2 dy => (if (500 : Int32) ≤ x2 then (F_X3_read_66 S N) x0 dy else (F_X6_goesOn S N (gr S x0 0) dy).bind fun u2 => (if u2.1 = 0 then (F_X3_read_66 S N) x0 u2.2 else (if x2 < (16 : Int32) then (F_X3_read_56 S N ih) x0 x2 u2.2 else (F_X6_note S N (gr S x0 0) (3 : Int32) (gi u2.2 (gr S x0 0) 3) u2.2).bind fun u6 => (F_X3_read_56 S N ih) x0 x2 u6)))) k
theorem F_X3_read_18_s (S : ST) (N : Nat) (k : Nat) (x0 : Nat) (x2 : Int32) (dy : DY) : F_X3_read_18 S N (k + 1) x0 x2 dy = (if (500 : Int32) ≤ x2 then (F_X3_read_66 S N) x0 dy else (F_X6_goesOn S N (gr S x0 0) dy).bind fun u2 => (if u2.1 = 0 then (F_X3_read_66 S N) x0 u2.2 else (if x2 < (16 : Int32) then (F_X3_read_56 S N (F_X3_read_18 S N k)) x0 x2 u2.2 else (F_X6_note S N (gr S x0 0) (3 : Int32) (gi u2.2 (gr S x0 0) 3) u2.2).bind fun u6 => (F_X3_read_56 S N (F_X3_read_18 S N k)) x0 x2 u6))) := rfl
noncomputable def F_X3_read (S : ST) (N : Nat) (a0 : Nat) (a1 : Int32) (dy : DY) : Option (Int32 × DY) := (F_X6_open S N (gr S a0 0) a1 dy).bind fun u2 => bd (si u2 (gr S a0 1) 0 (0 : Int32)) fun dy5 => (F_X3_read_18 S N N) a0 (0 : Int32) dy5
theorem F_X3_read_s (S : ST) (N : Nat) (a0 : Nat) (a1 : Int32) (dy : DY) : F_X3_read S N a0 a1 dy = ((F_X6_open S N (gr S a0 0) a1 dy).bind fun u2 => bd (si u2 (gr S a0 1) 0 (0 : Int32)) fun dy5 => (F_X3_read_18 S N N) a0 (0 : Int32) dy5) := rfl
noncomputable def F_X5_isOpen_31 (S : ST) (N : Nat) (x0 : Nat) (dy : DY) : Option (Int32 × DY) := (F_X6_isSound S N (gr S x0 0) dy).bind fun u2 => if zb u2.1 then some (u2.1, u2.2) else none
theorem F_X5_isOpen_31_s (S : ST) (N : Nat) (x0 : Nat) (dy : DY) : F_X5_isOpen_31 S N x0 dy = ((F_X6_isSound S N (gr S x0 0) dy).bind fun u2 => if zb u2.1 then some (u2.1, u2.2) else none) := rfl
noncomputable def F_X5_isOpen (S : ST) (N : Nat) (a0 : Nat) (a1 : Int32) (a2 : Int32) (a3 : Int32) (dy : DY) : Option (Int32 × DY) := (F_X6_isSound S N (gr S a0 0) dy).bind fun u2 => (if u2.1 = 0 then (F_X5_isOpen_31 S N) a0 u2.2 else (F_X4_isTaken S N (gr S a0 1) a1 a2 u2.2).bind fun u5 => (if u5.1 = 0 then (F_X5_isOpen_31 S N) a0 u5.2 else (F_X6_note S N (gr S a0 0) (4 : Int32) a3 u5.2).bind fun u8 => (F_X5_isOpen_31 S N) a0 u8))
theorem F_X5_isOpen_s (S : ST) (N : Nat) (a0 : Nat) (a1 : Int32) (a2 : Int32) (a3 : Int32) (dy : DY) : F_X5_isOpen S N a0 a1 a2 a3 dy = ((F_X6_isSound S N (gr S a0 0) dy).bind fun u2 => (if u2.1 = 0 then (F_X5_isOpen_31 S N) a0 u2.2 else (F_X4_isTaken S N (gr S a0 1) a1 a2 u2.2).bind fun u5 => (if u5.1 = 0 then (F_X5_isOpen_31 S N) a0 u5.2 else (F_X6_note S N (gr S a0 0) (4 : Int32) a3 u5.2).bind fun u8 => (F_X5_isOpen_31 S N) a0 u8))) := rfl
noncomputable def F_X5_readFriends_58 (S : ST) (N : Nat) (x0 : Nat) (x1 : Int32) (x3 : Int32) (dy : DY) : Option DY := (F_X6_isSound S N (gr S x0 0) dy).bind fun u2 => (if u2.1 = 0 then some u2.2 else (F_X4_befriend S N (gr S x0 1) x1 x3 u2.2).bind fun u5 => some u5)
theorem F_X5_readFriends_58_s (S : ST) (N : Nat) (x0 : Nat) (x1 : Int32) (x3 : Int32) (dy : DY) : F_X5_readFriends_58 S N x0 x1 x3 dy = ((F_X6_isSound S N (gr S x0 0) dy).bind fun u2 => (if u2.1 = 0 then some u2.2 else (F_X4_befriend S N (gr S x0 1) x1 x3 u2.2).bind fun u5 => some u5)) := rfl
noncomputable def F_X5_readFriends (S : ST) (N : Nat) (a0 : Nat) (dy : DY) : Option DY := (F_X6_needNumber_ S N (gr S a0 0) (0 : Int32) ((gi dy (gr S a0 1) 3) - (1 : Int32)) dy).bind fun u3 => (F_X6_needNumber_ S N (gr S a0 0) (0 : Int32) ((gi u3.2 (gr S a0 1) 3) - (1 : Int32)) u3.2).bind fun u8 => (if u3.1 = u8.1 then (F_X6_note S N (gr S a0 0) (2 : Int32) (gi u3.2 (gr S a0 0) 3) u8.2).bind fun u11 => (F_X5_readFriends_58 S N) a0 u3.1 u8.1 u11 else (F_X5_readFriends_58 S N) a0 u3.1 u8.1 u8.2)
theorem F_X5_readFriends_s (S : ST) (N : Nat) (a0 : Nat) (dy : DY) : F_X5_readFriends S N a0 dy = ((F_X6_needNumber_ S N (gr S a0 0) (0 : Int32) ((gi dy (gr S a0 1) 3) - (1 : Int32)) dy).bind fun u3 => (F_X6_needNumber_ S N (gr S a0 0) (0 : Int32) ((gi u3.2 (gr S a0 1) 3) - (1 : Int32)) u3.2).bind fun u8 => (if u3.1 = u8.1 then (F_X6_note S N (gr S a0 0) (2 : Int32) (gi u3.2 (gr S a0 0) 3) u8.2).bind fun u11 => (F_X5_readFriends_58 S N) a0 u3.1 u8.1 u11 else (F_X5_readFriends_58 S N) a0 u3.1 u8.1 u8.2)) := rfl
noncomputable def F_X5_readHand_79 (S : ST) (N : Nat) (y0 : Nat) (y1 : Int32) (y2 : Int32) (dy : DY) : Option DY := if ib y1 12 then bd (si dy y0 y1.toNatClampNeg y2) fun dy1 => some dy1 else none
theorem F_X5_readHand_79_s (S : ST) (N : Nat) (y0 : Nat) (y1 : Int32) (y2 : Int32) (dy : DY) : F_X5_readHand_79 S N y0 y1 y2 dy = (if ib y1 12 then bd (si dy y0 y1.toNatClampNeg y2) fun dy1 => some dy1 else none) := rfl
noncomputable def F_X5_readHand_41 (S : ST) (N : Nat) (x0 : Nat) (x1 : Int32) (x2 : Int32) (dy : DY) : Option DY := (F_X6_isSound S N (gr S x0 0) dy).bind fun u2 => (if u2.1 = 0 then some u2.2 else (F_X4_has S N (gr S x0 1) x1 u2.2).bind fun u5 => (if u5.1 = 0 then some u5.2 else (if x2 = 0 then (F_X5_readHand_79 S N) (gr S (gr S x0 1) 11) x1 (2 : Int32) u5.2 else (F_X5_readHand_79 S N) (gr S (gr S x0 1) 11) x1 (1 : Int32) u5.2)))
theorem F_X5_readHand_41_s (S : ST) (N : Nat) (x0 : Nat) (x1 : Int32) (x2 : Int32) (dy : DY) : F_X5_readHand_41 S N x0 x1 x2 dy = ((F_X6_isSound S N (gr S x0 0) dy).bind fun u2 => (if u2.1 = 0 then some u2.2 else (F_X4_has S N (gr S x0 1) x1 u2.2).bind fun u5 => (if u5.1 = 0 then some u5.2 else (if x2 = 0 then (F_X5_readHand_79 S N) (gr S (gr S x0 1) 11) x1 (2 : Int32) u5.2 else (F_X5_readHand_79 S N) (gr S (gr S x0 1) 11) x1 (1 : Int32) u5.2)))) := rfl
noncomputable def F_X5_readHand (S : ST) (N : Nat) (a0 : Nat) (dy : DY) : Option DY := (F_X6_needNumber_ S N (gr S a0 0) (0 : Int32) ((gi dy (gr S a0 1) 3) - (1 : Int32)) dy).bind fun u3 => (F_X6_takesWord S N (gr S a0 0) 9 u3.2).bind fun u6 => (if u6.1 = 0 then (F_X6_needWord S N (gr S a0 0) 10 u6.2).bind fun u9 => (F_X5_readHand_41 S N) a0 u3.1 u6.1 u9 else (F_X5_readHand_41 S N) a0 u3.1 u6.1 u6.2)
theorem F_X5_readHand_s (S : ST) (N : Nat) (a0 : Nat) (dy : DY) : F_X5_readHand S N a0 dy = ((F_X6_needNumber_ S N (gr S a0 0) (0 : Int32) ((gi dy (gr S a0 1) 3) - (1 : Int32)) dy).bind fun u3 => (F_X6_takesWord S N (gr S a0 0) 9 u3.2).bind fun u6 => (if u6.1 = 0 then (F_X6_needWord S N (gr S a0 0) 10 u6.2).bind fun u9 => (F_X5_readHand_41 S N) a0 u3.1 u6.1 u9 else (F_X5_readHand_41 S N) a0 u3.1 u6.1 u6.2)) := rfl
noncomputable def F_X5_readTrait (S : ST) (N : Nat) (n0 : Nat) (a0 : Nat) (a1 : Nat) (a2 : Int32) (a3 : Int32) (dy : DY) : Option DY := (F_X6_needNumber_ S N (gr S a0 0) (0 : Int32) ((gi dy (gr S a0 1) 3) - (1 : Int32)) dy).bind fun u3 => (F_X6_needNumber_ S N (gr S a0 0) a2 a3 u3.2).bind fun u6 => (F_X6_isSound S N (gr S a0 0) u6.2).bind fun u9 => (if u9.1 = 0 then some u9.2 else (if u3.1 < 0 then some u9.2 else (if (Int32.ofNat n0) ≤ u3.1 then some u9.2 else if ib u3.1 n0 then bd (si u9.2 a1 u3.1.toNatClampNeg u6.1) fun dy11 => some dy11 else none)))
theorem F_X5_readTrait_s (S : ST) (N : Nat) (n0 : Nat) (a0 : Nat) (a1 : Nat) (a2 : Int32) (a3 : Int32) (dy : DY) : F_X5_readTrait S N n0 a0 a1 a2 a3 dy = ((F_X6_needNumber_ S N (gr S a0 0) (0 : Int32) ((gi dy (gr S a0 1) 3) - (1 : Int32)) dy).bind fun u3 => (F_X6_needNumber_ S N (gr S a0 0) a2 a3 u3.2).bind fun u6 => (F_X6_isSound S N (gr S a0 0) u6.2).bind fun u9 => (if u9.1 = 0 then some u9.2 else (if u3.1 < 0 then some u9.2 else (if (Int32.ofNat n0) ≤ u3.1 then some u9.2 else if ib u3.1 n0 then bd (si u9.2 a1 u3.1.toNatClampNeg u6.1) fun dy11 => some dy11 else none)))) := rfl
noncomputable def F_X5_readWalker_119 (S : ST) (N : Nat) (y0 : Nat) (y1 : Int32) (y2 : Int32) (y3 : Int32) (dy : DY) : Option DY := (F_X4_addWalker S N y0 y1 y2 y3 dy).bind fun u1 => some u1
theorem F_X5_readWalker_119_s (S : ST) (N : Nat) (y0 : Nat) (y1 : Int32) (y2 : Int32) (y3 : Int32) (dy : DY) : F_X5_readWalker_119 S N y0 y1 y2 y3 dy = ((F_X4_addWalker S N y0 y1 y2 y3 dy).bind fun u1 => some u1) := rfl
noncomputable def F_X5_readWalker_91 (S : ST) (N : Nat) (x0 : Nat) (x2 : Int32) (x3 : Int32) (x4 : Int32) (x5 : Int32) (dy : DY) : Option DY := (F_X5_isOpen S N x0 x3 x4 x2 dy).bind fun u1 => (if u1.1 = 0 then some u1.2 else (if x5 = 0 then (F_X5_readWalker_119 S N) (gr S x0 1) x3 x4 (-1 : Int32) u1.2 else (F_X5_readWalker_119 S N) (gr S x0 1) x3 x4 (1 : Int32) u1.2))
theorem F_X5_readWalker_91_s (S : ST) (N : Nat) (x0 : Nat) (x2 : Int32) (x3 : Int32) (x4 : Int32) (x5 : Int32) (dy : DY) : F_X5_readWalker_91 S N x0 x2 x3 x4 x5 dy = ((F_X5_isOpen S N x0 x3 x4 x2 dy).bind fun u1 => (if u1.1 = 0 then some u1.2 else (if x5 = 0 then (F_X5_readWalker_119 S N) (gr S x0 1) x3 x4 (-1 : Int32) u1.2 else (F_X5_readWalker_119 S N) (gr S x0 1) x3 x4 (1 : Int32) u1.2))) := rfl
noncomputable def F_X5_readWalker_21 (S : ST) (N : Nat) (x0 : Nat) (dy : DY) : Option DY := (F_X6_needNumber_ S N (gr S x0 0) (0 : Int32) ((gi dy (gr S x0 1) 0) - (1 : Int32)) dy).bind fun u4 => (F_X6_needNumber_ S N (gr S x0 0) (0 : Int32) ((gi u4.2 (gr S x0 1) 1) - (1 : Int32)) u4.2).bind fun u8 => (F_X6_takesWord S N (gr S x0 0) 3 u8.2).bind fun u11 => (if u11.1 = 0 then (F_X6_needWord S N (gr S x0 0) 4 u11.2).bind fun u14 => (F_X5_readWalker_91 S N) x0 (gi dy (gr S x0 0) 3) u4.1 u8.1 u11.1 u14 else (F_X5_readWalker_91 S N) x0 (gi dy (gr S x0 0) 3) u4.1 u8.1 u11.1 u11.2)
theorem F_X5_readWalker_21_s (S : ST) (N : Nat) (x0 : Nat) (dy : DY) : F_X5_readWalker_21 S N x0 dy = ((F_X6_needNumber_ S N (gr S x0 0) (0 : Int32) ((gi dy (gr S x0 1) 0) - (1 : Int32)) dy).bind fun u4 => (F_X6_needNumber_ S N (gr S x0 0) (0 : Int32) ((gi u4.2 (gr S x0 1) 1) - (1 : Int32)) u4.2).bind fun u8 => (F_X6_takesWord S N (gr S x0 0) 3 u8.2).bind fun u11 => (if u11.1 = 0 then (F_X6_needWord S N (gr S x0 0) 4 u11.2).bind fun u14 => (F_X5_readWalker_91 S N) x0 (gi dy (gr S x0 0) 3) u4.1 u8.1 u11.1 u14 else (F_X5_readWalker_91 S N) x0 (gi dy (gr S x0 0) 3) u4.1 u8.1 u11.1 u11.2)) := rfl
noncomputable def F_X5_readWalker (S : ST) (N : Nat) (a0 : Nat) (a1 : Int32) (dy : DY) : Option DY := (if (gi dy (gr S a0 1) 3) < (12 : Int32) then (F_X5_readWalker_21 S N) a0 dy else (F_X6_note S N (gr S a0 0) (3 : Int32) a1 dy).bind fun u3 => (F_X5_readWalker_21 S N) a0 u3)
theorem F_X5_readWalker_s (S : ST) (N : Nat) (a0 : Nat) (a1 : Int32) (dy : DY) : F_X5_readWalker S N a0 a1 dy = (if (gi dy (gr S a0 1) 3) < (12 : Int32) then (F_X5_readWalker_21 S N) a0 dy else (F_X6_note S N (gr S a0 0) (3 : Int32) a1 dy).bind fun u3 => (F_X5_readWalker_21 S N) a0 u3) := rfl
noncomputable def F_X5_readWall (S : ST) (N : Nat) (a0 : Nat) (dy : DY) : Option DY := (F_X6_needNumber_ S N (gr S a0 0) (0 : Int32) ((gi dy (gr S a0 1) 0) - (1 : Int32)) dy).bind fun u4 => (F_X6_needNumber_ S N (gr S a0 0) (0 : Int32) ((gi u4.2 (gr S a0 1) 1) - (1 : Int32)) u4.2).bind fun u8 => (F_X5_isOpen S N a0 u4.1 u8.1 (gi dy (gr S a0 0) 3) u8.2).bind fun u10 => (if u10.1 = 0 then some u10.2 else (F_X4_setWall S N (gr S a0 1) u4.1 u8.1 (1 : Int32) u10.2).bind fun u13 => some u13)
theorem F_X5_readWall_s (S : ST) (N : Nat) (a0 : Nat) (dy : DY) : F_X5_readWall S N a0 dy = ((F_X6_needNumber_ S N (gr S a0 0) (0 : Int32) ((gi dy (gr S a0 1) 0) - (1 : Int32)) dy).bind fun u4 => (F_X6_needNumber_ S N (gr S a0 0) (0 : Int32) ((gi u4.2 (gr S a0 1) 1) - (1 : Int32)) u4.2).bind fun u8 => (F_X5_isOpen S N a0 u4.1 u8.1 (gi dy (gr S a0 0) 3) u8.2).bind fun u10 => (if u10.1 = 0 then some u10.2 else (F_X4_setWall S N (gr S a0 1) u4.1 u8.1 (1 : Int32) u10.2).bind fun u13 => some u13)) := rfl
noncomputable def F_X5_readLine_177 (S : ST) (N : Nat) (x0 : Nat) (dy : DY) : Option DY := (F_X6_needSign S N (gr S x0 0) (59 : Int32) dy).bind fun u2 => some u2
theorem F_X5_readLine_177_s (S : ST) (N : Nat) (x0 : Nat) (dy : DY) : F_X5_readLine_177 S N x0 dy = ((F_X6_needSign S N (gr S x0 0) (59 : Int32) dy).bind fun u2 => some u2) := rfl
noncomputable def F_X5_readLine (S : ST) (N : Nat) (a0 : Nat) (dy : DY) : Option DY := (F_X6_takesWord S N (gr S a0 0) 1 dy).bind fun u3 => (if u3.1 = 0 then (F_X6_takesWord S N (gr S a0 0) 2 u3.2).bind fun u6 => (if u6.1 = 0 then (F_X6_takesWord S N (gr S a0 0) 5 u6.2).bind fun u9 => (if u9.1 = 0 then (F_X6_takesWord S N (gr S a0 0) 6 u9.2).bind fun u12 => (if u12.1 = 0 then (F_X6_takesWord S N (gr S a0 0) 7 u12.2).bind fun u15 => (if u15.1 = 0 then (F_X6_takesWord S N (gr S a0 0) 8 u15.2).bind fun u18 => (if u18.1 = 0 then (F_X6_takesWord S N (gr S a0 0) 11 u18.2).bind fun u21 => (if u21.1 = 0 then (F_X6_breakOff S N (gr S a0 0) u21.2).bind fun u24 => (F_X5_readLine_177 S N) a0 u24 else (F_X5_readFriends S N a0 u21.2).bind fun u26 => (F_X5_readLine_177 S N) a0 u26) else (F_X5_readHand S N a0 u18.2).bind fun u28 => (F_X5_readLine_177 S N) a0 u28) else (F_X5_readTrait S N 12 a0 (gr S (gr S a0 1) 10) (0 : Int32) (9 : Int32) u15.2).bind fun u32 => (F_X5_readLine_177 S N) a0 u32) else (F_X5_readTrait S N 12 a0 (gr S (gr S a0 1) 9) (0 : Int32) (3 : Int32) u12.2).bind fun u36 => (F_X5_readLine_177 S N) a0 u36) else (F_X5_readTrait S N 12 a0 (gr S (gr S a0 1) 8) (1 : Int32) (4 : Int32) u9.2).bind fun u40 => (F_X5_readLine_177 S N) a0 u40) else (F_X5_readWalker S N a0 (gi dy (gr S a0 0) 3) u6.2).bind fun u42 => (F_X5_readLine_177 S N) a0 u42) else (F_X5_readWall S N a0 u3.2).bind fun u44 => (F_X5_readLine_177 S N) a0 u44)
theorem F_X5_readLine_s (S : ST) (N : Nat) (a0 : Nat) (dy : DY) : F_X5_readLine S N a0 dy = ((F_X6_takesWord S N (gr S a0 0) 1 dy).bind fun u3 => (if u3.1 = 0 then (F_X6_takesWord S N (gr S a0 0) 2 u3.2).bind fun u6 => (if u6.1 = 0 then (F_X6_takesWord S N (gr S a0 0) 5 u6.2).bind fun u9 => (if u9.1 = 0 then (F_X6_takesWord S N (gr S a0 0) 6 u9.2).bind fun u12 => (if u12.1 = 0 then (F_X6_takesWord S N (gr S a0 0) 7 u12.2).bind fun u15 => (if u15.1 = 0 then (F_X6_takesWord S N (gr S a0 0) 8 u15.2).bind fun u18 => (if u18.1 = 0 then (F_X6_takesWord S N (gr S a0 0) 11 u18.2).bind fun u21 => (if u21.1 = 0 then (F_X6_breakOff S N (gr S a0 0) u21.2).bind fun u24 => (F_X5_readLine_177 S N) a0 u24 else (F_X5_readFriends S N a0 u21.2).bind fun u26 => (F_X5_readLine_177 S N) a0 u26) else (F_X5_readHand S N a0 u18.2).bind fun u28 => (F_X5_readLine_177 S N) a0 u28) else (F_X5_readTrait S N 12 a0 (gr S (gr S a0 1) 10) (0 : Int32) (9 : Int32) u15.2).bind fun u32 => (F_X5_readLine_177 S N) a0 u32) else (F_X5_readTrait S N 12 a0 (gr S (gr S a0 1) 9) (0 : Int32) (3 : Int32) u12.2).bind fun u36 => (F_X5_readLine_177 S N) a0 u36) else (F_X5_readTrait S N 12 a0 (gr S (gr S a0 1) 8) (1 : Int32) (4 : Int32) u9.2).bind fun u40 => (F_X5_readLine_177 S N) a0 u40) else (F_X5_readWalker S N a0 (gi dy (gr S a0 0) 3) u6.2).bind fun u42 => (F_X5_readLine_177 S N) a0 u42) else (F_X5_readWall S N a0 u3.2).bind fun u44 => (F_X5_readLine_177 S N) a0 u44)) := rfl
noncomputable def F_X5_readSize (S : ST) (N : Nat) (a0 : Nat) (dy : DY) : Option DY := (F_X6_needWord S N (gr S a0 0) 0 dy).bind fun u2 => (F_X6_needNumber_ S N (gr S a0 0) (2 : Int32) (16 : Int32) u2).bind fun u5 => (F_X6_needNumber_ S N (gr S a0 0) (1 : Int32) (6 : Int32) u5.2).bind fun u8 => (F_X6_needSign S N (gr S a0 0) (59 : Int32) u8.2).bind fun u11 => (F_X4_clear S N (gr S a0 1) u5.1 u8.1 u11).bind fun u14 => some u14
theorem F_X5_readSize_s (S : ST) (N : Nat) (a0 : Nat) (dy : DY) : F_X5_readSize S N a0 dy = ((F_X6_needWord S N (gr S a0 0) 0 dy).bind fun u2 => (F_X6_needNumber_ S N (gr S a0 0) (2 : Int32) (16 : Int32) u2).bind fun u5 => (F_X6_needNumber_ S N (gr S a0 0) (1 : Int32) (6 : Int32) u5.2).bind fun u8 => (F_X6_needSign S N (gr S a0 0) (59 : Int32) u8.2).bind fun u11 => (F_X4_clear S N (gr S a0 1) u5.1 u8.1 u11).bind fun u14 => some u14) := rfl
noncomputable def F_X5_read_52 (S : ST) (N : Nat) (K14 : Nat → Int32 → DY → Option (Int32 × DY)) (x0 : Nat) (x2 : Int32) (dy : DY) : Option (Int32 × DY) := (F_X5_readLine S N x0 dy).bind fun u1 => K14 x0 (x2 + (1 : Int32)) u1
theorem F_X5_read_52_s (S : ST) (N : Nat) (K14 : Nat → Int32 → DY → Option (Int32 × DY)) (x0 : Nat) (x2 : Int32) (dy : DY) : F_X5_read_52 S N K14 x0 x2 dy = ((F_X5_readLine S N x0 dy).bind fun u1 => K14 x0 (x2 + (1 : Int32)) u1) := rfl
noncomputable def F_X5_read_62 (S : ST) (N : Nat) (x0 : Nat) (dy : DY) : Option (Int32 × DY) := (F_X6_isSound S N (gr S x0 0) dy).bind fun u2 => if zb u2.1 then some (u2.1, u2.2) else none
theorem F_X5_read_62_s (S : ST) (N : Nat) (x0 : Nat) (dy : DY) : F_X5_read_62 S N x0 dy = ((F_X6_isSound S N (gr S x0 0) dy).bind fun u2 => if zb u2.1 then some (u2.1, u2.2) else none) := rfl
noncomputable def F_X5_read_14 (S : ST) (N : Nat) : Nat → Nat → Int32 → DY → Option (Int32 × DY) := fun k => Nat.rec (motive := fun _ => Nat → Int32 → DY → Option (Int32 × DY)) (fun _ _ _ => none) (fun _ ih x0 x2 dy => (if (500 : Int32) ≤ x2 then (F_X5_read_62 S N) x0 dy else (F_X6_goesOn S N (gr S x0 0) dy).bind fun u2 => (if u2.1 = 0 then (F_X5_read_62 S N) x0 u2.2 else (if x2 < (40 : Int32) then (F_X5_read_52 S N ih) x0 x2 u2.2 else (F_X6_note S N (gr S x0 0) (3 : Int32) (gi u2.2 (gr S x0 0) 3) u2.2).bind fun u6 => (F_X5_read_52 S N ih) x0 x2 u6)))) k
theorem F_X5_read_14_s (S : ST) (N : Nat) (k : Nat) (x0 : Nat) (x2 : Int32) (dy : DY) : F_X5_read_14 S N (k + 1) x0 x2 dy = (if (500 : Int32) ≤ x2 then (F_X5_read_62 S N) x0 dy else (F_X6_goesOn S N (gr S x0 0) dy).bind fun u2 => (if u2.1 = 0 then (F_X5_read_62 S N) x0 u2.2 else (if x2 < (40 : Int32) then (F_X5_read_52 S N (F_X5_read_14 S N k)) x0 x2 u2.2 else (F_X6_note S N (gr S x0 0) (3 : Int32) (gi u2.2 (gr S x0 0) 3) u2.2).bind fun u6 => (F_X5_read_52 S N (F_X5_read_14 S N k)) x0 x2 u6))) := rfl
noncomputable def F_X5_read (S : ST) (N : Nat) (a0 : Nat) (a1 : Int32) (dy : DY) : Option (Int32 × DY) := (F_X6_open S N (gr S a0 0) a1 dy).bind fun u2 => (F_X5_readSize S N a0 u2).bind fun u4 => (F_X5_read_14 S N N) a0 (0 : Int32) u4
theorem F_X5_read_s (S : ST) (N : Nat) (a0 : Nat) (a1 : Int32) (dy : DY) : F_X5_read S N a0 a1 dy = ((F_X6_open S N (gr S a0 0) a1 dy).bind fun u2 => (F_X5_readSize S N a0 u2).bind fun u4 => (F_X5_read_14 S N N) a0 (0 : Int32) u4) := rfl
theorem dX3_deedWord_0 : decode cX3_deedWord 0 = .ok (.iload_n 0, 1) := by decide +kernel
theorem dX3_deedWord_1 : decode cX3_deedWord 1 = .ok (.tableswitch 50 0 4 #[35, 38, 41, 44, 47], 35) := by decide +kernel
theorem dX3_deedWord_36 : decode cX3_deedWord 36 = .ok (.ldc 124, 2) := by decide +kernel
theorem dX3_deedWord_38 : decode cX3_deedWord 38 = .ok (.areturn, 1) := by decide +kernel
theorem dX3_deedWord_39 : decode cX3_deedWord 39 = .ok (.ldc 108, 2) := by decide +kernel
theorem dX3_deedWord_41 : decode cX3_deedWord 41 = .ok (.areturn, 1) := by decide +kernel
theorem dX3_deedWord_42 : decode cX3_deedWord 42 = .ok (.ldc 110, 2) := by decide +kernel
theorem dX3_deedWord_44 : decode cX3_deedWord 44 = .ok (.areturn, 1) := by decide +kernel
theorem dX3_deedWord_45 : decode cX3_deedWord 45 = .ok (.ldc 126, 2) := by decide +kernel
theorem dX3_deedWord_47 : decode cX3_deedWord 47 = .ok (.areturn, 1) := by decide +kernel
theorem dX3_deedWord_48 : decode cX3_deedWord 48 = .ok (.ldc 128, 2) := by decide +kernel
theorem dX3_deedWord_50 : decode cX3_deedWord 50 = .ok (.areturn, 1) := by decide +kernel
theorem dX3_deedWord_51 : decode cX3_deedWord 51 = .ok (.ldc 130, 2) := by decide +kernel
theorem dX3_deedWord_53 : decode cX3_deedWord 53 = .ok (.areturn, 1) := by decide +kernel
theorem dX3_findWord_0 : decode cX3_findWord 0 = .ok (.iload_n 0, 1) := by decide +kernel
theorem dX3_findWord_1 : decode cX3_findWord 1 = .ok (.tableswitch 85 0 9 #[55, 58, 61, 64, 67, 70, 73, 76, 79, 82], 55) := by decide +kernel
theorem dX3_findWord_56 : decode cX3_findWord 56 = .ok (.ldc 102, 2) := by decide +kernel
theorem dX3_findWord_58 : decode cX3_findWord 58 = .ok (.areturn, 1) := by decide +kernel
theorem dX3_findWord_59 : decode cX3_findWord 59 = .ok (.ldc 104, 2) := by decide +kernel
theorem dX3_findWord_61 : decode cX3_findWord 61 = .ok (.areturn, 1) := by decide +kernel
theorem dX3_findWord_62 : decode cX3_findWord 62 = .ok (.ldc 106, 2) := by decide +kernel
theorem dX3_findWord_64 : decode cX3_findWord 64 = .ok (.areturn, 1) := by decide +kernel
theorem dX3_findWord_65 : decode cX3_findWord 65 = .ok (.ldc 108, 2) := by decide +kernel
theorem dX3_findWord_67 : decode cX3_findWord 67 = .ok (.areturn, 1) := by decide +kernel
theorem dX3_findWord_68 : decode cX3_findWord 68 = .ok (.ldc 110, 2) := by decide +kernel
theorem dX3_findWord_70 : decode cX3_findWord 70 = .ok (.areturn, 1) := by decide +kernel
theorem dX3_findWord_71 : decode cX3_findWord 71 = .ok (.ldc 112, 2) := by decide +kernel
theorem dX3_findWord_73 : decode cX3_findWord 73 = .ok (.areturn, 1) := by decide +kernel
theorem dX3_findWord_74 : decode cX3_findWord 74 = .ok (.ldc 114, 2) := by decide +kernel
theorem dX3_findWord_76 : decode cX3_findWord 76 = .ok (.areturn, 1) := by decide +kernel
theorem dX3_findWord_77 : decode cX3_findWord 77 = .ok (.ldc 116, 2) := by decide +kernel
theorem dX3_findWord_79 : decode cX3_findWord 79 = .ok (.areturn, 1) := by decide +kernel
theorem dX3_findWord_80 : decode cX3_findWord 80 = .ok (.ldc 118, 2) := by decide +kernel
theorem dX3_findWord_82 : decode cX3_findWord 82 = .ok (.areturn, 1) := by decide +kernel
theorem dX3_findWord_83 : decode cX3_findWord 83 = .ok (.ldc 120, 2) := by decide +kernel
theorem dX3_findWord_85 : decode cX3_findWord 85 = .ok (.areturn, 1) := by decide +kernel
theorem dX3_findWord_86 : decode cX3_findWord 86 = .ok (.ldc 122, 2) := by decide +kernel
theorem dX3_findWord_88 : decode cX3_findWord 88 = .ok (.areturn, 1) := by decide +kernel
theorem dX3_readDeed_0 : decode cX3_readDeed 0 = .ok (.iconst 0, 1) := by decide +kernel
theorem dX3_readDeed_1 : decode cX3_readDeed 1 = .ok (.istore_n 1, 1) := by decide +kernel
theorem dX3_readDeed_2 : decode cX3_readDeed 2 = .ok (.iload_n 1, 1) := by decide +kernel
theorem dX3_readDeed_3 : decode cX3_readDeed 3 = .ok (.bipush 6, 2) := by decide +kernel
theorem dX3_readDeed_5 : decode cX3_readDeed 5 = .ok (.if_icmp .ge 25, 3) := by decide +kernel
theorem dX3_readDeed_8 : decode cX3_readDeed 8 = .ok (.aload_n 0, 1) := by decide +kernel
theorem dX3_readDeed_9 : decode cX3_readDeed 9 = .ok (.getfield 9, 3) := by decide +kernel
theorem dX3_readDeed_12 : decode cX3_readDeed 12 = .ok (.iload_n 1, 1) := by decide +kernel
theorem dX3_readDeed_13 : decode cX3_readDeed 13 = .ok (.invokestatic 99, 3) := by decide +kernel
theorem dX3_readDeed_16 : decode cX3_readDeed 16 = .ok (.invokevirtual 50, 3) := by decide +kernel
theorem dX3_readDeed_19 : decode cX3_readDeed 19 = .ok (.ifCond .eq 5, 3) := by decide +kernel
theorem dX3_readDeed_22 : decode cX3_readDeed 22 = .ok (.iload_n 1, 1) := by decide +kernel
theorem dX3_readDeed_23 : decode cX3_readDeed 23 = .ok (.ireturn, 1) := by decide +kernel
theorem dX3_readDeed_24 : decode cX3_readDeed 24 = .ok (.iinc 1 1, 3) := by decide +kernel
theorem dX3_readDeed_27 : decode cX3_readDeed 27 = .ok (.goto (-25), 3) := by decide +kernel
theorem dX3_readDeed_30 : decode cX3_readDeed 30 = .ok (.aload_n 0, 1) := by decide +kernel
theorem dX3_readDeed_31 : decode cX3_readDeed 31 = .ok (.getfield 9, 3) := by decide +kernel
theorem dX3_readDeed_34 : decode cX3_readDeed 34 = .ok (.invokevirtual 89, 3) := by decide +kernel
theorem dX3_readDeed_37 : decode cX3_readDeed 37 = .ok (.iconst 5, 1) := by decide +kernel
theorem dX3_readDeed_38 : decode cX3_readDeed 38 = .ok (.ireturn, 1) := by decide +kernel
theorem dX3_readFind_0 : decode cX3_readFind 0 = .ok (.iconst 0, 1) := by decide +kernel
theorem dX3_readFind_1 : decode cX3_readFind 1 = .ok (.istore_n 1, 1) := by decide +kernel
theorem dX3_readFind_2 : decode cX3_readFind 2 = .ok (.iload_n 1, 1) := by decide +kernel
theorem dX3_readFind_3 : decode cX3_readFind 3 = .ok (.bipush 11, 2) := by decide +kernel
theorem dX3_readFind_5 : decode cX3_readFind 5 = .ok (.if_icmp .ge 25, 3) := by decide +kernel
theorem dX3_readFind_8 : decode cX3_readFind 8 = .ok (.aload_n 0, 1) := by decide +kernel
theorem dX3_readFind_9 : decode cX3_readFind 9 = .ok (.getfield 9, 3) := by decide +kernel
theorem dX3_readFind_12 : decode cX3_readFind 12 = .ok (.iload_n 1, 1) := by decide +kernel
theorem dX3_readFind_13 : decode cX3_readFind 13 = .ok (.invokestatic 85, 3) := by decide +kernel
theorem dX3_readFind_16 : decode cX3_readFind 16 = .ok (.invokevirtual 50, 3) := by decide +kernel
theorem dX3_readFind_19 : decode cX3_readFind 19 = .ok (.ifCond .eq 5, 3) := by decide +kernel
theorem dX3_readFind_22 : decode cX3_readFind 22 = .ok (.iload_n 1, 1) := by decide +kernel
theorem dX3_readFind_23 : decode cX3_readFind 23 = .ok (.ireturn, 1) := by decide +kernel
theorem dX3_readFind_24 : decode cX3_readFind 24 = .ok (.iinc 1 1, 3) := by decide +kernel
theorem dX3_readFind_27 : decode cX3_readFind 27 = .ok (.goto (-25), 3) := by decide +kernel
theorem dX3_readFind_30 : decode cX3_readFind 30 = .ok (.aload_n 0, 1) := by decide +kernel
theorem dX3_readFind_31 : decode cX3_readFind 31 = .ok (.getfield 9, 3) := by decide +kernel
theorem dX3_readFind_34 : decode cX3_readFind 34 = .ok (.invokevirtual 89, 3) := by decide +kernel
theorem dX3_readFind_37 : decode cX3_readFind 37 = .ok (.iconst 0, 1) := by decide +kernel
theorem dX3_readFind_38 : decode cX3_readFind 38 = .ok (.ireturn, 1) := by decide +kernel
theorem dX3_readSign_0 : decode cX3_readSign 0 = .ok (.aload_n 0, 1) := by decide +kernel
theorem dX3_readSign_1 : decode cX3_readSign 1 = .ok (.getfield 9, 3) := by decide +kernel
theorem dX3_readSign_4 : decode cX3_readSign 4 = .ok (.bipush 60, 2) := by decide +kernel
theorem dX3_readSign_6 : decode cX3_readSign 6 = .ok (.invokevirtual 92, 3) := by decide +kernel
theorem dX3_readSign_9 : decode cX3_readSign 9 = .ok (.ifCond .eq 12, 3) := by decide +kernel
theorem dX3_readSign_12 : decode cX3_readSign 12 = .ok (.aload_n 0, 1) := by decide +kernel
theorem dX3_readSign_13 : decode cX3_readSign 13 = .ok (.getfield 9, 3) := by decide +kernel
theorem dX3_readSign_16 : decode cX3_readSign 16 = .ok (.invokevirtual 96, 3) := by decide +kernel
theorem dX3_readSign_19 : decode cX3_readSign 19 = .ok (.iconst 0, 1) := by decide +kernel
theorem dX3_readSign_20 : decode cX3_readSign 20 = .ok (.ireturn, 1) := by decide +kernel
theorem dX3_readSign_21 : decode cX3_readSign 21 = .ok (.aload_n 0, 1) := by decide +kernel
theorem dX3_readSign_22 : decode cX3_readSign 22 = .ok (.getfield 9, 3) := by decide +kernel
theorem dX3_readSign_25 : decode cX3_readSign 25 = .ok (.bipush 62, 2) := by decide +kernel
theorem dX3_readSign_27 : decode cX3_readSign 27 = .ok (.invokevirtual 92, 3) := by decide +kernel
theorem dX3_readSign_30 : decode cX3_readSign 30 = .ok (.ifCond .eq 12, 3) := by decide +kernel
theorem dX3_readSign_33 : decode cX3_readSign 33 = .ok (.aload_n 0, 1) := by decide +kernel
theorem dX3_readSign_34 : decode cX3_readSign 34 = .ok (.getfield 9, 3) := by decide +kernel
theorem dX3_readSign_37 : decode cX3_readSign 37 = .ok (.invokevirtual 96, 3) := by decide +kernel
theorem dX3_readSign_40 : decode cX3_readSign 40 = .ok (.iconst 1, 1) := by decide +kernel
theorem dX3_readSign_41 : decode cX3_readSign 41 = .ok (.ireturn, 1) := by decide +kernel
theorem dX3_readSign_42 : decode cX3_readSign 42 = .ok (.aload_n 0, 1) := by decide +kernel
theorem dX3_readSign_43 : decode cX3_readSign 43 = .ok (.getfield 9, 3) := by decide +kernel
theorem dX3_readSign_46 : decode cX3_readSign 46 = .ok (.bipush 61, 2) := by decide +kernel
theorem dX3_readSign_48 : decode cX3_readSign 48 = .ok (.invokevirtual 59, 3) := by decide +kernel
theorem dX3_readSign_51 : decode cX3_readSign 51 = .ok (.iconst 2, 1) := by decide +kernel
theorem dX3_readSign_52 : decode cX3_readSign 52 = .ok (.ireturn, 1) := by decide +kernel
theorem dX3_readTest_0 : decode cX3_readTest 0 = .ok (.iload_n 1, 1) := by decide +kernel
theorem dX3_readTest_1 : decode cX3_readTest 1 = .ok (.iconst 4, 1) := by decide +kernel
theorem dX3_readTest_2 : decode cX3_readTest 2 = .ok (.if_icmp .lt 18, 3) := by decide +kernel
theorem dX3_readTest_5 : decode cX3_readTest 5 = .ok (.aload_n 0, 1) := by decide +kernel
theorem dX3_readTest_6 : decode cX3_readTest 6 = .ok (.getfield 9, 3) := by decide +kernel
theorem dX3_readTest_9 : decode cX3_readTest 9 = .ok (.iconst 3, 1) := by decide +kernel
theorem dX3_readTest_10 : decode cX3_readTest 10 = .ok (.aload_n 0, 1) := by decide +kernel
theorem dX3_readTest_11 : decode cX3_readTest 11 = .ok (.getfield 9, 3) := by decide +kernel
theorem dX3_readTest_14 : decode cX3_readTest 14 = .ok (.getfield 35, 3) := by decide +kernel
theorem dX3_readTest_17 : decode cX3_readTest 17 = .ok (.invokevirtual 38, 3) := by decide +kernel
theorem dX3_readTest_20 : decode cX3_readTest 20 = .ok (.aload_n 0, 1) := by decide +kernel
theorem dX3_readTest_21 : decode cX3_readTest 21 = .ok (.getfield 9, 3) := by decide +kernel
theorem dX3_readTest_24 : decode cX3_readTest 24 = .ok (.ldc 70, 2) := by decide +kernel
theorem dX3_readTest_26 : decode cX3_readTest 26 = .ok (.invokevirtual 50, 3) := by decide +kernel
theorem dX3_readTest_29 : decode cX3_readTest 29 = .ok (.istore_n 2, 1) := by decide +kernel
theorem dX3_readTest_30 : decode cX3_readTest 30 = .ok (.aload_n 0, 1) := by decide +kernel
theorem dX3_readTest_31 : decode cX3_readTest 31 = .ok (.invokevirtual 72, 3) := by decide +kernel
theorem dX3_readTest_34 : decode cX3_readTest 34 = .ok (.istore_n 3, 1) := by decide +kernel
theorem dX3_readTest_35 : decode cX3_readTest 35 = .ok (.iconst 2, 1) := by decide +kernel
theorem dX3_readTest_36 : decode cX3_readTest 36 = .ok (.istore 4, 2) := by decide +kernel
theorem dX3_readTest_38 : decode cX3_readTest 38 = .ok (.iconst 1, 1) := by decide +kernel
theorem dX3_readTest_39 : decode cX3_readTest 39 = .ok (.istore 5, 2) := by decide +kernel
theorem dX3_readTest_41 : decode cX3_readTest 41 = .ok (.iload_n 3, 1) := by decide +kernel
theorem dX3_readTest_42 : decode cX3_readTest 42 = .ok (.bipush 8, 2) := by decide +kernel
theorem dX3_readTest_44 : decode cX3_readTest 44 = .ok (.if_icmp .ge 18, 3) := by decide +kernel
theorem dX3_readTest_47 : decode cX3_readTest 47 = .ok (.aload_n 0, 1) := by decide +kernel
theorem dX3_readTest_48 : decode cX3_readTest 48 = .ok (.invokevirtual 75, 3) := by decide +kernel
theorem dX3_readTest_51 : decode cX3_readTest 51 = .ok (.istore 4, 2) := by decide +kernel
theorem dX3_readTest_53 : decode cX3_readTest 53 = .ok (.aload_n 0, 1) := by decide +kernel
theorem dX3_readTest_54 : decode cX3_readTest 54 = .ok (.getfield 9, 3) := by decide +kernel
theorem dX3_readTest_57 : decode cX3_readTest 57 = .ok (.invokevirtual 78, 3) := by decide +kernel
theorem dX3_readTest_60 : decode cX3_readTest 60 = .ok (.istore 5, 2) := by decide +kernel
theorem dX3_readTest_62 : decode cX3_readTest 62 = .ok (.aload_n 0, 1) := by decide +kernel
theorem dX3_readTest_63 : decode cX3_readTest 63 = .ok (.getfield 9, 3) := by decide +kernel
theorem dX3_readTest_66 : decode cX3_readTest 66 = .ok (.invokevirtual 45, 3) := by decide +kernel
theorem dX3_readTest_69 : decode cX3_readTest 69 = .ok (.ifCond .eq 17, 3) := by decide +kernel
theorem dX3_readTest_72 : decode cX3_readTest 72 = .ok (.aload_n 0, 1) := by decide +kernel
theorem dX3_readTest_73 : decode cX3_readTest 73 = .ok (.getfield 15, 3) := by decide +kernel
theorem dX3_readTest_76 : decode cX3_readTest 76 = .ok (.iload_n 1, 1) := by decide +kernel
theorem dX3_readTest_77 : decode cX3_readTest 77 = .ok (.iload_n 3, 1) := by decide +kernel
theorem dX3_readTest_78 : decode cX3_readTest 78 = .ok (.iload 4, 2) := by decide +kernel
theorem dX3_readTest_80 : decode cX3_readTest 80 = .ok (.iload 5, 2) := by decide +kernel
theorem dX3_readTest_82 : decode cX3_readTest 82 = .ok (.iload_n 2, 1) := by decide +kernel
theorem dX3_readTest_83 : decode cX3_readTest 83 = .ok (.invokevirtual 81, 3) := by decide +kernel
theorem dX3_readTest_86 : decode cX3_readTest 86 = .ok (.return_, 1) := by decide +kernel
theorem dX3_readRule_0 : decode cX3_readRule 0 = .ok (.iconst 0, 1) := by decide +kernel
theorem dX3_readRule_1 : decode cX3_readRule 1 = .ok (.istore_n 1, 1) := by decide +kernel
theorem dX3_readRule_2 : decode cX3_readRule 2 = .ok (.aload_n 0, 1) := by decide +kernel
theorem dX3_readRule_3 : decode cX3_readRule 3 = .ok (.getfield 9, 3) := by decide +kernel
theorem dX3_readRule_6 : decode cX3_readRule 6 = .ok (.ldc 48, 2) := by decide +kernel
theorem dX3_readRule_8 : decode cX3_readRule 8 = .ok (.invokevirtual 50, 3) := by decide +kernel
theorem dX3_readRule_11 : decode cX3_readRule 11 = .ok (.ifCond .eq 49, 3) := by decide +kernel
theorem dX3_readRule_14 : decode cX3_readRule 14 = .ok (.aload_n 0, 1) := by decide +kernel
theorem dX3_readRule_15 : decode cX3_readRule 15 = .ok (.iconst 0, 1) := by decide +kernel
theorem dX3_readRule_16 : decode cX3_readRule 16 = .ok (.invokevirtual 54, 3) := by decide +kernel
theorem dX3_readRule_19 : decode cX3_readRule 19 = .ok (.iconst 1, 1) := by decide +kernel
theorem dX3_readRule_20 : decode cX3_readRule 20 = .ok (.istore_n 1, 1) := by decide +kernel
theorem dX3_readRule_21 : decode cX3_readRule 21 = .ok (.iload_n 1, 1) := by decide +kernel
theorem dX3_readRule_22 : decode cX3_readRule 22 = .ok (.sipush 500, 3) := by decide +kernel
theorem dX3_readRule_25 : decode cX3_readRule 25 = .ok (.if_icmp .ge 26, 3) := by decide +kernel
theorem dX3_readRule_28 : decode cX3_readRule 28 = .ok (.aload_n 0, 1) := by decide +kernel
theorem dX3_readRule_29 : decode cX3_readRule 29 = .ok (.getfield 9, 3) := by decide +kernel
theorem dX3_readRule_32 : decode cX3_readRule 32 = .ok (.ldc 57, 2) := by decide +kernel
theorem dX3_readRule_34 : decode cX3_readRule 34 = .ok (.invokevirtual 50, 3) := by decide +kernel
theorem dX3_readRule_37 : decode cX3_readRule 37 = .ok (.ifCond .eq 14, 3) := by decide +kernel
theorem dX3_readRule_40 : decode cX3_readRule 40 = .ok (.aload_n 0, 1) := by decide +kernel
theorem dX3_readRule_41 : decode cX3_readRule 41 = .ok (.iload_n 1, 1) := by decide +kernel
theorem dX3_readRule_42 : decode cX3_readRule 42 = .ok (.invokevirtual 54, 3) := by decide +kernel
theorem dX3_readRule_45 : decode cX3_readRule 45 = .ok (.iinc 1 1, 3) := by decide +kernel
theorem dX3_readRule_48 : decode cX3_readRule 48 = .ok (.goto (-27), 3) := by decide +kernel
theorem dX3_readRule_51 : decode cX3_readRule 51 = .ok (.aload_n 0, 1) := by decide +kernel
theorem dX3_readRule_52 : decode cX3_readRule 52 = .ok (.getfield 9, 3) := by decide +kernel
theorem dX3_readRule_55 : decode cX3_readRule 55 = .ok (.bipush 58, 2) := by decide +kernel
theorem dX3_readRule_57 : decode cX3_readRule 57 = .ok (.invokevirtual 59, 3) := by decide +kernel
theorem dX3_readRule_60 : decode cX3_readRule 60 = .ok (.aload_n 0, 1) := by decide +kernel
theorem dX3_readRule_61 : decode cX3_readRule 61 = .ok (.invokevirtual 63, 3) := by decide +kernel
theorem dX3_readRule_64 : decode cX3_readRule 64 = .ok (.istore_n 2, 1) := by decide +kernel
theorem dX3_readRule_65 : decode cX3_readRule 65 = .ok (.aload_n 0, 1) := by decide +kernel
theorem dX3_readRule_66 : decode cX3_readRule 66 = .ok (.getfield 9, 3) := by decide +kernel
theorem dX3_readRule_69 : decode cX3_readRule 69 = .ok (.bipush 59, 2) := by decide +kernel
theorem dX3_readRule_71 : decode cX3_readRule 71 = .ok (.invokevirtual 59, 3) := by decide +kernel
theorem dX3_readRule_74 : decode cX3_readRule 74 = .ok (.aload_n 0, 1) := by decide +kernel
theorem dX3_readRule_75 : decode cX3_readRule 75 = .ok (.getfield 9, 3) := by decide +kernel
theorem dX3_readRule_78 : decode cX3_readRule 78 = .ok (.invokevirtual 45, 3) := by decide +kernel
theorem dX3_readRule_81 : decode cX3_readRule 81 = .ok (.ifCond .eq 12, 3) := by decide +kernel
theorem dX3_readRule_84 : decode cX3_readRule 84 = .ok (.aload_n 0, 1) := by decide +kernel
theorem dX3_readRule_85 : decode cX3_readRule 85 = .ok (.getfield 15, 3) := by decide +kernel
theorem dX3_readRule_88 : decode cX3_readRule 88 = .ok (.iload_n 2, 1) := by decide +kernel
theorem dX3_readRule_89 : decode cX3_readRule 89 = .ok (.iload_n 1, 1) := by decide +kernel
theorem dX3_readRule_90 : decode cX3_readRule 90 = .ok (.invokevirtual 67, 3) := by decide +kernel
theorem dX3_readRule_93 : decode cX3_readRule 93 = .ok (.return_, 1) := by decide +kernel
theorem dX3_read_0 : decode cX3_read 0 = .ok (.aload_n 0, 1) := by decide +kernel
theorem dX3_read_1 : decode cX3_read 1 = .ok (.getfield 9, 3) := by decide +kernel
theorem dX3_read_4 : decode cX3_read 4 = .ok (.iload_n 1, 1) := by decide +kernel
theorem dX3_read_5 : decode cX3_read 5 = .ok (.invokevirtual 19, 3) := by decide +kernel
theorem dX3_read_8 : decode cX3_read 8 = .ok (.aload_n 0, 1) := by decide +kernel
theorem dX3_read_9 : decode cX3_read 9 = .ok (.getfield 15, 3) := by decide +kernel
theorem dX3_read_12 : decode cX3_read 12 = .ok (.iconst 0, 1) := by decide +kernel
theorem dX3_read_13 : decode cX3_read 13 = .ok (.putfield 25, 3) := by decide +kernel
theorem dX3_read_16 : decode cX3_read 16 = .ok (.iconst 0, 1) := by decide +kernel
theorem dX3_read_17 : decode cX3_read 17 = .ok (.istore_n 2, 1) := by decide +kernel
theorem dX3_read_18 : decode cX3_read 18 = .ok (.iload_n 2, 1) := by decide +kernel
theorem dX3_read_19 : decode cX3_read 19 = .ok (.sipush 500, 3) := by decide +kernel
theorem dX3_read_22 : decode cX3_read 22 = .ok (.if_icmp .ge 44, 3) := by decide +kernel
theorem dX3_read_25 : decode cX3_read 25 = .ok (.aload_n 0, 1) := by decide +kernel
theorem dX3_read_26 : decode cX3_read 26 = .ok (.getfield 9, 3) := by decide +kernel
theorem dX3_read_29 : decode cX3_read 29 = .ok (.invokevirtual 31, 3) := by decide +kernel
theorem dX3_read_32 : decode cX3_read 32 = .ok (.ifCond .eq 34, 3) := by decide +kernel
theorem dX3_read_35 : decode cX3_read 35 = .ok (.iload_n 2, 1) := by decide +kernel
theorem dX3_read_36 : decode cX3_read 36 = .ok (.bipush 16, 2) := by decide +kernel
theorem dX3_read_38 : decode cX3_read 38 = .ok (.if_icmp .lt 18, 3) := by decide +kernel
theorem dX3_read_41 : decode cX3_read 41 = .ok (.aload_n 0, 1) := by decide +kernel
theorem dX3_read_42 : decode cX3_read 42 = .ok (.getfield 9, 3) := by decide +kernel
theorem dX3_read_45 : decode cX3_read 45 = .ok (.iconst 3, 1) := by decide +kernel
theorem dX3_read_46 : decode cX3_read 46 = .ok (.aload_n 0, 1) := by decide +kernel
theorem dX3_read_47 : decode cX3_read 47 = .ok (.getfield 9, 3) := by decide +kernel
theorem dX3_read_50 : decode cX3_read 50 = .ok (.getfield 35, 3) := by decide +kernel
theorem dX3_read_53 : decode cX3_read 53 = .ok (.invokevirtual 38, 3) := by decide +kernel
theorem dX3_read_56 : decode cX3_read 56 = .ok (.aload_n 0, 1) := by decide +kernel
theorem dX3_read_57 : decode cX3_read 57 = .ok (.invokevirtual 42, 3) := by decide +kernel
theorem dX3_read_60 : decode cX3_read 60 = .ok (.iinc 2 1, 3) := by decide +kernel
theorem dX3_read_63 : decode cX3_read 63 = .ok (.goto (-45), 3) := by decide +kernel
theorem dX3_read_66 : decode cX3_read 66 = .ok (.aload_n 0, 1) := by decide +kernel
theorem dX3_read_67 : decode cX3_read 67 = .ok (.getfield 9, 3) := by decide +kernel
theorem dX3_read_70 : decode cX3_read 70 = .ok (.invokevirtual 45, 3) := by decide +kernel
theorem dX3_read_73 : decode cX3_read 73 = .ok (.ireturn, 1) := by decide +kernel
theorem dX5_isOpen_0 : decode cX5_isOpen 0 = .ok (.aload_n 0, 1) := by decide +kernel
theorem dX5_isOpen_1 : decode cX5_isOpen 1 = .ok (.getfield 9, 3) := by decide +kernel
theorem dX5_isOpen_4 : decode cX5_isOpen 4 = .ok (.invokevirtual 43, 3) := by decide +kernel
theorem dX5_isOpen_7 : decode cX5_isOpen 7 = .ok (.ifCond .eq 24, 3) := by decide +kernel
theorem dX5_isOpen_10 : decode cX5_isOpen 10 = .ok (.aload_n 0, 1) := by decide +kernel
theorem dX5_isOpen_11 : decode cX5_isOpen 11 = .ok (.getfield 15, 3) := by decide +kernel
theorem dX5_isOpen_14 : decode cX5_isOpen 14 = .ok (.iload_n 1, 1) := by decide +kernel
theorem dX5_isOpen_15 : decode cX5_isOpen 15 = .ok (.iload_n 2, 1) := by decide +kernel
theorem dX5_isOpen_16 : decode cX5_isOpen 16 = .ok (.invokevirtual 134, 3) := by decide +kernel
theorem dX5_isOpen_19 : decode cX5_isOpen 19 = .ok (.ifCond .eq 12, 3) := by decide +kernel
theorem dX5_isOpen_22 : decode cX5_isOpen 22 = .ok (.aload_n 0, 1) := by decide +kernel
theorem dX5_isOpen_23 : decode cX5_isOpen 23 = .ok (.getfield 9, 3) := by decide +kernel
theorem dX5_isOpen_26 : decode cX5_isOpen 26 = .ok (.iconst 4, 1) := by decide +kernel
theorem dX5_isOpen_27 : decode cX5_isOpen 27 = .ok (.iload_n 3, 1) := by decide +kernel
theorem dX5_isOpen_28 : decode cX5_isOpen 28 = .ok (.invokevirtual 36, 3) := by decide +kernel
theorem dX5_isOpen_31 : decode cX5_isOpen 31 = .ok (.aload_n 0, 1) := by decide +kernel
theorem dX5_isOpen_32 : decode cX5_isOpen 32 = .ok (.getfield 9, 3) := by decide +kernel
theorem dX5_isOpen_35 : decode cX5_isOpen 35 = .ok (.invokevirtual 43, 3) := by decide +kernel
theorem dX5_isOpen_38 : decode cX5_isOpen 38 = .ok (.ireturn, 1) := by decide +kernel
theorem dX5_readFriends_0 : decode cX5_readFriends 0 = .ok (.aload_n 0, 1) := by decide +kernel
theorem dX5_readFriends_1 : decode cX5_readFriends 1 = .ok (.getfield 9, 3) := by decide +kernel
theorem dX5_readFriends_4 : decode cX5_readFriends 4 = .ok (.iconst 0, 1) := by decide +kernel
theorem dX5_readFriends_5 : decode cX5_readFriends 5 = .ok (.aload_n 0, 1) := by decide +kernel
theorem dX5_readFriends_6 : decode cX5_readFriends 6 = .ok (.getfield 15, 3) := by decide +kernel
theorem dX5_readFriends_9 : decode cX5_readFriends 9 = .ok (.getfield 123, 3) := by decide +kernel
theorem dX5_readFriends_12 : decode cX5_readFriends 12 = .ok (.iconst 1, 1) := by decide +kernel
theorem dX5_readFriends_13 : decode cX5_readFriends 13 = .ok (.isub, 1) := by decide +kernel
theorem dX5_readFriends_14 : decode cX5_readFriends 14 = .ok (.invokevirtual 52, 3) := by decide +kernel
theorem dX5_readFriends_17 : decode cX5_readFriends 17 = .ok (.istore_n 1, 1) := by decide +kernel
theorem dX5_readFriends_18 : decode cX5_readFriends 18 = .ok (.aload_n 0, 1) := by decide +kernel
theorem dX5_readFriends_19 : decode cX5_readFriends 19 = .ok (.getfield 9, 3) := by decide +kernel
theorem dX5_readFriends_22 : decode cX5_readFriends 22 = .ok (.getfield 32, 3) := by decide +kernel
theorem dX5_readFriends_25 : decode cX5_readFriends 25 = .ok (.istore_n 2, 1) := by decide +kernel
theorem dX5_readFriends_26 : decode cX5_readFriends 26 = .ok (.aload_n 0, 1) := by decide +kernel
theorem dX5_readFriends_27 : decode cX5_readFriends 27 = .ok (.getfield 9, 3) := by decide +kernel
theorem dX5_readFriends_30 : decode cX5_readFriends 30 = .ok (.iconst 0, 1) := by decide +kernel
theorem dX5_readFriends_31 : decode cX5_readFriends 31 = .ok (.aload_n 0, 1) := by decide +kernel
theorem dX5_readFriends_32 : decode cX5_readFriends 32 = .ok (.getfield 15, 3) := by decide +kernel
theorem dX5_readFriends_35 : decode cX5_readFriends 35 = .ok (.getfield 123, 3) := by decide +kernel
theorem dX5_readFriends_38 : decode cX5_readFriends 38 = .ok (.iconst 1, 1) := by decide +kernel
theorem dX5_readFriends_39 : decode cX5_readFriends 39 = .ok (.isub, 1) := by decide +kernel
theorem dX5_readFriends_40 : decode cX5_readFriends 40 = .ok (.invokevirtual 52, 3) := by decide +kernel
theorem dX5_readFriends_43 : decode cX5_readFriends 43 = .ok (.istore_n 3, 1) := by decide +kernel
theorem dX5_readFriends_44 : decode cX5_readFriends 44 = .ok (.iload_n 1, 1) := by decide +kernel
theorem dX5_readFriends_45 : decode cX5_readFriends 45 = .ok (.iload_n 3, 1) := by decide +kernel
theorem dX5_readFriends_46 : decode cX5_readFriends 46 = .ok (.if_icmp .ne 12, 3) := by decide +kernel
theorem dX5_readFriends_49 : decode cX5_readFriends 49 = .ok (.aload_n 0, 1) := by decide +kernel
theorem dX5_readFriends_50 : decode cX5_readFriends 50 = .ok (.getfield 9, 3) := by decide +kernel
theorem dX5_readFriends_53 : decode cX5_readFriends 53 = .ok (.iconst 2, 1) := by decide +kernel
theorem dX5_readFriends_54 : decode cX5_readFriends 54 = .ok (.iload_n 2, 1) := by decide +kernel
theorem dX5_readFriends_55 : decode cX5_readFriends 55 = .ok (.invokevirtual 36, 3) := by decide +kernel
theorem dX5_readFriends_58 : decode cX5_readFriends 58 = .ok (.aload_n 0, 1) := by decide +kernel
theorem dX5_readFriends_59 : decode cX5_readFriends 59 = .ok (.getfield 9, 3) := by decide +kernel
theorem dX5_readFriends_62 : decode cX5_readFriends 62 = .ok (.invokevirtual 43, 3) := by decide +kernel
theorem dX5_readFriends_65 : decode cX5_readFriends 65 = .ok (.ifCond .eq 12, 3) := by decide +kernel
theorem dX5_readFriends_68 : decode cX5_readFriends 68 = .ok (.aload_n 0, 1) := by decide +kernel
theorem dX5_readFriends_69 : decode cX5_readFriends 69 = .ok (.getfield 15, 3) := by decide +kernel
theorem dX5_readFriends_72 : decode cX5_readFriends 72 = .ok (.iload_n 1, 1) := by decide +kernel
theorem dX5_readFriends_73 : decode cX5_readFriends 73 = .ok (.iload_n 3, 1) := by decide +kernel
theorem dX5_readFriends_74 : decode cX5_readFriends 74 = .ok (.invokevirtual 148, 3) := by decide +kernel
theorem dX5_readFriends_77 : decode cX5_readFriends 77 = .ok (.return_, 1) := by decide +kernel
theorem dX5_readHand_0 : decode cX5_readHand 0 = .ok (.aload_n 0, 1) := by decide +kernel
theorem dX5_readHand_1 : decode cX5_readHand 1 = .ok (.getfield 9, 3) := by decide +kernel
theorem dX5_readHand_4 : decode cX5_readHand 4 = .ok (.iconst 0, 1) := by decide +kernel
theorem dX5_readHand_5 : decode cX5_readHand 5 = .ok (.aload_n 0, 1) := by decide +kernel
theorem dX5_readHand_6 : decode cX5_readHand 6 = .ok (.getfield 15, 3) := by decide +kernel
theorem dX5_readHand_9 : decode cX5_readHand 9 = .ok (.getfield 123, 3) := by decide +kernel
theorem dX5_readHand_12 : decode cX5_readHand 12 = .ok (.iconst 1, 1) := by decide +kernel
theorem dX5_readHand_13 : decode cX5_readHand 13 = .ok (.isub, 1) := by decide +kernel
theorem dX5_readHand_14 : decode cX5_readHand 14 = .ok (.invokevirtual 52, 3) := by decide +kernel
theorem dX5_readHand_17 : decode cX5_readHand 17 = .ok (.istore_n 1, 1) := by decide +kernel
theorem dX5_readHand_18 : decode cX5_readHand 18 = .ok (.aload_n 0, 1) := by decide +kernel
theorem dX5_readHand_19 : decode cX5_readHand 19 = .ok (.getfield 9, 3) := by decide +kernel
theorem dX5_readHand_22 : decode cX5_readHand 22 = .ok (.ldc 138, 2) := by decide +kernel
theorem dX5_readHand_24 : decode cX5_readHand 24 = .ok (.invokevirtual 67, 3) := by decide +kernel
theorem dX5_readHand_27 : decode cX5_readHand 27 = .ok (.istore_n 2, 1) := by decide +kernel
theorem dX5_readHand_28 : decode cX5_readHand 28 = .ok (.iload_n 2, 1) := by decide +kernel
theorem dX5_readHand_29 : decode cX5_readHand 29 = .ok (.ifCond .ne 12, 3) := by decide +kernel
theorem dX5_readHand_32 : decode cX5_readHand 32 = .ok (.aload_n 0, 1) := by decide +kernel
theorem dX5_readHand_33 : decode cX5_readHand 33 = .ok (.getfield 9, 3) := by decide +kernel
theorem dX5_readHand_36 : decode cX5_readHand 36 = .ok (.ldc 140, 2) := by decide +kernel
theorem dX5_readHand_38 : decode cX5_readHand 38 = .ok (.invokevirtual 48, 3) := by decide +kernel
theorem dX5_readHand_41 : decode cX5_readHand 41 = .ok (.aload_n 0, 1) := by decide +kernel
theorem dX5_readHand_42 : decode cX5_readHand 42 = .ok (.getfield 9, 3) := by decide +kernel
theorem dX5_readHand_45 : decode cX5_readHand 45 = .ok (.invokevirtual 43, 3) := by decide +kernel
theorem dX5_readHand_48 : decode cX5_readHand 48 = .ok (.ifCond .eq 32, 3) := by decide +kernel
theorem dX5_readHand_51 : decode cX5_readHand 51 = .ok (.aload_n 0, 1) := by decide +kernel
theorem dX5_readHand_52 : decode cX5_readHand 52 = .ok (.getfield 15, 3) := by decide +kernel
theorem dX5_readHand_55 : decode cX5_readHand 55 = .ok (.iload_n 1, 1) := by decide +kernel
theorem dX5_readHand_56 : decode cX5_readHand 56 = .ok (.invokevirtual 142, 3) := by decide +kernel
theorem dX5_readHand_59 : decode cX5_readHand 59 = .ok (.ifCond .eq 21, 3) := by decide +kernel
theorem dX5_readHand_62 : decode cX5_readHand 62 = .ok (.aload_n 0, 1) := by decide +kernel
theorem dX5_readHand_63 : decode cX5_readHand 63 = .ok (.getfield 15, 3) := by decide +kernel
theorem dX5_readHand_66 : decode cX5_readHand 66 = .ok (.getfield 146, 3) := by decide +kernel
theorem dX5_readHand_69 : decode cX5_readHand 69 = .ok (.iload_n 1, 1) := by decide +kernel
theorem dX5_readHand_70 : decode cX5_readHand 70 = .ok (.iload_n 2, 1) := by decide +kernel
theorem dX5_readHand_71 : decode cX5_readHand 71 = .ok (.ifCond .eq 7, 3) := by decide +kernel
theorem dX5_readHand_74 : decode cX5_readHand 74 = .ok (.iconst 1, 1) := by decide +kernel
theorem dX5_readHand_75 : decode cX5_readHand 75 = .ok (.goto 4, 3) := by decide +kernel
theorem dX5_readHand_78 : decode cX5_readHand 78 = .ok (.iconst 2, 1) := by decide +kernel
theorem dX5_readHand_79 : decode cX5_readHand 79 = .ok (.iastore, 1) := by decide +kernel
theorem dX5_readHand_80 : decode cX5_readHand 80 = .ok (.return_, 1) := by decide +kernel
theorem dX5_readTrait_0 : decode cX5_readTrait 0 = .ok (.aload_n 0, 1) := by decide +kernel
theorem dX5_readTrait_1 : decode cX5_readTrait 1 = .ok (.getfield 9, 3) := by decide +kernel
theorem dX5_readTrait_4 : decode cX5_readTrait 4 = .ok (.iconst 0, 1) := by decide +kernel
theorem dX5_readTrait_5 : decode cX5_readTrait 5 = .ok (.aload_n 0, 1) := by decide +kernel
theorem dX5_readTrait_6 : decode cX5_readTrait 6 = .ok (.getfield 15, 3) := by decide +kernel
theorem dX5_readTrait_9 : decode cX5_readTrait 9 = .ok (.getfield 123, 3) := by decide +kernel
theorem dX5_readTrait_12 : decode cX5_readTrait 12 = .ok (.iconst 1, 1) := by decide +kernel
theorem dX5_readTrait_13 : decode cX5_readTrait 13 = .ok (.isub, 1) := by decide +kernel
theorem dX5_readTrait_14 : decode cX5_readTrait 14 = .ok (.invokevirtual 52, 3) := by decide +kernel
theorem dX5_readTrait_17 : decode cX5_readTrait 17 = .ok (.istore 4, 2) := by decide +kernel
theorem dX5_readTrait_19 : decode cX5_readTrait 19 = .ok (.aload_n 0, 1) := by decide +kernel
theorem dX5_readTrait_20 : decode cX5_readTrait 20 = .ok (.getfield 9, 3) := by decide +kernel
theorem dX5_readTrait_23 : decode cX5_readTrait 23 = .ok (.iload_n 2, 1) := by decide +kernel
theorem dX5_readTrait_24 : decode cX5_readTrait 24 = .ok (.iload_n 3, 1) := by decide +kernel
theorem dX5_readTrait_25 : decode cX5_readTrait 25 = .ok (.invokevirtual 52, 3) := by decide +kernel
theorem dX5_readTrait_28 : decode cX5_readTrait 28 = .ok (.istore 5, 2) := by decide +kernel
theorem dX5_readTrait_30 : decode cX5_readTrait 30 = .ok (.aload_n 0, 1) := by decide +kernel
theorem dX5_readTrait_31 : decode cX5_readTrait 31 = .ok (.getfield 9, 3) := by decide +kernel
theorem dX5_readTrait_34 : decode cX5_readTrait 34 = .ok (.invokevirtual 43, 3) := by decide +kernel
theorem dX5_readTrait_37 : decode cX5_readTrait 37 = .ok (.ifCond .eq 21, 3) := by decide +kernel
theorem dX5_readTrait_40 : decode cX5_readTrait 40 = .ok (.iload 4, 2) := by decide +kernel
theorem dX5_readTrait_42 : decode cX5_readTrait 42 = .ok (.ifCond .lt 16, 3) := by decide +kernel
theorem dX5_readTrait_45 : decode cX5_readTrait 45 = .ok (.iload 4, 2) := by decide +kernel
theorem dX5_readTrait_47 : decode cX5_readTrait 47 = .ok (.aload_n 1, 1) := by decide +kernel
theorem dX5_readTrait_48 : decode cX5_readTrait 48 = .ok (.arraylength, 1) := by decide +kernel
theorem dX5_readTrait_49 : decode cX5_readTrait 49 = .ok (.if_icmp .ge 9, 3) := by decide +kernel
theorem dX5_readTrait_52 : decode cX5_readTrait 52 = .ok (.aload_n 1, 1) := by decide +kernel
theorem dX5_readTrait_53 : decode cX5_readTrait 53 = .ok (.iload 4, 2) := by decide +kernel
theorem dX5_readTrait_55 : decode cX5_readTrait 55 = .ok (.iload 5, 2) := by decide +kernel
theorem dX5_readTrait_57 : decode cX5_readTrait 57 = .ok (.iastore, 1) := by decide +kernel
theorem dX5_readTrait_58 : decode cX5_readTrait 58 = .ok (.return_, 1) := by decide +kernel
theorem dX5_readWalker_0 : decode cX5_readWalker 0 = .ok (.aload_n 0, 1) := by decide +kernel
theorem dX5_readWalker_1 : decode cX5_readWalker 1 = .ok (.getfield 15, 3) := by decide +kernel
theorem dX5_readWalker_4 : decode cX5_readWalker 4 = .ok (.getfield 123, 3) := by decide +kernel
theorem dX5_readWalker_7 : decode cX5_readWalker 7 = .ok (.bipush 12, 2) := by decide +kernel
theorem dX5_readWalker_9 : decode cX5_readWalker 9 = .ok (.if_icmp .lt 12, 3) := by decide +kernel
theorem dX5_readWalker_12 : decode cX5_readWalker 12 = .ok (.aload_n 0, 1) := by decide +kernel
theorem dX5_readWalker_13 : decode cX5_readWalker 13 = .ok (.getfield 9, 3) := by decide +kernel
theorem dX5_readWalker_16 : decode cX5_readWalker 16 = .ok (.iconst 3, 1) := by decide +kernel
theorem dX5_readWalker_17 : decode cX5_readWalker 17 = .ok (.iload_n 1, 1) := by decide +kernel
theorem dX5_readWalker_18 : decode cX5_readWalker 18 = .ok (.invokevirtual 36, 3) := by decide +kernel
theorem dX5_readWalker_21 : decode cX5_readWalker 21 = .ok (.aload_n 0, 1) := by decide +kernel
theorem dX5_readWalker_22 : decode cX5_readWalker 22 = .ok (.getfield 9, 3) := by decide +kernel
theorem dX5_readWalker_25 : decode cX5_readWalker 25 = .ok (.getfield 32, 3) := by decide +kernel
theorem dX5_readWalker_28 : decode cX5_readWalker 28 = .ok (.istore_n 2, 1) := by decide +kernel
theorem dX5_readWalker_29 : decode cX5_readWalker 29 = .ok (.aload_n 0, 1) := by decide +kernel
theorem dX5_readWalker_30 : decode cX5_readWalker 30 = .ok (.getfield 9, 3) := by decide +kernel
theorem dX5_readWalker_33 : decode cX5_readWalker 33 = .ok (.iconst 0, 1) := by decide +kernel
theorem dX5_readWalker_34 : decode cX5_readWalker 34 = .ok (.aload_n 0, 1) := by decide +kernel
theorem dX5_readWalker_35 : decode cX5_readWalker 35 = .ok (.getfield 15, 3) := by decide +kernel
theorem dX5_readWalker_38 : decode cX5_readWalker 38 = .ok (.getfield 109, 3) := by decide +kernel
theorem dX5_readWalker_41 : decode cX5_readWalker 41 = .ok (.iconst 1, 1) := by decide +kernel
theorem dX5_readWalker_42 : decode cX5_readWalker 42 = .ok (.isub, 1) := by decide +kernel
theorem dX5_readWalker_43 : decode cX5_readWalker 43 = .ok (.invokevirtual 52, 3) := by decide +kernel
theorem dX5_readWalker_46 : decode cX5_readWalker 46 = .ok (.istore_n 3, 1) := by decide +kernel
theorem dX5_readWalker_47 : decode cX5_readWalker 47 = .ok (.aload_n 0, 1) := by decide +kernel
theorem dX5_readWalker_48 : decode cX5_readWalker 48 = .ok (.getfield 9, 3) := by decide +kernel
theorem dX5_readWalker_51 : decode cX5_readWalker 51 = .ok (.iconst 0, 1) := by decide +kernel
theorem dX5_readWalker_52 : decode cX5_readWalker 52 = .ok (.aload_n 0, 1) := by decide +kernel
theorem dX5_readWalker_53 : decode cX5_readWalker 53 = .ok (.getfield 15, 3) := by decide +kernel
theorem dX5_readWalker_56 : decode cX5_readWalker 56 = .ok (.getfield 112, 3) := by decide +kernel
theorem dX5_readWalker_59 : decode cX5_readWalker 59 = .ok (.iconst 1, 1) := by decide +kernel
theorem dX5_readWalker_60 : decode cX5_readWalker 60 = .ok (.isub, 1) := by decide +kernel
theorem dX5_readWalker_61 : decode cX5_readWalker 61 = .ok (.invokevirtual 52, 3) := by decide +kernel
theorem dX5_readWalker_64 : decode cX5_readWalker 64 = .ok (.istore 4, 2) := by decide +kernel
theorem dX5_readWalker_66 : decode cX5_readWalker 66 = .ok (.aload_n 0, 1) := by decide +kernel
theorem dX5_readWalker_67 : decode cX5_readWalker 67 = .ok (.getfield 9, 3) := by decide +kernel
theorem dX5_readWalker_70 : decode cX5_readWalker 70 = .ok (.ldc 126, 2) := by decide +kernel
theorem dX5_readWalker_72 : decode cX5_readWalker 72 = .ok (.invokevirtual 67, 3) := by decide +kernel
theorem dX5_readWalker_75 : decode cX5_readWalker 75 = .ok (.istore 5, 2) := by decide +kernel
theorem dX5_readWalker_77 : decode cX5_readWalker 77 = .ok (.iload 5, 2) := by decide +kernel
theorem dX5_readWalker_79 : decode cX5_readWalker 79 = .ok (.ifCond .ne 12, 3) := by decide +kernel
theorem dX5_readWalker_82 : decode cX5_readWalker 82 = .ok (.aload_n 0, 1) := by decide +kernel
theorem dX5_readWalker_83 : decode cX5_readWalker 83 = .ok (.getfield 9, 3) := by decide +kernel
theorem dX5_readWalker_86 : decode cX5_readWalker 86 = .ok (.ldc 128, 2) := by decide +kernel
theorem dX5_readWalker_88 : decode cX5_readWalker 88 = .ok (.invokevirtual 48, 3) := by decide +kernel
theorem dX5_readWalker_91 : decode cX5_readWalker 91 = .ok (.aload_n 0, 1) := by decide +kernel
theorem dX5_readWalker_92 : decode cX5_readWalker 92 = .ok (.iload_n 3, 1) := by decide +kernel
theorem dX5_readWalker_93 : decode cX5_readWalker 93 = .ok (.iload 4, 2) := by decide +kernel
theorem dX5_readWalker_95 : decode cX5_readWalker 95 = .ok (.iload_n 2, 1) := by decide +kernel
theorem dX5_readWalker_96 : decode cX5_readWalker 96 = .ok (.invokevirtual 115, 3) := by decide +kernel
theorem dX5_readWalker_99 : decode cX5_readWalker 99 = .ok (.ifCond .eq 23, 3) := by decide +kernel
theorem dX5_readWalker_102 : decode cX5_readWalker 102 = .ok (.aload_n 0, 1) := by decide +kernel
theorem dX5_readWalker_103 : decode cX5_readWalker 103 = .ok (.getfield 15, 3) := by decide +kernel
theorem dX5_readWalker_106 : decode cX5_readWalker 106 = .ok (.iload_n 3, 1) := by decide +kernel
theorem dX5_readWalker_107 : decode cX5_readWalker 107 = .ok (.iload 4, 2) := by decide +kernel
theorem dX5_readWalker_109 : decode cX5_readWalker 109 = .ok (.iload 5, 2) := by decide +kernel
theorem dX5_readWalker_111 : decode cX5_readWalker 111 = .ok (.ifCond .eq 7, 3) := by decide +kernel
theorem dX5_readWalker_114 : decode cX5_readWalker 114 = .ok (.iconst 1, 1) := by decide +kernel
theorem dX5_readWalker_115 : decode cX5_readWalker 115 = .ok (.goto 4, 3) := by decide +kernel
theorem dX5_readWalker_118 : decode cX5_readWalker 118 = .ok (.iconst (-1), 1) := by decide +kernel
theorem dX5_readWalker_119 : decode cX5_readWalker 119 = .ok (.invokevirtual 130, 3) := by decide +kernel
theorem dX5_readWalker_122 : decode cX5_readWalker 122 = .ok (.return_, 1) := by decide +kernel
theorem dX5_readWall_0 : decode cX5_readWall 0 = .ok (.aload_n 0, 1) := by decide +kernel
theorem dX5_readWall_1 : decode cX5_readWall 1 = .ok (.getfield 9, 3) := by decide +kernel
theorem dX5_readWall_4 : decode cX5_readWall 4 = .ok (.getfield 32, 3) := by decide +kernel
theorem dX5_readWall_7 : decode cX5_readWall 7 = .ok (.istore_n 1, 1) := by decide +kernel
theorem dX5_readWall_8 : decode cX5_readWall 8 = .ok (.aload_n 0, 1) := by decide +kernel
theorem dX5_readWall_9 : decode cX5_readWall 9 = .ok (.getfield 9, 3) := by decide +kernel
theorem dX5_readWall_12 : decode cX5_readWall 12 = .ok (.iconst 0, 1) := by decide +kernel
theorem dX5_readWall_13 : decode cX5_readWall 13 = .ok (.aload_n 0, 1) := by decide +kernel
theorem dX5_readWall_14 : decode cX5_readWall 14 = .ok (.getfield 15, 3) := by decide +kernel
theorem dX5_readWall_17 : decode cX5_readWall 17 = .ok (.getfield 109, 3) := by decide +kernel
theorem dX5_readWall_20 : decode cX5_readWall 20 = .ok (.iconst 1, 1) := by decide +kernel
theorem dX5_readWall_21 : decode cX5_readWall 21 = .ok (.isub, 1) := by decide +kernel
theorem dX5_readWall_22 : decode cX5_readWall 22 = .ok (.invokevirtual 52, 3) := by decide +kernel
theorem dX5_readWall_25 : decode cX5_readWall 25 = .ok (.istore_n 2, 1) := by decide +kernel
theorem dX5_readWall_26 : decode cX5_readWall 26 = .ok (.aload_n 0, 1) := by decide +kernel
theorem dX5_readWall_27 : decode cX5_readWall 27 = .ok (.getfield 9, 3) := by decide +kernel
theorem dX5_readWall_30 : decode cX5_readWall 30 = .ok (.iconst 0, 1) := by decide +kernel
theorem dX5_readWall_31 : decode cX5_readWall 31 = .ok (.aload_n 0, 1) := by decide +kernel
theorem dX5_readWall_32 : decode cX5_readWall 32 = .ok (.getfield 15, 3) := by decide +kernel
theorem dX5_readWall_35 : decode cX5_readWall 35 = .ok (.getfield 112, 3) := by decide +kernel
theorem dX5_readWall_38 : decode cX5_readWall 38 = .ok (.iconst 1, 1) := by decide +kernel
theorem dX5_readWall_39 : decode cX5_readWall 39 = .ok (.isub, 1) := by decide +kernel
theorem dX5_readWall_40 : decode cX5_readWall 40 = .ok (.invokevirtual 52, 3) := by decide +kernel
theorem dX5_readWall_43 : decode cX5_readWall 43 = .ok (.istore_n 3, 1) := by decide +kernel
theorem dX5_readWall_44 : decode cX5_readWall 44 = .ok (.aload_n 0, 1) := by decide +kernel
theorem dX5_readWall_45 : decode cX5_readWall 45 = .ok (.iload_n 2, 1) := by decide +kernel
theorem dX5_readWall_46 : decode cX5_readWall 46 = .ok (.iload_n 3, 1) := by decide +kernel
theorem dX5_readWall_47 : decode cX5_readWall 47 = .ok (.iload_n 1, 1) := by decide +kernel
theorem dX5_readWall_48 : decode cX5_readWall 48 = .ok (.invokevirtual 115, 3) := by decide +kernel
theorem dX5_readWall_51 : decode cX5_readWall 51 = .ok (.ifCond .eq 13, 3) := by decide +kernel
theorem dX5_readWall_54 : decode cX5_readWall 54 = .ok (.aload_n 0, 1) := by decide +kernel
theorem dX5_readWall_55 : decode cX5_readWall 55 = .ok (.getfield 15, 3) := by decide +kernel
theorem dX5_readWall_58 : decode cX5_readWall 58 = .ok (.iload_n 2, 1) := by decide +kernel
theorem dX5_readWall_59 : decode cX5_readWall 59 = .ok (.iload_n 3, 1) := by decide +kernel
theorem dX5_readWall_60 : decode cX5_readWall 60 = .ok (.iconst 1, 1) := by decide +kernel
theorem dX5_readWall_61 : decode cX5_readWall 61 = .ok (.invokevirtual 119, 3) := by decide +kernel
theorem dX5_readWall_64 : decode cX5_readWall 64 = .ok (.return_, 1) := by decide +kernel
theorem dX5_readLine_0 : decode cX5_readLine 0 = .ok (.aload_n 0, 1) := by decide +kernel
theorem dX5_readLine_1 : decode cX5_readLine 1 = .ok (.getfield 9, 3) := by decide +kernel
theorem dX5_readLine_4 : decode cX5_readLine 4 = .ok (.getfield 32, 3) := by decide +kernel
theorem dX5_readLine_7 : decode cX5_readLine 7 = .ok (.istore_n 1, 1) := by decide +kernel
theorem dX5_readLine_8 : decode cX5_readLine 8 = .ok (.aload_n 0, 1) := by decide +kernel
theorem dX5_readLine_9 : decode cX5_readLine 9 = .ok (.getfield 9, 3) := by decide +kernel
theorem dX5_readLine_12 : decode cX5_readLine 12 = .ok (.ldc 65, 2) := by decide +kernel
theorem dX5_readLine_14 : decode cX5_readLine 14 = .ok (.invokevirtual 67, 3) := by decide +kernel
theorem dX5_readLine_17 : decode cX5_readLine 17 = .ok (.ifCond .eq 10, 3) := by decide +kernel
theorem dX5_readLine_20 : decode cX5_readLine 20 = .ok (.aload_n 0, 1) := by decide +kernel
theorem dX5_readLine_21 : decode cX5_readLine 21 = .ok (.invokevirtual 71, 3) := by decide +kernel
theorem dX5_readLine_24 : decode cX5_readLine 24 = .ok (.goto 153, 3) := by decide +kernel
theorem dX5_readLine_27 : decode cX5_readLine 27 = .ok (.aload_n 0, 1) := by decide +kernel
theorem dX5_readLine_28 : decode cX5_readLine 28 = .ok (.getfield 9, 3) := by decide +kernel
theorem dX5_readLine_31 : decode cX5_readLine 31 = .ok (.ldc 74, 2) := by decide +kernel
theorem dX5_readLine_33 : decode cX5_readLine 33 = .ok (.invokevirtual 67, 3) := by decide +kernel
theorem dX5_readLine_36 : decode cX5_readLine 36 = .ok (.ifCond .eq 11, 3) := by decide +kernel
theorem dX5_readLine_39 : decode cX5_readLine 39 = .ok (.aload_n 0, 1) := by decide +kernel
theorem dX5_readLine_40 : decode cX5_readLine 40 = .ok (.iload_n 1, 1) := by decide +kernel
theorem dX5_readLine_41 : decode cX5_readLine 41 = .ok (.invokevirtual 76, 3) := by decide +kernel
theorem dX5_readLine_44 : decode cX5_readLine 44 = .ok (.goto 133, 3) := by decide +kernel
theorem dX5_readLine_47 : decode cX5_readLine 47 = .ok (.aload_n 0, 1) := by decide +kernel
theorem dX5_readLine_48 : decode cX5_readLine 48 = .ok (.getfield 9, 3) := by decide +kernel
theorem dX5_readLine_51 : decode cX5_readLine 51 = .ok (.ldc 79, 2) := by decide +kernel
theorem dX5_readLine_53 : decode cX5_readLine 53 = .ok (.invokevirtual 67, 3) := by decide +kernel
theorem dX5_readLine_56 : decode cX5_readLine 56 = .ok (.ifCond .eq 19, 3) := by decide +kernel
theorem dX5_readLine_59 : decode cX5_readLine 59 = .ok (.aload_n 0, 1) := by decide +kernel
theorem dX5_readLine_60 : decode cX5_readLine 60 = .ok (.aload_n 0, 1) := by decide +kernel
theorem dX5_readLine_61 : decode cX5_readLine 61 = .ok (.getfield 15, 3) := by decide +kernel
theorem dX5_readLine_64 : decode cX5_readLine 64 = .ok (.getfield 81, 3) := by decide +kernel
theorem dX5_readLine_67 : decode cX5_readLine 67 = .ok (.iconst 1, 1) := by decide +kernel
theorem dX5_readLine_68 : decode cX5_readLine 68 = .ok (.iconst 4, 1) := by decide +kernel
theorem dX5_readLine_69 : decode cX5_readLine 69 = .ok (.invokevirtual 84, 3) := by decide +kernel
theorem dX5_readLine_72 : decode cX5_readLine 72 = .ok (.goto 105, 3) := by decide +kernel
theorem dX5_readLine_75 : decode cX5_readLine 75 = .ok (.aload_n 0, 1) := by decide +kernel
theorem dX5_readLine_76 : decode cX5_readLine 76 = .ok (.getfield 9, 3) := by decide +kernel
theorem dX5_readLine_79 : decode cX5_readLine 79 = .ok (.ldc 88, 2) := by decide +kernel
theorem dX5_readLine_81 : decode cX5_readLine 81 = .ok (.invokevirtual 67, 3) := by decide +kernel
theorem dX5_readLine_84 : decode cX5_readLine 84 = .ok (.ifCond .eq 19, 3) := by decide +kernel
theorem dX5_readLine_87 : decode cX5_readLine 87 = .ok (.aload_n 0, 1) := by decide +kernel
theorem dX5_readLine_88 : decode cX5_readLine 88 = .ok (.aload_n 0, 1) := by decide +kernel
theorem dX5_readLine_89 : decode cX5_readLine 89 = .ok (.getfield 15, 3) := by decide +kernel
theorem dX5_readLine_92 : decode cX5_readLine 92 = .ok (.getfield 90, 3) := by decide +kernel
theorem dX5_readLine_95 : decode cX5_readLine 95 = .ok (.iconst 0, 1) := by decide +kernel
theorem dX5_readLine_96 : decode cX5_readLine 96 = .ok (.iconst 3, 1) := by decide +kernel
theorem dX5_readLine_97 : decode cX5_readLine 97 = .ok (.invokevirtual 84, 3) := by decide +kernel
theorem dX5_readLine_100 : decode cX5_readLine 100 = .ok (.goto 77, 3) := by decide +kernel
theorem dX5_readLine_103 : decode cX5_readLine 103 = .ok (.aload_n 0, 1) := by decide +kernel
theorem dX5_readLine_104 : decode cX5_readLine 104 = .ok (.getfield 9, 3) := by decide +kernel
theorem dX5_readLine_107 : decode cX5_readLine 107 = .ok (.ldc 92, 2) := by decide +kernel
theorem dX5_readLine_109 : decode cX5_readLine 109 = .ok (.invokevirtual 67, 3) := by decide +kernel
theorem dX5_readLine_112 : decode cX5_readLine 112 = .ok (.ifCond .eq 20, 3) := by decide +kernel
theorem dX5_readLine_115 : decode cX5_readLine 115 = .ok (.aload_n 0, 1) := by decide +kernel
theorem dX5_readLine_116 : decode cX5_readLine 116 = .ok (.aload_n 0, 1) := by decide +kernel
theorem dX5_readLine_117 : decode cX5_readLine 117 = .ok (.getfield 15, 3) := by decide +kernel
theorem dX5_readLine_120 : decode cX5_readLine 120 = .ok (.getfield 94, 3) := by decide +kernel
theorem dX5_readLine_123 : decode cX5_readLine 123 = .ok (.iconst 0, 1) := by decide +kernel
theorem dX5_readLine_124 : decode cX5_readLine 124 = .ok (.bipush 9, 2) := by decide +kernel
theorem dX5_readLine_126 : decode cX5_readLine 126 = .ok (.invokevirtual 84, 3) := by decide +kernel
theorem dX5_readLine_129 : decode cX5_readLine 129 = .ok (.goto 48, 3) := by decide +kernel
theorem dX5_readLine_132 : decode cX5_readLine 132 = .ok (.aload_n 0, 1) := by decide +kernel
theorem dX5_readLine_133 : decode cX5_readLine 133 = .ok (.getfield 9, 3) := by decide +kernel
theorem dX5_readLine_136 : decode cX5_readLine 136 = .ok (.ldc 96, 2) := by decide +kernel
theorem dX5_readLine_138 : decode cX5_readLine 138 = .ok (.invokevirtual 67, 3) := by decide +kernel
theorem dX5_readLine_141 : decode cX5_readLine 141 = .ok (.ifCond .eq 10, 3) := by decide +kernel
theorem dX5_readLine_144 : decode cX5_readLine 144 = .ok (.aload_n 0, 1) := by decide +kernel
theorem dX5_readLine_145 : decode cX5_readLine 145 = .ok (.invokevirtual 98, 3) := by decide +kernel
theorem dX5_readLine_148 : decode cX5_readLine 148 = .ok (.goto 29, 3) := by decide +kernel
theorem dX5_readLine_151 : decode cX5_readLine 151 = .ok (.aload_n 0, 1) := by decide +kernel
theorem dX5_readLine_152 : decode cX5_readLine 152 = .ok (.getfield 9, 3) := by decide +kernel
theorem dX5_readLine_155 : decode cX5_readLine 155 = .ok (.ldc 101, 2) := by decide +kernel
theorem dX5_readLine_157 : decode cX5_readLine 157 = .ok (.invokevirtual 67, 3) := by decide +kernel
theorem dX5_readLine_160 : decode cX5_readLine 160 = .ok (.ifCond .eq 10, 3) := by decide +kernel
theorem dX5_readLine_163 : decode cX5_readLine 163 = .ok (.aload_n 0, 1) := by decide +kernel
theorem dX5_readLine_164 : decode cX5_readLine 164 = .ok (.invokevirtual 103, 3) := by decide +kernel
theorem dX5_readLine_167 : decode cX5_readLine 167 = .ok (.goto 10, 3) := by decide +kernel
theorem dX5_readLine_170 : decode cX5_readLine 170 = .ok (.aload_n 0, 1) := by decide +kernel
theorem dX5_readLine_171 : decode cX5_readLine 171 = .ok (.getfield 9, 3) := by decide +kernel
theorem dX5_readLine_174 : decode cX5_readLine 174 = .ok (.invokevirtual 106, 3) := by decide +kernel
theorem dX5_readLine_177 : decode cX5_readLine 177 = .ok (.aload_n 0, 1) := by decide +kernel
theorem dX5_readLine_178 : decode cX5_readLine 178 = .ok (.getfield 9, 3) := by decide +kernel
theorem dX5_readLine_181 : decode cX5_readLine 181 = .ok (.bipush 59, 2) := by decide +kernel
theorem dX5_readLine_183 : decode cX5_readLine 183 = .ok (.invokevirtual 56, 3) := by decide +kernel
theorem dX5_readLine_186 : decode cX5_readLine 186 = .ok (.return_, 1) := by decide +kernel
theorem dX5_readSize_0 : decode cX5_readSize 0 = .ok (.aload_n 0, 1) := by decide +kernel
theorem dX5_readSize_1 : decode cX5_readSize 1 = .ok (.getfield 9, 3) := by decide +kernel
theorem dX5_readSize_4 : decode cX5_readSize 4 = .ok (.ldc 46, 2) := by decide +kernel
theorem dX5_readSize_6 : decode cX5_readSize 6 = .ok (.invokevirtual 48, 3) := by decide +kernel
theorem dX5_readSize_9 : decode cX5_readSize 9 = .ok (.aload_n 0, 1) := by decide +kernel
theorem dX5_readSize_10 : decode cX5_readSize 10 = .ok (.getfield 9, 3) := by decide +kernel
theorem dX5_readSize_13 : decode cX5_readSize 13 = .ok (.iconst 2, 1) := by decide +kernel
theorem dX5_readSize_14 : decode cX5_readSize 14 = .ok (.bipush 16, 2) := by decide +kernel
theorem dX5_readSize_16 : decode cX5_readSize 16 = .ok (.invokevirtual 52, 3) := by decide +kernel
theorem dX5_readSize_19 : decode cX5_readSize 19 = .ok (.istore_n 1, 1) := by decide +kernel
theorem dX5_readSize_20 : decode cX5_readSize 20 = .ok (.aload_n 0, 1) := by decide +kernel
theorem dX5_readSize_21 : decode cX5_readSize 21 = .ok (.getfield 9, 3) := by decide +kernel
theorem dX5_readSize_24 : decode cX5_readSize 24 = .ok (.iconst 1, 1) := by decide +kernel
theorem dX5_readSize_25 : decode cX5_readSize 25 = .ok (.bipush 6, 2) := by decide +kernel
theorem dX5_readSize_27 : decode cX5_readSize 27 = .ok (.invokevirtual 52, 3) := by decide +kernel
theorem dX5_readSize_30 : decode cX5_readSize 30 = .ok (.istore_n 2, 1) := by decide +kernel
theorem dX5_readSize_31 : decode cX5_readSize 31 = .ok (.aload_n 0, 1) := by decide +kernel
theorem dX5_readSize_32 : decode cX5_readSize 32 = .ok (.getfield 9, 3) := by decide +kernel
theorem dX5_readSize_35 : decode cX5_readSize 35 = .ok (.bipush 59, 2) := by decide +kernel
theorem dX5_readSize_37 : decode cX5_readSize 37 = .ok (.invokevirtual 56, 3) := by decide +kernel
theorem dX5_readSize_40 : decode cX5_readSize 40 = .ok (.aload_n 0, 1) := by decide +kernel
theorem dX5_readSize_41 : decode cX5_readSize 41 = .ok (.getfield 15, 3) := by decide +kernel
theorem dX5_readSize_44 : decode cX5_readSize 44 = .ok (.iload_n 1, 1) := by decide +kernel
theorem dX5_readSize_45 : decode cX5_readSize 45 = .ok (.iload_n 2, 1) := by decide +kernel
theorem dX5_readSize_46 : decode cX5_readSize 46 = .ok (.invokevirtual 60, 3) := by decide +kernel
theorem dX5_readSize_49 : decode cX5_readSize 49 = .ok (.return_, 1) := by decide +kernel
theorem dX5_read_0 : decode cX5_read 0 = .ok (.aload_n 0, 1) := by decide +kernel
theorem dX5_read_1 : decode cX5_read 1 = .ok (.getfield 9, 3) := by decide +kernel
theorem dX5_read_4 : decode cX5_read 4 = .ok (.iload_n 1, 1) := by decide +kernel
theorem dX5_read_5 : decode cX5_read 5 = .ok (.invokevirtual 19, 3) := by decide +kernel
theorem dX5_read_8 : decode cX5_read 8 = .ok (.aload_n 0, 1) := by decide +kernel
theorem dX5_read_9 : decode cX5_read 9 = .ok (.invokevirtual 25, 3) := by decide +kernel
theorem dX5_read_12 : decode cX5_read 12 = .ok (.iconst 0, 1) := by decide +kernel
theorem dX5_read_13 : decode cX5_read 13 = .ok (.istore_n 2, 1) := by decide +kernel
theorem dX5_read_14 : decode cX5_read 14 = .ok (.iload_n 2, 1) := by decide +kernel
theorem dX5_read_15 : decode cX5_read 15 = .ok (.sipush 500, 3) := by decide +kernel
theorem dX5_read_18 : decode cX5_read 18 = .ok (.if_icmp .ge 44, 3) := by decide +kernel
theorem dX5_read_21 : decode cX5_read 21 = .ok (.aload_n 0, 1) := by decide +kernel
theorem dX5_read_22 : decode cX5_read 22 = .ok (.getfield 9, 3) := by decide +kernel
theorem dX5_read_25 : decode cX5_read 25 = .ok (.invokevirtual 28, 3) := by decide +kernel
theorem dX5_read_28 : decode cX5_read 28 = .ok (.ifCond .eq 34, 3) := by decide +kernel
theorem dX5_read_31 : decode cX5_read 31 = .ok (.iload_n 2, 1) := by decide +kernel
theorem dX5_read_32 : decode cX5_read 32 = .ok (.bipush 40, 2) := by decide +kernel
theorem dX5_read_34 : decode cX5_read 34 = .ok (.if_icmp .lt 18, 3) := by decide +kernel
theorem dX5_read_37 : decode cX5_read 37 = .ok (.aload_n 0, 1) := by decide +kernel
theorem dX5_read_38 : decode cX5_read 38 = .ok (.getfield 9, 3) := by decide +kernel
theorem dX5_read_41 : decode cX5_read 41 = .ok (.iconst 3, 1) := by decide +kernel
theorem dX5_read_42 : decode cX5_read 42 = .ok (.aload_n 0, 1) := by decide +kernel
theorem dX5_read_43 : decode cX5_read 43 = .ok (.getfield 9, 3) := by decide +kernel
theorem dX5_read_46 : decode cX5_read 46 = .ok (.getfield 32, 3) := by decide +kernel
theorem dX5_read_49 : decode cX5_read 49 = .ok (.invokevirtual 36, 3) := by decide +kernel
theorem dX5_read_52 : decode cX5_read 52 = .ok (.aload_n 0, 1) := by decide +kernel
theorem dX5_read_53 : decode cX5_read 53 = .ok (.invokevirtual 40, 3) := by decide +kernel
theorem dX5_read_56 : decode cX5_read 56 = .ok (.iinc 2 1, 3) := by decide +kernel
theorem dX5_read_59 : decode cX5_read 59 = .ok (.goto (-45), 3) := by decide +kernel
theorem dX5_read_62 : decode cX5_read 62 = .ok (.aload_n 0, 1) := by decide +kernel
theorem dX5_read_63 : decode cX5_read 63 = .ok (.getfield 9, 3) := by decide +kernel
theorem dX5_read_66 : decode cX5_read 66 = .ok (.invokevirtual 43, 3) := by decide +kernel
theorem dX5_read_69 : decode cX5_read 69 = .ok (.ireturn, 1) := by decide +kernel
section P_X3_deedWord
variable {p : Program} {l : Launch} {e : Env} {s : State} {m : MethodId} {args : Array Value} {below : List Frame} {meth : Method} {c : Code} {G : GG} {A : Nat → Prop} {ad : Nat → Nat} {S : ST} {N : Nat} {r : Nat} {dy' : DY}
end P_X3_deedWord
set_option maxHeartbeats 4000000 in
set_option maxRecDepth 100000 in
theorem M_X3_deedWord (l : Launch) (G : GG) (ad : Nat → Nat) {S : ST} (N : Nat) (hG : Good S) (a0 : Int32) (dy : DY) {r : Nat} {dy' : DY} (E : F_X3_deedWord S N a0 dy = some (r, dy')) : MC l yX3_deedWord cX3_deedWord 1 (Option.some (Jvm.ClassFile.FieldType.object "java/lang/String")) (1) G ad [.int a0] S dy (fun A => QS G ad A S r dy') := by
  rw [F_X3_deedWord_s] at E
  refine mc_of RX3 (by decide) rfl (Nat.le_of_ble_eq_true rfl) (fun p e s m args below meth c A C HR HL => ?_)
  refine ww_sub (lv' := [(0, .int a0)]) [0] rfl ?_
  refine ww_iload_n C dX3_deedWord_0 rfl 0 rfl ?_
  by_cases s_1 : a0 = (0 : Int32)
  · rw [if_pos s_1] at E
    refine ww_tabIn (tgt := 36) C dX3_deedWord_1 s_1 (by decide) (by decide) rfl (by decide) ?_
    refine ww_ldcs (j := 26) C dX3_deedWord_36 rfl ?_
    exact ww_sret C HR HL dX3_deedWord_38 E
  rw [if_neg s_1] at E
  by_cases s_2 : a0 = (1 : Int32)
  · rw [if_pos s_2] at E
    refine ww_tabIn (tgt := 39) C dX3_deedWord_1 s_2 (by decide) (by decide) rfl (by decide) ?_
    refine ww_ldcs (j := 17) C dX3_deedWord_39 rfl ?_
    exact ww_sret C HR HL dX3_deedWord_41 E
  rw [if_neg s_2] at E
  by_cases s_3 : a0 = (2 : Int32)
  · rw [if_pos s_3] at E
    refine ww_tabIn (tgt := 42) C dX3_deedWord_1 s_3 (by decide) (by decide) rfl (by decide) ?_
    refine ww_ldcs (j := 18) C dX3_deedWord_42 rfl ?_
    exact ww_sret C HR HL dX3_deedWord_44 E
  rw [if_neg s_3] at E
  by_cases s_4 : a0 = (3 : Int32)
  · rw [if_pos s_4] at E
    refine ww_tabIn (tgt := 45) C dX3_deedWord_1 s_4 (by decide) (by decide) rfl (by decide) ?_
    refine ww_ldcs (j := 27) C dX3_deedWord_45 rfl ?_
    exact ww_sret C HR HL dX3_deedWord_47 E
  rw [if_neg s_4] at E
  by_cases s_5 : a0 = (4 : Int32)
  · rw [if_pos s_5] at E
    refine ww_tabIn (tgt := 48) C dX3_deedWord_1 s_5 (by decide) (by decide) rfl (by decide) ?_
    refine ww_ldcs (j := 28) C dX3_deedWord_48 rfl ?_
    exact ww_sret C HR HL dX3_deedWord_50 E
  rw [if_neg s_5] at E
  refine ww_tabOut (tgt := 51) C dX3_deedWord_1 (tab_out (fun v h1 h2 => ?_)) (by decide) ?_
  · rcases (show v = 0 ∨ v = 1 ∨ v = 2 ∨ v = 3 ∨ v = 4 by omega) with rfl | rfl | rfl | rfl | rfl
    · exact ti_ne s_1 (by decide)
    · exact ti_ne s_2 (by decide)
    · exact ti_ne s_3 (by decide)
    · exact ti_ne s_4 (by decide)
    · exact ti_ne s_5 (by decide)
  refine ww_ldcs (j := 29) C dX3_deedWord_51 rfl ?_
  exact ww_sret C HR HL dX3_deedWord_53 E
section P_X3_findWord
variable {p : Program} {l : Launch} {e : Env} {s : State} {m : MethodId} {args : Array Value} {below : List Frame} {meth : Method} {c : Code} {G : GG} {A : Nat → Prop} {ad : Nat → Nat} {S : ST} {N : Nat} {r : Nat} {dy' : DY}
end P_X3_findWord
set_option maxHeartbeats 4000000 in
set_option maxRecDepth 100000 in
theorem M_X3_findWord (l : Launch) (G : GG) (ad : Nat → Nat) {S : ST} (N : Nat) (hG : Good S) (a0 : Int32) (dy : DY) {r : Nat} {dy' : DY} (E : F_X3_findWord S N a0 dy = some (r, dy')) : MC l yX3_findWord cX3_findWord 1 (Option.some (Jvm.ClassFile.FieldType.object "java/lang/String")) (1) G ad [.int a0] S dy (fun A => QS G ad A S r dy') := by
  rw [F_X3_findWord_s] at E
  refine mc_of RX3 (by decide) rfl (Nat.le_of_ble_eq_true rfl) (fun p e s m args below meth c A C HR HL => ?_)
  refine ww_sub (lv' := [(0, .int a0)]) [0] rfl ?_
  refine ww_iload_n C dX3_findWord_0 rfl 0 rfl ?_
  by_cases s_1 : a0 = (0 : Int32)
  · rw [if_pos s_1] at E
    refine ww_tabIn (tgt := 56) C dX3_findWord_1 s_1 (by decide) (by decide) rfl (by decide) ?_
    refine ww_ldcs (j := 14) C dX3_findWord_56 rfl ?_
    exact ww_sret C HR HL dX3_findWord_58 E
  rw [if_neg s_1] at E
  by_cases s_2 : a0 = (1 : Int32)
  · rw [if_pos s_2] at E
    refine ww_tabIn (tgt := 59) C dX3_findWord_1 s_2 (by decide) (by decide) rfl (by decide) ?_
    refine ww_ldcs (j := 15) C dX3_findWord_59 rfl ?_
    exact ww_sret C HR HL dX3_findWord_61 E
  rw [if_neg s_2] at E
  by_cases s_3 : a0 = (2 : Int32)
  · rw [if_pos s_3] at E
    refine ww_tabIn (tgt := 62) C dX3_findWord_1 s_3 (by decide) (by decide) rfl (by decide) ?_
    refine ww_ldcs (j := 16) C dX3_findWord_62 rfl ?_
    exact ww_sret C HR HL dX3_findWord_64 E
  rw [if_neg s_3] at E
  by_cases s_4 : a0 = (3 : Int32)
  · rw [if_pos s_4] at E
    refine ww_tabIn (tgt := 65) C dX3_findWord_1 s_4 (by decide) (by decide) rfl (by decide) ?_
    refine ww_ldcs (j := 17) C dX3_findWord_65 rfl ?_
    exact ww_sret C HR HL dX3_findWord_67 E
  rw [if_neg s_4] at E
  by_cases s_5 : a0 = (4 : Int32)
  · rw [if_pos s_5] at E
    refine ww_tabIn (tgt := 68) C dX3_findWord_1 s_5 (by decide) (by decide) rfl (by decide) ?_
    refine ww_ldcs (j := 18) C dX3_findWord_68 rfl ?_
    exact ww_sret C HR HL dX3_findWord_70 E
  rw [if_neg s_5] at E
  by_cases s_6 : a0 = (5 : Int32)
  · rw [if_pos s_6] at E
    refine ww_tabIn (tgt := 71) C dX3_findWord_1 s_6 (by decide) (by decide) rfl (by decide) ?_
    refine ww_ldcs (j := 19) C dX3_findWord_71 rfl ?_
    exact ww_sret C HR HL dX3_findWord_73 E
  rw [if_neg s_6] at E
  by_cases s_7 : a0 = (6 : Int32)
  · rw [if_pos s_7] at E
    refine ww_tabIn (tgt := 74) C dX3_findWord_1 s_7 (by decide) (by decide) rfl (by decide) ?_
    refine ww_ldcs (j := 20) C dX3_findWord_74 rfl ?_
    exact ww_sret C HR HL dX3_findWord_76 E
  rw [if_neg s_7] at E
  by_cases s_8 : a0 = (7 : Int32)
  · rw [if_pos s_8] at E
    refine ww_tabIn (tgt := 77) C dX3_findWord_1 s_8 (by decide) (by decide) rfl (by decide) ?_
    refine ww_ldcs (j := 21) C dX3_findWord_77 rfl ?_
    exact ww_sret C HR HL dX3_findWord_79 E
  rw [if_neg s_8] at E
  by_cases s_9 : a0 = (8 : Int32)
  · rw [if_pos s_9] at E
    refine ww_tabIn (tgt := 80) C dX3_findWord_1 s_9 (by decide) (by decide) rfl (by decide) ?_
    refine ww_ldcs (j := 22) C dX3_findWord_80 rfl ?_
    exact ww_sret C HR HL dX3_findWord_82 E
  rw [if_neg s_9] at E
  by_cases s_10 : a0 = (9 : Int32)
  · rw [if_pos s_10] at E
    refine ww_tabIn (tgt := 83) C dX3_findWord_1 s_10 (by decide) (by decide) rfl (by decide) ?_
    refine ww_ldcs (j := 23) C dX3_findWord_83 rfl ?_
    exact ww_sret C HR HL dX3_findWord_85 E
  rw [if_neg s_10] at E
  refine ww_tabOut (tgt := 86) C dX3_findWord_1 (tab_out (fun v h1 h2 => ?_)) (by decide) ?_
  · rcases (show v = 0 ∨ v = 1 ∨ v = 2 ∨ v = 3 ∨ v = 4 ∨ v = 5 ∨ v = 6 ∨ v = 7 ∨ v = 8 ∨ v = 9 by omega) with rfl | rfl | rfl | rfl | rfl | rfl | rfl | rfl | rfl | rfl
    · exact ti_ne s_1 (by decide)
    · exact ti_ne s_2 (by decide)
    · exact ti_ne s_3 (by decide)
    · exact ti_ne s_4 (by decide)
    · exact ti_ne s_5 (by decide)
    · exact ti_ne s_6 (by decide)
    · exact ti_ne s_7 (by decide)
    · exact ti_ne s_8 (by decide)
    · exact ti_ne s_9 (by decide)
    · exact ti_ne s_10 (by decide)
  refine ww_ldcs (j := 24) C dX3_findWord_86 rfl ?_
  exact ww_sret C HR HL dX3_findWord_88 E
section P_X3_readDeed
variable {p : Program} {l : Launch} {e : Env} {s : State} {m : MethodId} {args : Array Value} {below : List Frame} {meth : Method} {c : Code} {G : GG} {A : Nat → Prop} {ad : Nat → Nat} {S : ST} {N : Nat} {r : Int32} {dy' : DY}
set_option maxHeartbeats 4000000 in
set_option maxRecDepth 100000 in
theorem B_X3_readDeed_2 (C : CX p s m args c cX3_readDeed 2 RX3 G A) (HR : meth.sig.returnType = (Option.some Jvm.ClassFile.FieldType.int)) (HL : meth.locks = false) (hG : Good S) : ∀ k : Nat, ∀ (x0 : Nat) (x1 : Int32) (dy : DY), gs S x0 = (0, 3) → (F_X3_readDeed_2 S N k) x0 x1 dy = some (r, dy') → WJ p l e (rmD (7)) s m args below meth c 2 G A 0 0 (MQ below (QI G ad A S r dy') args s 0 0 A) ad 2 [(0, .ref (ad x0)), (1, .int x1)] [] S dy := by
  intro k
  induction k with
  | zero => exact fun _ _ _ _ E => nomatch (show none = some (r, dy') from E)
  | succ k ih =>
    intro x0 x1 dy Tx0 E
    rw [F_X3_readDeed_2_s] at E
    refine ww_iload_n C dX3_readDeed_2 rfl 1 rfl ?_
    refine ww_bipush (v := 6) C dX3_readDeed_3 (by decide) ?_
    refine ww_icmp_ge (tgt := 30) C dX3_readDeed_5 (by decide) E (fun _ E => ?_) (fun _ E => ?_)
    · refine ww_aload_n C dX3_readDeed_30 rfl 0 rfl ?_
      have T_1 : gs S (gr S x0 0) = (0, 6) := hG.1 _ 3 Tx0 0 (by decide)
      refine ww_getr (ci := 3) (k0 := 0) C dX3_readDeed_31 rfl rfl inm3 (by decide) Tx0 q517 rfl T_1 (by decide) ?_
      obtain ⟨u2, e_3, E⟩ := bind_of E
      refine ww_callV C (runs_V (n := 0) (st := []) C [] (M_X6_breakOff l G ad N hG (gr S x0 0) dy T_1 e_3) ⟨q670, q114, by decide⟩ q832 q668 q669 (ci := 6) rfl T_1 rfl (Nat.le_of_ble_eq_true rfl) ⟨Nat.le_of_ble_eq_true rfl, Nat.le_of_ble_eq_true rfl⟩ ⟨Nat.zero_le _, Nat.zero_le _⟩ dX3_readDeed_34 rfl) ?_
      refine ww_iconst (v := 5) C dX3_readDeed_37 (by decide) ?_
      exact ww_iret C HR HL dX3_readDeed_38 E
    · refine ww_aload_n C dX3_readDeed_8 rfl 0 rfl ?_
      have T_4 : gs S (gr S x0 0) = (0, 6) := hG.1 _ 3 Tx0 0 (by decide)
      refine ww_getr (ci := 3) (k0 := 0) C dX3_readDeed_9 rfl rfl inm3 (by decide) Tx0 q517 rfl T_4 (by decide) ?_
      refine ww_iload_n C dX3_readDeed_12 rfl 1 rfl ?_
      obtain ⟨u5, e_6, E⟩ := bind_of E
      refine ww_callS C (runs_S (n := 1) (st := [.ref (ad (gr S x0 0))]) C [.int x1] (M_X3_deedWord l G ad N hG x1 dy e_6) ⟨q853, q117, by decide⟩ q851 q852 rfl (Nat.le_of_ble_eq_true rfl) ⟨Nat.le_of_ble_eq_true rfl, Nat.le_of_ble_eq_true rfl⟩ ⟨Nat.zero_le _, Nat.zero_le _⟩ dX3_readDeed_13 rfl) ?_
      obtain ⟨z_7, E⟩ := gd_of E
      obtain ⟨u8, e_9, E⟩ := bind_of E
      refine ww_callI C (runs_V (n := 1) (st := []) C [.ref (G.2.2.1 u5.1)] (M_X6_takesWord l G ad N hG (gr S x0 0) u5.1 u5.2 T_4 z_7 e_9) ⟨q614, q114, by decide⟩ q808 q612 q613 (ci := 6) rfl T_4 rfl (Nat.le_of_ble_eq_true rfl) ⟨Nat.le_of_ble_eq_true rfl, Nat.le_of_ble_eq_true rfl⟩ ⟨Nat.zero_le _, Nat.zero_le _⟩ dX3_readDeed_16 rfl) ?_
      refine ww_if_eq (tgt := 24) C dX3_readDeed_19 (by decide) E (fun _ E => ?_) (fun _ E => ?_)
      · refine ww_iinc (v := (x1 + (1 : Int32))) (lv' := [(1, .int (x1 + (1 : Int32))), (0, .ref (ad x0))]) C dX3_readDeed_24 1 rfl rfl (by decide) rfl ?_
        refine ww_goto (tgt := 2) C dX3_readDeed_27 (by decide) ?_
        refine ww_sub (lv' := [(0, .ref (ad x0)), (1, .int (x1 + (1 : Int32)))]) [1, 0] rfl ?_
        exact ih x0 (x1 + (1 : Int32)) u8.2 Tx0 E
      · refine ww_iload_n C dX3_readDeed_22 rfl 1 rfl ?_
        exact ww_iret C HR HL dX3_readDeed_23 E
end P_X3_readDeed
set_option maxHeartbeats 4000000 in
set_option maxRecDepth 100000 in
theorem M_X3_readDeed (l : Launch) (G : GG) (ad : Nat → Nat) {S : ST} (N : Nat) (hG : Good S) (a0 : Nat) (dy : DY) (T0 : gs S a0 = (0, 3)) {r : Int32} {dy' : DY} (E : F_X3_readDeed S N a0 dy = some (r, dy')) : MC l yX3_readDeed cX3_readDeed 2 (Option.some Jvm.ClassFile.FieldType.int) (7) G ad [.ref (ad a0)] S dy (fun A => QI G ad A S r dy') := by
  rw [F_X3_readDeed_s] at E
  refine mc_of RX3 (by decide) rfl (Nat.le_of_ble_eq_true rfl) (fun p e s m args below meth c A C HR HL => ?_)
  refine ww_sub (lv' := [(0, .ref (ad a0))]) [0] rfl ?_
  refine ww_iconst (v := 0) C dX3_readDeed_0 (by decide) ?_
  refine ww_istore_n (lv' := [(1, .int (0 : Int32)), (0, .ref (ad a0))]) C dX3_readDeed_1 rfl (by decide) rfl ?_
  refine ww_sub (lv' := [(0, .ref (ad a0)), (1, .int (0 : Int32))]) [1, 0] rfl ?_
  exact (B_X3_readDeed_2 C HR HL hG N) a0 (0 : Int32) dy T0 E
section P_X3_readFind
variable {p : Program} {l : Launch} {e : Env} {s : State} {m : MethodId} {args : Array Value} {below : List Frame} {meth : Method} {c : Code} {G : GG} {A : Nat → Prop} {ad : Nat → Nat} {S : ST} {N : Nat} {r : Int32} {dy' : DY}
set_option maxHeartbeats 4000000 in
set_option maxRecDepth 100000 in
theorem B_X3_readFind_2 (C : CX p s m args c cX3_readFind 2 RX3 G A) (HR : meth.sig.returnType = (Option.some Jvm.ClassFile.FieldType.int)) (HL : meth.locks = false) (hG : Good S) : ∀ k : Nat, ∀ (x0 : Nat) (x1 : Int32) (dy : DY), gs S x0 = (0, 3) → (F_X3_readFind_2 S N k) x0 x1 dy = some (r, dy') → WJ p l e (rmD (7)) s m args below meth c 2 G A 0 0 (MQ below (QI G ad A S r dy') args s 0 0 A) ad 2 [(0, .ref (ad x0)), (1, .int x1)] [] S dy := by
  intro k
  induction k with
  | zero => exact fun _ _ _ _ E => nomatch (show none = some (r, dy') from E)
  | succ k ih =>
    intro x0 x1 dy Tx0 E
    rw [F_X3_readFind_2_s] at E
    refine ww_iload_n C dX3_readFind_2 rfl 1 rfl ?_
    refine ww_bipush (v := 11) C dX3_readFind_3 (by decide) ?_
    refine ww_icmp_ge (tgt := 30) C dX3_readFind_5 (by decide) E (fun _ E => ?_) (fun _ E => ?_)
    · refine ww_aload_n C dX3_readFind_30 rfl 0 rfl ?_
      have T_1 : gs S (gr S x0 0) = (0, 6) := hG.1 _ 3 Tx0 0 (by decide)
      refine ww_getr (ci := 3) (k0 := 0) C dX3_readFind_31 rfl rfl inm3 (by decide) Tx0 q517 rfl T_1 (by decide) ?_
      obtain ⟨u2, e_3, E⟩ := bind_of E
      refine ww_callV C (runs_V (n := 0) (st := []) C [] (M_X6_breakOff l G ad N hG (gr S x0 0) dy T_1 e_3) ⟨q670, q114, by decide⟩ q832 q668 q669 (ci := 6) rfl T_1 rfl (Nat.le_of_ble_eq_true rfl) ⟨Nat.le_of_ble_eq_true rfl, Nat.le_of_ble_eq_true rfl⟩ ⟨Nat.zero_le _, Nat.zero_le _⟩ dX3_readFind_34 rfl) ?_
      refine ww_iconst (v := 0) C dX3_readFind_37 (by decide) ?_
      exact ww_iret C HR HL dX3_readFind_38 E
    · refine ww_aload_n C dX3_readFind_8 rfl 0 rfl ?_
      have T_4 : gs S (gr S x0 0) = (0, 6) := hG.1 _ 3 Tx0 0 (by decide)
      refine ww_getr (ci := 3) (k0 := 0) C dX3_readFind_9 rfl rfl inm3 (by decide) Tx0 q517 rfl T_4 (by decide) ?_
      refine ww_iload_n C dX3_readFind_12 rfl 1 rfl ?_
      obtain ⟨u5, e_6, E⟩ := bind_of E
      refine ww_callS C (runs_S (n := 1) (st := [.ref (ad (gr S x0 0))]) C [.int x1] (M_X3_findWord l G ad N hG x1 dy e_6) ⟨q820, q117, by decide⟩ q818 q819 rfl (Nat.le_of_ble_eq_true rfl) ⟨Nat.le_of_ble_eq_true rfl, Nat.le_of_ble_eq_true rfl⟩ ⟨Nat.zero_le _, Nat.zero_le _⟩ dX3_readFind_13 rfl) ?_
      obtain ⟨z_7, E⟩ := gd_of E
      obtain ⟨u8, e_9, E⟩ := bind_of E
      refine ww_callI C (runs_V (n := 1) (st := []) C [.ref (G.2.2.1 u5.1)] (M_X6_takesWord l G ad N hG (gr S x0 0) u5.1 u5.2 T_4 z_7 e_9) ⟨q614, q114, by decide⟩ q808 q612 q613 (ci := 6) rfl T_4 rfl (Nat.le_of_ble_eq_true rfl) ⟨Nat.le_of_ble_eq_true rfl, Nat.le_of_ble_eq_true rfl⟩ ⟨Nat.zero_le _, Nat.zero_le _⟩ dX3_readFind_16 rfl) ?_
      refine ww_if_eq (tgt := 24) C dX3_readFind_19 (by decide) E (fun _ E => ?_) (fun _ E => ?_)
      · refine ww_iinc (v := (x1 + (1 : Int32))) (lv' := [(1, .int (x1 + (1 : Int32))), (0, .ref (ad x0))]) C dX3_readFind_24 1 rfl rfl (by decide) rfl ?_
        refine ww_goto (tgt := 2) C dX3_readFind_27 (by decide) ?_
        refine ww_sub (lv' := [(0, .ref (ad x0)), (1, .int (x1 + (1 : Int32)))]) [1, 0] rfl ?_
        exact ih x0 (x1 + (1 : Int32)) u8.2 Tx0 E
      · refine ww_iload_n C dX3_readFind_22 rfl 1 rfl ?_
        exact ww_iret C HR HL dX3_readFind_23 E
end P_X3_readFind
set_option maxHeartbeats 4000000 in
set_option maxRecDepth 100000 in
theorem M_X3_readFind (l : Launch) (G : GG) (ad : Nat → Nat) {S : ST} (N : Nat) (hG : Good S) (a0 : Nat) (dy : DY) (T0 : gs S a0 = (0, 3)) {r : Int32} {dy' : DY} (E : F_X3_readFind S N a0 dy = some (r, dy')) : MC l yX3_readFind cX3_readFind 2 (Option.some Jvm.ClassFile.FieldType.int) (7) G ad [.ref (ad a0)] S dy (fun A => QI G ad A S r dy') := by
  rw [F_X3_readFind_s] at E
  refine mc_of RX3 (by decide) rfl (Nat.le_of_ble_eq_true rfl) (fun p e s m args below meth c A C HR HL => ?_)
  refine ww_sub (lv' := [(0, .ref (ad a0))]) [0] rfl ?_
  refine ww_iconst (v := 0) C dX3_readFind_0 (by decide) ?_
  refine ww_istore_n (lv' := [(1, .int (0 : Int32)), (0, .ref (ad a0))]) C dX3_readFind_1 rfl (by decide) rfl ?_
  refine ww_sub (lv' := [(0, .ref (ad a0)), (1, .int (0 : Int32))]) [1, 0] rfl ?_
  exact (B_X3_readFind_2 C HR HL hG N) a0 (0 : Int32) dy T0 E
section P_X3_readSign
variable {p : Program} {l : Launch} {e : Env} {s : State} {m : MethodId} {args : Array Value} {below : List Frame} {meth : Method} {c : Code} {G : GG} {A : Nat → Prop} {ad : Nat → Nat} {S : ST} {N : Nat} {r : Int32} {dy' : DY}
end P_X3_readSign
set_option maxHeartbeats 4000000 in
set_option maxRecDepth 100000 in
theorem M_X3_readSign (l : Launch) (G : GG) (ad : Nat → Nat) {S : ST} (N : Nat) (hG : Good S) (a0 : Nat) (dy : DY) (T0 : gs S a0 = (0, 3)) {r : Int32} {dy' : DY} (E : F_X3_readSign S N a0 dy = some (r, dy')) : MC l yX3_readSign cX3_readSign 1 (Option.some Jvm.ClassFile.FieldType.int) (4) G ad [.ref (ad a0)] S dy (fun A => QI G ad A S r dy') := by
  rw [F_X3_readSign_s] at E
  refine mc_of RX3 (by decide) rfl (Nat.le_of_ble_eq_true rfl) (fun p e s m args below meth c A C HR HL => ?_)
  refine ww_sub (lv' := [(0, .ref (ad a0))]) [0] rfl ?_
  refine ww_aload_n C dX3_readSign_0 rfl 0 rfl ?_
  have T_1 : gs S (gr S a0 0) = (0, 6) := hG.1 _ 3 T0 0 (by decide)
  refine ww_getr (ci := 3) (k0 := 0) C dX3_readSign_1 rfl rfl inm3 (by decide) T0 q517 rfl T_1 (by decide) ?_
  refine ww_bipush (v := 60) C dX3_readSign_4 (by decide) ?_
  obtain ⟨u2, e_3, E⟩ := bind_of E
  refine ww_callI C (runs_V (n := 1) (st := []) C [.int (60 : Int32)] (M_X6_isSign l G ad N hG (gr S a0 0) (60 : Int32) dy T_1 e_3) ⟨q690, q114, by decide⟩ q837 q688 q689 (ci := 6) rfl T_1 rfl (Nat.le_of_ble_eq_true rfl) ⟨Nat.le_of_ble_eq_true rfl, Nat.le_of_ble_eq_true rfl⟩ ⟨Nat.zero_le _, Nat.zero_le _⟩ dX3_readSign_6 rfl) ?_
  refine ww_if_eq (tgt := 21) C dX3_readSign_9 (by decide) E (fun _ E => ?_) (fun _ E => ?_)
  · refine ww_aload_n C dX3_readSign_21 rfl 0 rfl ?_
    have T_4 : gs S (gr S a0 0) = (0, 6) := hG.1 _ 3 T0 0 (by decide)
    refine ww_getr (ci := 3) (k0 := 0) C dX3_readSign_22 rfl rfl inm3 (by decide) T0 q517 rfl T_4 (by decide) ?_
    refine ww_bipush (v := 62) C dX3_readSign_25 (by decide) ?_
    obtain ⟨u5, e_6, E⟩ := bind_of E
    refine ww_callI C (runs_V (n := 1) (st := []) C [.int (62 : Int32)] (M_X6_isSign l G ad N hG (gr S a0 0) (62 : Int32) u2.2 T_4 e_6) ⟨q690, q114, by decide⟩ q837 q688 q689 (ci := 6) rfl T_4 rfl (Nat.le_of_ble_eq_true rfl) ⟨Nat.le_of_ble_eq_true rfl, Nat.le_of_ble_eq_true rfl⟩ ⟨Nat.zero_le _, Nat.zero_le _⟩ dX3_readSign_27 rfl) ?_
    refine ww_if_eq (tgt := 42) C dX3_readSign_30 (by decide) E (fun _ E => ?_) (fun _ E => ?_)
    · refine ww_aload_n C dX3_readSign_42 rfl 0 rfl ?_
      have T_7 : gs S (gr S a0 0) = (0, 6) := hG.1 _ 3 T0 0 (by decide)
      refine ww_getr (ci := 3) (k0 := 0) C dX3_readSign_43 rfl rfl inm3 (by decide) T0 q517 rfl T_7 (by decide) ?_
      refine ww_bipush (v := 61) C dX3_readSign_46 (by decide) ?_
      obtain ⟨u8, e_9, E⟩ := bind_of E
      refine ww_callV C (runs_V (n := 1) (st := []) C [.int (61 : Int32)] (M_X6_needSign l G ad N hG (gr S a0 0) (61 : Int32) u5.2 T_7 e_9) ⟨q686, q114, by decide⟩ q839 q684 q685 (ci := 6) rfl T_7 rfl (Nat.le_of_ble_eq_true rfl) ⟨Nat.le_of_ble_eq_true rfl, Nat.le_of_ble_eq_true rfl⟩ ⟨Nat.zero_le _, Nat.zero_le _⟩ dX3_readSign_48 rfl) ?_
      refine ww_iconst (v := 2) C dX3_readSign_51 (by decide) ?_
      exact ww_iret C HR HL dX3_readSign_52 E
    · refine ww_aload_n C dX3_readSign_33 rfl 0 rfl ?_
      have T_10 : gs S (gr S a0 0) = (0, 6) := hG.1 _ 3 T0 0 (by decide)
      refine ww_getr (ci := 3) (k0 := 0) C dX3_readSign_34 rfl rfl inm3 (by decide) T0 q517 rfl T_10 (by decide) ?_
      obtain ⟨u11, e_12, E⟩ := bind_of E
      refine ww_callV C (runs_V (n := 0) (st := []) C [] (M_X6_step l G ad N hG (gr S a0 0) u5.2 T_10 e_12) ⟨q595, q114, by decide⟩ q838 q593 q594 (ci := 6) rfl T_10 rfl (Nat.le_of_ble_eq_true rfl) ⟨Nat.le_of_ble_eq_true rfl, Nat.le_of_ble_eq_true rfl⟩ ⟨Nat.zero_le _, Nat.zero_le _⟩ dX3_readSign_37 rfl) ?_
      refine ww_iconst (v := 1) C dX3_readSign_40 (by decide) ?_
      exact ww_iret C HR HL dX3_readSign_41 E
  · refine ww_aload_n C dX3_readSign_12 rfl 0 rfl ?_
    have T_13 : gs S (gr S a0 0) = (0, 6) := hG.1 _ 3 T0 0 (by decide)
    refine ww_getr (ci := 3) (k0 := 0) C dX3_readSign_13 rfl rfl inm3 (by decide) T0 q517 rfl T_13 (by decide) ?_
    obtain ⟨u14, e_15, E⟩ := bind_of E
    refine ww_callV C (runs_V (n := 0) (st := []) C [] (M_X6_step l G ad N hG (gr S a0 0) u2.2 T_13 e_15) ⟨q595, q114, by decide⟩ q838 q593 q594 (ci := 6) rfl T_13 rfl (Nat.le_of_ble_eq_true rfl) ⟨Nat.le_of_ble_eq_true rfl, Nat.le_of_ble_eq_true rfl⟩ ⟨Nat.zero_le _, Nat.zero_le _⟩ dX3_readSign_16 rfl) ?_
    refine ww_iconst (v := 0) C dX3_readSign_19 (by decide) ?_
    exact ww_iret C HR HL dX3_readSign_20 E
section P_X3_readTest
variable {p : Program} {l : Launch} {e : Env} {s : State} {m : MethodId} {args : Array Value} {below : List Frame} {meth : Method} {c : Code} {G : GG} {A : Nat → Prop} {ad : Nat → Nat} {S : ST} {N : Nat} {dy' : DY}
set_option maxHeartbeats 4000000 in
set_option maxRecDepth 100000 in
theorem B_X3_readTest_62 (C : CX p s m args c cX3_readTest 6 RX3 G A) (HR : meth.sig.returnType = (Option.none : Option Jvm.ClassFile.FieldType)) (HL : meth.locks = false) (hG : Good S) : ∀ (x0 : Nat) (x1 : Int32) (x2 : Int32) (x3 : Int32) (x4 : Int32) (x5 : Int32) (dy : DY), gs S x0 = (0, 3) → F_X3_readTest_62 S N x0 x1 x2 x3 x4 x5 dy = some dy' → WJ p l e (rmD (8)) s m args below meth c 6 G A 0 0 (MQ below (QV G ad A S dy') args s 0 0 A) ad 62 [(0, .ref (ad x0)), (1, .int x1), (2, .int x2), (3, .int x3), (4, .int x4), (5, .int x5)] [] S dy := by
  intro x0 x1 x2 x3 x4 x5 dy Tx0 E
  rw [F_X3_readTest_62_s] at E
  refine ww_aload_n C dX3_readTest_62 rfl 0 rfl ?_
  have T_1 : gs S (gr S x0 0) = (0, 6) := hG.1 _ 3 Tx0 0 (by decide)
  refine ww_getr (ci := 3) (k0 := 0) C dX3_readTest_63 rfl rfl inm3 (by decide) Tx0 q517 rfl T_1 (by decide) ?_
  obtain ⟨u2, e_3, E⟩ := bind_of E
  refine ww_callI C (runs_V (n := 0) (st := []) C [] (M_X6_isSound l G ad N hG (gr S x0 0) dy T_1 e_3) ⟨q719, q114, by decide⟩ q841 q717 q718 (ci := 6) rfl T_1 rfl (Nat.le_of_ble_eq_true rfl) ⟨Nat.le_of_ble_eq_true rfl, Nat.le_of_ble_eq_true rfl⟩ ⟨Nat.zero_le _, Nat.zero_le _⟩ dX3_readTest_66 rfl) ?_
  refine ww_if_eq (tgt := 86) C dX3_readTest_69 (by decide) E (fun _ E => ?_) (fun _ E => ?_)
  · exact ww_vret C HR HL dX3_readTest_86 E
  · refine ww_aload_n C dX3_readTest_72 rfl 0 rfl ?_
    have T_4 : gs S (gr S x0 1) = (0, 2) := hG.1 _ 3 Tx0 1 (by decide)
    refine ww_getr (ci := 3) (k0 := 1) C dX3_readTest_73 rfl rfl inm3 (by decide) Tx0 q518 rfl T_4 (by decide) ?_
    refine ww_iload_n C dX3_readTest_76 rfl 1 rfl ?_
    refine ww_iload_n C dX3_readTest_77 rfl 3 rfl ?_
    refine ww_iload C dX3_readTest_78 4 rfl ?_
    refine ww_iload C dX3_readTest_80 5 rfl ?_
    refine ww_iload_n C dX3_readTest_82 rfl 2 rfl ?_
    obtain ⟨u5, e_6, E⟩ := bind_of E
    refine ww_callV C (runs_V (n := 5) (st := []) C [.int x1, .int x3, .int x4, .int x5, .int x2] (M_X2_setTest l G ad N hG (gr S x0 1) x1 x3 x4 x5 x2 u2.2 T_4 e_6) ⟨q845, q111, by decide⟩ q842 q843 q844 (ci := 2) rfl T_4 rfl (Nat.le_of_ble_eq_true rfl) ⟨Nat.le_of_ble_eq_true rfl, Nat.le_of_ble_eq_true rfl⟩ ⟨Nat.zero_le _, Nat.zero_le _⟩ dX3_readTest_83 rfl) ?_
    exact ww_vret C HR HL dX3_readTest_86 E
set_option maxHeartbeats 4000000 in
set_option maxRecDepth 100000 in
theorem B_X3_readTest_20 (C : CX p s m args c cX3_readTest 6 RX3 G A) (HR : meth.sig.returnType = (Option.none : Option Jvm.ClassFile.FieldType)) (HL : meth.locks = false) (hG : Good S) : ∀ (x0 : Nat) (x1 : Int32) (dy : DY), gs S x0 = (0, 3) → F_X3_readTest_20 S N x0 x1 dy = some dy' → WJ p l e (rmD (8)) s m args below meth c 6 G A 0 0 (MQ below (QV G ad A S dy') args s 0 0 A) ad 20 [(0, .ref (ad x0)), (1, .int x1)] [] S dy := by
  intro x0 x1 dy Tx0 E
  rw [F_X3_readTest_20_s] at E
  refine ww_aload_n C dX3_readTest_20 rfl 0 rfl ?_
  have T_1 : gs S (gr S x0 0) = (0, 6) := hG.1 _ 3 Tx0 0 (by decide)
  refine ww_getr (ci := 3) (k0 := 0) C dX3_readTest_21 rfl rfl inm3 (by decide) Tx0 q517 rfl T_1 (by decide) ?_
  refine ww_ldcs (j := 13) C dX3_readTest_24 rfl ?_
  obtain ⟨u2, e_3, E⟩ := bind_of E
  refine ww_callI C (runs_V (n := 1) (st := []) C [.ref (G.2.2.1 13)] (M_X6_takesWord l G ad N hG (gr S x0 0) 13 dy T_1 (show 13 < 30 by decide) e_3) ⟨q614, q114, by decide⟩ q808 q612 q613 (ci := 6) rfl T_1 rfl (Nat.le_of_ble_eq_true rfl) ⟨Nat.le_of_ble_eq_true rfl, Nat.le_of_ble_eq_true rfl⟩ ⟨Nat.zero_le _, Nat.zero_le _⟩ dX3_readTest_26 rfl) ?_
  refine ww_istore_n (lv' := [(2, .int u2.1), (0, .ref (ad x0)), (1, .int x1)]) C dX3_readTest_29 rfl (by decide) rfl ?_
  refine ww_aload_n C dX3_readTest_30 rfl 1 rfl ?_
  obtain ⟨u4, e_5, E⟩ := bind_of E
  refine ww_callI C (runs_V (n := 0) (st := []) C [] (M_X3_readFind l G ad N hG x0 u2.2 Tx0 e_5) ⟨q817, q117, by decide⟩ q814 q816 q11 (ci := 3) rfl Tx0 rfl (Nat.le_of_ble_eq_true rfl) ⟨Nat.le_of_ble_eq_true rfl, Nat.le_of_ble_eq_true rfl⟩ ⟨Nat.zero_le _, Nat.zero_le _⟩ dX3_readTest_31 rfl) ?_
  refine ww_istore_n (lv' := [(3, .int u4.1), (2, .int u2.1), (0, .ref (ad x0)), (1, .int x1)]) C dX3_readTest_34 rfl (by decide) rfl ?_
  refine ww_iconst (v := 2) C dX3_readTest_35 (by decide) ?_
  refine ww_istore (lv' := [(4, .int (2 : Int32)), (3, .int u4.1), (2, .int u2.1), (0, .ref (ad x0)), (1, .int x1)]) C dX3_readTest_36 (by decide) rfl ?_
  refine ww_iconst (v := 1) C dX3_readTest_38 (by decide) ?_
  refine ww_istore (lv' := [(5, .int (1 : Int32)), (4, .int (2 : Int32)), (3, .int u4.1), (2, .int u2.1), (0, .ref (ad x0)), (1, .int x1)]) C dX3_readTest_39 (by decide) rfl ?_
  refine ww_iload_n C dX3_readTest_41 rfl 2 rfl ?_
  refine ww_bipush (v := 8) C dX3_readTest_42 (by decide) ?_
  refine ww_icmp_ge (tgt := 62) C dX3_readTest_44 (by decide) E (fun _ E => ?_) (fun _ E => ?_)
  · refine ww_sub (lv' := [(0, .ref (ad x0)), (1, .int x1), (2, .int u2.1), (3, .int u4.1), (4, .int (2 : Int32)), (5, .int (1 : Int32))]) [4, 5, 3, 2, 1, 0] rfl ?_
    exact (B_X3_readTest_62 C HR HL hG) x0 x1 u2.1 u4.1 (2 : Int32) (1 : Int32) u4.2 Tx0 E
  · refine ww_aload_n C dX3_readTest_47 rfl 4 rfl ?_
    obtain ⟨u6, e_7, E⟩ := bind_of E
    refine ww_callI C (runs_V (n := 0) (st := []) C [] (M_X3_readSign l G ad N hG x0 u4.2 Tx0 e_7) ⟨q836, q117, by decide⟩ q833 q835 q12 (ci := 3) rfl Tx0 rfl (Nat.le_of_ble_eq_true rfl) ⟨Nat.le_of_ble_eq_true rfl, Nat.le_of_ble_eq_true rfl⟩ ⟨Nat.zero_le _, Nat.zero_le _⟩ dX3_readTest_48 rfl) ?_
    refine ww_istore (lv' := [(4, .int u6.1), (5, .int (1 : Int32)), (3, .int u4.1), (2, .int u2.1), (0, .ref (ad x0)), (1, .int x1)]) C dX3_readTest_51 (by decide) rfl ?_
    refine ww_aload_n C dX3_readTest_53 rfl 4 rfl ?_
    have T_8 : gs S (gr S x0 0) = (0, 6) := hG.1 _ 3 Tx0 0 (by decide)
    refine ww_getr (ci := 3) (k0 := 0) C dX3_readTest_54 rfl rfl inm3 (by decide) Tx0 q517 rfl T_8 (by decide) ?_
    obtain ⟨u9, e_10, E⟩ := bind_of E
    refine ww_callI C (runs_V (n := 0) (st := []) C [] (M_X6_needNumber l G ad N hG (gr S x0 0) u6.2 T_8 e_10) ⟨q678, q114, by decide⟩ q840 q676 q677 (ci := 6) rfl T_8 rfl (Nat.le_of_ble_eq_true rfl) ⟨Nat.le_of_ble_eq_true rfl, Nat.le_of_ble_eq_true rfl⟩ ⟨Nat.zero_le _, Nat.zero_le _⟩ dX3_readTest_57 rfl) ?_
    refine ww_istore (lv' := [(5, .int u9.1), (4, .int u6.1), (3, .int u4.1), (2, .int u2.1), (0, .ref (ad x0)), (1, .int x1)]) C dX3_readTest_60 (by decide) rfl ?_
    refine ww_sub (lv' := [(0, .ref (ad x0)), (1, .int x1), (2, .int u2.1), (3, .int u4.1), (4, .int u6.1), (5, .int u9.1)]) [4, 5, 3, 2, 1, 0] rfl ?_
    exact (B_X3_readTest_62 C HR HL hG) x0 x1 u2.1 u4.1 u6.1 u9.1 u9.2 Tx0 E
end P_X3_readTest
set_option maxHeartbeats 4000000 in
set_option maxRecDepth 100000 in
theorem M_X3_readTest (l : Launch) (G : GG) (ad : Nat → Nat) {S : ST} (N : Nat) (hG : Good S) (a0 : Nat) (a1 : Int32) (dy : DY) (T0 : gs S a0 = (0, 3)) {dy' : DY} (E : F_X3_readTest S N a0 a1 dy = some dy') : MC l yX3_readTest cX3_readTest 6 (Option.none : Option Jvm.ClassFile.FieldType) (8) G ad [.ref (ad a0), .int a1] S dy (fun A => QV G ad A S dy') := by
  rw [F_X3_readTest_s] at E
  refine mc_of RX3 (by decide) rfl (Nat.le_of_ble_eq_true rfl) (fun p e s m args below meth c A C HR HL => ?_)
  refine ww_sub (lv' := [(0, .ref (ad a0)), (1, .int a1)]) [0, 1] rfl ?_
  refine ww_iload_n C dX3_readTest_0 rfl 1 rfl ?_
  refine ww_iconst (v := 4) C dX3_readTest_1 (by decide) ?_
  refine ww_icmp_lt (tgt := 20) C dX3_readTest_2 (by decide) E (fun _ E => ?_) (fun _ E => ?_)
  · refine ww_sub (lv' := [(0, .ref (ad a0)), (1, .int a1)]) [0, 1] rfl ?_
    exact (B_X3_readTest_20 C HR HL hG) a0 a1 dy T0 E
  · refine ww_aload_n C dX3_readTest_5 rfl 0 rfl ?_
    have T_1 : gs S (gr S a0 0) = (0, 6) := hG.1 _ 3 T0 0 (by decide)
    refine ww_getr (ci := 3) (k0 := 0) C dX3_readTest_6 rfl rfl inm3 (by decide) T0 q517 rfl T_1 (by decide) ?_
    refine ww_iconst (v := 3) C dX3_readTest_9 (by decide) ?_
    refine ww_aload_n C dX3_readTest_10 rfl 0 rfl ?_
    have T_2 : gs S (gr S a0 0) = (0, 6) := hG.1 _ 3 T0 0 (by decide)
    refine ww_getr (ci := 3) (k0 := 0) C dX3_readTest_11 rfl rfl inm3 (by decide) T0 q517 rfl T_2 (by decide) ?_
    refine ww_geti (ci := 6) (k0 := 3) C dX3_readTest_14 rfl rfl inm6 (by decide) T_2 q429 rfl ?_
    obtain ⟨u3, e_4, E⟩ := bind_of E
    refine ww_callV C (runs_V (n := 2) (st := []) C [.int (3 : Int32), .int (gi dy (gr S a0 0) 3)] (M_X6_note l G ad N hG (gr S a0 0) (3 : Int32) (gi dy (gr S a0 0) 3) dy T_1 e_4) ⟨q682, q114, by decide⟩ q802 q680 q681 (ci := 6) rfl T_1 rfl (Nat.le_of_ble_eq_true rfl) ⟨Nat.le_of_ble_eq_true rfl, Nat.le_of_ble_eq_true rfl⟩ ⟨Nat.zero_le _, Nat.zero_le _⟩ dX3_readTest_17 rfl) ?_
    refine ww_sub (lv' := [(0, .ref (ad a0)), (1, .int a1)]) [0, 1] rfl ?_
    exact (B_X3_readTest_20 C HR HL hG) a0 a1 u3 T0 E
section P_X3_readRule
variable {p : Program} {l : Launch} {e : Env} {s : State} {m : MethodId} {args : Array Value} {below : List Frame} {meth : Method} {c : Code} {G : GG} {A : Nat → Prop} {ad : Nat → Nat} {S : ST} {N : Nat} {dy' : DY}
set_option maxHeartbeats 4000000 in
set_option maxRecDepth 100000 in
theorem B_X3_readRule_51 (C : CX p s m args c cX3_readRule 3 RX3 G A) (HR : meth.sig.returnType = (Option.none : Option Jvm.ClassFile.FieldType)) (HL : meth.locks = false) (hG : Good S) {K60 : Nat → Int32 → DY → Option DY} (hK60 : ∀ (x0 : Nat) (x1 : Int32) (dy : DY), gs S x0 = (0, 3) → K60 x0 x1 dy = some dy' → WJ p l e (rmD (9)) s m args below meth c 3 G A 0 0 (MQ below (QV G ad A S dy') args s 0 0 A) ad 60 [(0, .ref (ad x0)), (1, .int x1)] [] S dy) : ∀ (x0 : Nat) (x1 : Int32) (dy : DY), gs S x0 = (0, 3) → F_X3_readRule_51 S N K60 x0 x1 dy = some dy' → WJ p l e (rmD (9)) s m args below meth c 3 G A 0 0 (MQ below (QV G ad A S dy') args s 0 0 A) ad 51 [(0, .ref (ad x0)), (1, .int x1)] [] S dy := by
  intro x0 x1 dy Tx0 E
  rw [F_X3_readRule_51_s] at E
  refine ww_aload_n C dX3_readRule_51 rfl 0 rfl ?_
  have T_1 : gs S (gr S x0 0) = (0, 6) := hG.1 _ 3 Tx0 0 (by decide)
  refine ww_getr (ci := 3) (k0 := 0) C dX3_readRule_52 rfl rfl inm3 (by decide) Tx0 q517 rfl T_1 (by decide) ?_
  refine ww_bipush (v := 58) C dX3_readRule_55 (by decide) ?_
  obtain ⟨u2, e_3, E⟩ := bind_of E
  refine ww_callV C (runs_V (n := 1) (st := []) C [.int (58 : Int32)] (M_X6_needSign l G ad N hG (gr S x0 0) (58 : Int32) dy T_1 e_3) ⟨q686, q114, by decide⟩ q839 q684 q685 (ci := 6) rfl T_1 rfl (Nat.le_of_ble_eq_true rfl) ⟨Nat.le_of_ble_eq_true rfl, Nat.le_of_ble_eq_true rfl⟩ ⟨Nat.zero_le _, Nat.zero_le _⟩ dX3_readRule_57 rfl) ?_
  refine ww_sub (lv' := [(0, .ref (ad x0)), (1, .int x1)]) [0, 1] rfl ?_
  exact hK60 x0 x1 u2 Tx0 E
set_option maxHeartbeats 4000000 in
set_option maxRecDepth 100000 in
theorem B_X3_readRule_21 (C : CX p s m args c cX3_readRule 3 RX3 G A) (HR : meth.sig.returnType = (Option.none : Option Jvm.ClassFile.FieldType)) (HL : meth.locks = false) (hG : Good S) {K60 : Nat → Int32 → DY → Option DY} (hK60 : ∀ (x0 : Nat) (x1 : Int32) (dy : DY), gs S x0 = (0, 3) → K60 x0 x1 dy = some dy' → WJ p l e (rmD (9)) s m args below meth c 3 G A 0 0 (MQ below (QV G ad A S dy') args s 0 0 A) ad 60 [(0, .ref (ad x0)), (1, .int x1)] [] S dy) : ∀ k : Nat, ∀ (x0 : Nat) (x1 : Int32) (dy : DY), gs S x0 = (0, 3) → (F_X3_readRule_21 S N K60 k) x0 x1 dy = some dy' → WJ p l e (rmD (9)) s m args below meth c 3 G A 0 0 (MQ below (QV G ad A S dy') args s 0 0 A) ad 21 [(0, .ref (ad x0)), (1, .int x1)] [] S dy := by
  intro k
  induction k with
  | zero => exact fun _ _ _ _ E => nomatch (show none = some dy' from E)
  | succ k ih =>
    intro x0 x1 dy Tx0 E
    rw [F_X3_readRule_21_s] at E
    refine ww_iload_n C dX3_readRule_21 rfl 1 rfl ?_
    refine ww_sipush (v := 500) C dX3_readRule_22 (by decide) ?_
    refine ww_icmp_ge (tgt := 51) C dX3_readRule_25 (by decide) E (fun _ E => ?_) (fun _ E => ?_)
    · refine ww_sub (lv' := [(0, .ref (ad x0)), (1, .int x1)]) [0, 1] rfl ?_
      exact (B_X3_readRule_51 C HR HL hG hK60) x0 x1 dy Tx0 E
    · refine ww_aload_n C dX3_readRule_28 rfl 0 rfl ?_
      have T_1 : gs S (gr S x0 0) = (0, 6) := hG.1 _ 3 Tx0 0 (by decide)
      refine ww_getr (ci := 3) (k0 := 0) C dX3_readRule_29 rfl rfl inm3 (by decide) Tx0 q517 rfl T_1 (by decide) ?_
      refine ww_ldcs (j := 25) C dX3_readRule_32 rfl ?_
      obtain ⟨u2, e_3, E⟩ := bind_of E
      refine ww_callI C (runs_V (n := 1) (st := []) C [.ref (G.2.2.1 25)] (M_X6_takesWord l G ad N hG (gr S x0 0) 25 dy T_1 (show 25 < 30 by decide) e_3) ⟨q614, q114, by decide⟩ q808 q612 q613 (ci := 6) rfl T_1 rfl (Nat.le_of_ble_eq_true rfl) ⟨Nat.le_of_ble_eq_true rfl, Nat.le_of_ble_eq_true rfl⟩ ⟨Nat.zero_le _, Nat.zero_le _⟩ dX3_readRule_34 rfl) ?_
      refine ww_if_eq (tgt := 51) C dX3_readRule_37 (by decide) E (fun _ E => ?_) (fun _ E => ?_)
      · refine ww_sub (lv' := [(0, .ref (ad x0)), (1, .int x1)]) [0, 1] rfl ?_
        exact (B_X3_readRule_51 C HR HL hG hK60) x0 x1 u2.2 Tx0 E
      · refine ww_aload_n C dX3_readRule_40 rfl 0 rfl ?_
        refine ww_iload_n C dX3_readRule_41 rfl 1 rfl ?_
        obtain ⟨u4, e_5, E⟩ := bind_of E
        refine ww_callV C (runs_V (n := 1) (st := []) C [.int x1] (M_X3_readTest l G ad N hG x0 x1 u2.2 Tx0 e_5) ⟨q812, q117, by decide⟩ q809 q811 q10 (ci := 3) rfl Tx0 rfl (Nat.le_of_ble_eq_true rfl) ⟨Nat.le_of_ble_eq_true rfl, Nat.le_of_ble_eq_true rfl⟩ ⟨Nat.zero_le _, Nat.zero_le _⟩ dX3_readRule_42 rfl) ?_
        refine ww_iinc (v := (x1 + (1 : Int32))) (lv' := [(1, .int (x1 + (1 : Int32))), (0, .ref (ad x0))]) C dX3_readRule_45 1 rfl rfl (by decide) rfl ?_
        refine ww_goto (tgt := 21) C dX3_readRule_48 (by decide) ?_
        refine ww_sub (lv' := [(0, .ref (ad x0)), (1, .int (x1 + (1 : Int32)))]) [1, 0] rfl ?_
        exact ih x0 (x1 + (1 : Int32)) u4 Tx0 E
set_option maxHeartbeats 4000000 in
set_option maxRecDepth 100000 in
theorem B_X3_readRule_60 (C : CX p s m args c cX3_readRule 3 RX3 G A) (HR : meth.sig.returnType = (Option.none : Option Jvm.ClassFile.FieldType)) (HL : meth.locks = false) (hG : Good S) : ∀ (x0 : Nat) (x1 : Int32) (dy : DY), gs S x0 = (0, 3) → F_X3_readRule_60 S N x0 x1 dy = some dy' → WJ p l e (rmD (9)) s m args below meth c 3 G A 0 0 (MQ below (QV G ad A S dy') args s 0 0 A) ad 60 [(0, .ref (ad x0)), (1, .int x1)] [] S dy := by
  intro x0 x1 dy Tx0 E
  rw [F_X3_readRule_60_s] at E
  refine ww_aload_n C dX3_readRule_60 rfl 0 rfl ?_
  obtain ⟨u1, e_2, E⟩ := bind_of E
  refine ww_callI C (runs_V (n := 0) (st := []) C [] (M_X3_readDeed l G ad N hG x0 dy Tx0 e_2) ⟨q850, q117, by decide⟩ q847 q849 q13 (ci := 3) rfl Tx0 rfl (Nat.le_of_ble_eq_true rfl) ⟨Nat.le_of_ble_eq_true rfl, Nat.le_of_ble_eq_true rfl⟩ ⟨Nat.zero_le _, Nat.zero_le _⟩ dX3_readRule_61 rfl) ?_
  refine ww_istore_n (lv' := [(2, .int u1.1), (0, .ref (ad x0)), (1, .int x1)]) C dX3_readRule_64 rfl (by decide) rfl ?_
  refine ww_aload_n C dX3_readRule_65 rfl 1 rfl ?_
  have T_3 : gs S (gr S x0 0) = (0, 6) := hG.1 _ 3 Tx0 0 (by decide)
  refine ww_getr (ci := 3) (k0 := 0) C dX3_readRule_66 rfl rfl inm3 (by decide) Tx0 q517 rfl T_3 (by decide) ?_
  refine ww_bipush (v := 59) C dX3_readRule_69 (by decide) ?_
  obtain ⟨u4, e_5, E⟩ := bind_of E
  refine ww_callV C (runs_V (n := 1) (st := []) C [.int (59 : Int32)] (M_X6_needSign l G ad N hG (gr S x0 0) (59 : Int32) u1.2 T_3 e_5) ⟨q686, q114, by decide⟩ q839 q684 q685 (ci := 6) rfl T_3 rfl (Nat.le_of_ble_eq_true rfl) ⟨Nat.le_of_ble_eq_true rfl, Nat.le_of_ble_eq_true rfl⟩ ⟨Nat.zero_le _, Nat.zero_le _⟩ dX3_readRule_71 rfl) ?_
  refine ww_aload_n C dX3_readRule_74 rfl 1 rfl ?_
  have T_6 : gs S (gr S x0 0) = (0, 6) := hG.1 _ 3 Tx0 0 (by decide)
  refine ww_getr (ci := 3) (k0 := 0) C dX3_readRule_75 rfl rfl inm3 (by decide) Tx0 q517 rfl T_6 (by decide) ?_
  obtain ⟨u7, e_8, E⟩ := bind_of E
  refine ww_callI C (runs_V (n := 0) (st := []) C [] (M_X6_isSound l G ad N hG (gr S x0 0) u4 T_6 e_8) ⟨q719, q114, by decide⟩ q841 q717 q718 (ci := 6) rfl T_6 rfl (Nat.le_of_ble_eq_true rfl) ⟨Nat.le_of_ble_eq_true rfl, Nat.le_of_ble_eq_true rfl⟩ ⟨Nat.zero_le _, Nat.zero_le _⟩ dX3_readRule_78 rfl) ?_
  refine ww_if_eq (tgt := 93) C dX3_readRule_81 (by decide) E (fun _ E => ?_) (fun _ E => ?_)
  · exact ww_vret C HR HL dX3_readRule_93 E
  · refine ww_aload_n C dX3_readRule_84 rfl 1 rfl ?_
    have T_9 : gs S (gr S x0 1) = (0, 2) := hG.1 _ 3 Tx0 1 (by decide)
    refine ww_getr (ci := 3) (k0 := 1) C dX3_readRule_85 rfl rfl inm3 (by decide) Tx0 q518 rfl T_9 (by decide) ?_
    refine ww_iload_n C dX3_readRule_88 rfl 0 rfl ?_
    refine ww_iload_n C dX3_readRule_89 rfl 2 rfl ?_
    obtain ⟨u10, e_11, E⟩ := bind_of E
    refine ww_callV C (runs_V (n := 2) (st := []) C [.int u1.1, .int x1] (M_X2_addRule l G ad N hG (gr S x0 1) u1.1 x1 u7.2 T_9 e_11) ⟨q861, q111, by decide⟩ q858 q859 q860 (ci := 2) rfl T_9 rfl (Nat.le_of_ble_eq_true rfl) ⟨Nat.le_of_ble_eq_true rfl, Nat.le_of_ble_eq_true rfl⟩ ⟨Nat.zero_le _, Nat.zero_le _⟩ dX3_readRule_90 rfl) ?_
    exact ww_vret C HR HL dX3_readRule_93 E
end P_X3_readRule
set_option maxHeartbeats 4000000 in
set_option maxRecDepth 100000 in
theorem M_X3_readRule (l : Launch) (G : GG) (ad : Nat → Nat) {S : ST} (N : Nat) (hG : Good S) (a0 : Nat) (dy : DY) (T0 : gs S a0 = (0, 3)) {dy' : DY} (E : F_X3_readRule S N a0 dy = some dy') : MC l yX3_readRule cX3_readRule 3 (Option.none : Option Jvm.ClassFile.FieldType) (9) G ad [.ref (ad a0)] S dy (fun A => QV G ad A S dy') := by
  rw [F_X3_readRule_s] at E
  refine mc_of RX3 (by decide) rfl (Nat.le_of_ble_eq_true rfl) (fun p e s m args below meth c A C HR HL => ?_)
  refine ww_sub (lv' := [(0, .ref (ad a0))]) [0] rfl ?_
  refine ww_iconst (v := 0) C dX3_readRule_0 (by decide) ?_
  refine ww_istore_n (lv' := [(1, .int (0 : Int32)), (0, .ref (ad a0))]) C dX3_readRule_1 rfl (by decide) rfl ?_
  refine ww_aload_n C dX3_readRule_2 rfl 1 rfl ?_
  have T_1 : gs S (gr S a0 0) = (0, 6) := hG.1 _ 3 T0 0 (by decide)
  refine ww_getr (ci := 3) (k0 := 0) C dX3_readRule_3 rfl rfl inm3 (by decide) T0 q517 rfl T_1 (by decide) ?_
  refine ww_ldcs (j := 12) C dX3_readRule_6 rfl ?_
  obtain ⟨u2, e_3, E⟩ := bind_of E
  refine ww_callI C (runs_V (n := 1) (st := []) C [.ref (G.2.2.1 12)] (M_X6_takesWord l G ad N hG (gr S a0 0) 12 dy T_1 (show 12 < 30 by decide) e_3) ⟨q614, q114, by decide⟩ q808 q612 q613 (ci := 6) rfl T_1 rfl (Nat.le_of_ble_eq_true rfl) ⟨Nat.le_of_ble_eq_true rfl, Nat.le_of_ble_eq_true rfl⟩ ⟨Nat.zero_le _, Nat.zero_le _⟩ dX3_readRule_8 rfl) ?_
  refine ww_if_eq (tgt := 60) C dX3_readRule_11 (by decide) E (fun _ E => ?_) (fun _ E => ?_)
  · refine ww_sub (lv' := [(0, .ref (ad a0)), (1, .int (0 : Int32))]) [1, 0] rfl ?_
    exact (B_X3_readRule_60 C HR HL hG) a0 (0 : Int32) u2.2 T0 E
  · refine ww_aload_n C dX3_readRule_14 rfl 1 rfl ?_
    refine ww_iconst (v := 0) C dX3_readRule_15 (by decide) ?_
    obtain ⟨u4, e_5, E⟩ := bind_of E
    refine ww_callV C (runs_V (n := 1) (st := []) C [.int (0 : Int32)] (M_X3_readTest l G ad N hG a0 (0 : Int32) u2.2 T0 e_5) ⟨q812, q117, by decide⟩ q809 q811 q10 (ci := 3) rfl T0 rfl (Nat.le_of_ble_eq_true rfl) ⟨Nat.le_of_ble_eq_true rfl, Nat.le_of_ble_eq_true rfl⟩ ⟨Nat.zero_le _, Nat.zero_le _⟩ dX3_readRule_16 rfl) ?_
    refine ww_iconst (v := 1) C dX3_readRule_19 (by decide) ?_
    refine ww_istore_n (lv' := [(1, .int (1 : Int32)), (0, .ref (ad a0))]) C dX3_readRule_20 rfl (by decide) rfl ?_
    refine ww_sub (lv' := [(0, .ref (ad a0)), (1, .int (1 : Int32))]) [1, 0] rfl ?_
    exact (B_X3_readRule_21 C HR HL hG (B_X3_readRule_60 C HR HL hG) N) a0 (1 : Int32) u4 T0 E
section P_X3_read
variable {p : Program} {l : Launch} {e : Env} {s : State} {m : MethodId} {args : Array Value} {below : List Frame} {meth : Method} {c : Code} {G : GG} {A : Nat → Prop} {ad : Nat → Nat} {S : ST} {N : Nat} {r : Int32} {dy' : DY}
set_option maxHeartbeats 4000000 in
set_option maxRecDepth 100000 in
theorem B_X3_read_56 (C : CX p s m args c cX3_read 3 RX3 G A) (HR : meth.sig.returnType = (Option.some Jvm.ClassFile.FieldType.boolean)) (HL : meth.locks = false) (hG : Good S) {K18 : Nat → Int32 → DY → Option (Int32 × DY)} (hK18 : ∀ (x0 : Nat) (x2 : Int32) (dy : DY), gs S x0 = (0, 3) → K18 x0 x2 dy = some (r, dy') → WJ p l e (rmD (10)) s m args below meth c 3 G A 0 0 (MQ below (QI G ad A S r dy') args s 0 0 A) ad 18 [(0, .ref (ad x0)), (2, .int x2)] [] S dy) : ∀ (x0 : Nat) (x2 : Int32) (dy : DY), gs S x0 = (0, 3) → F_X3_read_56 S N K18 x0 x2 dy = some (r, dy') → WJ p l e (rmD (10)) s m args below meth c 3 G A 0 0 (MQ below (QI G ad A S r dy') args s 0 0 A) ad 56 [(0, .ref (ad x0)), (2, .int x2)] [] S dy := by
  intro x0 x2 dy Tx0 E
  rw [F_X3_read_56_s] at E
  refine ww_aload_n C dX3_read_56 rfl 0 rfl ?_
  obtain ⟨u1, e_2, E⟩ := bind_of E
  refine ww_callV C (runs_V (n := 0) (st := []) C [] (M_X3_readRule l G ad N hG x0 dy Tx0 e_2) ⟨q806, q117, by decide⟩ q803 q805 q9 (ci := 3) rfl Tx0 rfl (Nat.le_of_ble_eq_true rfl) ⟨Nat.le_of_ble_eq_true rfl, Nat.le_of_ble_eq_true rfl⟩ ⟨Nat.zero_le _, Nat.zero_le _⟩ dX3_read_57 rfl) ?_
  refine ww_iinc (v := (x2 + (1 : Int32))) (lv' := [(2, .int (x2 + (1 : Int32))), (0, .ref (ad x0))]) C dX3_read_60 1 rfl rfl (by decide) rfl ?_
  refine ww_goto (tgt := 18) C dX3_read_63 (by decide) ?_
  refine ww_sub (lv' := [(0, .ref (ad x0)), (2, .int (x2 + (1 : Int32)))]) [1, 0] rfl ?_
  exact hK18 x0 (x2 + (1 : Int32)) u1 Tx0 E
set_option maxHeartbeats 4000000 in
set_option maxRecDepth 100000 in
theorem B_X3_read_66 (C : CX p s m args c cX3_read 3 RX3 G A) (HR : meth.sig.returnType = (Option.some Jvm.ClassFile.FieldType.boolean)) (HL : meth.locks = false) (hG : Good S) : ∀ (x0 : Nat) (dy : DY), gs S x0 = (0, 3) → F_X3_read_66 S N x0 dy = some (r, dy') → WJ p l e (rmD (10)) s m args below meth c 3 G A 0 0 (MQ below (QI G ad A S r dy') args s 0 0 A) ad 66 [(0, .ref (ad x0))] [] S dy := by
  intro x0 dy Tx0 E
  rw [F_X3_read_66_s] at E
  refine ww_aload_n C dX3_read_66 rfl 0 rfl ?_
  have T_1 : gs S (gr S x0 0) = (0, 6) := hG.1 _ 3 Tx0 0 (by decide)
  refine ww_getr (ci := 3) (k0 := 0) C dX3_read_67 rfl rfl inm3 (by decide) Tx0 q517 rfl T_1 (by decide) ?_
  obtain ⟨u2, e_3, E⟩ := bind_of E
  refine ww_callI C (runs_V (n := 0) (st := []) C [] (M_X6_isSound l G ad N hG (gr S x0 0) dy T_1 e_3) ⟨q719, q114, by decide⟩ q841 q717 q718 (ci := 6) rfl T_1 rfl (Nat.le_of_ble_eq_true rfl) ⟨Nat.le_of_ble_eq_true rfl, Nat.le_of_ble_eq_true rfl⟩ ⟨Nat.zero_le _, Nat.zero_le _⟩ dX3_read_70 rfl) ?_
  obtain ⟨z_, E⟩ := gd_of E
  exact ww_zret C HR HL dX3_read_73 z_ E
set_option maxHeartbeats 4000000 in
set_option maxRecDepth 100000 in
theorem B_X3_read_18 (C : CX p s m args c cX3_read 3 RX3 G A) (HR : meth.sig.returnType = (Option.some Jvm.ClassFile.FieldType.boolean)) (HL : meth.locks = false) (hG : Good S) : ∀ k : Nat, ∀ (x0 : Nat) (x2 : Int32) (dy : DY), gs S x0 = (0, 3) → (F_X3_read_18 S N k) x0 x2 dy = some (r, dy') → WJ p l e (rmD (10)) s m args below meth c 3 G A 0 0 (MQ below (QI G ad A S r dy') args s 0 0 A) ad 18 [(0, .ref (ad x0)), (2, .int x2)] [] S dy := by
  intro k
  induction k with
  | zero => exact fun _ _ _ _ E => nomatch (show none = some (r, dy') from E)
  | succ k ih =>
    intro x0 x2 dy Tx0 E
    rw [F_X3_read_18_s] at E
    refine ww_iload_n C dX3_read_18 rfl 1 rfl ?_
    refine ww_sipush (v := 500) C dX3_read_19 (by decide) ?_
    refine ww_icmp_ge (tgt := 66) C dX3_read_22 (by decide) E (fun _ E => ?_) (fun _ E => ?_)
    · refine ww_sub (lv' := [(0, .ref (ad x0))]) [0] rfl ?_
      exact (B_X3_read_66 C HR HL hG) x0 dy Tx0 E
    · refine ww_aload_n C dX3_read_25 rfl 0 rfl ?_
      have T_1 : gs S (gr S x0 0) = (0, 6) := hG.1 _ 3 Tx0 0 (by decide)
      refine ww_getr (ci := 3) (k0 := 0) C dX3_read_26 rfl rfl inm3 (by decide) Tx0 q517 rfl T_1 (by decide) ?_
      obtain ⟨u2, e_3, E⟩ := bind_of E
      refine ww_callI C (runs_V (n := 0) (st := []) C [] (M_X6_goesOn l G ad N hG (gr S x0 0) dy T_1 e_3) ⟨q700, q114, by decide⟩ q801 q698 q699 (ci := 6) rfl T_1 rfl (Nat.le_of_ble_eq_true rfl) ⟨Nat.le_of_ble_eq_true rfl, Nat.le_of_ble_eq_true rfl⟩ ⟨Nat.zero_le _, Nat.zero_le _⟩ dX3_read_29 rfl) ?_
      refine ww_if_eq (tgt := 66) C dX3_read_32 (by decide) E (fun _ E => ?_) (fun _ E => ?_)
      · refine ww_sub (lv' := [(0, .ref (ad x0))]) [0] rfl ?_
        exact (B_X3_read_66 C HR HL hG) x0 u2.2 Tx0 E
      · refine ww_iload_n C dX3_read_35 rfl 1 rfl ?_
        refine ww_bipush (v := 16) C dX3_read_36 (by decide) ?_
        refine ww_icmp_lt (tgt := 56) C dX3_read_38 (by decide) E (fun _ E => ?_) (fun _ E => ?_)
        · refine ww_sub (lv' := [(0, .ref (ad x0)), (2, .int x2)]) [0, 1] rfl ?_
          exact (B_X3_read_56 C HR HL hG ih) x0 x2 u2.2 Tx0 E
        · refine ww_aload_n C dX3_read_41 rfl 0 rfl ?_
          have T_4 : gs S (gr S x0 0) = (0, 6) := hG.1 _ 3 Tx0 0 (by decide)
          refine ww_getr (ci := 3) (k0 := 0) C dX3_read_42 rfl rfl inm3 (by decide) Tx0 q517 rfl T_4 (by decide) ?_
          refine ww_iconst (v := 3) C dX3_read_45 (by decide) ?_
          refine ww_aload_n C dX3_read_46 rfl 0 rfl ?_
          have T_5 : gs S (gr S x0 0) = (0, 6) := hG.1 _ 3 Tx0 0 (by decide)
          refine ww_getr (ci := 3) (k0 := 0) C dX3_read_47 rfl rfl inm3 (by decide) Tx0 q517 rfl T_5 (by decide) ?_
          refine ww_geti (ci := 6) (k0 := 3) C dX3_read_50 rfl rfl inm6 (by decide) T_5 q429 rfl ?_
          obtain ⟨u6, e_7, E⟩ := bind_of E
          refine ww_callV C (runs_V (n := 2) (st := []) C [.int (3 : Int32), .int (gi u2.2 (gr S x0 0) 3)] (M_X6_note l G ad N hG (gr S x0 0) (3 : Int32) (gi u2.2 (gr S x0 0) 3) u2.2 T_4 e_7) ⟨q682, q114, by decide⟩ q802 q680 q681 (ci := 6) rfl T_4 rfl (Nat.le_of_ble_eq_true rfl) ⟨Nat.le_of_ble_eq_true rfl, Nat.le_of_ble_eq_true rfl⟩ ⟨Nat.zero_le _, Nat.zero_le _⟩ dX3_read_53 rfl) ?_
          refine ww_sub (lv' := [(0, .ref (ad x0)), (2, .int x2)]) [0, 1] rfl ?_
          exact (B_X3_read_56 C HR HL hG ih) x0 x2 u6 Tx0 E
end P_X3_read
set_option maxHeartbeats 4000000 in
set_option maxRecDepth 100000 in
theorem M_X3_read (l : Launch) (G : GG) (ad : Nat → Nat) {S : ST} (N : Nat) (hG : Good S) (a0 : Nat) (a1 : Int32) (dy : DY) (T0 : gs S a0 = (0, 3)) {r : Int32} {dy' : DY} (E : F_X3_read S N a0 a1 dy = some (r, dy')) : MC l yX3_read cX3_read 3 (Option.some Jvm.ClassFile.FieldType.boolean) (10) G ad [.ref (ad a0), .int a1] S dy (fun A => QI G ad A S r dy') := by
  rw [F_X3_read_s] at E
  refine mc_of RX3 (by decide) rfl (Nat.le_of_ble_eq_true rfl) (fun p e s m args below meth c A C HR HL => ?_)
  refine ww_sub (lv' := [(0, .ref (ad a0)), (1, .int a1)]) [0, 1] rfl ?_
  refine ww_aload_n C dX3_read_0 rfl 0 rfl ?_
  have T_1 : gs S (gr S a0 0) = (0, 6) := hG.1 _ 3 T0 0 (by decide)
  refine ww_getr (ci := 3) (k0 := 0) C dX3_read_1 rfl rfl inm3 (by decide) T0 q517 rfl T_1 (by decide) ?_
  refine ww_iload_n C dX3_read_4 rfl 1 rfl ?_
  obtain ⟨u2, e_3, E⟩ := bind_of E
  refine ww_callV C (runs_V (n := 1) (st := []) C [.int a1] (M_X6_open l G ad N hG (gr S a0 0) a1 dy T_1 e_3) ⟨q585, q114, by decide⟩ q800 q583 q584 (ci := 6) rfl T_1 rfl (Nat.le_of_ble_eq_true rfl) ⟨Nat.le_of_ble_eq_true rfl, Nat.le_of_ble_eq_true rfl⟩ ⟨Nat.zero_le _, Nat.zero_le _⟩ dX3_read_5 rfl) ?_
  refine ww_aload_n C dX3_read_8 rfl 0 rfl ?_
  have T_4 : gs S (gr S a0 1) = (0, 2) := hG.1 _ 3 T0 1 (by decide)
  refine ww_getr (ci := 3) (k0 := 1) C dX3_read_9 rfl rfl inm3 (by decide) T0 q518 rfl T_4 (by decide) ?_
  refine ww_iconst (v := 0) C dX3_read_12 (by decide) ?_
  refine ww_puti (ci := 2) (k0 := 0) C dX3_read_13 rfl rfl inm2 tyX2_ok nmX2 (by decide) T_4 q232 rfl rfl rfl ?_
  refine ww_bd E (fun dy5 E => ?_)
  refine ww_iconst (v := 0) C dX3_read_16 (by decide) ?_
  refine ww_istore_n (lv' := [(2, .int (0 : Int32)), (0, .ref (ad a0)), (1, .int a1)]) C dX3_read_17 rfl (by decide) rfl ?_
  refine ww_sub (lv' := [(0, .ref (ad a0)), (2, .int (0 : Int32))]) [1, 0] rfl ?_
  exact (B_X3_read_18 C HR HL hG N) a0 (0 : Int32) dy5 T0 E
section P_X5_isOpen
variable {p : Program} {l : Launch} {e : Env} {s : State} {m : MethodId} {args : Array Value} {below : List Frame} {meth : Method} {c : Code} {G : GG} {A : Nat → Prop} {ad : Nat → Nat} {S : ST} {N : Nat} {r : Int32} {dy' : DY}
set_option maxHeartbeats 4000000 in
set_option maxRecDepth 100000 in
theorem B_X5_isOpen_31 (C : CX p s m args c cX5_isOpen 4 RX5 G A) (HR : meth.sig.returnType = (Option.some Jvm.ClassFile.FieldType.boolean)) (HL : meth.locks = false) (hG : Good S) : ∀ (x0 : Nat) (dy : DY), gs S x0 = (0, 5) → F_X5_isOpen_31 S N x0 dy = some (r, dy') → WJ p l e (rmD (4)) s m args below meth c 4 G A 0 0 (MQ below (QI G ad A S r dy') args s 0 0 A) ad 31 [(0, .ref (ad x0))] [] S dy := by
  intro x0 dy Tx0 E
  rw [F_X5_isOpen_31_s] at E
  refine ww_aload_n C dX5_isOpen_31 rfl 0 rfl ?_
  have T_1 : gs S (gr S x0 0) = (0, 6) := hG.1 _ 5 Tx0 0 (by decide)
  refine ww_getr (ci := 5) (k0 := 0) C dX5_isOpen_32 rfl rfl inm5 (by decide) Tx0 q504 rfl T_1 (by decide) ?_
  obtain ⟨u2, e_3, E⟩ := bind_of E
  refine ww_callI C (runs_V (n := 0) (st := []) C [] (M_X6_isSound l G ad N hG (gr S x0 0) dy T_1 e_3) ⟨q719, q114, by decide⟩ q716 q717 q718 (ci := 6) rfl T_1 rfl (Nat.le_of_ble_eq_true rfl) ⟨Nat.le_of_ble_eq_true rfl, Nat.le_of_ble_eq_true rfl⟩ ⟨Nat.zero_le _, Nat.zero_le _⟩ dX5_isOpen_35 rfl) ?_
  obtain ⟨z_, E⟩ := gd_of E
  exact ww_zret C HR HL dX5_isOpen_38 z_ E
end P_X5_isOpen
set_option maxHeartbeats 4000000 in
set_option maxRecDepth 100000 in
theorem M_X5_isOpen (l : Launch) (G : GG) (ad : Nat → Nat) {S : ST} (N : Nat) (hG : Good S) (a0 : Nat) (a1 : Int32) (a2 : Int32) (a3 : Int32) (dy : DY) (T0 : gs S a0 = (0, 5)) {r : Int32} {dy' : DY} (E : F_X5_isOpen S N a0 a1 a2 a3 dy = some (r, dy')) : MC l yX5_isOpen cX5_isOpen 4 (Option.some Jvm.ClassFile.FieldType.boolean) (4) G ad [.ref (ad a0), .int a1, .int a2, .int a3] S dy (fun A => QI G ad A S r dy') := by
  rw [F_X5_isOpen_s] at E
  refine mc_of RX5 (by decide) rfl (Nat.le_of_ble_eq_true rfl) (fun p e s m args below meth c A C HR HL => ?_)
  refine ww_sub (lv' := [(0, .ref (ad a0)), (1, .int a1), (2, .int a2), (3, .int a3)]) [0, 1, 2, 3] rfl ?_
  refine ww_aload_n C dX5_isOpen_0 rfl 0 rfl ?_
  have T_1 : gs S (gr S a0 0) = (0, 6) := hG.1 _ 5 T0 0 (by decide)
  refine ww_getr (ci := 5) (k0 := 0) C dX5_isOpen_1 rfl rfl inm5 (by decide) T0 q504 rfl T_1 (by decide) ?_
  obtain ⟨u2, e_3, E⟩ := bind_of E
  refine ww_callI C (runs_V (n := 0) (st := []) C [] (M_X6_isSound l G ad N hG (gr S a0 0) dy T_1 e_3) ⟨q719, q114, by decide⟩ q716 q717 q718 (ci := 6) rfl T_1 rfl (Nat.le_of_ble_eq_true rfl) ⟨Nat.le_of_ble_eq_true rfl, Nat.le_of_ble_eq_true rfl⟩ ⟨Nat.zero_le _, Nat.zero_le _⟩ dX5_isOpen_4 rfl) ?_
  refine ww_if_eq (tgt := 31) C dX5_isOpen_7 (by decide) E (fun _ E => ?_) (fun _ E => ?_)
  · refine ww_sub (lv' := [(0, .ref (ad a0))]) [0] rfl ?_
    exact (B_X5_isOpen_31 C HR HL hG) a0 u2.2 T0 E
  · refine ww_aload_n C dX5_isOpen_10 rfl 0 rfl ?_
    have T_4 : gs S (gr S a0 1) = (0, 4) := hG.1 _ 5 T0 1 (by decide)
    refine ww_getr (ci := 5) (k0 := 1) C dX5_isOpen_11 rfl rfl inm5 (by decide) T0 q505 rfl T_4 (by decide) ?_
    refine ww_iload_n C dX5_isOpen_14 rfl 1 rfl ?_
    refine ww_iload_n C dX5_isOpen_15 rfl 2 rfl ?_
    obtain ⟨u5, e_6, E⟩ := bind_of E
    refine ww_callI C (runs_V (n := 2) (st := []) C [.int a1, .int a2] (M_X4_isTaken l G ad N hG (gr S a0 1) a1 a2 u2.2 T_4 e_6) ⟨q723, q110, by decide⟩ q720 q721 q722 (ci := 4) rfl T_4 rfl (Nat.le_of_ble_eq_true rfl) ⟨Nat.le_of_ble_eq_true rfl, Nat.le_of_ble_eq_true rfl⟩ ⟨Nat.zero_le _, Nat.zero_le _⟩ dX5_isOpen_16 rfl) ?_
    refine ww_if_eq (tgt := 31) C dX5_isOpen_19 (by decide) E (fun _ E => ?_) (fun _ E => ?_)
    · refine ww_sub (lv' := [(0, .ref (ad a0))]) [0] rfl ?_
      exact (B_X5_isOpen_31 C HR HL hG) a0 u5.2 T0 E
    · refine ww_aload_n C dX5_isOpen_22 rfl 0 rfl ?_
      have T_7 : gs S (gr S a0 0) = (0, 6) := hG.1 _ 5 T0 0 (by decide)
      refine ww_getr (ci := 5) (k0 := 0) C dX5_isOpen_23 rfl rfl inm5 (by decide) T0 q504 rfl T_7 (by decide) ?_
      refine ww_iconst (v := 4) C dX5_isOpen_26 (by decide) ?_
      refine ww_iload_n C dX5_isOpen_27 rfl 3 rfl ?_
      obtain ⟨u8, e_9, E⟩ := bind_of E
      refine ww_callV C (runs_V (n := 2) (st := []) C [.int (4 : Int32), .int a3] (M_X6_note l G ad N hG (gr S a0 0) (4 : Int32) a3 u5.2 T_7 e_9) ⟨q682, q114, by decide⟩ q701 q680 q681 (ci := 6) rfl T_7 rfl (Nat.le_of_ble_eq_true rfl) ⟨Nat.le_of_ble_eq_true rfl, Nat.le_of_ble_eq_true rfl⟩ ⟨Nat.zero_le _, Nat.zero_le _⟩ dX5_isOpen_28 rfl) ?_
      refine ww_sub (lv' := [(0, .ref (ad a0))]) [0] rfl ?_
      exact (B_X5_isOpen_31 C HR HL hG) a0 u8 T0 E
section P_X5_readFriends
variable {p : Program} {l : Launch} {e : Env} {s : State} {m : MethodId} {args : Array Value} {below : List Frame} {meth : Method} {c : Code} {G : GG} {A : Nat → Prop} {ad : Nat → Nat} {S : ST} {N : Nat} {dy' : DY}
set_option maxHeartbeats 4000000 in
set_option maxRecDepth 100000 in
theorem B_X5_readFriends_58 (C : CX p s m args c cX5_readFriends 4 RX5 G A) (HR : meth.sig.returnType = (Option.none : Option Jvm.ClassFile.FieldType)) (HL : meth.locks = false) (hG : Good S) : ∀ (x0 : Nat) (x1 : Int32) (x3 : Int32) (dy : DY), gs S x0 = (0, 5) → F_X5_readFriends_58 S N x0 x1 x3 dy = some dy' → WJ p l e (rmD (5)) s m args below meth c 4 G A 0 0 (MQ below (QV G ad A S dy') args s 0 0 A) ad 58 [(0, .ref (ad x0)), (1, .int x1), (3, .int x3)] [] S dy := by
  intro x0 x1 x3 dy Tx0 E
  rw [F_X5_readFriends_58_s] at E
  refine ww_aload_n C dX5_readFriends_58 rfl 0 rfl ?_
  have T_1 : gs S (gr S x0 0) = (0, 6) := hG.1 _ 5 Tx0 0 (by decide)
  refine ww_getr (ci := 5) (k0 := 0) C dX5_readFriends_59 rfl rfl inm5 (by decide) Tx0 q504 rfl T_1 (by decide) ?_
  obtain ⟨u2, e_3, E⟩ := bind_of E
  refine ww_callI C (runs_V (n := 0) (st := []) C [] (M_X6_isSound l G ad N hG (gr S x0 0) dy T_1 e_3) ⟨q719, q114, by decide⟩ q716 q717 q718 (ci := 6) rfl T_1 rfl (Nat.le_of_ble_eq_true rfl) ⟨Nat.le_of_ble_eq_true rfl, Nat.le_of_ble_eq_true rfl⟩ ⟨Nat.zero_le _, Nat.zero_le _⟩ dX5_readFriends_62 rfl) ?_
  refine ww_if_eq (tgt := 77) C dX5_readFriends_65 (by decide) E (fun _ E => ?_) (fun _ E => ?_)
  · exact ww_vret C HR HL dX5_readFriends_77 E
  · refine ww_aload_n C dX5_readFriends_68 rfl 0 rfl ?_
    have T_4 : gs S (gr S x0 1) = (0, 4) := hG.1 _ 5 Tx0 1 (by decide)
    refine ww_getr (ci := 5) (k0 := 1) C dX5_readFriends_69 rfl rfl inm5 (by decide) Tx0 q505 rfl T_4 (by decide) ?_
    refine ww_iload_n C dX5_readFriends_72 rfl 1 rfl ?_
    refine ww_iload_n C dX5_readFriends_73 rfl 2 rfl ?_
    obtain ⟨u5, e_6, E⟩ := bind_of E
    refine ww_callV C (runs_V (n := 2) (st := []) C [.int x1, .int x3] (M_X4_befriend l G ad N hG (gr S x0 1) x1 x3 u2.2 T_4 e_6) ⟨q773, q110, by decide⟩ q770 q771 q772 (ci := 4) rfl T_4 rfl (Nat.le_of_ble_eq_true rfl) ⟨Nat.le_of_ble_eq_true rfl, Nat.le_of_ble_eq_true rfl⟩ ⟨Nat.zero_le _, Nat.zero_le _⟩ dX5_readFriends_74 rfl) ?_
    exact ww_vret C HR HL dX5_readFriends_77 E
end P_X5_readFriends
set_option maxHeartbeats 4000000 in
set_option maxRecDepth 100000 in
theorem M_X5_readFriends (l : Launch) (G : GG) (ad : Nat → Nat) {S : ST} (N : Nat) (hG : Good S) (a0 : Nat) (dy : DY) (T0 : gs S a0 = (0, 5)) {dy' : DY} (E : F_X5_readFriends S N a0 dy = some dy') : MC l yX5_readFriends cX5_readFriends 4 (Option.none : Option Jvm.ClassFile.FieldType) (5) G ad [.ref (ad a0)] S dy (fun A => QV G ad A S dy') := by
  rw [F_X5_readFriends_s] at E
  refine mc_of RX5 (by decide) rfl (Nat.le_of_ble_eq_true rfl) (fun p e s m args below meth c A C HR HL => ?_)
  refine ww_sub (lv' := [(0, .ref (ad a0))]) [0] rfl ?_
  refine ww_aload_n C dX5_readFriends_0 rfl 0 rfl ?_
  have T_1 : gs S (gr S a0 0) = (0, 6) := hG.1 _ 5 T0 0 (by decide)
  refine ww_getr (ci := 5) (k0 := 0) C dX5_readFriends_1 rfl rfl inm5 (by decide) T0 q504 rfl T_1 (by decide) ?_
  refine ww_iconst (v := 0) C dX5_readFriends_4 (by decide) ?_
  refine ww_aload_n C dX5_readFriends_5 rfl 0 rfl ?_
  have T_2 : gs S (gr S a0 1) = (0, 4) := hG.1 _ 5 T0 1 (by decide)
  refine ww_getr (ci := 5) (k0 := 1) C dX5_readFriends_6 rfl rfl inm5 (by decide) T0 q505 rfl T_2 (by decide) ?_
  refine ww_geti (ci := 4) (k0 := 3) C dX5_readFriends_9 rfl rfl inm4 (by decide) T_2 q163 rfl ?_
  refine ww_iconst (v := 1) C dX5_readFriends_12 (by decide) ?_
  refine ww_isub C dX5_readFriends_13 ?_
  obtain ⟨u3, e_4, E⟩ := bind_of E
  refine ww_callI C (runs_V (n := 2) (st := []) C [.int (0 : Int32), .int ((gi dy (gr S a0 1) 3) - (1 : Int32))] (M_X6_needNumber_ l G ad N hG (gr S a0 0) (0 : Int32) ((gi dy (gr S a0 1) 3) - (1 : Int32)) dy T_1 e_4) ⟨q674, q114, by decide⟩ q671 q672 q673 (ci := 6) rfl T_1 rfl (Nat.le_of_ble_eq_true rfl) ⟨Nat.le_of_ble_eq_true rfl, Nat.le_of_ble_eq_true rfl⟩ ⟨Nat.zero_le _, Nat.zero_le _⟩ dX5_readFriends_14 rfl) ?_
  refine ww_istore_n (lv' := [(1, .int u3.1), (0, .ref (ad a0))]) C dX5_readFriends_17 rfl (by decide) rfl ?_
  refine ww_aload_n C dX5_readFriends_18 rfl 1 rfl ?_
  have T_5 : gs S (gr S a0 0) = (0, 6) := hG.1 _ 5 T0 0 (by decide)
  refine ww_getr (ci := 5) (k0 := 0) C dX5_readFriends_19 rfl rfl inm5 (by decide) T0 q504 rfl T_5 (by decide) ?_
  refine ww_geti (ci := 6) (k0 := 3) C dX5_readFriends_22 rfl rfl inm6 (by decide) T_5 q428 rfl ?_
  refine ww_istore_n (lv' := [(2, .int (gi u3.2 (gr S a0 0) 3)), (1, .int u3.1), (0, .ref (ad a0))]) C dX5_readFriends_25 rfl (by decide) rfl ?_
  refine ww_aload_n C dX5_readFriends_26 rfl 2 rfl ?_
  have T_6 : gs S (gr S a0 0) = (0, 6) := hG.1 _ 5 T0 0 (by decide)
  refine ww_getr (ci := 5) (k0 := 0) C dX5_readFriends_27 rfl rfl inm5 (by decide) T0 q504 rfl T_6 (by decide) ?_
  refine ww_iconst (v := 0) C dX5_readFriends_30 (by decide) ?_
  refine ww_aload_n C dX5_readFriends_31 rfl 2 rfl ?_
  have T_7 : gs S (gr S a0 1) = (0, 4) := hG.1 _ 5 T0 1 (by decide)
  refine ww_getr (ci := 5) (k0 := 1) C dX5_readFriends_32 rfl rfl inm5 (by decide) T0 q505 rfl T_7 (by decide) ?_
  refine ww_geti (ci := 4) (k0 := 3) C dX5_readFriends_35 rfl rfl inm4 (by decide) T_7 q163 rfl ?_
  refine ww_iconst (v := 1) C dX5_readFriends_38 (by decide) ?_
  refine ww_isub C dX5_readFriends_39 ?_
  obtain ⟨u8, e_9, E⟩ := bind_of E
  refine ww_callI C (runs_V (n := 2) (st := []) C [.int (0 : Int32), .int ((gi u3.2 (gr S a0 1) 3) - (1 : Int32))] (M_X6_needNumber_ l G ad N hG (gr S a0 0) (0 : Int32) ((gi u3.2 (gr S a0 1) 3) - (1 : Int32)) u3.2 T_6 e_9) ⟨q674, q114, by decide⟩ q671 q672 q673 (ci := 6) rfl T_6 rfl (Nat.le_of_ble_eq_true rfl) ⟨Nat.le_of_ble_eq_true rfl, Nat.le_of_ble_eq_true rfl⟩ ⟨Nat.zero_le _, Nat.zero_le _⟩ dX5_readFriends_40 rfl) ?_
  refine ww_istore_n (lv' := [(3, .int u8.1), (2, .int (gi u3.2 (gr S a0 0) 3)), (1, .int u3.1), (0, .ref (ad a0))]) C dX5_readFriends_43 rfl (by decide) rfl ?_
  refine ww_iload_n C dX5_readFriends_44 rfl 2 rfl ?_
  refine ww_iload_n C dX5_readFriends_45 rfl 0 rfl ?_
  refine ww_icmp_ne (tgt := 58) C dX5_readFriends_46 (by decide) E (fun _ E => ?_) (fun _ E => ?_)
  · refine ww_sub (lv' := [(0, .ref (ad a0)), (1, .int u3.1), (3, .int u8.1)]) [3, 2, 0] rfl ?_
    exact (B_X5_readFriends_58 C HR HL hG) a0 u3.1 u8.1 u8.2 T0 E
  · refine ww_aload_n C dX5_readFriends_49 rfl 3 rfl ?_
    have T_10 : gs S (gr S a0 0) = (0, 6) := hG.1 _ 5 T0 0 (by decide)
    refine ww_getr (ci := 5) (k0 := 0) C dX5_readFriends_50 rfl rfl inm5 (by decide) T0 q504 rfl T_10 (by decide) ?_
    refine ww_iconst (v := 2) C dX5_readFriends_53 (by decide) ?_
    refine ww_iload_n C dX5_readFriends_54 rfl 1 rfl ?_
    obtain ⟨u11, e_12, E⟩ := bind_of E
    refine ww_callV C (runs_V (n := 2) (st := []) C [.int (2 : Int32), .int (gi u3.2 (gr S a0 0) 3)] (M_X6_note l G ad N hG (gr S a0 0) (2 : Int32) (gi u3.2 (gr S a0 0) 3) u8.2 T_10 e_12) ⟨q682, q114, by decide⟩ q701 q680 q681 (ci := 6) rfl T_10 rfl (Nat.le_of_ble_eq_true rfl) ⟨Nat.le_of_ble_eq_true rfl, Nat.le_of_ble_eq_true rfl⟩ ⟨Nat.zero_le _, Nat.zero_le _⟩ dX5_readFriends_55 rfl) ?_
    refine ww_sub (lv' := [(0, .ref (ad a0)), (1, .int u3.1), (3, .int u8.1)]) [3, 2, 0] rfl ?_
    exact (B_X5_readFriends_58 C HR HL hG) a0 u3.1 u8.1 u11 T0 E
section P_X5_readHand
variable {p : Program} {l : Launch} {e : Env} {s : State} {m : MethodId} {args : Array Value} {below : List Frame} {meth : Method} {c : Code} {G : GG} {A : Nat → Prop} {ad : Nat → Nat} {S : ST} {N : Nat} {dy' : DY}
set_option maxHeartbeats 4000000 in
set_option maxRecDepth 100000 in
theorem B_X5_readHand_79 (C : CX p s m args c cX5_readHand 3 RX5 G A) (HR : meth.sig.returnType = (Option.none : Option Jvm.ClassFile.FieldType)) (HL : meth.locks = false) (hG : Good S) : ∀ (y0 : Nat) (y1 : Int32) (y2 : Int32) (dy : DY), gs S y0 = (1, 12) → F_X5_readHand_79 S N y0 y1 y2 dy = some dy' → WJ p l e (rmD (8)) s m args below meth c 3 G A 0 0 (MQ below (QV G ad A S dy') args s 0 0 A) ad 79 [] [.int y2, .int y1, .ref (ad y0)] S dy := by
  intro y0 y1 y2 dy Ty0 E
  rw [F_X5_readHand_79_s] at E
  refine ww_iast C dX5_readHand_79 Ty0 E (fun _ E => ?_)
  refine ww_bd E (fun dy1 E => ?_)
  exact ww_vret C HR HL dX5_readHand_80 E
set_option maxHeartbeats 4000000 in
set_option maxRecDepth 100000 in
theorem B_X5_readHand_41 (C : CX p s m args c cX5_readHand 3 RX5 G A) (HR : meth.sig.returnType = (Option.none : Option Jvm.ClassFile.FieldType)) (HL : meth.locks = false) (hG : Good S) : ∀ (x0 : Nat) (x1 : Int32) (x2 : Int32) (dy : DY), gs S x0 = (0, 5) → F_X5_readHand_41 S N x0 x1 x2 dy = some dy' → WJ p l e (rmD (8)) s m args below meth c 3 G A 0 0 (MQ below (QV G ad A S dy') args s 0 0 A) ad 41 [(0, .ref (ad x0)), (1, .int x1), (2, .int x2)] [] S dy := by
  intro x0 x1 x2 dy Tx0 E
  rw [F_X5_readHand_41_s] at E
  refine ww_aload_n C dX5_readHand_41 rfl 0 rfl ?_
  have T_1 : gs S (gr S x0 0) = (0, 6) := hG.1 _ 5 Tx0 0 (by decide)
  refine ww_getr (ci := 5) (k0 := 0) C dX5_readHand_42 rfl rfl inm5 (by decide) Tx0 q504 rfl T_1 (by decide) ?_
  obtain ⟨u2, e_3, E⟩ := bind_of E
  refine ww_callI C (runs_V (n := 0) (st := []) C [] (M_X6_isSound l G ad N hG (gr S x0 0) dy T_1 e_3) ⟨q719, q114, by decide⟩ q716 q717 q718 (ci := 6) rfl T_1 rfl (Nat.le_of_ble_eq_true rfl) ⟨Nat.le_of_ble_eq_true rfl, Nat.le_of_ble_eq_true rfl⟩ ⟨Nat.zero_le _, Nat.zero_le _⟩ dX5_readHand_45 rfl) ?_
  refine ww_if_eq (tgt := 80) C dX5_readHand_48 (by decide) E (fun _ E => ?_) (fun _ E => ?_)
  · exact ww_vret C HR HL dX5_readHand_80 E
  · refine ww_aload_n C dX5_readHand_51 rfl 0 rfl ?_
    have T_4 : gs S (gr S x0 1) = (0, 4) := hG.1 _ 5 Tx0 1 (by decide)
    refine ww_getr (ci := 5) (k0 := 1) C dX5_readHand_52 rfl rfl inm5 (by decide) Tx0 q505 rfl T_4 (by decide) ?_
    refine ww_iload_n C dX5_readHand_55 rfl 1 rfl ?_
    obtain ⟨u5, e_6, E⟩ := bind_of E
    refine ww_callI C (runs_V (n := 1) (st := []) C [.int x1] (M_X4_has l G ad N hG (gr S x0 1) x1 u2.2 T_4 e_6) ⟨q764, q110, by decide⟩ q761 q762 q763 (ci := 4) rfl T_4 rfl (Nat.le_of_ble_eq_true rfl) ⟨Nat.le_of_ble_eq_true rfl, Nat.le_of_ble_eq_true rfl⟩ ⟨Nat.zero_le _, Nat.zero_le _⟩ dX5_readHand_56 rfl) ?_
    refine ww_if_eq (tgt := 80) C dX5_readHand_59 (by decide) E (fun _ E => ?_) (fun _ E => ?_)
    · exact ww_vret C HR HL dX5_readHand_80 E
    · refine ww_aload_n C dX5_readHand_62 rfl 0 rfl ?_
      have T_7 : gs S (gr S x0 1) = (0, 4) := hG.1 _ 5 Tx0 1 (by decide)
      refine ww_getr (ci := 5) (k0 := 1) C dX5_readHand_63 rfl rfl inm5 (by decide) Tx0 q505 rfl T_7 (by decide) ?_
      have T_8 : gs S (gr S (gr S x0 1) 11) = (1, 12) := hG.1 _ 4 T_7 11 (by decide)
      refine ww_getr (ci := 4) (k0 := 11) C dX5_readHand_66 rfl rfl inm4 (by decide) T_7 q190 rfl T_8 (by decide) ?_
      refine ww_iload_n C dX5_readHand_69 rfl 1 rfl ?_
      refine ww_iload_n C dX5_readHand_70 rfl 2 rfl ?_
      refine ww_if_eq (tgt := 78) C dX5_readHand_71 (by decide) E (fun _ E => ?_) (fun _ E => ?_)
      · refine ww_iconst (v := 2) C dX5_readHand_78 (by decide) ?_
        refine ww_sub (lv' := []) [] rfl ?_
        exact (B_X5_readHand_79 C HR HL hG) (gr S (gr S x0 1) 11) x1 (2 : Int32) u5.2 T_8 E
      · refine ww_iconst (v := 1) C dX5_readHand_74 (by decide) ?_
        refine ww_goto (tgt := 79) C dX5_readHand_75 (by decide) ?_
        refine ww_sub (lv' := []) [] rfl ?_
        exact (B_X5_readHand_79 C HR HL hG) (gr S (gr S x0 1) 11) x1 (1 : Int32) u5.2 T_8 E
end P_X5_readHand
set_option maxHeartbeats 4000000 in
set_option maxRecDepth 100000 in
theorem M_X5_readHand (l : Launch) (G : GG) (ad : Nat → Nat) {S : ST} (N : Nat) (hG : Good S) (a0 : Nat) (dy : DY) (T0 : gs S a0 = (0, 5)) {dy' : DY} (E : F_X5_readHand S N a0 dy = some dy') : MC l yX5_readHand cX5_readHand 3 (Option.none : Option Jvm.ClassFile.FieldType) (8) G ad [.ref (ad a0)] S dy (fun A => QV G ad A S dy') := by
  rw [F_X5_readHand_s] at E
  refine mc_of RX5 (by decide) rfl (Nat.le_of_ble_eq_true rfl) (fun p e s m args below meth c A C HR HL => ?_)
  refine ww_sub (lv' := [(0, .ref (ad a0))]) [0] rfl ?_
  refine ww_aload_n C dX5_readHand_0 rfl 0 rfl ?_
  have T_1 : gs S (gr S a0 0) = (0, 6) := hG.1 _ 5 T0 0 (by decide)
  refine ww_getr (ci := 5) (k0 := 0) C dX5_readHand_1 rfl rfl inm5 (by decide) T0 q504 rfl T_1 (by decide) ?_
  refine ww_iconst (v := 0) C dX5_readHand_4 (by decide) ?_
  refine ww_aload_n C dX5_readHand_5 rfl 0 rfl ?_
  have T_2 : gs S (gr S a0 1) = (0, 4) := hG.1 _ 5 T0 1 (by decide)
  refine ww_getr (ci := 5) (k0 := 1) C dX5_readHand_6 rfl rfl inm5 (by decide) T0 q505 rfl T_2 (by decide) ?_
  refine ww_geti (ci := 4) (k0 := 3) C dX5_readHand_9 rfl rfl inm4 (by decide) T_2 q163 rfl ?_
  refine ww_iconst (v := 1) C dX5_readHand_12 (by decide) ?_
  refine ww_isub C dX5_readHand_13 ?_
  obtain ⟨u3, e_4, E⟩ := bind_of E
  refine ww_callI C (runs_V (n := 2) (st := []) C [.int (0 : Int32), .int ((gi dy (gr S a0 1) 3) - (1 : Int32))] (M_X6_needNumber_ l G ad N hG (gr S a0 0) (0 : Int32) ((gi dy (gr S a0 1) 3) - (1 : Int32)) dy T_1 e_4) ⟨q674, q114, by decide⟩ q671 q672 q673 (ci := 6) rfl T_1 rfl (Nat.le_of_ble_eq_true rfl) ⟨Nat.le_of_ble_eq_true rfl, Nat.le_of_ble_eq_true rfl⟩ ⟨Nat.zero_le _, Nat.zero_le _⟩ dX5_readHand_14 rfl) ?_
  refine ww_istore_n (lv' := [(1, .int u3.1), (0, .ref (ad a0))]) C dX5_readHand_17 rfl (by decide) rfl ?_
  refine ww_aload_n C dX5_readHand_18 rfl 1 rfl ?_
  have T_5 : gs S (gr S a0 0) = (0, 6) := hG.1 _ 5 T0 0 (by decide)
  refine ww_getr (ci := 5) (k0 := 0) C dX5_readHand_19 rfl rfl inm5 (by decide) T0 q504 rfl T_5 (by decide) ?_
  refine ww_ldcs (j := 9) C dX5_readHand_22 rfl ?_
  obtain ⟨u6, e_7, E⟩ := bind_of E
  refine ww_callI C (runs_V (n := 1) (st := []) C [.ref (G.2.2.1 9)] (M_X6_takesWord l G ad N hG (gr S a0 0) 9 u3.2 T_5 (show 9 < 30 by decide) e_7) ⟨q614, q114, by decide⟩ q707 q612 q613 (ci := 6) rfl T_5 rfl (Nat.le_of_ble_eq_true rfl) ⟨Nat.le_of_ble_eq_true rfl, Nat.le_of_ble_eq_true rfl⟩ ⟨Nat.zero_le _, Nat.zero_le _⟩ dX5_readHand_24 rfl) ?_
  refine ww_istore_n (lv' := [(2, .int u6.1), (1, .int u3.1), (0, .ref (ad a0))]) C dX5_readHand_27 rfl (by decide) rfl ?_
  refine ww_iload_n C dX5_readHand_28 rfl 0 rfl ?_
  refine ww_if_ne (tgt := 41) C dX5_readHand_29 (by decide) E (fun _ E => ?_) (fun _ E => ?_)
  · refine ww_sub (lv' := [(0, .ref (ad a0)), (1, .int u3.1), (2, .int u6.1)]) [2, 1, 0] rfl ?_
    exact (B_X5_readHand_41 C HR HL hG) a0 u3.1 u6.1 u6.2 T0 E
  · refine ww_aload_n C dX5_readHand_32 rfl 2 rfl ?_
    have T_8 : gs S (gr S a0 0) = (0, 6) := hG.1 _ 5 T0 0 (by decide)
    refine ww_getr (ci := 5) (k0 := 0) C dX5_readHand_33 rfl rfl inm5 (by decide) T0 q504 rfl T_8 (by decide) ?_
    refine ww_ldcs (j := 10) C dX5_readHand_36 rfl ?_
    obtain ⟨u9, e_10, E⟩ := bind_of E
    refine ww_callV C (runs_V (n := 1) (st := []) C [.ref (G.2.2.1 10)] (M_X6_needWord l G ad N hG (gr S a0 0) 10 u6.2 T_8 (show 10 < 30 by decide) e_10) ⟨q610, q114, by decide⟩ q607 q608 q609 (ci := 6) rfl T_8 rfl (Nat.le_of_ble_eq_true rfl) ⟨Nat.le_of_ble_eq_true rfl, Nat.le_of_ble_eq_true rfl⟩ ⟨Nat.zero_le _, Nat.zero_le _⟩ dX5_readHand_38 rfl) ?_
    refine ww_sub (lv' := [(0, .ref (ad a0)), (1, .int u3.1), (2, .int u6.1)]) [2, 1, 0] rfl ?_
    exact (B_X5_readHand_41 C HR HL hG) a0 u3.1 u6.1 u9 T0 E
section P_X5_readTrait
variable {p : Program} {l : Launch} {e : Env} {s : State} {m : MethodId} {args : Array Value} {below : List Frame} {meth : Method} {c : Code} {G : GG} {A : Nat → Prop} {ad : Nat → Nat} {S : ST} {N : Nat} {dy' : DY} {n0 : Nat}
end P_X5_readTrait
set_option maxHeartbeats 4000000 in
set_option maxRecDepth 100000 in
theorem M_X5_readTrait (l : Launch) (G : GG) (ad : Nat → Nat) {S : ST} (N : Nat) (n0 : Nat) (hG : Good S) (a0 : Nat) (a1 : Nat) (a2 : Int32) (a3 : Int32) (dy : DY) (T0 : gs S a0 = (0, 5)) (T1 : gs S a1 = (1, n0)) {dy' : DY} (E : F_X5_readTrait S N n0 a0 a1 a2 a3 dy = some dy') : MC l yX5_readTrait cX5_readTrait 6 (Option.none : Option Jvm.ClassFile.FieldType) (5) G ad [.ref (ad a0), .ref (ad a1), .int a2, .int a3] S dy (fun A => QV G ad A S dy') := by
  rw [F_X5_readTrait_s] at E
  refine mc_of RX5 (by decide) rfl (Nat.le_of_ble_eq_true rfl) (fun p e s m args below meth c A C HR HL => ?_)
  refine ww_sub (lv' := [(0, .ref (ad a0)), (1, .ref (ad a1)), (2, .int a2), (3, .int a3)]) [0, 1, 2, 3] rfl ?_
  refine ww_aload_n C dX5_readTrait_0 rfl 0 rfl ?_
  have T_1 : gs S (gr S a0 0) = (0, 6) := hG.1 _ 5 T0 0 (by decide)
  refine ww_getr (ci := 5) (k0 := 0) C dX5_readTrait_1 rfl rfl inm5 (by decide) T0 q504 rfl T_1 (by decide) ?_
  refine ww_iconst (v := 0) C dX5_readTrait_4 (by decide) ?_
  refine ww_aload_n C dX5_readTrait_5 rfl 0 rfl ?_
  have T_2 : gs S (gr S a0 1) = (0, 4) := hG.1 _ 5 T0 1 (by decide)
  refine ww_getr (ci := 5) (k0 := 1) C dX5_readTrait_6 rfl rfl inm5 (by decide) T0 q505 rfl T_2 (by decide) ?_
  refine ww_geti (ci := 4) (k0 := 3) C dX5_readTrait_9 rfl rfl inm4 (by decide) T_2 q163 rfl ?_
  refine ww_iconst (v := 1) C dX5_readTrait_12 (by decide) ?_
  refine ww_isub C dX5_readTrait_13 ?_
  obtain ⟨u3, e_4, E⟩ := bind_of E
  refine ww_callI C (runs_V (n := 2) (st := []) C [.int (0 : Int32), .int ((gi dy (gr S a0 1) 3) - (1 : Int32))] (M_X6_needNumber_ l G ad N hG (gr S a0 0) (0 : Int32) ((gi dy (gr S a0 1) 3) - (1 : Int32)) dy T_1 e_4) ⟨q674, q114, by decide⟩ q671 q672 q673 (ci := 6) rfl T_1 rfl (Nat.le_of_ble_eq_true rfl) ⟨Nat.le_of_ble_eq_true rfl, Nat.le_of_ble_eq_true rfl⟩ ⟨Nat.zero_le _, Nat.zero_le _⟩ dX5_readTrait_14 rfl) ?_
  refine ww_istore (lv' := [(4, .int u3.1), (0, .ref (ad a0)), (1, .ref (ad a1)), (2, .int a2), (3, .int a3)]) C dX5_readTrait_17 (by decide) rfl ?_
  refine ww_aload_n C dX5_readTrait_19 rfl 1 rfl ?_
  have T_5 : gs S (gr S a0 0) = (0, 6) := hG.1 _ 5 T0 0 (by decide)
  refine ww_getr (ci := 5) (k0 := 0) C dX5_readTrait_20 rfl rfl inm5 (by decide) T0 q504 rfl T_5 (by decide) ?_
  refine ww_iload_n C dX5_readTrait_23 rfl 3 rfl ?_
  refine ww_iload_n C dX5_readTrait_24 rfl 4 rfl ?_
  obtain ⟨u6, e_7, E⟩ := bind_of E
  refine ww_callI C (runs_V (n := 2) (st := []) C [.int a2, .int a3] (M_X6_needNumber_ l G ad N hG (gr S a0 0) a2 a3 u3.2 T_5 e_7) ⟨q674, q114, by decide⟩ q671 q672 q673 (ci := 6) rfl T_5 rfl (Nat.le_of_ble_eq_true rfl) ⟨Nat.le_of_ble_eq_true rfl, Nat.le_of_ble_eq_true rfl⟩ ⟨Nat.zero_le _, Nat.zero_le _⟩ dX5_readTrait_25 rfl) ?_
  refine ww_istore (lv' := [(5, .int u6.1), (4, .int u3.1), (0, .ref (ad a0)), (1, .ref (ad a1)), (2, .int a2), (3, .int a3)]) C dX5_readTrait_28 (by decide) rfl ?_
  refine ww_aload_n C dX5_readTrait_30 rfl 2 rfl ?_
  have T_8 : gs S (gr S a0 0) = (0, 6) := hG.1 _ 5 T0 0 (by decide)
  refine ww_getr (ci := 5) (k0 := 0) C dX5_readTrait_31 rfl rfl inm5 (by decide) T0 q504 rfl T_8 (by decide) ?_
  obtain ⟨u9, e_10, E⟩ := bind_of E
  refine ww_callI C (runs_V (n := 0) (st := []) C [] (M_X6_isSound l G ad N hG (gr S a0 0) u6.2 T_8 e_10) ⟨q719, q114, by decide⟩ q716 q717 q718 (ci := 6) rfl T_8 rfl (Nat.le_of_ble_eq_true rfl) ⟨Nat.le_of_ble_eq_true rfl, Nat.le_of_ble_eq_true rfl⟩ ⟨Nat.zero_le _, Nat.zero_le _⟩ dX5_readTrait_34 rfl) ?_
  refine ww_if_eq (tgt := 58) C dX5_readTrait_37 (by decide) E (fun _ E => ?_) (fun _ E => ?_)
  · exact ww_vret C HR HL dX5_readTrait_58 E
  · refine ww_iload C dX5_readTrait_40 1 rfl ?_
    refine ww_if_lt (tgt := 58) C dX5_readTrait_42 (by decide) E (fun _ E => ?_) (fun _ E => ?_)
    · exact ww_vret C HR HL dX5_readTrait_58 E
    · refine ww_iload C dX5_readTrait_45 1 rfl ?_
      refine ww_aload_n C dX5_readTrait_47 rfl 3 rfl ?_
      refine ww_alen (v := (Int32.ofNat n0)) C dX5_readTrait_48 T1 (by decide) (by decide) rfl (by rfl) ?_
      refine ww_icmp_ge (tgt := 58) C dX5_readTrait_49 (by decide) E (fun _ E => ?_) (fun _ E => ?_)
      · exact ww_vret C HR HL dX5_readTrait_58 E
      · refine ww_aload_n C dX5_readTrait_52 rfl 3 rfl ?_
        refine ww_iload C dX5_readTrait_53 1 rfl ?_
        refine ww_iload C dX5_readTrait_55 0 rfl ?_
        refine ww_iast C dX5_readTrait_57 T1 E (fun _ E => ?_)
        refine ww_bd E (fun dy11 E => ?_)
        exact ww_vret C HR HL dX5_readTrait_58 E
section P_X5_readWalker
variable {p : Program} {l : Launch} {e : Env} {s : State} {m : MethodId} {args : Array Value} {below : List Frame} {meth : Method} {c : Code} {G : GG} {A : Nat → Prop} {ad : Nat → Nat} {S : ST} {N : Nat} {dy' : DY}
set_option maxHeartbeats 4000000 in
set_option maxRecDepth 100000 in
theorem B_X5_readWalker_119 (C : CX p s m args c cX5_readWalker 6 RX5 G A) (HR : meth.sig.returnType = (Option.none : Option Jvm.ClassFile.FieldType)) (HL : meth.locks = false) (hG : Good S) : ∀ (y0 : Nat) (y1 : Int32) (y2 : Int32) (y3 : Int32) (dy : DY), gs S y0 = (0, 4) → F_X5_readWalker_119 S N y0 y1 y2 y3 dy = some dy' → WJ p l e (rmD (8)) s m args below meth c 6 G A 0 0 (MQ below (QV G ad A S dy') args s 0 0 A) ad 119 [] [.int y3, .int y2, .int y1, .ref (ad y0)] S dy := by
  intro y0 y1 y2 y3 dy Ty0 E
  rw [F_X5_readWalker_119_s] at E
  obtain ⟨u1, e_2, E⟩ := bind_of E
  refine ww_callV C (runs_V (n := 3) (st := []) C [.int y1, .int y2, .int y3] (M_X4_addWalker l G ad N hG y0 y1 y2 y3 dy Ty0 e_2) ⟨q746, q110, by decide⟩ q743 q744 q745 (ci := 4) rfl Ty0 rfl (Nat.le_of_ble_eq_true rfl) ⟨Nat.le_of_ble_eq_true rfl, Nat.le_of_ble_eq_true rfl⟩ ⟨Nat.zero_le _, Nat.zero_le _⟩ dX5_readWalker_119 rfl) ?_
  exact ww_vret C HR HL dX5_readWalker_122 E
set_option maxHeartbeats 4000000 in
set_option maxRecDepth 100000 in
theorem B_X5_readWalker_91 (C : CX p s m args c cX5_readWalker 6 RX5 G A) (HR : meth.sig.returnType = (Option.none : Option Jvm.ClassFile.FieldType)) (HL : meth.locks = false) (hG : Good S) : ∀ (x0 : Nat) (x2 : Int32) (x3 : Int32) (x4 : Int32) (x5 : Int32) (dy : DY), gs S x0 = (0, 5) → F_X5_readWalker_91 S N x0 x2 x3 x4 x5 dy = some dy' → WJ p l e (rmD (8)) s m args below meth c 6 G A 0 0 (MQ below (QV G ad A S dy') args s 0 0 A) ad 91 [(0, .ref (ad x0)), (2, .int x2), (3, .int x3), (4, .int x4), (5, .int x5)] [] S dy := by
  intro x0 x2 x3 x4 x5 dy Tx0 E
  rw [F_X5_readWalker_91_s] at E
  refine ww_aload_n C dX5_readWalker_91 rfl 0 rfl ?_
  refine ww_iload_n C dX5_readWalker_92 rfl 2 rfl ?_
  refine ww_iload C dX5_readWalker_93 3 rfl ?_
  refine ww_iload_n C dX5_readWalker_95 rfl 1 rfl ?_
  obtain ⟨u1, e_2, E⟩ := bind_of E
  refine ww_callI C (runs_V (n := 3) (st := []) C [.int x3, .int x4, .int x2] (M_X5_isOpen l G ad N hG x0 x3 x4 x2 dy Tx0 e_2) ⟨q715, q116, by decide⟩ q712 q714 q3 (ci := 5) rfl Tx0 rfl (Nat.le_of_ble_eq_true rfl) ⟨Nat.le_of_ble_eq_true rfl, Nat.le_of_ble_eq_true rfl⟩ ⟨Nat.zero_le _, Nat.zero_le _⟩ dX5_readWalker_96 rfl) ?_
  refine ww_if_eq (tgt := 122) C dX5_readWalker_99 (by decide) E (fun _ E => ?_) (fun _ E => ?_)
  · exact ww_vret C HR HL dX5_readWalker_122 E
  · refine ww_aload_n C dX5_readWalker_102 rfl 0 rfl ?_
    have T_3 : gs S (gr S x0 1) = (0, 4) := hG.1 _ 5 Tx0 1 (by decide)
    refine ww_getr (ci := 5) (k0 := 1) C dX5_readWalker_103 rfl rfl inm5 (by decide) Tx0 q505 rfl T_3 (by decide) ?_
    refine ww_iload_n C dX5_readWalker_106 rfl 2 rfl ?_
    refine ww_iload C dX5_readWalker_107 3 rfl ?_
    refine ww_iload C dX5_readWalker_109 4 rfl ?_
    refine ww_if_eq (tgt := 118) C dX5_readWalker_111 (by decide) E (fun _ E => ?_) (fun _ E => ?_)
    · refine ww_iconst (v := (-1)) C dX5_readWalker_118 (by decide) ?_
      refine ww_sub (lv' := []) [] rfl ?_
      exact (B_X5_readWalker_119 C HR HL hG) (gr S x0 1) x3 x4 (-1 : Int32) u1.2 T_3 E
    · refine ww_iconst (v := 1) C dX5_readWalker_114 (by decide) ?_
      refine ww_goto (tgt := 119) C dX5_readWalker_115 (by decide) ?_
      refine ww_sub (lv' := []) [] rfl ?_
      exact (B_X5_readWalker_119 C HR HL hG) (gr S x0 1) x3 x4 (1 : Int32) u1.2 T_3 E
set_option maxHeartbeats 4000000 in
set_option maxRecDepth 100000 in
theorem B_X5_readWalker_21 (C : CX p s m args c cX5_readWalker 6 RX5 G A) (HR : meth.sig.returnType = (Option.none : Option Jvm.ClassFile.FieldType)) (HL : meth.locks = false) (hG : Good S) : ∀ (x0 : Nat) (dy : DY), gs S x0 = (0, 5) → F_X5_readWalker_21 S N x0 dy = some dy' → WJ p l e (rmD (8)) s m args below meth c 6 G A 0 0 (MQ below (QV G ad A S dy') args s 0 0 A) ad 21 [(0, .ref (ad x0))] [] S dy := by
  intro x0 dy Tx0 E
  rw [F_X5_readWalker_21_s] at E
  refine ww_aload_n C dX5_readWalker_21 rfl 0 rfl ?_
  have T_1 : gs S (gr S x0 0) = (0, 6) := hG.1 _ 5 Tx0 0 (by decide)
  refine ww_getr (ci := 5) (k0 := 0) C dX5_readWalker_22 rfl rfl inm5 (by decide) Tx0 q504 rfl T_1 (by decide) ?_
  refine ww_geti (ci := 6) (k0 := 3) C dX5_readWalker_25 rfl rfl inm6 (by decide) T_1 q428 rfl ?_
  refine ww_istore_n (lv' := [(2, .int (gi dy (gr S x0 0) 3)), (0, .ref (ad x0))]) C dX5_readWalker_28 rfl (by decide) rfl ?_
  refine ww_aload_n C dX5_readWalker_29 rfl 1 rfl ?_
  have T_2 : gs S (gr S x0 0) = (0, 6) := hG.1 _ 5 Tx0 0 (by decide)
  refine ww_getr (ci := 5) (k0 := 0) C dX5_readWalker_30 rfl rfl inm5 (by decide) Tx0 q504 rfl T_2 (by decide) ?_
  refine ww_iconst (v := 0) C dX5_readWalker_33 (by decide) ?_
  refine ww_aload_n C dX5_readWalker_34 rfl 1 rfl ?_
  have T_3 : gs S (gr S x0 1) = (0, 4) := hG.1 _ 5 Tx0 1 (by decide)
  refine ww_getr (ci := 5) (k0 := 1) C dX5_readWalker_35 rfl rfl inm5 (by decide) Tx0 q505 rfl T_3 (by decide) ?_
  refine ww_geti (ci := 4) (k0 := 0) C dX5_readWalker_38 rfl rfl inm4 (by decide) T_3 q151 rfl ?_
  refine ww_iconst (v := 1) C dX5_readWalker_41 (by decide) ?_
  refine ww_isub C dX5_readWalker_42 ?_
  obtain ⟨u4, e_5, E⟩ := bind_of E
  refine ww_callI C (runs_V (n := 2) (st := []) C [.int (0 : Int32), .int ((gi dy (gr S x0 1) 0) - (1 : Int32))] (M_X6_needNumber_ l G ad N hG (gr S x0 0) (0 : Int32) ((gi dy (gr S x0 1) 0) - (1 : Int32)) dy T_2 e_5) ⟨q674, q114, by decide⟩ q671 q672 q673 (ci := 6) rfl T_2 rfl (Nat.le_of_ble_eq_true rfl) ⟨Nat.le_of_ble_eq_true rfl, Nat.le_of_ble_eq_true rfl⟩ ⟨Nat.zero_le _, Nat.zero_le _⟩ dX5_readWalker_43 rfl) ?_
  refine ww_istore_n (lv' := [(3, .int u4.1), (2, .int (gi dy (gr S x0 0) 3)), (0, .ref (ad x0))]) C dX5_readWalker_46 rfl (by decide) rfl ?_
  refine ww_aload_n C dX5_readWalker_47 rfl 2 rfl ?_
  have T_6 : gs S (gr S x0 0) = (0, 6) := hG.1 _ 5 Tx0 0 (by decide)
  refine ww_getr (ci := 5) (k0 := 0) C dX5_readWalker_48 rfl rfl inm5 (by decide) Tx0 q504 rfl T_6 (by decide) ?_
  refine ww_iconst (v := 0) C dX5_readWalker_51 (by decide) ?_
  refine ww_aload_n C dX5_readWalker_52 rfl 2 rfl ?_
  have T_7 : gs S (gr S x0 1) = (0, 4) := hG.1 _ 5 Tx0 1 (by decide)
  refine ww_getr (ci := 5) (k0 := 1) C dX5_readWalker_53 rfl rfl inm5 (by decide) Tx0 q505 rfl T_7 (by decide) ?_
  refine ww_geti (ci := 4) (k0 := 1) C dX5_readWalker_56 rfl rfl inm4 (by decide) T_7 q155 rfl ?_
  refine ww_iconst (v := 1) C dX5_readWalker_59 (by decide) ?_
  refine ww_isub C dX5_readWalker_60 ?_
  obtain ⟨u8, e_9, E⟩ := bind_of E
  refine ww_callI C (runs_V (n := 2) (st := []) C [.int (0 : Int32), .int ((gi u4.2 (gr S x0 1) 1) - (1 : Int32))] (M_X6_needNumber_ l G ad N hG (gr S x0 0) (0 : Int32) ((gi u4.2 (gr S x0 1) 1) - (1 : Int32)) u4.2 T_6 e_9) ⟨q674, q114, by decide⟩ q671 q672 q673 (ci := 6) rfl T_6 rfl (Nat.le_of_ble_eq_true rfl) ⟨Nat.le_of_ble_eq_true rfl, Nat.le_of_ble_eq_true rfl⟩ ⟨Nat.zero_le _, Nat.zero_le _⟩ dX5_readWalker_61 rfl) ?_
  refine ww_istore (lv' := [(4, .int u8.1), (3, .int u4.1), (2, .int (gi dy (gr S x0 0) 3)), (0, .ref (ad x0))]) C dX5_readWalker_64 (by decide) rfl ?_
  refine ww_aload_n C dX5_readWalker_66 rfl 3 rfl ?_
  have T_10 : gs S (gr S x0 0) = (0, 6) := hG.1 _ 5 Tx0 0 (by decide)
  refine ww_getr (ci := 5) (k0 := 0) C dX5_readWalker_67 rfl rfl inm5 (by decide) Tx0 q504 rfl T_10 (by decide) ?_
  refine ww_ldcs (j := 3) C dX5_readWalker_70 rfl ?_
  obtain ⟨u11, e_12, E⟩ := bind_of E
  refine ww_callI C (runs_V (n := 1) (st := []) C [.ref (G.2.2.1 3)] (M_X6_takesWord l G ad N hG (gr S x0 0) 3 u8.2 T_10 (show 3 < 30 by decide) e_12) ⟨q614, q114, by decide⟩ q707 q612 q613 (ci := 6) rfl T_10 rfl (Nat.le_of_ble_eq_true rfl) ⟨Nat.le_of_ble_eq_true rfl, Nat.le_of_ble_eq_true rfl⟩ ⟨Nat.zero_le _, Nat.zero_le _⟩ dX5_readWalker_72 rfl) ?_
  refine ww_istore (lv' := [(5, .int u11.1), (4, .int u8.1), (3, .int u4.1), (2, .int (gi dy (gr S x0 0) 3)), (0, .ref (ad x0))]) C dX5_readWalker_75 (by decide) rfl ?_
  refine ww_iload C dX5_readWalker_77 0 rfl ?_
  refine ww_if_ne (tgt := 91) C dX5_readWalker_79 (by decide) E (fun _ E => ?_) (fun _ E => ?_)
  · refine ww_sub (lv' := [(0, .ref (ad x0)), (2, .int (gi dy (gr S x0 0) 3)), (3, .int u4.1), (4, .int u8.1), (5, .int u11.1)]) [4, 3, 2, 1, 0] rfl ?_
    exact (B_X5_readWalker_91 C HR HL hG) x0 (gi dy (gr S x0 0) 3) u4.1 u8.1 u11.1 u11.2 Tx0 E
  · refine ww_aload_n C dX5_readWalker_82 rfl 4 rfl ?_
    have T_13 : gs S (gr S x0 0) = (0, 6) := hG.1 _ 5 Tx0 0 (by decide)
    refine ww_getr (ci := 5) (k0 := 0) C dX5_readWalker_83 rfl rfl inm5 (by decide) Tx0 q504 rfl T_13 (by decide) ?_
    refine ww_ldcs (j := 4) C dX5_readWalker_86 rfl ?_
    obtain ⟨u14, e_15, E⟩ := bind_of E
    refine ww_callV C (runs_V (n := 1) (st := []) C [.ref (G.2.2.1 4)] (M_X6_needWord l G ad N hG (gr S x0 0) 4 u11.2 T_13 (show 4 < 30 by decide) e_15) ⟨q610, q114, by decide⟩ q607 q608 q609 (ci := 6) rfl T_13 rfl (Nat.le_of_ble_eq_true rfl) ⟨Nat.le_of_ble_eq_true rfl, Nat.le_of_ble_eq_true rfl⟩ ⟨Nat.zero_le _, Nat.zero_le _⟩ dX5_readWalker_88 rfl) ?_
    refine ww_sub (lv' := [(0, .ref (ad x0)), (2, .int (gi dy (gr S x0 0) 3)), (3, .int u4.1), (4, .int u8.1), (5, .int u11.1)]) [4, 3, 2, 1, 0] rfl ?_
    exact (B_X5_readWalker_91 C HR HL hG) x0 (gi dy (gr S x0 0) 3) u4.1 u8.1 u11.1 u14 Tx0 E
end P_X5_readWalker
set_option maxHeartbeats 4000000 in
set_option maxRecDepth 100000 in
theorem M_X5_readWalker (l : Launch) (G : GG) (ad : Nat → Nat) {S : ST} (N : Nat) (hG : Good S) (a0 : Nat) (a1 : Int32) (dy : DY) (T0 : gs S a0 = (0, 5)) {dy' : DY} (E : F_X5_readWalker S N a0 a1 dy = some dy') : MC l yX5_readWalker cX5_readWalker 6 (Option.none : Option Jvm.ClassFile.FieldType) (8) G ad [.ref (ad a0), .int a1] S dy (fun A => QV G ad A S dy') := by
  rw [F_X5_readWalker_s] at E
  refine mc_of RX5 (by decide) rfl (Nat.le_of_ble_eq_true rfl) (fun p e s m args below meth c A C HR HL => ?_)
  refine ww_sub (lv' := [(0, .ref (ad a0)), (1, .int a1)]) [0, 1] rfl ?_
  refine ww_aload_n C dX5_readWalker_0 rfl 0 rfl ?_
  have T_1 : gs S (gr S a0 1) = (0, 4) := hG.1 _ 5 T0 1 (by decide)
  refine ww_getr (ci := 5) (k0 := 1) C dX5_readWalker_1 rfl rfl inm5 (by decide) T0 q505 rfl T_1 (by decide) ?_
  refine ww_geti (ci := 4) (k0 := 3) C dX5_readWalker_4 rfl rfl inm4 (by decide) T_1 q163 rfl ?_
  refine ww_bipush (v := 12) C dX5_readWalker_7 (by decide) ?_
  refine ww_icmp_lt (tgt := 21) C dX5_readWalker_9 (by decide) E (fun _ E => ?_) (fun _ E => ?_)
  · refine ww_sub (lv' := [(0, .ref (ad a0))]) [0] rfl ?_
    exact (B_X5_readWalker_21 C HR HL hG) a0 dy T0 E
  · refine ww_aload_n C dX5_readWalker_12 rfl 0 rfl ?_
    have T_2 : gs S (gr S a0 0) = (0, 6) := hG.1 _ 5 T0 0 (by decide)
    refine ww_getr (ci := 5) (k0 := 0) C dX5_readWalker_13 rfl rfl inm5 (by decide) T0 q504 rfl T_2 (by decide) ?_
    refine ww_iconst (v := 3) C dX5_readWalker_16 (by decide) ?_
    refine ww_iload_n C dX5_readWalker_17 rfl 1 rfl ?_
    obtain ⟨u3, e_4, E⟩ := bind_of E
    refine ww_callV C (runs_V (n := 2) (st := []) C [.int (3 : Int32), .int a1] (M_X6_note l G ad N hG (gr S a0 0) (3 : Int32) a1 dy T_2 e_4) ⟨q682, q114, by decide⟩ q701 q680 q681 (ci := 6) rfl T_2 rfl (Nat.le_of_ble_eq_true rfl) ⟨Nat.le_of_ble_eq_true rfl, Nat.le_of_ble_eq_true rfl⟩ ⟨Nat.zero_le _, Nat.zero_le _⟩ dX5_readWalker_18 rfl) ?_
    refine ww_sub (lv' := [(0, .ref (ad a0))]) [0] rfl ?_
    exact (B_X5_readWalker_21 C HR HL hG) a0 u3 T0 E
section P_X5_readWall
variable {p : Program} {l : Launch} {e : Env} {s : State} {m : MethodId} {args : Array Value} {below : List Frame} {meth : Method} {c : Code} {G : GG} {A : Nat → Prop} {ad : Nat → Nat} {S : ST} {N : Nat} {dy' : DY}
end P_X5_readWall
set_option maxHeartbeats 4000000 in
set_option maxRecDepth 100000 in
theorem M_X5_readWall (l : Launch) (G : GG) (ad : Nat → Nat) {S : ST} (N : Nat) (hG : Good S) (a0 : Nat) (dy : DY) (T0 : gs S a0 = (0, 5)) {dy' : DY} (E : F_X5_readWall S N a0 dy = some dy') : MC l yX5_readWall cX5_readWall 4 (Option.none : Option Jvm.ClassFile.FieldType) (5) G ad [.ref (ad a0)] S dy (fun A => QV G ad A S dy') := by
  rw [F_X5_readWall_s] at E
  refine mc_of RX5 (by decide) rfl (Nat.le_of_ble_eq_true rfl) (fun p e s m args below meth c A C HR HL => ?_)
  refine ww_sub (lv' := [(0, .ref (ad a0))]) [0] rfl ?_
  refine ww_aload_n C dX5_readWall_0 rfl 0 rfl ?_
  have T_1 : gs S (gr S a0 0) = (0, 6) := hG.1 _ 5 T0 0 (by decide)
  refine ww_getr (ci := 5) (k0 := 0) C dX5_readWall_1 rfl rfl inm5 (by decide) T0 q504 rfl T_1 (by decide) ?_
  refine ww_geti (ci := 6) (k0 := 3) C dX5_readWall_4 rfl rfl inm6 (by decide) T_1 q428 rfl ?_
  refine ww_istore_n (lv' := [(1, .int (gi dy (gr S a0 0) 3)), (0, .ref (ad a0))]) C dX5_readWall_7 rfl (by decide) rfl ?_
  refine ww_aload_n C dX5_readWall_8 rfl 1 rfl ?_
  have T_2 : gs S (gr S a0 0) = (0, 6) := hG.1 _ 5 T0 0 (by decide)
  refine ww_getr (ci := 5) (k0 := 0) C dX5_readWall_9 rfl rfl inm5 (by decide) T0 q504 rfl T_2 (by decide) ?_
  refine ww_iconst (v := 0) C dX5_readWall_12 (by decide) ?_
  refine ww_aload_n C dX5_readWall_13 rfl 1 rfl ?_
  have T_3 : gs S (gr S a0 1) = (0, 4) := hG.1 _ 5 T0 1 (by decide)
  refine ww_getr (ci := 5) (k0 := 1) C dX5_readWall_14 rfl rfl inm5 (by decide) T0 q505 rfl T_3 (by decide) ?_
  refine ww_geti (ci := 4) (k0 := 0) C dX5_readWall_17 rfl rfl inm4 (by decide) T_3 q151 rfl ?_
  refine ww_iconst (v := 1) C dX5_readWall_20 (by decide) ?_
  refine ww_isub C dX5_readWall_21 ?_
  obtain ⟨u4, e_5, E⟩ := bind_of E
  refine ww_callI C (runs_V (n := 2) (st := []) C [.int (0 : Int32), .int ((gi dy (gr S a0 1) 0) - (1 : Int32))] (M_X6_needNumber_ l G ad N hG (gr S a0 0) (0 : Int32) ((gi dy (gr S a0 1) 0) - (1 : Int32)) dy T_2 e_5) ⟨q674, q114, by decide⟩ q671 q672 q673 (ci := 6) rfl T_2 rfl (Nat.le_of_ble_eq_true rfl) ⟨Nat.le_of_ble_eq_true rfl, Nat.le_of_ble_eq_true rfl⟩ ⟨Nat.zero_le _, Nat.zero_le _⟩ dX5_readWall_22 rfl) ?_
  refine ww_istore_n (lv' := [(2, .int u4.1), (1, .int (gi dy (gr S a0 0) 3)), (0, .ref (ad a0))]) C dX5_readWall_25 rfl (by decide) rfl ?_
  refine ww_aload_n C dX5_readWall_26 rfl 2 rfl ?_
  have T_6 : gs S (gr S a0 0) = (0, 6) := hG.1 _ 5 T0 0 (by decide)
  refine ww_getr (ci := 5) (k0 := 0) C dX5_readWall_27 rfl rfl inm5 (by decide) T0 q504 rfl T_6 (by decide) ?_
  refine ww_iconst (v := 0) C dX5_readWall_30 (by decide) ?_
  refine ww_aload_n C dX5_readWall_31 rfl 2 rfl ?_
  have T_7 : gs S (gr S a0 1) = (0, 4) := hG.1 _ 5 T0 1 (by decide)
  refine ww_getr (ci := 5) (k0 := 1) C dX5_readWall_32 rfl rfl inm5 (by decide) T0 q505 rfl T_7 (by decide) ?_
  refine ww_geti (ci := 4) (k0 := 1) C dX5_readWall_35 rfl rfl inm4 (by decide) T_7 q155 rfl ?_
  refine ww_iconst (v := 1) C dX5_readWall_38 (by decide) ?_
  refine ww_isub C dX5_readWall_39 ?_
  obtain ⟨u8, e_9, E⟩ := bind_of E
  refine ww_callI C (runs_V (n := 2) (st := []) C [.int (0 : Int32), .int ((gi u4.2 (gr S a0 1) 1) - (1 : Int32))] (M_X6_needNumber_ l G ad N hG (gr S a0 0) (0 : Int32) ((gi u4.2 (gr S a0 1) 1) - (1 : Int32)) u4.2 T_6 e_9) ⟨q674, q114, by decide⟩ q671 q672 q673 (ci := 6) rfl T_6 rfl (Nat.le_of_ble_eq_true rfl) ⟨Nat.le_of_ble_eq_true rfl, Nat.le_of_ble_eq_true rfl⟩ ⟨Nat.zero_le _, Nat.zero_le _⟩ dX5_readWall_40 rfl) ?_
  refine ww_istore_n (lv' := [(3, .int u8.1), (2, .int u4.1), (1, .int (gi dy (gr S a0 0) 3)), (0, .ref (ad a0))]) C dX5_readWall_43 rfl (by decide) rfl ?_
  refine ww_aload_n C dX5_readWall_44 rfl 3 rfl ?_
  refine ww_iload_n C dX5_readWall_45 rfl 1 rfl ?_
  refine ww_iload_n C dX5_readWall_46 rfl 0 rfl ?_
  refine ww_iload_n C dX5_readWall_47 rfl 2 rfl ?_
  obtain ⟨u10, e_11, E⟩ := bind_of E
  refine ww_callI C (runs_V (n := 3) (st := []) C [.int u4.1, .int u8.1, .int (gi dy (gr S a0 0) 3)] (M_X5_isOpen l G ad N hG a0 u4.1 u8.1 (gi dy (gr S a0 0) 3) u8.2 T0 e_11) ⟨q715, q116, by decide⟩ q712 q714 q3 (ci := 5) rfl T0 rfl (Nat.le_of_ble_eq_true rfl) ⟨Nat.le_of_ble_eq_true rfl, Nat.le_of_ble_eq_true rfl⟩ ⟨Nat.zero_le _, Nat.zero_le _⟩ dX5_readWall_48 rfl) ?_
  refine ww_if_eq (tgt := 64) C dX5_readWall_51 (by decide) E (fun _ E => ?_) (fun _ E => ?_)
  · exact ww_vret C HR HL dX5_readWall_64 E
  · refine ww_aload_n C dX5_readWall_54 rfl 3 rfl ?_
    have T_12 : gs S (gr S a0 1) = (0, 4) := hG.1 _ 5 T0 1 (by decide)
    refine ww_getr (ci := 5) (k0 := 1) C dX5_readWall_55 rfl rfl inm5 (by decide) T0 q505 rfl T_12 (by decide) ?_
    refine ww_iload_n C dX5_readWall_58 rfl 1 rfl ?_
    refine ww_iload_n C dX5_readWall_59 rfl 0 rfl ?_
    refine ww_iconst (v := 1) C dX5_readWall_60 (by decide) ?_
    obtain ⟨u13, e_14, E⟩ := bind_of E
    refine ww_callV C (runs_V (n := 3) (st := []) C [.int u4.1, .int u8.1, .int (1 : Int32)] (M_X4_setWall l G ad N hG (gr S a0 1) u4.1 u8.1 (1 : Int32) u10.2 T_12 e_14) ⟨q735, q110, by decide⟩ q732 q733 q734 (ci := 4) rfl T_12 rfl (Nat.le_of_ble_eq_true rfl) ⟨Nat.le_of_ble_eq_true rfl, Nat.le_of_ble_eq_true rfl⟩ ⟨Nat.zero_le _, Nat.zero_le _⟩ dX5_readWall_61 rfl) ?_
    exact ww_vret C HR HL dX5_readWall_64 E
section P_X5_readLine
variable {p : Program} {l : Launch} {e : Env} {s : State} {m : MethodId} {args : Array Value} {below : List Frame} {meth : Method} {c : Code} {G : GG} {A : Nat → Prop} {ad : Nat → Nat} {S : ST} {N : Nat} {dy' : DY}
set_option maxHeartbeats 4000000 in
set_option maxRecDepth 100000 in
theorem B_X5_readLine_177 (C : CX p s m args c cX5_readLine 2 RX5 G A) (HR : meth.sig.returnType = (Option.none : Option Jvm.ClassFile.FieldType)) (HL : meth.locks = false) (hG : Good S) : ∀ (x0 : Nat) (dy : DY), gs S x0 = (0, 5) → F_X5_readLine_177 S N x0 dy = some dy' → WJ p l e (rmD (9)) s m args below meth c 2 G A 0 0 (MQ below (QV G ad A S dy') args s 0 0 A) ad 177 [(0, .ref (ad x0))] [] S dy := by
  intro x0 dy Tx0 E
  rw [F_X5_readLine_177_s] at E
  refine ww_aload_n C dX5_readLine_177 rfl 0 rfl ?_
  have T_1 : gs S (gr S x0 0) = (0, 6) := hG.1 _ 5 Tx0 0 (by decide)
  refine ww_getr (ci := 5) (k0 := 0) C dX5_readLine_178 rfl rfl inm5 (by decide) Tx0 q504 rfl T_1 (by decide) ?_
  refine ww_bipush (v := 59) C dX5_readLine_181 (by decide) ?_
  obtain ⟨u2, e_3, E⟩ := bind_of E
  refine ww_callV C (runs_V (n := 1) (st := []) C [.int (59 : Int32)] (M_X6_needSign l G ad N hG (gr S x0 0) (59 : Int32) dy T_1 e_3) ⟨q686, q114, by decide⟩ q683 q684 q685 (ci := 6) rfl T_1 rfl (Nat.le_of_ble_eq_true rfl) ⟨Nat.le_of_ble_eq_true rfl, Nat.le_of_ble_eq_true rfl⟩ ⟨Nat.zero_le _, Nat.zero_le _⟩ dX5_readLine_183 rfl) ?_
  exact ww_vret C HR HL dX5_readLine_186 E
end P_X5_readLine
set_option maxHeartbeats 4000000 in
set_option maxRecDepth 100000 in
theorem M_X5_readLine (l : Launch) (G : GG) (ad : Nat → Nat) {S : ST} (N : Nat) (hG : Good S) (a0 : Nat) (dy : DY) (T0 : gs S a0 = (0, 5)) {dy' : DY} (E : F_X5_readLine S N a0 dy = some dy') : MC l yX5_readLine cX5_readLine 2 (Option.none : Option Jvm.ClassFile.FieldType) (9) G ad [.ref (ad a0)] S dy (fun A => QV G ad A S dy') := by
  rw [F_X5_readLine_s] at E
  refine mc_of RX5 (by decide) rfl (Nat.le_of_ble_eq_true rfl) (fun p e s m args below meth c A C HR HL => ?_)
  refine ww_sub (lv' := [(0, .ref (ad a0))]) [0] rfl ?_
  refine ww_aload_n C dX5_readLine_0 rfl 0 rfl ?_
  have T_1 : gs S (gr S a0 0) = (0, 6) := hG.1 _ 5 T0 0 (by decide)
  refine ww_getr (ci := 5) (k0 := 0) C dX5_readLine_1 rfl rfl inm5 (by decide) T0 q504 rfl T_1 (by decide) ?_
  refine ww_geti (ci := 6) (k0 := 3) C dX5_readLine_4 rfl rfl inm6 (by decide) T_1 q428 rfl ?_
  refine ww_istore_n (lv' := [(1, .int (gi dy (gr S a0 0) 3)), (0, .ref (ad a0))]) C dX5_readLine_7 rfl (by decide) rfl ?_
  refine ww_aload_n C dX5_readLine_8 rfl 1 rfl ?_
  have T_2 : gs S (gr S a0 0) = (0, 6) := hG.1 _ 5 T0 0 (by decide)
  refine ww_getr (ci := 5) (k0 := 0) C dX5_readLine_9 rfl rfl inm5 (by decide) T0 q504 rfl T_2 (by decide) ?_
  refine ww_ldcs (j := 1) C dX5_readLine_12 rfl ?_
  obtain ⟨u3, e_4, E⟩ := bind_of E
  refine ww_callI C (runs_V (n := 1) (st := []) C [.ref (G.2.2.1 1)] (M_X6_takesWord l G ad N hG (gr S a0 0) 1 dy T_2 (show 1 < 30 by decide) e_4) ⟨q614, q114, by decide⟩ q707 q612 q613 (ci := 6) rfl T_2 rfl (Nat.le_of_ble_eq_true rfl) ⟨Nat.le_of_ble_eq_true rfl, Nat.le_of_ble_eq_true rfl⟩ ⟨Nat.zero_le _, Nat.zero_le _⟩ dX5_readLine_14 rfl) ?_
  refine ww_if_eq (tgt := 27) C dX5_readLine_17 (by decide) E (fun _ E => ?_) (fun _ E => ?_)
  · refine ww_aload_n C dX5_readLine_27 rfl 1 rfl ?_
    have T_5 : gs S (gr S a0 0) = (0, 6) := hG.1 _ 5 T0 0 (by decide)
    refine ww_getr (ci := 5) (k0 := 0) C dX5_readLine_28 rfl rfl inm5 (by decide) T0 q504 rfl T_5 (by decide) ?_
    refine ww_ldcs (j := 2) C dX5_readLine_31 rfl ?_
    obtain ⟨u6, e_7, E⟩ := bind_of E
    refine ww_callI C (runs_V (n := 1) (st := []) C [.ref (G.2.2.1 2)] (M_X6_takesWord l G ad N hG (gr S a0 0) 2 u3.2 T_5 (show 2 < 30 by decide) e_7) ⟨q614, q114, by decide⟩ q707 q612 q613 (ci := 6) rfl T_5 rfl (Nat.le_of_ble_eq_true rfl) ⟨Nat.le_of_ble_eq_true rfl, Nat.le_of_ble_eq_true rfl⟩ ⟨Nat.zero_le _, Nat.zero_le _⟩ dX5_readLine_33 rfl) ?_
    refine ww_if_eq (tgt := 47) C dX5_readLine_36 (by decide) E (fun _ E => ?_) (fun _ E => ?_)
    · refine ww_aload_n C dX5_readLine_47 rfl 1 rfl ?_
      have T_8 : gs S (gr S a0 0) = (0, 6) := hG.1 _ 5 T0 0 (by decide)
      refine ww_getr (ci := 5) (k0 := 0) C dX5_readLine_48 rfl rfl inm5 (by decide) T0 q504 rfl T_8 (by decide) ?_
      refine ww_ldcs (j := 5) C dX5_readLine_51 rfl ?_
      obtain ⟨u9, e_10, E⟩ := bind_of E
      refine ww_callI C (runs_V (n := 1) (st := []) C [.ref (G.2.2.1 5)] (M_X6_takesWord l G ad N hG (gr S a0 0) 5 u6.2 T_8 (show 5 < 30 by decide) e_10) ⟨q614, q114, by decide⟩ q707 q612 q613 (ci := 6) rfl T_8 rfl (Nat.le_of_ble_eq_true rfl) ⟨Nat.le_of_ble_eq_true rfl, Nat.le_of_ble_eq_true rfl⟩ ⟨Nat.zero_le _, Nat.zero_le _⟩ dX5_readLine_53 rfl) ?_
      refine ww_if_eq (tgt := 75) C dX5_readLine_56 (by decide) E (fun _ E => ?_) (fun _ E => ?_)
      · refine ww_aload_n C dX5_readLine_75 rfl 1 rfl ?_
        have T_11 : gs S (gr S a0 0) = (0, 6) := hG.1 _ 5 T0 0 (by decide)
        refine ww_getr (ci := 5) (k0 := 0) C dX5_readLine_76 rfl rfl inm5 (by decide) T0 q504 rfl T_11 (by decide) ?_
        refine ww_ldcs (j := 6) C dX5_readLine_79 rfl ?_
        obtain ⟨u12, e_13, E⟩ := bind_of E
        refine ww_callI C (runs_V (n := 1) (st := []) C [.ref (G.2.2.1 6)] (M_X6_takesWord l G ad N hG (gr S a0 0) 6 u9.2 T_11 (show 6 < 30 by decide) e_13) ⟨q614, q114, by decide⟩ q707 q612 q613 (ci := 6) rfl T_11 rfl (Nat.le_of_ble_eq_true rfl) ⟨Nat.le_of_ble_eq_true rfl, Nat.le_of_ble_eq_true rfl⟩ ⟨Nat.zero_le _, Nat.zero_le _⟩ dX5_readLine_81 rfl) ?_
        refine ww_if_eq (tgt := 103) C dX5_readLine_84 (by decide) E (fun _ E => ?_) (fun _ E => ?_)
        · refine ww_aload_n C dX5_readLine_103 rfl 1 rfl ?_
          have T_14 : gs S (gr S a0 0) = (0, 6) := hG.1 _ 5 T0 0 (by decide)
          refine ww_getr (ci := 5) (k0 := 0) C dX5_readLine_104 rfl rfl inm5 (by decide) T0 q504 rfl T_14 (by decide) ?_
          refine ww_ldcs (j := 7) C dX5_readLine_107 rfl ?_
          obtain ⟨u15, e_16, E⟩ := bind_of E
          refine ww_callI C (runs_V (n := 1) (st := []) C [.ref (G.2.2.1 7)] (M_X6_takesWord l G ad N hG (gr S a0 0) 7 u12.2 T_14 (show 7 < 30 by decide) e_16) ⟨q614, q114, by decide⟩ q707 q612 q613 (ci := 6) rfl T_14 rfl (Nat.le_of_ble_eq_true rfl) ⟨Nat.le_of_ble_eq_true rfl, Nat.le_of_ble_eq_true rfl⟩ ⟨Nat.zero_le _, Nat.zero_le _⟩ dX5_readLine_109 rfl) ?_
          refine ww_if_eq (tgt := 132) C dX5_readLine_112 (by decide) E (fun _ E => ?_) (fun _ E => ?_)
          · refine ww_aload_n C dX5_readLine_132 rfl 1 rfl ?_
            have T_17 : gs S (gr S a0 0) = (0, 6) := hG.1 _ 5 T0 0 (by decide)
            refine ww_getr (ci := 5) (k0 := 0) C dX5_readLine_133 rfl rfl inm5 (by decide) T0 q504 rfl T_17 (by decide) ?_
            refine ww_ldcs (j := 8) C dX5_readLine_136 rfl ?_
            obtain ⟨u18, e_19, E⟩ := bind_of E
            refine ww_callI C (runs_V (n := 1) (st := []) C [.ref (G.2.2.1 8)] (M_X6_takesWord l G ad N hG (gr S a0 0) 8 u15.2 T_17 (show 8 < 30 by decide) e_19) ⟨q614, q114, by decide⟩ q707 q612 q613 (ci := 6) rfl T_17 rfl (Nat.le_of_ble_eq_true rfl) ⟨Nat.le_of_ble_eq_true rfl, Nat.le_of_ble_eq_true rfl⟩ ⟨Nat.zero_le _, Nat.zero_le _⟩ dX5_readLine_138 rfl) ?_
            refine ww_if_eq (tgt := 151) C dX5_readLine_141 (by decide) E (fun _ E => ?_) (fun _ E => ?_)
            · refine ww_aload_n C dX5_readLine_151 rfl 1 rfl ?_
              have T_20 : gs S (gr S a0 0) = (0, 6) := hG.1 _ 5 T0 0 (by decide)
              refine ww_getr (ci := 5) (k0 := 0) C dX5_readLine_152 rfl rfl inm5 (by decide) T0 q504 rfl T_20 (by decide) ?_
              refine ww_ldcs (j := 11) C dX5_readLine_155 rfl ?_
              obtain ⟨u21, e_22, E⟩ := bind_of E
              refine ww_callI C (runs_V (n := 1) (st := []) C [.ref (G.2.2.1 11)] (M_X6_takesWord l G ad N hG (gr S a0 0) 11 u18.2 T_20 (show 11 < 30 by decide) e_22) ⟨q614, q114, by decide⟩ q707 q612 q613 (ci := 6) rfl T_20 rfl (Nat.le_of_ble_eq_true rfl) ⟨Nat.le_of_ble_eq_true rfl, Nat.le_of_ble_eq_true rfl⟩ ⟨Nat.zero_le _, Nat.zero_le _⟩ dX5_readLine_157 rfl) ?_
              refine ww_if_eq (tgt := 170) C dX5_readLine_160 (by decide) E (fun _ E => ?_) (fun _ E => ?_)
              · refine ww_aload_n C dX5_readLine_170 rfl 1 rfl ?_
                have T_23 : gs S (gr S a0 0) = (0, 6) := hG.1 _ 5 T0 0 (by decide)
                refine ww_getr (ci := 5) (k0 := 0) C dX5_readLine_171 rfl rfl inm5 (by decide) T0 q504 rfl T_23 (by decide) ?_
                obtain ⟨u24, e_25, E⟩ := bind_of E
                refine ww_callV C (runs_V (n := 0) (st := []) C [] (M_X6_breakOff l G ad N hG (gr S a0 0) u21.2 T_23 e_25) ⟨q670, q114, by decide⟩ q779 q668 q669 (ci := 6) rfl T_23 rfl (Nat.le_of_ble_eq_true rfl) ⟨Nat.le_of_ble_eq_true rfl, Nat.le_of_ble_eq_true rfl⟩ ⟨Nat.zero_le _, Nat.zero_le _⟩ dX5_readLine_174 rfl) ?_
                refine ww_sub (lv' := [(0, .ref (ad a0))]) [1] rfl ?_
                exact (B_X5_readLine_177 C HR HL hG) a0 u24 T0 E
              · refine ww_aload_n C dX5_readLine_163 rfl 1 rfl ?_
                obtain ⟨u26, e_27, E⟩ := bind_of E
                refine ww_callV C (runs_V (n := 0) (st := []) C [] (M_X5_readFriends l G ad N hG a0 u21.2 T0 e_27) ⟨q769, q116, by decide⟩ q766 q768 q7 (ci := 5) rfl T0 rfl (Nat.le_of_ble_eq_true rfl) ⟨Nat.le_of_ble_eq_true rfl, Nat.le_of_ble_eq_true rfl⟩ ⟨Nat.zero_le _, Nat.zero_le _⟩ dX5_readLine_164 rfl) ?_
                refine ww_goto (tgt := 177) C dX5_readLine_167 (by decide) ?_
                refine ww_sub (lv' := [(0, .ref (ad a0))]) [1] rfl ?_
                exact (B_X5_readLine_177 C HR HL hG) a0 u26 T0 E
            · refine ww_aload_n C dX5_readLine_144 rfl 1 rfl ?_
              obtain ⟨u28, e_29, E⟩ := bind_of E
              refine ww_callV C (runs_V (n := 0) (st := []) C [] (M_X5_readHand l G ad N hG a0 u18.2 T0 e_29) ⟨q758, q116, by decide⟩ q755 q757 q6 (ci := 5) rfl T0 rfl (Nat.le_of_ble_eq_true rfl) ⟨Nat.le_of_ble_eq_true rfl, Nat.le_of_ble_eq_true rfl⟩ ⟨Nat.zero_le _, Nat.zero_le _⟩ dX5_readLine_145 rfl) ?_
              refine ww_goto (tgt := 177) C dX5_readLine_148 (by decide) ?_
              refine ww_sub (lv' := [(0, .ref (ad a0))]) [1] rfl ?_
              exact (B_X5_readLine_177 C HR HL hG) a0 u28 T0 E
          · refine ww_aload_n C dX5_readLine_115 rfl 1 rfl ?_
            refine ww_aload_n C dX5_readLine_116 rfl 1 rfl ?_
            have T_30 : gs S (gr S a0 1) = (0, 4) := hG.1 _ 5 T0 1 (by decide)
            refine ww_getr (ci := 5) (k0 := 1) C dX5_readLine_117 rfl rfl inm5 (by decide) T0 q505 rfl T_30 (by decide) ?_
            have T_31 : gs S (gr S (gr S a0 1) 10) = (1, 12) := hG.1 _ 4 T_30 10 (by decide)
            refine ww_getr (ci := 4) (k0 := 10) C dX5_readLine_120 rfl rfl inm4 (by decide) T_30 q187 rfl T_31 (by decide) ?_
            refine ww_iconst (v := 0) C dX5_readLine_123 (by decide) ?_
            refine ww_bipush (v := 9) C dX5_readLine_124 (by decide) ?_
            obtain ⟨u32, e_33, E⟩ := bind_of E
            refine ww_callV C (runs_V (n := 3) (st := []) C [.ref (ad (gr S (gr S a0 1) 10)), .int (0 : Int32), .int (9 : Int32)] (M_X5_readTrait l G ad N 12 hG a0 (gr S (gr S a0 1) 10) (0 : Int32) (9 : Int32) u15.2 T0 T_31 e_33) ⟨q751, q116, by decide⟩ q748 q750 q5 (ci := 5) rfl T0 rfl (Nat.le_of_ble_eq_true rfl) ⟨Nat.le_of_ble_eq_true rfl, Nat.le_of_ble_eq_true rfl⟩ ⟨Nat.zero_le _, Nat.zero_le _⟩ dX5_readLine_126 rfl) ?_
            refine ww_goto (tgt := 177) C dX5_readLine_129 (by decide) ?_
            refine ww_sub (lv' := [(0, .ref (ad a0))]) [1] rfl ?_
            exact (B_X5_readLine_177 C HR HL hG) a0 u32 T0 E
        · refine ww_aload_n C dX5_readLine_87 rfl 1 rfl ?_
          refine ww_aload_n C dX5_readLine_88 rfl 1 rfl ?_
          have T_34 : gs S (gr S a0 1) = (0, 4) := hG.1 _ 5 T0 1 (by decide)
          refine ww_getr (ci := 5) (k0 := 1) C dX5_readLine_89 rfl rfl inm5 (by decide) T0 q505 rfl T_34 (by decide) ?_
          have T_35 : gs S (gr S (gr S a0 1) 9) = (1, 12) := hG.1 _ 4 T_34 9 (by decide)
          refine ww_getr (ci := 4) (k0 := 9) C dX5_readLine_92 rfl rfl inm4 (by decide) T_34 q182 rfl T_35 (by decide) ?_
          refine ww_iconst (v := 0) C dX5_readLine_95 (by decide) ?_
          refine ww_iconst (v := 3) C dX5_readLine_96 (by decide) ?_
          obtain ⟨u36, e_37, E⟩ := bind_of E
          refine ww_callV C (runs_V (n := 3) (st := []) C [.ref (ad (gr S (gr S a0 1) 9)), .int (0 : Int32), .int (3 : Int32)] (M_X5_readTrait l G ad N 12 hG a0 (gr S (gr S a0 1) 9) (0 : Int32) (3 : Int32) u12.2 T0 T_35 e_37) ⟨q751, q116, by decide⟩ q748 q750 q5 (ci := 5) rfl T0 rfl (Nat.le_of_ble_eq_true rfl) ⟨Nat.le_of_ble_eq_true rfl, Nat.le_of_ble_eq_true rfl⟩ ⟨Nat.zero_le _, Nat.zero_le _⟩ dX5_readLine_97 rfl) ?_
          refine ww_goto (tgt := 177) C dX5_readLine_100 (by decide) ?_
          refine ww_sub (lv' := [(0, .ref (ad a0))]) [1] rfl ?_
          exact (B_X5_readLine_177 C HR HL hG) a0 u36 T0 E
      · refine ww_aload_n C dX5_readLine_59 rfl 1 rfl ?_
        refine ww_aload_n C dX5_readLine_60 rfl 1 rfl ?_
        have T_38 : gs S (gr S a0 1) = (0, 4) := hG.1 _ 5 T0 1 (by decide)
        refine ww_getr (ci := 5) (k0 := 1) C dX5_readLine_61 rfl rfl inm5 (by decide) T0 q505 rfl T_38 (by decide) ?_
        have T_39 : gs S (gr S (gr S a0 1) 8) = (1, 12) := hG.1 _ 4 T_38 8 (by decide)
        refine ww_getr (ci := 4) (k0 := 8) C dX5_readLine_64 rfl rfl inm4 (by decide) T_38 q177 rfl T_39 (by decide) ?_
        refine ww_iconst (v := 1) C dX5_readLine_67 (by decide) ?_
        refine ww_iconst (v := 4) C dX5_readLine_68 (by decide) ?_
        obtain ⟨u40, e_41, E⟩ := bind_of E
        refine ww_callV C (runs_V (n := 3) (st := []) C [.ref (ad (gr S (gr S a0 1) 8)), .int (1 : Int32), .int (4 : Int32)] (M_X5_readTrait l G ad N 12 hG a0 (gr S (gr S a0 1) 8) (1 : Int32) (4 : Int32) u9.2 T0 T_39 e_41) ⟨q751, q116, by decide⟩ q748 q750 q5 (ci := 5) rfl T0 rfl (Nat.le_of_ble_eq_true rfl) ⟨Nat.le_of_ble_eq_true rfl, Nat.le_of_ble_eq_true rfl⟩ ⟨Nat.zero_le _, Nat.zero_le _⟩ dX5_readLine_69 rfl) ?_
        refine ww_goto (tgt := 177) C dX5_readLine_72 (by decide) ?_
        refine ww_sub (lv' := [(0, .ref (ad a0))]) [1] rfl ?_
        exact (B_X5_readLine_177 C HR HL hG) a0 u40 T0 E
    · refine ww_aload_n C dX5_readLine_39 rfl 1 rfl ?_
      refine ww_iload_n C dX5_readLine_40 rfl 0 rfl ?_
      obtain ⟨u42, e_43, E⟩ := bind_of E
      refine ww_callV C (runs_V (n := 1) (st := []) C [.int (gi dy (gr S a0 0) 3)] (M_X5_readWalker l G ad N hG a0 (gi dy (gr S a0 0) 3) u6.2 T0 e_43) ⟨q740, q116, by decide⟩ q737 q739 q4 (ci := 5) rfl T0 rfl (Nat.le_of_ble_eq_true rfl) ⟨Nat.le_of_ble_eq_true rfl, Nat.le_of_ble_eq_true rfl⟩ ⟨Nat.zero_le _, Nat.zero_le _⟩ dX5_readLine_41 rfl) ?_
      refine ww_goto (tgt := 177) C dX5_readLine_44 (by decide) ?_
      refine ww_sub (lv' := [(0, .ref (ad a0))]) [1] rfl ?_
      exact (B_X5_readLine_177 C HR HL hG) a0 u42 T0 E
  · refine ww_aload_n C dX5_readLine_20 rfl 1 rfl ?_
    obtain ⟨u44, e_45, E⟩ := bind_of E
    refine ww_callV C (runs_V (n := 0) (st := []) C [] (M_X5_readWall l G ad N hG a0 u3.2 T0 e_45) ⟨q711, q116, by decide⟩ q708 q710 q2 (ci := 5) rfl T0 rfl (Nat.le_of_ble_eq_true rfl) ⟨Nat.le_of_ble_eq_true rfl, Nat.le_of_ble_eq_true rfl⟩ ⟨Nat.zero_le _, Nat.zero_le _⟩ dX5_readLine_21 rfl) ?_
    refine ww_goto (tgt := 177) C dX5_readLine_24 (by decide) ?_
    refine ww_sub (lv' := [(0, .ref (ad a0))]) [1] rfl ?_
    exact (B_X5_readLine_177 C HR HL hG) a0 u44 T0 E
section P_X5_readSize
variable {p : Program} {l : Launch} {e : Env} {s : State} {m : MethodId} {args : Array Value} {below : List Frame} {meth : Method} {c : Code} {G : GG} {A : Nat → Prop} {ad : Nat → Nat} {S : ST} {N : Nat} {dy' : DY}
end P_X5_readSize
set_option maxHeartbeats 4000000 in
set_option maxRecDepth 100000 in
theorem M_X5_readSize (l : Launch) (G : GG) (ad : Nat → Nat) {S : ST} (N : Nat) (hG : Good S) (a0 : Nat) (dy : DY) (T0 : gs S a0 = (0, 5)) {dy' : DY} (E : F_X5_readSize S N a0 dy = some dy') : MC l yX5_readSize cX5_readSize 3 (Option.none : Option Jvm.ClassFile.FieldType) (8) G ad [.ref (ad a0)] S dy (fun A => QV G ad A S dy') := by
  rw [F_X5_readSize_s] at E
  refine mc_of RX5 (by decide) rfl (Nat.le_of_ble_eq_true rfl) (fun p e s m args below meth c A C HR HL => ?_)
  refine ww_sub (lv' := [(0, .ref (ad a0))]) [0] rfl ?_
  refine ww_aload_n C dX5_readSize_0 rfl 0 rfl ?_
  have T_1 : gs S (gr S a0 0) = (0, 6) := hG.1 _ 5 T0 0 (by decide)
  refine ww_getr (ci := 5) (k0 := 0) C dX5_readSize_1 rfl rfl inm5 (by decide) T0 q504 rfl T_1 (by decide) ?_
  refine ww_ldcs (j := 0) C dX5_readSize_4 rfl ?_
  obtain ⟨u2, e_3, E⟩ := bind_of E
  refine ww_callV C (runs_V (n := 1) (st := []) C [.ref (G.2.2.1 0)] (M_X6_needWord l G ad N hG (gr S a0 0) 0 dy T_1 (show 0 < 30 by decide) e_3) ⟨q610, q114, by decide⟩ q607 q608 q609 (ci := 6) rfl T_1 rfl (Nat.le_of_ble_eq_true rfl) ⟨Nat.le_of_ble_eq_true rfl, Nat.le_of_ble_eq_true rfl⟩ ⟨Nat.zero_le _, Nat.zero_le _⟩ dX5_readSize_6 rfl) ?_
  refine ww_aload_n C dX5_readSize_9 rfl 0 rfl ?_
  have T_4 : gs S (gr S a0 0) = (0, 6) := hG.1 _ 5 T0 0 (by decide)
  refine ww_getr (ci := 5) (k0 := 0) C dX5_readSize_10 rfl rfl inm5 (by decide) T0 q504 rfl T_4 (by decide) ?_
  refine ww_iconst (v := 2) C dX5_readSize_13 (by decide) ?_
  refine ww_bipush (v := 16) C dX5_readSize_14 (by decide) ?_
  obtain ⟨u5, e_6, E⟩ := bind_of E
  refine ww_callI C (runs_V (n := 2) (st := []) C [.int (2 : Int32), .int (16 : Int32)] (M_X6_needNumber_ l G ad N hG (gr S a0 0) (2 : Int32) (16 : Int32) u2 T_4 e_6) ⟨q674, q114, by decide⟩ q671 q672 q673 (ci := 6) rfl T_4 rfl (Nat.le_of_ble_eq_true rfl) ⟨Nat.le_of_ble_eq_true rfl, Nat.le_of_ble_eq_true rfl⟩ ⟨Nat.zero_le _, Nat.zero_le _⟩ dX5_readSize_16 rfl) ?_
  refine ww_istore_n (lv' := [(1, .int u5.1), (0, .ref (ad a0))]) C dX5_readSize_19 rfl (by decide) rfl ?_
  refine ww_aload_n C dX5_readSize_20 rfl 1 rfl ?_
  have T_7 : gs S (gr S a0 0) = (0, 6) := hG.1 _ 5 T0 0 (by decide)
  refine ww_getr (ci := 5) (k0 := 0) C dX5_readSize_21 rfl rfl inm5 (by decide) T0 q504 rfl T_7 (by decide) ?_
  refine ww_iconst (v := 1) C dX5_readSize_24 (by decide) ?_
  refine ww_bipush (v := 6) C dX5_readSize_25 (by decide) ?_
  obtain ⟨u8, e_9, E⟩ := bind_of E
  refine ww_callI C (runs_V (n := 2) (st := []) C [.int (1 : Int32), .int (6 : Int32)] (M_X6_needNumber_ l G ad N hG (gr S a0 0) (1 : Int32) (6 : Int32) u5.2 T_7 e_9) ⟨q674, q114, by decide⟩ q671 q672 q673 (ci := 6) rfl T_7 rfl (Nat.le_of_ble_eq_true rfl) ⟨Nat.le_of_ble_eq_true rfl, Nat.le_of_ble_eq_true rfl⟩ ⟨Nat.zero_le _, Nat.zero_le _⟩ dX5_readSize_27 rfl) ?_
  refine ww_istore_n (lv' := [(2, .int u8.1), (1, .int u5.1), (0, .ref (ad a0))]) C dX5_readSize_30 rfl (by decide) rfl ?_
  refine ww_aload_n C dX5_readSize_31 rfl 2 rfl ?_
  have T_10 : gs S (gr S a0 0) = (0, 6) := hG.1 _ 5 T0 0 (by decide)
  refine ww_getr (ci := 5) (k0 := 0) C dX5_readSize_32 rfl rfl inm5 (by decide) T0 q504 rfl T_10 (by decide) ?_
  refine ww_bipush (v := 59) C dX5_readSize_35 (by decide) ?_
  obtain ⟨u11, e_12, E⟩ := bind_of E
  refine ww_callV C (runs_V (n := 1) (st := []) C [.int (59 : Int32)] (M_X6_needSign l G ad N hG (gr S a0 0) (59 : Int32) u8.2 T_10 e_12) ⟨q686, q114, by decide⟩ q683 q684 q685 (ci := 6) rfl T_10 rfl (Nat.le_of_ble_eq_true rfl) ⟨Nat.le_of_ble_eq_true rfl, Nat.le_of_ble_eq_true rfl⟩ ⟨Nat.zero_le _, Nat.zero_le _⟩ dX5_readSize_37 rfl) ?_
  refine ww_aload_n C dX5_readSize_40 rfl 2 rfl ?_
  have T_13 : gs S (gr S a0 1) = (0, 4) := hG.1 _ 5 T0 1 (by decide)
  refine ww_getr (ci := 5) (k0 := 1) C dX5_readSize_41 rfl rfl inm5 (by decide) T0 q505 rfl T_13 (by decide) ?_
  refine ww_iload_n C dX5_readSize_44 rfl 1 rfl ?_
  refine ww_iload_n C dX5_readSize_45 rfl 0 rfl ?_
  obtain ⟨u14, e_15, E⟩ := bind_of E
  refine ww_callV C (runs_V (n := 2) (st := []) C [.int u5.1, .int u8.1] (M_X4_clear l G ad N hG (gr S a0 1) u5.1 u8.1 u11 T_13 e_15) ⟨q694, q110, by decide⟩ q691 q692 q693 (ci := 4) rfl T_13 rfl (Nat.le_of_ble_eq_true rfl) ⟨Nat.le_of_ble_eq_true rfl, Nat.le_of_ble_eq_true rfl⟩ ⟨Nat.zero_le _, Nat.zero_le _⟩ dX5_readSize_46 rfl) ?_
  exact ww_vret C HR HL dX5_readSize_49 E
section P_X5_read
variable {p : Program} {l : Launch} {e : Env} {s : State} {m : MethodId} {args : Array Value} {below : List Frame} {meth : Method} {c : Code} {G : GG} {A : Nat → Prop} {ad : Nat → Nat} {S : ST} {N : Nat} {r : Int32} {dy' : DY}
set_option maxHeartbeats 4000000 in
set_option maxRecDepth 100000 in
theorem B_X5_read_52 (C : CX p s m args c cX5_read 3 RX5 G A) (HR : meth.sig.returnType = (Option.some Jvm.ClassFile.FieldType.boolean)) (HL : meth.locks = false) (hG : Good S) {K14 : Nat → Int32 → DY → Option (Int32 × DY)} (hK14 : ∀ (x0 : Nat) (x2 : Int32) (dy : DY), gs S x0 = (0, 5) → K14 x0 x2 dy = some (r, dy') → WJ p l e (rmD (10)) s m args below meth c 3 G A 0 0 (MQ below (QI G ad A S r dy') args s 0 0 A) ad 14 [(0, .ref (ad x0)), (2, .int x2)] [] S dy) : ∀ (x0 : Nat) (x2 : Int32) (dy : DY), gs S x0 = (0, 5) → F_X5_read_52 S N K14 x0 x2 dy = some (r, dy') → WJ p l e (rmD (10)) s m args below meth c 3 G A 0 0 (MQ below (QI G ad A S r dy') args s 0 0 A) ad 52 [(0, .ref (ad x0)), (2, .int x2)] [] S dy := by
  intro x0 x2 dy Tx0 E
  rw [F_X5_read_52_s] at E
  refine ww_aload_n C dX5_read_52 rfl 0 rfl ?_
  obtain ⟨u1, e_2, E⟩ := bind_of E
  refine ww_callV C (runs_V (n := 0) (st := []) C [] (M_X5_readLine l G ad N hG x0 dy Tx0 e_2) ⟨q705, q116, by decide⟩ q702 q704 q1 (ci := 5) rfl Tx0 rfl (Nat.le_of_ble_eq_true rfl) ⟨Nat.le_of_ble_eq_true rfl, Nat.le_of_ble_eq_true rfl⟩ ⟨Nat.zero_le _, Nat.zero_le _⟩ dX5_read_53 rfl) ?_
  refine ww_iinc (v := (x2 + (1 : Int32))) (lv' := [(2, .int (x2 + (1 : Int32))), (0, .ref (ad x0))]) C dX5_read_56 1 rfl rfl (by decide) rfl ?_
  refine ww_goto (tgt := 14) C dX5_read_59 (by decide) ?_
  refine ww_sub (lv' := [(0, .ref (ad x0)), (2, .int (x2 + (1 : Int32)))]) [1, 0] rfl ?_
  exact hK14 x0 (x2 + (1 : Int32)) u1 Tx0 E
set_option maxHeartbeats 4000000 in
set_option maxRecDepth 100000 in
theorem B_X5_read_62 (C : CX p s m args c cX5_read 3 RX5 G A) (HR : meth.sig.returnType = (Option.some Jvm.ClassFile.FieldType.boolean)) (HL : meth.locks = false) (hG : Good S) : ∀ (x0 : Nat) (dy : DY), gs S x0 = (0, 5) → F_X5_read_62 S N x0 dy = some (r, dy') → WJ p l e (rmD (10)) s m args below meth c 3 G A 0 0 (MQ below (QI G ad A S r dy') args s 0 0 A) ad 62 [(0, .ref (ad x0))] [] S dy := by
  intro x0 dy Tx0 E
  rw [F_X5_read_62_s] at E
  refine ww_aload_n C dX5_read_62 rfl 0 rfl ?_
  have T_1 : gs S (gr S x0 0) = (0, 6) := hG.1 _ 5 Tx0 0 (by decide)
  refine ww_getr (ci := 5) (k0 := 0) C dX5_read_63 rfl rfl inm5 (by decide) Tx0 q504 rfl T_1 (by decide) ?_
  obtain ⟨u2, e_3, E⟩ := bind_of E
  refine ww_callI C (runs_V (n := 0) (st := []) C [] (M_X6_isSound l G ad N hG (gr S x0 0) dy T_1 e_3) ⟨q719, q114, by decide⟩ q716 q717 q718 (ci := 6) rfl T_1 rfl (Nat.le_of_ble_eq_true rfl) ⟨Nat.le_of_ble_eq_true rfl, Nat.le_of_ble_eq_true rfl⟩ ⟨Nat.zero_le _, Nat.zero_le _⟩ dX5_read_66 rfl) ?_
  obtain ⟨z_, E⟩ := gd_of E
  exact ww_zret C HR HL dX5_read_69 z_ E
set_option maxHeartbeats 4000000 in
set_option maxRecDepth 100000 in
theorem B_X5_read_14 (C : CX p s m args c cX5_read 3 RX5 G A) (HR : meth.sig.returnType = (Option.some Jvm.ClassFile.FieldType.boolean)) (HL : meth.locks = false) (hG : Good S) : ∀ k : Nat, ∀ (x0 : Nat) (x2 : Int32) (dy : DY), gs S x0 = (0, 5) → (F_X5_read_14 S N k) x0 x2 dy = some (r, dy') → WJ p l e (rmD (10)) s m args below meth c 3 G A 0 0 (MQ below (QI G ad A S r dy') args s 0 0 A) ad 14 [(0, .ref (ad x0)), (2, .int x2)] [] S dy := by
  intro k
  induction k with
  | zero => exact fun _ _ _ _ E => nomatch (show none = some (r, dy') from E)
  | succ k ih =>
    intro x0 x2 dy Tx0 E
    rw [F_X5_read_14_s] at E
    refine ww_iload_n C dX5_read_14 rfl 1 rfl ?_
    refine ww_sipush (v := 500) C dX5_read_15 (by decide) ?_
    refine ww_icmp_ge (tgt := 62) C dX5_read_18 (by decide) E (fun _ E => ?_) (fun _ E => ?_)
    · refine ww_sub (lv' := [(0, .ref (ad x0))]) [0] rfl ?_
      exact (B_X5_read_62 C HR HL hG) x0 dy Tx0 E
    · refine ww_aload_n C dX5_read_21 rfl 0 rfl ?_
      have T_1 : gs S (gr S x0 0) = (0, 6) := hG.1 _ 5 Tx0 0 (by decide)
      refine ww_getr (ci := 5) (k0 := 0) C dX5_read_22 rfl rfl inm5 (by decide) Tx0 q504 rfl T_1 (by decide) ?_
      obtain ⟨u2, e_3, E⟩ := bind_of E
      refine ww_callI C (runs_V (n := 0) (st := []) C [] (M_X6_goesOn l G ad N hG (gr S x0 0) dy T_1 e_3) ⟨q700, q114, by decide⟩ q697 q698 q699 (ci := 6) rfl T_1 rfl (Nat.le_of_ble_eq_true rfl) ⟨Nat.le_of_ble_eq_true rfl, Nat.le_of_ble_eq_true rfl⟩ ⟨Nat.zero_le _, Nat.zero_le _⟩ dX5_read_25 rfl) ?_
      refine ww_if_eq (tgt := 62) C dX5_read_28 (by decide) E (fun _ E => ?_) (fun _ E => ?_)
      · refine ww_sub (lv' := [(0, .ref (ad x0))]) [0] rfl ?_
        exact (B_X5_read_62 C HR HL hG) x0 u2.2 Tx0 E
      · refine ww_iload_n C dX5_read_31 rfl 1 rfl ?_
        refine ww_bipush (v := 40) C dX5_read_32 (by decide) ?_
        refine ww_icmp_lt (tgt := 52) C dX5_read_34 (by decide) E (fun _ E => ?_) (fun _ E => ?_)
        · refine ww_sub (lv' := [(0, .ref (ad x0)), (2, .int x2)]) [0, 1] rfl ?_
          exact (B_X5_read_52 C HR HL hG ih) x0 x2 u2.2 Tx0 E
        · refine ww_aload_n C dX5_read_37 rfl 0 rfl ?_
          have T_4 : gs S (gr S x0 0) = (0, 6) := hG.1 _ 5 Tx0 0 (by decide)
          refine ww_getr (ci := 5) (k0 := 0) C dX5_read_38 rfl rfl inm5 (by decide) Tx0 q504 rfl T_4 (by decide) ?_
          refine ww_iconst (v := 3) C dX5_read_41 (by decide) ?_
          refine ww_aload_n C dX5_read_42 rfl 0 rfl ?_
          have T_5 : gs S (gr S x0 0) = (0, 6) := hG.1 _ 5 Tx0 0 (by decide)
          refine ww_getr (ci := 5) (k0 := 0) C dX5_read_43 rfl rfl inm5 (by decide) Tx0 q504 rfl T_5 (by decide) ?_
          refine ww_geti (ci := 6) (k0 := 3) C dX5_read_46 rfl rfl inm6 (by decide) T_5 q428 rfl ?_
          obtain ⟨u6, e_7, E⟩ := bind_of E
          refine ww_callV C (runs_V (n := 2) (st := []) C [.int (3 : Int32), .int (gi u2.2 (gr S x0 0) 3)] (M_X6_note l G ad N hG (gr S x0 0) (3 : Int32) (gi u2.2 (gr S x0 0) 3) u2.2 T_4 e_7) ⟨q682, q114, by decide⟩ q701 q680 q681 (ci := 6) rfl T_4 rfl (Nat.le_of_ble_eq_true rfl) ⟨Nat.le_of_ble_eq_true rfl, Nat.le_of_ble_eq_true rfl⟩ ⟨Nat.zero_le _, Nat.zero_le _⟩ dX5_read_49 rfl) ?_
          refine ww_sub (lv' := [(0, .ref (ad x0)), (2, .int x2)]) [0, 1] rfl ?_
          exact (B_X5_read_52 C HR HL hG ih) x0 x2 u6 Tx0 E
end P_X5_read
set_option maxHeartbeats 4000000 in
set_option maxRecDepth 100000 in
theorem M_X5_read (l : Launch) (G : GG) (ad : Nat → Nat) {S : ST} (N : Nat) (hG : Good S) (a0 : Nat) (a1 : Int32) (dy : DY) (T0 : gs S a0 = (0, 5)) {r : Int32} {dy' : DY} (E : F_X5_read S N a0 a1 dy = some (r, dy')) : MC l yX5_read cX5_read 3 (Option.some Jvm.ClassFile.FieldType.boolean) (10) G ad [.ref (ad a0), .int a1] S dy (fun A => QI G ad A S r dy') := by
  rw [F_X5_read_s] at E
  refine mc_of RX5 (by decide) rfl (Nat.le_of_ble_eq_true rfl) (fun p e s m args below meth c A C HR HL => ?_)
  refine ww_sub (lv' := [(0, .ref (ad a0)), (1, .int a1)]) [0, 1] rfl ?_
  refine ww_aload_n C dX5_read_0 rfl 0 rfl ?_
  have T_1 : gs S (gr S a0 0) = (0, 6) := hG.1 _ 5 T0 0 (by decide)
  refine ww_getr (ci := 5) (k0 := 0) C dX5_read_1 rfl rfl inm5 (by decide) T0 q504 rfl T_1 (by decide) ?_
  refine ww_iload_n C dX5_read_4 rfl 1 rfl ?_
  obtain ⟨u2, e_3, E⟩ := bind_of E
  refine ww_callV C (runs_V (n := 1) (st := []) C [.int a1] (M_X6_open l G ad N hG (gr S a0 0) a1 dy T_1 e_3) ⟨q585, q114, by decide⟩ q582 q583 q584 (ci := 6) rfl T_1 rfl (Nat.le_of_ble_eq_true rfl) ⟨Nat.le_of_ble_eq_true rfl, Nat.le_of_ble_eq_true rfl⟩ ⟨Nat.zero_le _, Nat.zero_le _⟩ dX5_read_5 rfl) ?_
  refine ww_aload_n C dX5_read_8 rfl 0 rfl ?_
  obtain ⟨u4, e_5, E⟩ := bind_of E
  refine ww_callV C (runs_V (n := 0) (st := []) C [] (M_X5_readSize l G ad N hG a0 u2 T0 e_5) ⟨q605, q116, by decide⟩ q602 q604 q0 (ci := 5) rfl T0 rfl (Nat.le_of_ble_eq_true rfl) ⟨Nat.le_of_ble_eq_true rfl, Nat.le_of_ble_eq_true rfl⟩ ⟨Nat.zero_le _, Nat.zero_le _⟩ dX5_read_9 rfl) ?_
  refine ww_iconst (v := 0) C dX5_read_12 (by decide) ?_
  refine ww_istore_n (lv' := [(2, .int (0 : Int32)), (0, .ref (ad a0)), (1, .int a1)]) C dX5_read_13 rfl (by decide) rfl ?_
  refine ww_sub (lv' := [(0, .ref (ad a0)), (2, .int (0 : Int32))]) [1, 0] rfl ?_
  exact (B_X5_read_14 C HR HL hG N) a0 (0 : Int32) u4 T0 E
