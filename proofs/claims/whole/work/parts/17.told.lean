noncomputable def F_X7_append_3 (S : ST) (N : Nat) : Nat → Nat → Int32 → Int32 → DY → Option DY := fun k => Nat.rec (motive := fun _ => Nat → Int32 → Int32 → DY → Option DY) (fun _ _ _ _ => none) (fun _ ih x0 x1 x2 dy => (if x2 < 0 then some dy else (if (500 : Int32) ≤ (gi dy x0 1) then some dy else if ib (gi dy x0 1) 500 then bd (si dy (gr S x0 0) (gi dy x0 1).toNatClampNeg (((x1 >>> (x2 &&& 31))).toInt8.toInt32)) fun dy3 => bd (si dy3 x0 1 ((gi dy3 x0 1) + (1 : Int32))) fun dy4 => ih x0 x1 (x2 + (-8 : Int32)) dy4 else none))) k
theorem F_X7_append_3_s (S : ST) (N : Nat) (k : Nat) (x0 : Nat) (x1 : Int32) (x2 : Int32) (dy : DY) : F_X7_append_3 S N (k + 1) x0 x1 x2 dy = (if x2 < 0 then some dy else (if (500 : Int32) ≤ (gi dy x0 1) then some dy else if ib (gi dy x0 1) 500 then bd (si dy (gr S x0 0) (gi dy x0 1).toNatClampNeg (((x1 >>> (x2 &&& 31))).toInt8.toInt32)) fun dy3 => bd (si dy3 x0 1 ((gi dy3 x0 1) + (1 : Int32))) fun dy4 => (F_X7_append_3 S N k) x0 x1 (x2 + (-8 : Int32)) dy4 else none)) := rfl
noncomputable def F_X7_append (S : ST) (N : Nat) (a0 : Nat) (a1 : Int32) (dy : DY) : Option DY := (F_X7_append_3 S N N) a0 a1 (24 : Int32) dy
theorem F_X7_append_s (S : ST) (N : Nat) (a0 : Nat) (a1 : Int32) (dy : DY) : F_X7_append S N a0 a1 dy = ((F_X7_append_3 S N N) a0 a1 (24 : Int32) dy) := rfl
noncomputable def F_X7_copyFrom_42 (S : ST) (N : Nat) : Nat → Nat → Nat → Int32 → DY → Option DY := fun k => Nat.rec (motive := fun _ => Nat → Nat → Int32 → DY → Option DY) (fun _ _ _ _ => none) (fun _ ih x0 x1 x2 dy => (if (3 : Int32) ≤ x2 then bd (si dy x0 5 (gi dy x1 5)) fun dy1 => bd (si dy1 x0 7 (gi dy1 x1 7)) fun dy2 => (F_X4_copyFrom S N (gr S x0 8) (gr S x1 8) dy2).bind fun u5 => (F_X2_copyFrom S N (gr S x0 9) (gr S x1 9) u5).bind fun u9 => (F_X8_copyFrom S N (gr S x0 10) (gr S x1 10) u9).bind fun u13 => if zb (nr 3 (gi u13 x1 11)) then bd (si u13 x0 11 (nr 3 (gi u13 x1 11))) fun dy15 => (F_X1_copyFrom S N (gr S x0 12) (gr S x1 12) dy15).bind fun u19 => some u19 else none else if ib x2 3 then if ib x2 3 then (F_X4_copyFrom S N (gr S (gr S x0 4) x2.toNatClampNeg) (gr S (gr S x1 4) x2.toNatClampNeg) dy).bind fun u25 => if ib x2 3 then if ib x2 3 then (F_X2_copyFrom S N (gr S (gr S x0 6) x2.toNatClampNeg) (gr S (gr S x1 6) x2.toNatClampNeg) u25).bind fun u31 => ih x0 x1 (x2 + (1 : Int32)) u31 else none else none else none else none)) k
theorem F_X7_copyFrom_42_s (S : ST) (N : Nat) (k : Nat) (x0 : Nat) (x1 : Nat) (x2 : Int32) (dy : DY) : F_X7_copyFrom_42 S N (k + 1) x0 x1 x2 dy = (if (3 : Int32) ≤ x2 then bd (si dy x0 5 (gi dy x1 5)) fun dy1 => bd (si dy1 x0 7 (gi dy1 x1 7)) fun dy2 => (F_X4_copyFrom S N (gr S x0 8) (gr S x1 8) dy2).bind fun u5 => (F_X2_copyFrom S N (gr S x0 9) (gr S x1 9) u5).bind fun u9 => (F_X8_copyFrom S N (gr S x0 10) (gr S x1 10) u9).bind fun u13 => if zb (nr 3 (gi u13 x1 11)) then bd (si u13 x0 11 (nr 3 (gi u13 x1 11))) fun dy15 => (F_X1_copyFrom S N (gr S x0 12) (gr S x1 12) dy15).bind fun u19 => some u19 else none else if ib x2 3 then if ib x2 3 then (F_X4_copyFrom S N (gr S (gr S x0 4) x2.toNatClampNeg) (gr S (gr S x1 4) x2.toNatClampNeg) dy).bind fun u25 => if ib x2 3 then if ib x2 3 then (F_X2_copyFrom S N (gr S (gr S x0 6) x2.toNatClampNeg) (gr S (gr S x1 6) x2.toNatClampNeg) u25).bind fun u31 => (F_X7_copyFrom_42 S N k) x0 x1 (x2 + (1 : Int32)) u31 else none else none else none else none) := rfl
noncomputable def F_X7_copyFrom (S : ST) (N : Nat) (a0 : Nat) (a1 : Nat) (dy : DY) : Option DY := if ic (0 : Int32) (500 : Int32) 500 ∧ ic (0 : Int32) (500 : Int32) 500 then bd (cpi dy (gr S a1 0) (gr S a0 0) (0 : Int32).toNatClampNeg (0 : Int32).toNatClampNeg (500 : Int32).toNatClampNeg) fun dy3 => bd (si dy3 a0 1 (gi dy3 a1 1)) fun dy5 => bd (si dy5 a0 2 (gi dy5 a1 2)) fun dy6 => bd (si dy6 a0 3 (gi dy6 a1 3)) fun dy7 => (F_X7_copyFrom_42 S N N) a0 a1 (0 : Int32) dy7 else none
theorem F_X7_copyFrom_s (S : ST) (N : Nat) (a0 : Nat) (a1 : Nat) (dy : DY) : F_X7_copyFrom S N a0 a1 dy = (if ic (0 : Int32) (500 : Int32) 500 ∧ ic (0 : Int32) (500 : Int32) 500 then bd (cpi dy (gr S a1 0) (gr S a0 0) (0 : Int32).toNatClampNeg (0 : Int32).toNatClampNeg (500 : Int32).toNatClampNeg) fun dy3 => bd (si dy3 a0 1 (gi dy3 a1 1)) fun dy5 => bd (si dy5 a0 2 (gi dy5 a1 2)) fun dy6 => bd (si dy6 a0 3 (gi dy6 a1 3)) fun dy7 => (F_X7_copyFrom_42 S N N) a0 a1 (0 : Int32) dy7 else none) := rfl
noncomputable def F_X7_keepLaw (S : ST) (N : Nat) (a0 : Nat) (a1 : Int32) (a2 : Nat) (dy : DY) : Option DY := (if a1 < 0 then some dy else (if (3 : Int32) ≤ a1 then some dy else if ib a1 3 then (F_X2_copyFrom S N (gr S (gr S a0 6) a1.toNatClampNeg) a2 dy).bind fun u4 => bd (si u4 a0 7 (if (gi u4 a0 7) < (a1 + (1 : Int32)) then (a1 + (1 : Int32)) else (gi u4 a0 7))) fun dy6 => some dy6 else none))
theorem F_X7_keepLaw_s (S : ST) (N : Nat) (a0 : Nat) (a1 : Int32) (a2 : Nat) (dy : DY) : F_X7_keepLaw S N a0 a1 a2 dy = (if a1 < 0 then some dy else (if (3 : Int32) ≤ a1 then some dy else if ib a1 3 then (F_X2_copyFrom S N (gr S (gr S a0 6) a1.toNatClampNeg) a2 dy).bind fun u4 => bd (si u4 a0 7 (if (gi u4 a0 7) < (a1 + (1 : Int32)) then (a1 + (1 : Int32)) else (gi u4 a0 7))) fun dy6 => some dy6 else none)) := rfl
noncomputable def F_X7_keepPassage (S : ST) (N : Nat) (a0 : Nat) (a1 : Int32) (a2 : Nat) (dy : DY) : Option DY := (if a1 < 0 then some dy else (if (3 : Int32) ≤ a1 then some dy else if ib a1 3 then (F_X4_copyFrom S N (gr S (gr S a0 4) a1.toNatClampNeg) a2 dy).bind fun u4 => bd (si u4 a0 5 (if (gi u4 a0 5) < (a1 + (1 : Int32)) then (a1 + (1 : Int32)) else (gi u4 a0 5))) fun dy6 => some dy6 else none))
theorem F_X7_keepPassage_s (S : ST) (N : Nat) (a0 : Nat) (a1 : Int32) (a2 : Nat) (dy : DY) : F_X7_keepPassage S N a0 a1 a2 dy = (if a1 < 0 then some dy else (if (3 : Int32) ≤ a1 then some dy else if ib a1 3 then (F_X4_copyFrom S N (gr S (gr S a0 4) a1.toNatClampNeg) a2 dy).bind fun u4 => bd (si u4 a0 5 (if (gi u4 a0 5) < (a1 + (1 : Int32)) then (a1 + (1 : Int32)) else (gi u4 a0 5))) fun dy6 => some dy6 else none)) := rfl
noncomputable def F_X7_lawOf (S : ST) (N : Nat) (a0 : Nat) (a1 : Int32) (dy : DY) : Option (Nat × DY) := (if a1 < 0 then some (0, dy) else (if (gi dy a0 7) ≤ a1 then some (0, dy) else (if (3 : Int32) ≤ a1 then some (0, dy) else if ib a1 3 then some ((gr S (gr S a0 6) a1.toNatClampNeg), dy) else none)))
theorem F_X7_lawOf_s (S : ST) (N : Nat) (a0 : Nat) (a1 : Int32) (dy : DY) : F_X7_lawOf S N a0 a1 dy = (if a1 < 0 then some (0, dy) else (if (gi dy a0 7) ≤ a1 then some (0, dy) else (if (3 : Int32) ≤ a1 then some (0, dy) else if ib a1 3 then some ((gr S (gr S a0 6) a1.toNatClampNeg), dy) else none))) := rfl
noncomputable def F_X7_passageOf (S : ST) (N : Nat) (a0 : Nat) (a1 : Int32) (dy : DY) : Option (Nat × DY) := (if a1 < 0 then some (0, dy) else (if (gi dy a0 5) ≤ a1 then some (0, dy) else (if (3 : Int32) ≤ a1 then some (0, dy) else if ib a1 3 then some ((gr S (gr S a0 4) a1.toNatClampNeg), dy) else none)))
theorem F_X7_passageOf_s (S : ST) (N : Nat) (a0 : Nat) (a1 : Int32) (dy : DY) : F_X7_passageOf S N a0 a1 dy = (if a1 < 0 then some (0, dy) else (if (gi dy a0 5) ≤ a1 then some (0, dy) else (if (3 : Int32) ≤ a1 then some (0, dy) else if ib a1 3 then some ((gr S (gr S a0 4) a1.toNatClampNeg), dy) else none))) := rfl
noncomputable def F_X7_takeTape (S : ST) (N : Nat) (a0 : Nat) (dy : DY) : Option (Int32 × DY) := bd (si dy a0 1 (0 : Int32)) fun dy1 => bd (si dy1 a0 2 (0 : Int32)) fun dy2 => bd (si dy2 a0 3 (-1 : Int32)) fun dy3 => some ((gi dy a0 1), dy3)
theorem F_X7_takeTape_s (S : ST) (N : Nat) (a0 : Nat) (dy : DY) : F_X7_takeTape S N a0 dy = (bd (si dy a0 1 (0 : Int32)) fun dy1 => bd (si dy1 a0 2 (0 : Int32)) fun dy2 => bd (si dy2 a0 3 (-1 : Int32)) fun dy3 => some ((gi dy a0 1), dy3)) := rfl
theorem dX7_append_0 : decode cX7_append 0 = .ok (.bipush 24, 2) := by decide +kernel
theorem dX7_append_2 : decode cX7_append 2 = .ok (.istore_n 2, 1) := by decide +kernel
theorem dX7_append_3 : decode cX7_append 3 = .ok (.iload_n 2, 1) := by decide +kernel
theorem dX7_append_4 : decode cX7_append 4 = .ok (.ifCond .lt 44, 3) := by decide +kernel
theorem dX7_append_7 : decode cX7_append 7 = .ok (.aload_n 0, 1) := by decide +kernel
theorem dX7_append_8 : decode cX7_append 8 = .ok (.getfield 57, 3) := by decide +kernel
theorem dX7_append_11 : decode cX7_append 11 = .ok (.aload_n 0, 1) := by decide +kernel
theorem dX7_append_12 : decode cX7_append 12 = .ok (.getfield 9, 3) := by decide +kernel
theorem dX7_append_15 : decode cX7_append 15 = .ok (.arraylength, 1) := by decide +kernel
theorem dX7_append_16 : decode cX7_append 16 = .ok (.if_icmp .ge 32, 3) := by decide +kernel
theorem dX7_append_19 : decode cX7_append 19 = .ok (.aload_n 0, 1) := by decide +kernel
theorem dX7_append_20 : decode cX7_append 20 = .ok (.getfield 9, 3) := by decide +kernel
theorem dX7_append_23 : decode cX7_append 23 = .ok (.aload_n 0, 1) := by decide +kernel
theorem dX7_append_24 : decode cX7_append 24 = .ok (.getfield 57, 3) := by decide +kernel
theorem dX7_append_27 : decode cX7_append 27 = .ok (.iload_n 1, 1) := by decide +kernel
theorem dX7_append_28 : decode cX7_append 28 = .ok (.iload_n 2, 1) := by decide +kernel
theorem dX7_append_29 : decode cX7_append 29 = .ok (.ishr, 1) := by decide +kernel
theorem dX7_append_30 : decode cX7_append 30 = .ok (.i2b, 1) := by decide +kernel
theorem dX7_append_31 : decode cX7_append 31 = .ok (.bastore, 1) := by decide +kernel
theorem dX7_append_32 : decode cX7_append 32 = .ok (.aload_n 0, 1) := by decide +kernel
theorem dX7_append_33 : decode cX7_append 33 = .ok (.dup, 1) := by decide +kernel
theorem dX7_append_34 : decode cX7_append 34 = .ok (.getfield 57, 3) := by decide +kernel
theorem dX7_append_37 : decode cX7_append 37 = .ok (.iconst 1, 1) := by decide +kernel
theorem dX7_append_38 : decode cX7_append 38 = .ok (.iadd, 1) := by decide +kernel
theorem dX7_append_39 : decode cX7_append 39 = .ok (.putfield 57, 3) := by decide +kernel
theorem dX7_append_42 : decode cX7_append 42 = .ok (.iinc 2 (-8), 3) := by decide +kernel
theorem dX7_append_45 : decode cX7_append 45 = .ok (.goto (-42), 3) := by decide +kernel
theorem dX7_append_48 : decode cX7_append 48 = .ok (.return_, 1) := by decide +kernel
theorem dX7_copyFrom_0 : decode cX7_copyFrom 0 = .ok (.aload_n 1, 1) := by decide +kernel
theorem dX7_copyFrom_1 : decode cX7_copyFrom 1 = .ok (.getfield 9, 3) := by decide +kernel
theorem dX7_copyFrom_4 : decode cX7_copyFrom 4 = .ok (.iconst 0, 1) := by decide +kernel
theorem dX7_copyFrom_5 : decode cX7_copyFrom 5 = .ok (.aload_n 0, 1) := by decide +kernel
theorem dX7_copyFrom_6 : decode cX7_copyFrom 6 = .ok (.getfield 9, 3) := by decide +kernel
theorem dX7_copyFrom_9 : decode cX7_copyFrom 9 = .ok (.iconst 0, 1) := by decide +kernel
theorem dX7_copyFrom_10 : decode cX7_copyFrom 10 = .ok (.sipush 500, 3) := by decide +kernel
theorem dX7_copyFrom_13 : decode cX7_copyFrom 13 = .ok (.invokestatic 82, 3) := by decide +kernel
theorem dX7_copyFrom_16 : decode cX7_copyFrom 16 = .ok (.aload_n 0, 1) := by decide +kernel
theorem dX7_copyFrom_17 : decode cX7_copyFrom 17 = .ok (.aload_n 1, 1) := by decide +kernel
theorem dX7_copyFrom_18 : decode cX7_copyFrom 18 = .ok (.getfield 57, 3) := by decide +kernel
theorem dX7_copyFrom_21 : decode cX7_copyFrom 21 = .ok (.putfield 57, 3) := by decide +kernel
theorem dX7_copyFrom_24 : decode cX7_copyFrom 24 = .ok (.aload_n 0, 1) := by decide +kernel
theorem dX7_copyFrom_25 : decode cX7_copyFrom 25 = .ok (.aload_n 1, 1) := by decide +kernel
theorem dX7_copyFrom_26 : decode cX7_copyFrom 26 = .ok (.getfield 60, 3) := by decide +kernel
theorem dX7_copyFrom_29 : decode cX7_copyFrom 29 = .ok (.putfield 60, 3) := by decide +kernel
theorem dX7_copyFrom_32 : decode cX7_copyFrom 32 = .ok (.aload_n 0, 1) := by decide +kernel
theorem dX7_copyFrom_33 : decode cX7_copyFrom 33 = .ok (.aload_n 1, 1) := by decide +kernel
theorem dX7_copyFrom_34 : decode cX7_copyFrom 34 = .ok (.getfield 15, 3) := by decide +kernel
theorem dX7_copyFrom_37 : decode cX7_copyFrom 37 = .ok (.putfield 15, 3) := by decide +kernel
theorem dX7_copyFrom_40 : decode cX7_copyFrom 40 = .ok (.iconst 0, 1) := by decide +kernel
theorem dX7_copyFrom_41 : decode cX7_copyFrom 41 = .ok (.istore_n 2, 1) := by decide +kernel
theorem dX7_copyFrom_42 : decode cX7_copyFrom 42 = .ok (.iload_n 2, 1) := by decide +kernel
theorem dX7_copyFrom_43 : decode cX7_copyFrom 43 = .ok (.iconst 3, 1) := by decide +kernel
theorem dX7_copyFrom_44 : decode cX7_copyFrom 44 = .ok (.if_icmp .ge 39, 3) := by decide +kernel
theorem dX7_copyFrom_47 : decode cX7_copyFrom 47 = .ok (.aload_n 0, 1) := by decide +kernel
theorem dX7_copyFrom_48 : decode cX7_copyFrom 48 = .ok (.getfield 21, 3) := by decide +kernel
theorem dX7_copyFrom_51 : decode cX7_copyFrom 51 = .ok (.iload_n 2, 1) := by decide +kernel
theorem dX7_copyFrom_52 : decode cX7_copyFrom 52 = .ok (.aaload, 1) := by decide +kernel
theorem dX7_copyFrom_53 : decode cX7_copyFrom 53 = .ok (.aload_n 1, 1) := by decide +kernel
theorem dX7_copyFrom_54 : decode cX7_copyFrom 54 = .ok (.getfield 21, 3) := by decide +kernel
theorem dX7_copyFrom_57 : decode cX7_copyFrom 57 = .ok (.iload_n 2, 1) := by decide +kernel
theorem dX7_copyFrom_58 : decode cX7_copyFrom 58 = .ok (.aaload, 1) := by decide +kernel
theorem dX7_copyFrom_59 : decode cX7_copyFrom 59 = .ok (.invokevirtual 69, 3) := by decide +kernel
theorem dX7_copyFrom_62 : decode cX7_copyFrom 62 = .ok (.aload_n 0, 1) := by decide +kernel
theorem dX7_copyFrom_63 : decode cX7_copyFrom 63 = .ok (.getfield 27, 3) := by decide +kernel
theorem dX7_copyFrom_66 : decode cX7_copyFrom 66 = .ok (.iload_n 2, 1) := by decide +kernel
theorem dX7_copyFrom_67 : decode cX7_copyFrom 67 = .ok (.aaload, 1) := by decide +kernel
theorem dX7_copyFrom_68 : decode cX7_copyFrom 68 = .ok (.aload_n 1, 1) := by decide +kernel
theorem dX7_copyFrom_69 : decode cX7_copyFrom 69 = .ok (.getfield 27, 3) := by decide +kernel
theorem dX7_copyFrom_72 : decode cX7_copyFrom 72 = .ok (.iload_n 2, 1) := by decide +kernel
theorem dX7_copyFrom_73 : decode cX7_copyFrom 73 = .ok (.aaload, 1) := by decide +kernel
theorem dX7_copyFrom_74 : decode cX7_copyFrom 74 = .ok (.invokevirtual 79, 3) := by decide +kernel
theorem dX7_copyFrom_77 : decode cX7_copyFrom 77 = .ok (.iinc 2 1, 3) := by decide +kernel
theorem dX7_copyFrom_80 : decode cX7_copyFrom 80 = .ok (.goto (-38), 3) := by decide +kernel
theorem dX7_copyFrom_83 : decode cX7_copyFrom 83 = .ok (.aload_n 0, 1) := by decide +kernel
theorem dX7_copyFrom_84 : decode cX7_copyFrom 84 = .ok (.aload_n 1, 1) := by decide +kernel
theorem dX7_copyFrom_85 : decode cX7_copyFrom 85 = .ok (.getfield 63, 3) := by decide +kernel
theorem dX7_copyFrom_88 : decode cX7_copyFrom 88 = .ok (.putfield 63, 3) := by decide +kernel
theorem dX7_copyFrom_91 : decode cX7_copyFrom 91 = .ok (.aload_n 0, 1) := by decide +kernel
theorem dX7_copyFrom_92 : decode cX7_copyFrom 92 = .ok (.aload_n 1, 1) := by decide +kernel
theorem dX7_copyFrom_93 : decode cX7_copyFrom 93 = .ok (.getfield 66, 3) := by decide +kernel
theorem dX7_copyFrom_96 : decode cX7_copyFrom 96 = .ok (.putfield 66, 3) := by decide +kernel
theorem dX7_copyFrom_99 : decode cX7_copyFrom 99 = .ok (.aload_n 0, 1) := by decide +kernel
theorem dX7_copyFrom_100 : decode cX7_copyFrom 100 = .ok (.getfield 32, 3) := by decide +kernel
theorem dX7_copyFrom_103 : decode cX7_copyFrom 103 = .ok (.aload_n 1, 1) := by decide +kernel
theorem dX7_copyFrom_104 : decode cX7_copyFrom 104 = .ok (.getfield 32, 3) := by decide +kernel
theorem dX7_copyFrom_107 : decode cX7_copyFrom 107 = .ok (.invokevirtual 69, 3) := by decide +kernel
theorem dX7_copyFrom_110 : decode cX7_copyFrom 110 = .ok (.aload_n 0, 1) := by decide +kernel
theorem dX7_copyFrom_111 : decode cX7_copyFrom 111 = .ok (.getfield 37, 3) := by decide +kernel
theorem dX7_copyFrom_114 : decode cX7_copyFrom 114 = .ok (.aload_n 1, 1) := by decide +kernel
theorem dX7_copyFrom_115 : decode cX7_copyFrom 115 = .ok (.getfield 37, 3) := by decide +kernel
theorem dX7_copyFrom_118 : decode cX7_copyFrom 118 = .ok (.invokevirtual 79, 3) := by decide +kernel
theorem dX7_copyFrom_121 : decode cX7_copyFrom 121 = .ok (.aload_n 0, 1) := by decide +kernel
theorem dX7_copyFrom_122 : decode cX7_copyFrom 122 = .ok (.getfield 46, 3) := by decide +kernel
theorem dX7_copyFrom_125 : decode cX7_copyFrom 125 = .ok (.aload_n 1, 1) := by decide +kernel
theorem dX7_copyFrom_126 : decode cX7_copyFrom 126 = .ok (.getfield 46, 3) := by decide +kernel
theorem dX7_copyFrom_129 : decode cX7_copyFrom 129 = .ok (.invokevirtual 88, 3) := by decide +kernel
theorem dX7_copyFrom_132 : decode cX7_copyFrom 132 = .ok (.aload_n 0, 1) := by decide +kernel
theorem dX7_copyFrom_133 : decode cX7_copyFrom 133 = .ok (.aload_n 1, 1) := by decide +kernel
theorem dX7_copyFrom_134 : decode cX7_copyFrom 134 = .ok (.getfield 91, 3) := by decide +kernel
theorem dX7_copyFrom_137 : decode cX7_copyFrom 137 = .ok (.putfield 91, 3) := by decide +kernel
theorem dX7_copyFrom_140 : decode cX7_copyFrom 140 = .ok (.aload_n 0, 1) := by decide +kernel
theorem dX7_copyFrom_141 : decode cX7_copyFrom 141 = .ok (.getfield 53, 3) := by decide +kernel
theorem dX7_copyFrom_144 : decode cX7_copyFrom 144 = .ok (.aload_n 1, 1) := by decide +kernel
theorem dX7_copyFrom_145 : decode cX7_copyFrom 145 = .ok (.getfield 53, 3) := by decide +kernel
theorem dX7_copyFrom_148 : decode cX7_copyFrom 148 = .ok (.invokevirtual 95, 3) := by decide +kernel
theorem dX7_copyFrom_151 : decode cX7_copyFrom 151 = .ok (.return_, 1) := by decide +kernel
theorem dX7_keepLaw_0 : decode cX7_keepLaw 0 = .ok (.iload_n 1, 1) := by decide +kernel
theorem dX7_keepLaw_1 : decode cX7_keepLaw 1 = .ok (.ifCond .lt 36, 3) := by decide +kernel
theorem dX7_keepLaw_4 : decode cX7_keepLaw 4 = .ok (.iload_n 1, 1) := by decide +kernel
theorem dX7_keepLaw_5 : decode cX7_keepLaw 5 = .ok (.aload_n 0, 1) := by decide +kernel
theorem dX7_keepLaw_6 : decode cX7_keepLaw 6 = .ok (.getfield 27, 3) := by decide +kernel
theorem dX7_keepLaw_9 : decode cX7_keepLaw 9 = .ok (.arraylength, 1) := by decide +kernel
theorem dX7_keepLaw_10 : decode cX7_keepLaw 10 = .ok (.if_icmp .ge 27, 3) := by decide +kernel
theorem dX7_keepLaw_13 : decode cX7_keepLaw 13 = .ok (.aload_n 0, 1) := by decide +kernel
theorem dX7_keepLaw_14 : decode cX7_keepLaw 14 = .ok (.getfield 27, 3) := by decide +kernel
theorem dX7_keepLaw_17 : decode cX7_keepLaw 17 = .ok (.iload_n 1, 1) := by decide +kernel
theorem dX7_keepLaw_18 : decode cX7_keepLaw 18 = .ok (.aaload, 1) := by decide +kernel
theorem dX7_keepLaw_19 : decode cX7_keepLaw 19 = .ok (.aload_n 2, 1) := by decide +kernel
theorem dX7_keepLaw_20 : decode cX7_keepLaw 20 = .ok (.invokevirtual 79, 3) := by decide +kernel
theorem dX7_keepLaw_23 : decode cX7_keepLaw 23 = .ok (.aload_n 0, 1) := by decide +kernel
theorem dX7_keepLaw_24 : decode cX7_keepLaw 24 = .ok (.aload_n 0, 1) := by decide +kernel
theorem dX7_keepLaw_25 : decode cX7_keepLaw 25 = .ok (.getfield 66, 3) := by decide +kernel
theorem dX7_keepLaw_28 : decode cX7_keepLaw 28 = .ok (.iload_n 1, 1) := by decide +kernel
theorem dX7_keepLaw_29 : decode cX7_keepLaw 29 = .ok (.iconst 1, 1) := by decide +kernel
theorem dX7_keepLaw_30 : decode cX7_keepLaw 30 = .ok (.iadd, 1) := by decide +kernel
theorem dX7_keepLaw_31 : decode cX7_keepLaw 31 = .ok (.invokestatic 73, 3) := by decide +kernel
theorem dX7_keepLaw_34 : decode cX7_keepLaw 34 = .ok (.putfield 66, 3) := by decide +kernel
theorem dX7_keepLaw_37 : decode cX7_keepLaw 37 = .ok (.return_, 1) := by decide +kernel
theorem dX7_keepPassage_0 : decode cX7_keepPassage 0 = .ok (.iload_n 1, 1) := by decide +kernel
theorem dX7_keepPassage_1 : decode cX7_keepPassage 1 = .ok (.ifCond .lt 36, 3) := by decide +kernel
theorem dX7_keepPassage_4 : decode cX7_keepPassage 4 = .ok (.iload_n 1, 1) := by decide +kernel
theorem dX7_keepPassage_5 : decode cX7_keepPassage 5 = .ok (.aload_n 0, 1) := by decide +kernel
theorem dX7_keepPassage_6 : decode cX7_keepPassage 6 = .ok (.getfield 21, 3) := by decide +kernel
theorem dX7_keepPassage_9 : decode cX7_keepPassage 9 = .ok (.arraylength, 1) := by decide +kernel
theorem dX7_keepPassage_10 : decode cX7_keepPassage 10 = .ok (.if_icmp .ge 27, 3) := by decide +kernel
theorem dX7_keepPassage_13 : decode cX7_keepPassage 13 = .ok (.aload_n 0, 1) := by decide +kernel
theorem dX7_keepPassage_14 : decode cX7_keepPassage 14 = .ok (.getfield 21, 3) := by decide +kernel
theorem dX7_keepPassage_17 : decode cX7_keepPassage 17 = .ok (.iload_n 1, 1) := by decide +kernel
theorem dX7_keepPassage_18 : decode cX7_keepPassage 18 = .ok (.aaload, 1) := by decide +kernel
theorem dX7_keepPassage_19 : decode cX7_keepPassage 19 = .ok (.aload_n 2, 1) := by decide +kernel
theorem dX7_keepPassage_20 : decode cX7_keepPassage 20 = .ok (.invokevirtual 69, 3) := by decide +kernel
theorem dX7_keepPassage_23 : decode cX7_keepPassage 23 = .ok (.aload_n 0, 1) := by decide +kernel
theorem dX7_keepPassage_24 : decode cX7_keepPassage 24 = .ok (.aload_n 0, 1) := by decide +kernel
theorem dX7_keepPassage_25 : decode cX7_keepPassage 25 = .ok (.getfield 63, 3) := by decide +kernel
theorem dX7_keepPassage_28 : decode cX7_keepPassage 28 = .ok (.iload_n 1, 1) := by decide +kernel
theorem dX7_keepPassage_29 : decode cX7_keepPassage 29 = .ok (.iconst 1, 1) := by decide +kernel
theorem dX7_keepPassage_30 : decode cX7_keepPassage 30 = .ok (.iadd, 1) := by decide +kernel
theorem dX7_keepPassage_31 : decode cX7_keepPassage 31 = .ok (.invokestatic 73, 3) := by decide +kernel
theorem dX7_keepPassage_34 : decode cX7_keepPassage 34 = .ok (.putfield 63, 3) := by decide +kernel
theorem dX7_keepPassage_37 : decode cX7_keepPassage 37 = .ok (.return_, 1) := by decide +kernel
theorem dX7_lawOf_0 : decode cX7_lawOf 0 = .ok (.iload_n 1, 1) := by decide +kernel
theorem dX7_lawOf_1 : decode cX7_lawOf 1 = .ok (.ifCond .lt 29, 3) := by decide +kernel
theorem dX7_lawOf_4 : decode cX7_lawOf 4 = .ok (.iload_n 1, 1) := by decide +kernel
theorem dX7_lawOf_5 : decode cX7_lawOf 5 = .ok (.aload_n 0, 1) := by decide +kernel
theorem dX7_lawOf_6 : decode cX7_lawOf 6 = .ok (.getfield 66, 3) := by decide +kernel
theorem dX7_lawOf_9 : decode cX7_lawOf 9 = .ok (.if_icmp .ge 21, 3) := by decide +kernel
theorem dX7_lawOf_12 : decode cX7_lawOf 12 = .ok (.iload_n 1, 1) := by decide +kernel
theorem dX7_lawOf_13 : decode cX7_lawOf 13 = .ok (.aload_n 0, 1) := by decide +kernel
theorem dX7_lawOf_14 : decode cX7_lawOf 14 = .ok (.getfield 27, 3) := by decide +kernel
theorem dX7_lawOf_17 : decode cX7_lawOf 17 = .ok (.arraylength, 1) := by decide +kernel
theorem dX7_lawOf_18 : decode cX7_lawOf 18 = .ok (.if_icmp .ge 12, 3) := by decide +kernel
theorem dX7_lawOf_21 : decode cX7_lawOf 21 = .ok (.aload_n 0, 1) := by decide +kernel
theorem dX7_lawOf_22 : decode cX7_lawOf 22 = .ok (.getfield 27, 3) := by decide +kernel
theorem dX7_lawOf_25 : decode cX7_lawOf 25 = .ok (.iload_n 1, 1) := by decide +kernel
theorem dX7_lawOf_26 : decode cX7_lawOf 26 = .ok (.aaload, 1) := by decide +kernel
theorem dX7_lawOf_27 : decode cX7_lawOf 27 = .ok (.goto 4, 3) := by decide +kernel
theorem dX7_lawOf_30 : decode cX7_lawOf 30 = .ok (.aconst_null, 1) := by decide +kernel
theorem dX7_lawOf_31 : decode cX7_lawOf 31 = .ok (.areturn, 1) := by decide +kernel
theorem dX7_passageOf_0 : decode cX7_passageOf 0 = .ok (.iload_n 1, 1) := by decide +kernel
theorem dX7_passageOf_1 : decode cX7_passageOf 1 = .ok (.ifCond .lt 29, 3) := by decide +kernel
theorem dX7_passageOf_4 : decode cX7_passageOf 4 = .ok (.iload_n 1, 1) := by decide +kernel
theorem dX7_passageOf_5 : decode cX7_passageOf 5 = .ok (.aload_n 0, 1) := by decide +kernel
theorem dX7_passageOf_6 : decode cX7_passageOf 6 = .ok (.getfield 63, 3) := by decide +kernel
theorem dX7_passageOf_9 : decode cX7_passageOf 9 = .ok (.if_icmp .ge 21, 3) := by decide +kernel
theorem dX7_passageOf_12 : decode cX7_passageOf 12 = .ok (.iload_n 1, 1) := by decide +kernel
theorem dX7_passageOf_13 : decode cX7_passageOf 13 = .ok (.aload_n 0, 1) := by decide +kernel
theorem dX7_passageOf_14 : decode cX7_passageOf 14 = .ok (.getfield 21, 3) := by decide +kernel
theorem dX7_passageOf_17 : decode cX7_passageOf 17 = .ok (.arraylength, 1) := by decide +kernel
theorem dX7_passageOf_18 : decode cX7_passageOf 18 = .ok (.if_icmp .ge 12, 3) := by decide +kernel
theorem dX7_passageOf_21 : decode cX7_passageOf 21 = .ok (.aload_n 0, 1) := by decide +kernel
theorem dX7_passageOf_22 : decode cX7_passageOf 22 = .ok (.getfield 21, 3) := by decide +kernel
theorem dX7_passageOf_25 : decode cX7_passageOf 25 = .ok (.iload_n 1, 1) := by decide +kernel
theorem dX7_passageOf_26 : decode cX7_passageOf 26 = .ok (.aaload, 1) := by decide +kernel
theorem dX7_passageOf_27 : decode cX7_passageOf 27 = .ok (.goto 4, 3) := by decide +kernel
theorem dX7_passageOf_30 : decode cX7_passageOf 30 = .ok (.aconst_null, 1) := by decide +kernel
theorem dX7_passageOf_31 : decode cX7_passageOf 31 = .ok (.areturn, 1) := by decide +kernel
theorem dX7_takeTape_0 : decode cX7_takeTape 0 = .ok (.aload_n 0, 1) := by decide +kernel
theorem dX7_takeTape_1 : decode cX7_takeTape 1 = .ok (.getfield 57, 3) := by decide +kernel
theorem dX7_takeTape_4 : decode cX7_takeTape 4 = .ok (.istore_n 1, 1) := by decide +kernel
theorem dX7_takeTape_5 : decode cX7_takeTape 5 = .ok (.aload_n 0, 1) := by decide +kernel
theorem dX7_takeTape_6 : decode cX7_takeTape 6 = .ok (.iconst 0, 1) := by decide +kernel
theorem dX7_takeTape_7 : decode cX7_takeTape 7 = .ok (.putfield 57, 3) := by decide +kernel
theorem dX7_takeTape_10 : decode cX7_takeTape 10 = .ok (.aload_n 0, 1) := by decide +kernel
theorem dX7_takeTape_11 : decode cX7_takeTape 11 = .ok (.iconst 0, 1) := by decide +kernel
theorem dX7_takeTape_12 : decode cX7_takeTape 12 = .ok (.putfield 60, 3) := by decide +kernel
theorem dX7_takeTape_15 : decode cX7_takeTape 15 = .ok (.aload_n 0, 1) := by decide +kernel
theorem dX7_takeTape_16 : decode cX7_takeTape 16 = .ok (.iconst (-1), 1) := by decide +kernel
theorem dX7_takeTape_17 : decode cX7_takeTape 17 = .ok (.putfield 15, 3) := by decide +kernel
theorem dX7_takeTape_20 : decode cX7_takeTape 20 = .ok (.iload_n 1, 1) := by decide +kernel
theorem dX7_takeTape_21 : decode cX7_takeTape 21 = .ok (.ireturn, 1) := by decide +kernel
section P_X7_append
variable {p : Program} {l : Launch} {e : Env} {s : State} {m : MethodId} {args : Array Value} {below : List Frame} {meth : Method} {c : Code} {G : GG} {A : Nat → Prop} {ad : Nat → Nat} {S : ST} {N : Nat} {dy' : DY}
set_option maxHeartbeats 4000000 in
set_option maxRecDepth 100000 in
theorem B_X7_append_3 (C : CX p s m args c cX7_append 3 RX7 G A) (HR : meth.sig.returnType = (Option.none : Option Jvm.ClassFile.FieldType)) (HL : meth.locks = false) (hG : Good S) : ∀ k : Nat, ∀ (x0 : Nat) (x1 : Int32) (x2 : Int32) (dy : DY), gs S x0 = (0, 7) → (F_X7_append_3 S N k) x0 x1 x2 dy = some dy' → WJ p l e (rmD (1)) s m args below meth c 3 G A 0 0 (MQ below (QV G ad A S dy') args s 0 0 A) ad 3 [(0, .ref (ad x0)), (1, .int x1), (2, .int x2)] [] S dy := by
  intro k
  induction k with
  | zero => exact fun _ _ _ _ _ E => nomatch (show none = some dy' from E)
  | succ k ih =>
    intro x0 x1 x2 dy Tx0 E
    rw [F_X7_append_3_s] at E
    refine ww_iload_n C dX7_append_3 rfl 2 rfl ?_
    refine ww_if_lt (tgt := 48) C dX7_append_4 (by decide) E (fun _ E => ?_) (fun _ E => ?_)
    · exact ww_vret C HR HL dX7_append_48 E
    · refine ww_aload_n C dX7_append_7 rfl 0 rfl ?_
      refine ww_geti (ci := 7) (k0 := 1) C dX7_append_8 rfl rfl inm7 (by decide) Tx0 q370 rfl ?_
      refine ww_aload_n C dX7_append_11 rfl 0 rfl ?_
      have T_1 : gs S (gr S x0 0) = (2, 500) := hG.1 _ 7 Tx0 0 (by decide)
      refine ww_getr (ci := 7) (k0 := 0) C dX7_append_12 rfl rfl inm7 (by decide) Tx0 q367 rfl T_1 (by decide) ?_
      refine ww_alen (v := (500 : Int32)) C dX7_append_15 T_1 (by decide) (by decide) rfl (by decide) ?_
      refine ww_icmp_ge (tgt := 48) C dX7_append_16 (by decide) E (fun _ E => ?_) (fun _ E => ?_)
      · exact ww_vret C HR HL dX7_append_48 E
      · refine ww_aload_n C dX7_append_19 rfl 0 rfl ?_
        have T_2 : gs S (gr S x0 0) = (2, 500) := hG.1 _ 7 Tx0 0 (by decide)
        refine ww_getr (ci := 7) (k0 := 0) C dX7_append_20 rfl rfl inm7 (by decide) Tx0 q367 rfl T_2 (by decide) ?_
        refine ww_aload_n C dX7_append_23 rfl 0 rfl ?_
        refine ww_geti (ci := 7) (k0 := 1) C dX7_append_24 rfl rfl inm7 (by decide) Tx0 q370 rfl ?_
        refine ww_iload_n C dX7_append_27 rfl 1 rfl ?_
        refine ww_iload_n C dX7_append_28 rfl 2 rfl ?_
        refine ww_ishr C dX7_append_29 ?_
        refine ww_i2b C dX7_append_30 ?_
        refine ww_bast C dX7_append_31 T_2 E (fun _ E => ?_)
        refine ww_bd E (fun dy3 E => ?_)
        refine ww_aload_n C dX7_append_32 rfl 0 rfl ?_
        refine ww_dup C dX7_append_33 rfl ?_
        refine ww_geti (ci := 7) (k0 := 1) C dX7_append_34 rfl rfl inm7 (by decide) Tx0 q370 rfl ?_
        refine ww_iconst (v := 1) C dX7_append_37 (by decide) ?_
        refine ww_iadd C dX7_append_38 ?_
        refine ww_puti (ci := 7) (k0 := 1) C dX7_append_39 rfl rfl inm7 tyX7_ok nmX7 (by decide) Tx0 q370 rfl rfl rfl ?_
        refine ww_bd E (fun dy4 E => ?_)
        refine ww_iinc (v := (x2 + (-8 : Int32))) (lv' := [(2, .int (x2 + (-8 : Int32))), (0, .ref (ad x0)), (1, .int x1)]) C dX7_append_42 2 rfl rfl (by decide) rfl ?_
        refine ww_goto (tgt := 3) C dX7_append_45 (by decide) ?_
        refine ww_sub (lv' := [(0, .ref (ad x0)), (1, .int x1), (2, .int (x2 + (-8 : Int32)))]) [1, 2, 0] rfl ?_
        exact ih x0 x1 (x2 + (-8 : Int32)) dy4 Tx0 E
end P_X7_append
set_option maxHeartbeats 4000000 in
set_option maxRecDepth 100000 in
theorem M_X7_append (l : Launch) (G : GG) (ad : Nat → Nat) {S : ST} (N : Nat) (hG : Good S) (a0 : Nat) (a1 : Int32) (dy : DY) (T0 : gs S a0 = (0, 7)) {dy' : DY} (E : F_X7_append S N a0 a1 dy = some dy') : MC l yX7_append cX7_append 3 (Option.none : Option Jvm.ClassFile.FieldType) (1) G ad [.ref (ad a0), .int a1] S dy (fun A => QV G ad A S dy') := by
  rw [F_X7_append_s] at E
  refine mc_of RX7 (by decide) rfl (Nat.le_of_ble_eq_true rfl) (fun p e s m args below meth c A C HR HL => ?_)
  refine ww_sub (lv' := [(0, .ref (ad a0)), (1, .int a1)]) [0, 1] rfl ?_
  refine ww_bipush (v := 24) C dX7_append_0 (by decide) ?_
  refine ww_istore_n (lv' := [(2, .int (24 : Int32)), (0, .ref (ad a0)), (1, .int a1)]) C dX7_append_2 rfl (by decide) rfl ?_
  refine ww_sub (lv' := [(0, .ref (ad a0)), (1, .int a1), (2, .int (24 : Int32))]) [1, 2, 0] rfl ?_
  exact (B_X7_append_3 C HR HL hG N) a0 a1 (24 : Int32) dy T0 E
section P_X7_copyFrom
variable {p : Program} {l : Launch} {e : Env} {s : State} {m : MethodId} {args : Array Value} {below : List Frame} {meth : Method} {c : Code} {G : GG} {A : Nat → Prop} {ad : Nat → Nat} {S : ST} {N : Nat} {dy' : DY}
set_option maxHeartbeats 4000000 in
set_option maxRecDepth 100000 in
theorem B_X7_copyFrom_42 (C : CX p s m args c cX7_copyFrom 3 RX7 G A) (HR : meth.sig.returnType = (Option.none : Option Jvm.ClassFile.FieldType)) (HL : meth.locks = false) (hG : Good S) : ∀ k : Nat, ∀ (x0 : Nat) (x1 : Nat) (x2 : Int32) (dy : DY), gs S x0 = (0, 7) → gs S x1 = (0, 7) → (F_X7_copyFrom_42 S N k) x0 x1 x2 dy = some dy' → WJ p l e (rmD (2)) s m args below meth c 3 G A 0 0 (MQ below (QV G ad A S dy') args s 0 0 A) ad 42 [(0, .ref (ad x0)), (1, .ref (ad x1)), (2, .int x2)] [] S dy := by
  intro k
  induction k with
  | zero => exact fun _ _ _ _ _ _ E => nomatch (show none = some dy' from E)
  | succ k ih =>
    intro x0 x1 x2 dy Tx0 Tx1 E
    rw [F_X7_copyFrom_42_s] at E
    refine ww_iload_n C dX7_copyFrom_42 rfl 2 rfl ?_
    refine ww_iconst (v := 3) C dX7_copyFrom_43 (by decide) ?_
    refine ww_icmp_ge (tgt := 83) C dX7_copyFrom_44 (by decide) E (fun _ E => ?_) (fun _ E => ?_)
    · refine ww_aload_n C dX7_copyFrom_83 rfl 0 rfl ?_
      refine ww_aload_n C dX7_copyFrom_84 rfl 1 rfl ?_
      refine ww_geti (ci := 7) (k0 := 5) C dX7_copyFrom_85 rfl rfl inm7 (by decide) Tx1 q376 rfl ?_
      refine ww_puti (ci := 7) (k0 := 5) C dX7_copyFrom_88 rfl rfl inm7 tyX7_ok nmX7 (by decide) Tx0 q376 rfl rfl rfl ?_
      refine ww_bd E (fun dy1 E => ?_)
      refine ww_aload_n C dX7_copyFrom_91 rfl 0 rfl ?_
      refine ww_aload_n C dX7_copyFrom_92 rfl 1 rfl ?_
      refine ww_geti (ci := 7) (k0 := 7) C dX7_copyFrom_93 rfl rfl inm7 (by decide) Tx1 q379 rfl ?_
      refine ww_puti (ci := 7) (k0 := 7) C dX7_copyFrom_96 rfl rfl inm7 tyX7_ok nmX7 (by decide) Tx0 q379 rfl rfl rfl ?_
      refine ww_bd E (fun dy2 E => ?_)
      refine ww_aload_n C dX7_copyFrom_99 rfl 0 rfl ?_
      have T_3 : gs S (gr S x0 8) = (0, 4) := hG.1 _ 7 Tx0 8 (by decide)
      refine ww_getr (ci := 7) (k0 := 8) C dX7_copyFrom_100 rfl rfl inm7 (by decide) Tx0 q381 rfl T_3 (by decide) ?_
      refine ww_aload_n C dX7_copyFrom_103 rfl 1 rfl ?_
      have T_4 : gs S (gr S x1 8) = (0, 4) := hG.1 _ 7 Tx1 8 (by decide)
      refine ww_getr (ci := 7) (k0 := 8) C dX7_copyFrom_104 rfl rfl inm7 (by decide) Tx1 q381 rfl T_4 (by decide) ?_
      obtain ⟨u5, e_6, E⟩ := bind_of E
      refine ww_callV C (runs_V (n := 1) (st := []) C [.ref (ad (gr S x1 8))] (M_X4_copyFrom l G ad N hG (gr S x0 8) (gr S x1 8) dy2 T_3 T_4 e_6) ⟨q787, q110, by decide⟩ q784 q785 q786 (ci := 4) rfl T_3 rfl (Nat.le_of_ble_eq_true rfl) ⟨Nat.le_of_ble_eq_true rfl, Nat.le_of_ble_eq_true rfl⟩ ⟨Nat.zero_le _, Nat.zero_le _⟩ dX7_copyFrom_107 rfl) ?_
      refine ww_aload_n C dX7_copyFrom_110 rfl 0 rfl ?_
      have T_7 : gs S (gr S x0 9) = (0, 2) := hG.1 _ 7 Tx0 9 (by decide)
      refine ww_getr (ci := 7) (k0 := 9) C dX7_copyFrom_111 rfl rfl inm7 (by decide) Tx0 q383 rfl T_7 (by decide) ?_
      refine ww_aload_n C dX7_copyFrom_114 rfl 1 rfl ?_
      have T_8 : gs S (gr S x1 9) = (0, 2) := hG.1 _ 7 Tx1 9 (by decide)
      refine ww_getr (ci := 7) (k0 := 9) C dX7_copyFrom_115 rfl rfl inm7 (by decide) Tx1 q383 rfl T_8 (by decide) ?_
      obtain ⟨u9, e_10, E⟩ := bind_of E
      refine ww_callV C (runs_V (n := 1) (st := []) C [.ref (ad (gr S x1 9))] (M_X2_copyFrom l G ad N hG (gr S x0 9) (gr S x1 9) u5 T_7 T_8 e_10) ⟨q871, q111, by decide⟩ q868 q869 q870 (ci := 2) rfl T_7 rfl (Nat.le_of_ble_eq_true rfl) ⟨Nat.le_of_ble_eq_true rfl, Nat.le_of_ble_eq_true rfl⟩ ⟨Nat.zero_le _, Nat.zero_le _⟩ dX7_copyFrom_118 rfl) ?_
      refine ww_aload_n C dX7_copyFrom_121 rfl 0 rfl ?_
      have T_11 : gs S (gr S x0 10) = (0, 8) := hG.1 _ 7 Tx0 10 (by decide)
      refine ww_getr (ci := 7) (k0 := 10) C dX7_copyFrom_122 rfl rfl inm7 (by decide) Tx0 q385 rfl T_11 (by decide) ?_
      refine ww_aload_n C dX7_copyFrom_125 rfl 1 rfl ?_
      have T_12 : gs S (gr S x1 10) = (0, 8) := hG.1 _ 7 Tx1 10 (by decide)
      refine ww_getr (ci := 7) (k0 := 10) C dX7_copyFrom_126 rfl rfl inm7 (by decide) Tx1 q385 rfl T_12 (by decide) ?_
      obtain ⟨u13, e_14, E⟩ := bind_of E
      refine ww_callV C (runs_V (n := 1) (st := []) C [.ref (ad (gr S x1 10))] (M_X8_copyFrom l G ad N hG (gr S x0 10) (gr S x1 10) u9 T_11 T_12 e_14) ⟨q1096, q112, by decide⟩ q1262 q1094 q1095 (ci := 8) rfl T_11 rfl (Nat.le_of_ble_eq_true rfl) ⟨Nat.le_of_ble_eq_true rfl, Nat.le_of_ble_eq_true rfl⟩ ⟨Nat.zero_le _, Nat.zero_le _⟩ dX7_copyFrom_129 rfl) ?_
      refine ww_aload_n C dX7_copyFrom_132 rfl 0 rfl ?_
      refine ww_aload_n C dX7_copyFrom_133 rfl 1 rfl ?_
      refine ww_getz (ci := 7) (k0 := 11) C dX7_copyFrom_134 rfl rfl inm7 (by decide) Tx1 q387 rfl ?_
      obtain ⟨z_16, E⟩ := gd_of E
      refine ww_putz (ci := 7) (k0 := 11) C dX7_copyFrom_137 rfl rfl inm7 tyX7_ok nmX7 (by decide) Tx0 q387 rfl rfl rfl z_16 ?_
      refine ww_bd E (fun dy15 E => ?_)
      refine ww_aload_n C dX7_copyFrom_140 rfl 0 rfl ?_
      have T_17 : gs S (gr S x0 12) = (0, 1) := hG.1 _ 7 Tx0 12 (by decide)
      refine ww_getr (ci := 7) (k0 := 12) C dX7_copyFrom_141 rfl rfl inm7 (by decide) Tx0 q389 rfl T_17 (by decide) ?_
      refine ww_aload_n C dX7_copyFrom_144 rfl 1 rfl ?_
      have T_18 : gs S (gr S x1 12) = (0, 1) := hG.1 _ 7 Tx1 12 (by decide)
      refine ww_getr (ci := 7) (k0 := 12) C dX7_copyFrom_145 rfl rfl inm7 (by decide) Tx1 q389 rfl T_18 (by decide) ?_
      obtain ⟨u19, e_20, E⟩ := bind_of E
      refine ww_callV C (runs_V (n := 1) (st := []) C [.ref (ad (gr S x1 12))] (M_X1_copyFrom l G ad N hG (gr S x0 12) (gr S x1 12) dy15 T_17 T_18 e_20) ⟨q1266, q113, by decide⟩ q1263 q1264 q1265 (ci := 1) rfl T_17 rfl (Nat.le_of_ble_eq_true rfl) ⟨Nat.le_of_ble_eq_true rfl, Nat.le_of_ble_eq_true rfl⟩ ⟨Nat.zero_le _, Nat.zero_le _⟩ dX7_copyFrom_148 rfl) ?_
      exact ww_vret C HR HL dX7_copyFrom_151 E
    · refine ww_aload_n C dX7_copyFrom_47 rfl 0 rfl ?_
      have T_21 : gs S (gr S x0 4) = (7, 3) := hG.1 _ 7 Tx0 4 (by decide)
      refine ww_getr (ci := 7) (k0 := 4) C dX7_copyFrom_48 rfl rfl inm7 (by decide) Tx0 q375 rfl T_21 (by decide) ?_
      refine ww_iload_n C dX7_copyFrom_51 rfl 2 rfl ?_
      have T_22 : ib x2 3 → gs S (gr S (gr S x0 4) x2.toNatClampNeg) = (0, 4) := fun q => hG.2 _ 7 3 T_21 (by decide) (by decide) _ (ib_lt q)
      refine ww_aald C dX7_copyFrom_52 T_21 (by decide) (by decide) rfl E T_22 (by decide) (fun q_ E => ?_)
      have T_22 := T_22 q_
      refine ww_aload_n C dX7_copyFrom_53 rfl 1 rfl ?_
      have T_23 : gs S (gr S x1 4) = (7, 3) := hG.1 _ 7 Tx1 4 (by decide)
      refine ww_getr (ci := 7) (k0 := 4) C dX7_copyFrom_54 rfl rfl inm7 (by decide) Tx1 q375 rfl T_23 (by decide) ?_
      refine ww_iload_n C dX7_copyFrom_57 rfl 2 rfl ?_
      have T_24 : ib x2 3 → gs S (gr S (gr S x1 4) x2.toNatClampNeg) = (0, 4) := fun q => hG.2 _ 7 3 T_23 (by decide) (by decide) _ (ib_lt q)
      refine ww_aald C dX7_copyFrom_58 T_23 (by decide) (by decide) rfl E T_24 (by decide) (fun q_ E => ?_)
      have T_24 := T_24 q_
      obtain ⟨u25, e_26, E⟩ := bind_of E
      refine ww_callV C (runs_V (n := 1) (st := []) C [.ref (ad (gr S (gr S x1 4) x2.toNatClampNeg))] (M_X4_copyFrom l G ad N hG (gr S (gr S x0 4) x2.toNatClampNeg) (gr S (gr S x1 4) x2.toNatClampNeg) dy T_22 T_24 e_26) ⟨q787, q110, by decide⟩ q784 q785 q786 (ci := 4) rfl T_22 rfl (Nat.le_of_ble_eq_true rfl) ⟨Nat.le_of_ble_eq_true rfl, Nat.le_of_ble_eq_true rfl⟩ ⟨Nat.zero_le _, Nat.zero_le _⟩ dX7_copyFrom_59 rfl) ?_
      refine ww_aload_n C dX7_copyFrom_62 rfl 0 rfl ?_
      have T_27 : gs S (gr S x0 6) = (8, 3) := hG.1 _ 7 Tx0 6 (by decide)
      refine ww_getr (ci := 7) (k0 := 6) C dX7_copyFrom_63 rfl rfl inm7 (by decide) Tx0 q378 rfl T_27 (by decide) ?_
      refine ww_iload_n C dX7_copyFrom_66 rfl 2 rfl ?_
      have T_28 : ib x2 3 → gs S (gr S (gr S x0 6) x2.toNatClampNeg) = (0, 2) := fun q => hG.2 _ 8 3 T_27 (by decide) (by decide) _ (ib_lt q)
      refine ww_aald C dX7_copyFrom_67 T_27 (by decide) (by decide) rfl E T_28 (by decide) (fun q_ E => ?_)
      have T_28 := T_28 q_
      refine ww_aload_n C dX7_copyFrom_68 rfl 1 rfl ?_
      have T_29 : gs S (gr S x1 6) = (8, 3) := hG.1 _ 7 Tx1 6 (by decide)
      refine ww_getr (ci := 7) (k0 := 6) C dX7_copyFrom_69 rfl rfl inm7 (by decide) Tx1 q378 rfl T_29 (by decide) ?_
      refine ww_iload_n C dX7_copyFrom_72 rfl 2 rfl ?_
      have T_30 : ib x2 3 → gs S (gr S (gr S x1 6) x2.toNatClampNeg) = (0, 2) := fun q => hG.2 _ 8 3 T_29 (by decide) (by decide) _ (ib_lt q)
      refine ww_aald C dX7_copyFrom_73 T_29 (by decide) (by decide) rfl E T_30 (by decide) (fun q_ E => ?_)
      have T_30 := T_30 q_
      obtain ⟨u31, e_32, E⟩ := bind_of E
      refine ww_callV C (runs_V (n := 1) (st := []) C [.ref (ad (gr S (gr S x1 6) x2.toNatClampNeg))] (M_X2_copyFrom l G ad N hG (gr S (gr S x0 6) x2.toNatClampNeg) (gr S (gr S x1 6) x2.toNatClampNeg) u25 T_28 T_30 e_32) ⟨q871, q111, by decide⟩ q868 q869 q870 (ci := 2) rfl T_28 rfl (Nat.le_of_ble_eq_true rfl) ⟨Nat.le_of_ble_eq_true rfl, Nat.le_of_ble_eq_true rfl⟩ ⟨Nat.zero_le _, Nat.zero_le _⟩ dX7_copyFrom_74 rfl) ?_
      refine ww_iinc (v := (x2 + (1 : Int32))) (lv' := [(2, .int (x2 + (1 : Int32))), (0, .ref (ad x0)), (1, .ref (ad x1))]) C dX7_copyFrom_77 2 rfl rfl (by decide) rfl ?_
      refine ww_goto (tgt := 42) C dX7_copyFrom_80 (by decide) ?_
      refine ww_sub (lv' := [(0, .ref (ad x0)), (1, .ref (ad x1)), (2, .int (x2 + (1 : Int32)))]) [1, 2, 0] rfl ?_
      exact ih x0 x1 (x2 + (1 : Int32)) u31 Tx0 Tx1 E
end P_X7_copyFrom
set_option maxHeartbeats 4000000 in
set_option maxRecDepth 100000 in
theorem M_X7_copyFrom (l : Launch) (G : GG) (ad : Nat → Nat) {S : ST} (N : Nat) (hG : Good S) (a0 : Nat) (a1 : Nat) (dy : DY) (T0 : gs S a0 = (0, 7)) (T1 : gs S a1 = (0, 7)) {dy' : DY} (E : F_X7_copyFrom S N a0 a1 dy = some dy') : MC l yX7_copyFrom cX7_copyFrom 3 (Option.none : Option Jvm.ClassFile.FieldType) (2) G ad [.ref (ad a0), .ref (ad a1)] S dy (fun A => QV G ad A S dy') := by
  rw [F_X7_copyFrom_s] at E
  refine mc_of RX7 (by decide) rfl (Nat.le_of_ble_eq_true rfl) (fun p e s m args below meth c A C HR HL => ?_)
  refine ww_sub (lv' := [(0, .ref (ad a0)), (1, .ref (ad a1))]) [0, 1] rfl ?_
  refine ww_aload_n C dX7_copyFrom_0 rfl 1 rfl ?_
  have T_1 : gs S (gr S a1 0) = (2, 500) := hG.1 _ 7 T1 0 (by decide)
  refine ww_getr (ci := 7) (k0 := 0) C dX7_copyFrom_1 rfl rfl inm7 (by decide) T1 q367 rfl T_1 (by decide) ?_
  refine ww_iconst (v := 0) C dX7_copyFrom_4 (by decide) ?_
  refine ww_aload_n C dX7_copyFrom_5 rfl 0 rfl ?_
  have T_2 : gs S (gr S a0 0) = (2, 500) := hG.1 _ 7 T0 0 (by decide)
  refine ww_getr (ci := 7) (k0 := 0) C dX7_copyFrom_6 rfl rfl inm7 (by decide) T0 q367 rfl T_2 (by decide) ?_
  refine ww_iconst (v := 0) C dX7_copyFrom_9 (by decide) ?_
  refine ww_sipush (v := 500) C dX7_copyFrom_10 (by decide) ?_
  obtain ⟨g_4, E⟩ := gd_of E
  refine ww_copy (t := 2) C dX7_copyFrom_13 T_1 T_2 (by decide) (by decide) g_4.1 g_4.2 q1261 q790 q789 q124 (Nat.le_of_ble_eq_true rfl) (Nat.le_of_ble_eq_true rfl) (Nat.le_of_ble_eq_true rfl) ?_
  refine ww_bd E (fun dy3 E => ?_)
  refine ww_aload_n C dX7_copyFrom_16 rfl 0 rfl ?_
  refine ww_aload_n C dX7_copyFrom_17 rfl 1 rfl ?_
  refine ww_geti (ci := 7) (k0 := 1) C dX7_copyFrom_18 rfl rfl inm7 (by decide) T1 q370 rfl ?_
  refine ww_puti (ci := 7) (k0 := 1) C dX7_copyFrom_21 rfl rfl inm7 tyX7_ok nmX7 (by decide) T0 q370 rfl rfl rfl ?_
  refine ww_bd E (fun dy5 E => ?_)
  refine ww_aload_n C dX7_copyFrom_24 rfl 0 rfl ?_
  refine ww_aload_n C dX7_copyFrom_25 rfl 1 rfl ?_
  refine ww_geti (ci := 7) (k0 := 2) C dX7_copyFrom_26 rfl rfl inm7 (by decide) T1 q371 rfl ?_
  refine ww_puti (ci := 7) (k0 := 2) C dX7_copyFrom_29 rfl rfl inm7 tyX7_ok nmX7 (by decide) T0 q371 rfl rfl rfl ?_
  refine ww_bd E (fun dy6 E => ?_)
  refine ww_aload_n C dX7_copyFrom_32 rfl 0 rfl ?_
  refine ww_aload_n C dX7_copyFrom_33 rfl 1 rfl ?_
  refine ww_geti (ci := 7) (k0 := 3) C dX7_copyFrom_34 rfl rfl inm7 (by decide) T1 q373 rfl ?_
  refine ww_puti (ci := 7) (k0 := 3) C dX7_copyFrom_37 rfl rfl inm7 tyX7_ok nmX7 (by decide) T0 q373 rfl rfl rfl ?_
  refine ww_bd E (fun dy7 E => ?_)
  refine ww_iconst (v := 0) C dX7_copyFrom_40 (by decide) ?_
  refine ww_istore_n (lv' := [(2, .int (0 : Int32)), (0, .ref (ad a0)), (1, .ref (ad a1))]) C dX7_copyFrom_41 rfl (by decide) rfl ?_
  refine ww_sub (lv' := [(0, .ref (ad a0)), (1, .ref (ad a1)), (2, .int (0 : Int32))]) [1, 2, 0] rfl ?_
  exact (B_X7_copyFrom_42 C HR HL hG N) a0 a1 (0 : Int32) dy7 T0 T1 E
section P_X7_keepLaw
variable {p : Program} {l : Launch} {e : Env} {s : State} {m : MethodId} {args : Array Value} {below : List Frame} {meth : Method} {c : Code} {G : GG} {A : Nat → Prop} {ad : Nat → Nat} {S : ST} {N : Nat} {dy' : DY}
end P_X7_keepLaw
set_option maxHeartbeats 4000000 in
set_option maxRecDepth 100000 in
theorem M_X7_keepLaw (l : Launch) (G : GG) (ad : Nat → Nat) {S : ST} (N : Nat) (hG : Good S) (a0 : Nat) (a1 : Int32) (a2 : Nat) (dy : DY) (T0 : gs S a0 = (0, 7)) (T2 : gs S a2 = (0, 2)) {dy' : DY} (E : F_X7_keepLaw S N a0 a1 a2 dy = some dy') : MC l yX7_keepLaw cX7_keepLaw 3 (Option.none : Option Jvm.ClassFile.FieldType) (2) G ad [.ref (ad a0), .int a1, .ref (ad a2)] S dy (fun A => QV G ad A S dy') := by
  rw [F_X7_keepLaw_s] at E
  refine mc_of RX7 (by decide) rfl (Nat.le_of_ble_eq_true rfl) (fun p e s m args below meth c A C HR HL => ?_)
  refine ww_sub (lv' := [(0, .ref (ad a0)), (1, .int a1), (2, .ref (ad a2))]) [0, 1, 2] rfl ?_
  refine ww_iload_n C dX7_keepLaw_0 rfl 1 rfl ?_
  refine ww_if_lt (tgt := 37) C dX7_keepLaw_1 (by decide) E (fun _ E => ?_) (fun _ E => ?_)
  · exact ww_vret C HR HL dX7_keepLaw_37 E
  · refine ww_iload_n C dX7_keepLaw_4 rfl 1 rfl ?_
    refine ww_aload_n C dX7_keepLaw_5 rfl 0 rfl ?_
    have T_1 : gs S (gr S a0 6) = (8, 3) := hG.1 _ 7 T0 6 (by decide)
    refine ww_getr (ci := 7) (k0 := 6) C dX7_keepLaw_6 rfl rfl inm7 (by decide) T0 q378 rfl T_1 (by decide) ?_
    refine ww_alen (v := (3 : Int32)) C dX7_keepLaw_9 T_1 (by decide) (by decide) rfl (by decide) ?_
    refine ww_icmp_ge (tgt := 37) C dX7_keepLaw_10 (by decide) E (fun _ E => ?_) (fun _ E => ?_)
    · exact ww_vret C HR HL dX7_keepLaw_37 E
    · refine ww_aload_n C dX7_keepLaw_13 rfl 0 rfl ?_
      have T_2 : gs S (gr S a0 6) = (8, 3) := hG.1 _ 7 T0 6 (by decide)
      refine ww_getr (ci := 7) (k0 := 6) C dX7_keepLaw_14 rfl rfl inm7 (by decide) T0 q378 rfl T_2 (by decide) ?_
      refine ww_iload_n C dX7_keepLaw_17 rfl 1 rfl ?_
      have T_3 : ib a1 3 → gs S (gr S (gr S a0 6) a1.toNatClampNeg) = (0, 2) := fun q => hG.2 _ 8 3 T_2 (by decide) (by decide) _ (ib_lt q)
      refine ww_aald C dX7_keepLaw_18 T_2 (by decide) (by decide) rfl E T_3 (by decide) (fun q_ E => ?_)
      have T_3 := T_3 q_
      refine ww_aload_n C dX7_keepLaw_19 rfl 2 rfl ?_
      obtain ⟨u4, e_5, E⟩ := bind_of E
      refine ww_callV C (runs_V (n := 1) (st := []) C [.ref (ad a2)] (M_X2_copyFrom l G ad N hG (gr S (gr S a0 6) a1.toNatClampNeg) a2 dy T_3 T2 e_5) ⟨q871, q111, by decide⟩ q868 q869 q870 (ci := 2) rfl T_3 rfl (Nat.le_of_ble_eq_true rfl) ⟨Nat.le_of_ble_eq_true rfl, Nat.le_of_ble_eq_true rfl⟩ ⟨Nat.zero_le _, Nat.zero_le _⟩ dX7_keepLaw_20 rfl) ?_
      refine ww_aload_n C dX7_keepLaw_23 rfl 0 rfl ?_
      refine ww_aload_n C dX7_keepLaw_24 rfl 0 rfl ?_
      refine ww_geti (ci := 7) (k0 := 7) C dX7_keepLaw_25 rfl rfl inm7 (by decide) T0 q379 rfl ?_
      refine ww_iload_n C dX7_keepLaw_28 rfl 1 rfl ?_
      refine ww_iconst (v := 1) C dX7_keepLaw_29 (by decide) ?_
      refine ww_iadd C dX7_keepLaw_30 ?_
      refine ww_mmax C dX7_keepLaw_31 q791 q590 q119 q591 (Nat.le_of_ble_eq_true rfl) (Nat.le_of_ble_eq_true rfl) (Nat.le_of_ble_eq_true rfl) (Nat.zero_le _) (Nat.zero_le _) ?_
      refine ww_puti (ci := 7) (k0 := 7) C dX7_keepLaw_34 rfl rfl inm7 tyX7_ok nmX7 (by decide) T0 q379 rfl rfl rfl ?_
      refine ww_bd E (fun dy6 E => ?_)
      exact ww_vret C HR HL dX7_keepLaw_37 E
section P_X7_keepPassage
variable {p : Program} {l : Launch} {e : Env} {s : State} {m : MethodId} {args : Array Value} {below : List Frame} {meth : Method} {c : Code} {G : GG} {A : Nat → Prop} {ad : Nat → Nat} {S : ST} {N : Nat} {dy' : DY}
end P_X7_keepPassage
set_option maxHeartbeats 4000000 in
set_option maxRecDepth 100000 in
theorem M_X7_keepPassage (l : Launch) (G : GG) (ad : Nat → Nat) {S : ST} (N : Nat) (hG : Good S) (a0 : Nat) (a1 : Int32) (a2 : Nat) (dy : DY) (T0 : gs S a0 = (0, 7)) (T2 : gs S a2 = (0, 4)) {dy' : DY} (E : F_X7_keepPassage S N a0 a1 a2 dy = some dy') : MC l yX7_keepPassage cX7_keepPassage 3 (Option.none : Option Jvm.ClassFile.FieldType) (2) G ad [.ref (ad a0), .int a1, .ref (ad a2)] S dy (fun A => QV G ad A S dy') := by
  rw [F_X7_keepPassage_s] at E
  refine mc_of RX7 (by decide) rfl (Nat.le_of_ble_eq_true rfl) (fun p e s m args below meth c A C HR HL => ?_)
  refine ww_sub (lv' := [(0, .ref (ad a0)), (1, .int a1), (2, .ref (ad a2))]) [0, 1, 2] rfl ?_
  refine ww_iload_n C dX7_keepPassage_0 rfl 1 rfl ?_
  refine ww_if_lt (tgt := 37) C dX7_keepPassage_1 (by decide) E (fun _ E => ?_) (fun _ E => ?_)
  · exact ww_vret C HR HL dX7_keepPassage_37 E
  · refine ww_iload_n C dX7_keepPassage_4 rfl 1 rfl ?_
    refine ww_aload_n C dX7_keepPassage_5 rfl 0 rfl ?_
    have T_1 : gs S (gr S a0 4) = (7, 3) := hG.1 _ 7 T0 4 (by decide)
    refine ww_getr (ci := 7) (k0 := 4) C dX7_keepPassage_6 rfl rfl inm7 (by decide) T0 q375 rfl T_1 (by decide) ?_
    refine ww_alen (v := (3 : Int32)) C dX7_keepPassage_9 T_1 (by decide) (by decide) rfl (by decide) ?_
    refine ww_icmp_ge (tgt := 37) C dX7_keepPassage_10 (by decide) E (fun _ E => ?_) (fun _ E => ?_)
    · exact ww_vret C HR HL dX7_keepPassage_37 E
    · refine ww_aload_n C dX7_keepPassage_13 rfl 0 rfl ?_
      have T_2 : gs S (gr S a0 4) = (7, 3) := hG.1 _ 7 T0 4 (by decide)
      refine ww_getr (ci := 7) (k0 := 4) C dX7_keepPassage_14 rfl rfl inm7 (by decide) T0 q375 rfl T_2 (by decide) ?_
      refine ww_iload_n C dX7_keepPassage_17 rfl 1 rfl ?_
      have T_3 : ib a1 3 → gs S (gr S (gr S a0 4) a1.toNatClampNeg) = (0, 4) := fun q => hG.2 _ 7 3 T_2 (by decide) (by decide) _ (ib_lt q)
      refine ww_aald C dX7_keepPassage_18 T_2 (by decide) (by decide) rfl E T_3 (by decide) (fun q_ E => ?_)
      have T_3 := T_3 q_
      refine ww_aload_n C dX7_keepPassage_19 rfl 2 rfl ?_
      obtain ⟨u4, e_5, E⟩ := bind_of E
      refine ww_callV C (runs_V (n := 1) (st := []) C [.ref (ad a2)] (M_X4_copyFrom l G ad N hG (gr S (gr S a0 4) a1.toNatClampNeg) a2 dy T_3 T2 e_5) ⟨q787, q110, by decide⟩ q784 q785 q786 (ci := 4) rfl T_3 rfl (Nat.le_of_ble_eq_true rfl) ⟨Nat.le_of_ble_eq_true rfl, Nat.le_of_ble_eq_true rfl⟩ ⟨Nat.zero_le _, Nat.zero_le _⟩ dX7_keepPassage_20 rfl) ?_
      refine ww_aload_n C dX7_keepPassage_23 rfl 0 rfl ?_
      refine ww_aload_n C dX7_keepPassage_24 rfl 0 rfl ?_
      refine ww_geti (ci := 7) (k0 := 5) C dX7_keepPassage_25 rfl rfl inm7 (by decide) T0 q376 rfl ?_
      refine ww_iload_n C dX7_keepPassage_28 rfl 1 rfl ?_
      refine ww_iconst (v := 1) C dX7_keepPassage_29 (by decide) ?_
      refine ww_iadd C dX7_keepPassage_30 ?_
      refine ww_mmax C dX7_keepPassage_31 q791 q590 q119 q591 (Nat.le_of_ble_eq_true rfl) (Nat.le_of_ble_eq_true rfl) (Nat.le_of_ble_eq_true rfl) (Nat.zero_le _) (Nat.zero_le _) ?_
      refine ww_puti (ci := 7) (k0 := 5) C dX7_keepPassage_34 rfl rfl inm7 tyX7_ok nmX7 (by decide) T0 q376 rfl rfl rfl ?_
      refine ww_bd E (fun dy6 E => ?_)
      exact ww_vret C HR HL dX7_keepPassage_37 E
section P_X7_lawOf
variable {p : Program} {l : Launch} {e : Env} {s : State} {m : MethodId} {args : Array Value} {below : List Frame} {meth : Method} {c : Code} {G : GG} {A : Nat → Prop} {ad : Nat → Nat} {S : ST} {N : Nat} {r : Nat} {dy' : DY}
end P_X7_lawOf
set_option maxHeartbeats 4000000 in
set_option maxRecDepth 100000 in
theorem M_X7_lawOf (l : Launch) (G : GG) (ad : Nat → Nat) {S : ST} (N : Nat) (hG : Good S) (a0 : Nat) (a1 : Int32) (dy : DY) (T0 : gs S a0 = (0, 7)) {r : Nat} {dy' : DY} (E : F_X7_lawOf S N a0 a1 dy = some (r, dy')) : MC l yX7_lawOf cX7_lawOf 2 (Option.some (Jvm.ClassFile.FieldType.object "PavementWalk$Law")) (1) G ad [.ref (ad a0), .int a1] S dy (fun A => QR G ad A S r dy') := by
  rw [F_X7_lawOf_s] at E
  refine mc_of RX7 (by decide) rfl (Nat.le_of_ble_eq_true rfl) (fun p e s m args below meth c A C HR HL => ?_)
  refine ww_sub (lv' := [(0, .ref (ad a0)), (1, .int a1)]) [0, 1] rfl ?_
  refine ww_iload_n C dX7_lawOf_0 rfl 1 rfl ?_
  refine ww_if_lt (tgt := 30) C dX7_lawOf_1 (by decide) E (fun _ E => ?_) (fun _ E => ?_)
  · refine ww_null C dX7_lawOf_30 ?_
    exact ww_aretN C HR HL dX7_lawOf_31 E
  · refine ww_iload_n C dX7_lawOf_4 rfl 1 rfl ?_
    refine ww_aload_n C dX7_lawOf_5 rfl 0 rfl ?_
    refine ww_geti (ci := 7) (k0 := 7) C dX7_lawOf_6 rfl rfl inm7 (by decide) T0 q379 rfl ?_
    refine ww_icmp_ge (tgt := 30) C dX7_lawOf_9 (by decide) E (fun _ E => ?_) (fun _ E => ?_)
    · refine ww_null C dX7_lawOf_30 ?_
      exact ww_aretN C HR HL dX7_lawOf_31 E
    · refine ww_iload_n C dX7_lawOf_12 rfl 1 rfl ?_
      refine ww_aload_n C dX7_lawOf_13 rfl 0 rfl ?_
      have T_1 : gs S (gr S a0 6) = (8, 3) := hG.1 _ 7 T0 6 (by decide)
      refine ww_getr (ci := 7) (k0 := 6) C dX7_lawOf_14 rfl rfl inm7 (by decide) T0 q378 rfl T_1 (by decide) ?_
      refine ww_alen (v := (3 : Int32)) C dX7_lawOf_17 T_1 (by decide) (by decide) rfl (by decide) ?_
      refine ww_icmp_ge (tgt := 30) C dX7_lawOf_18 (by decide) E (fun _ E => ?_) (fun _ E => ?_)
      · refine ww_null C dX7_lawOf_30 ?_
        exact ww_aretN C HR HL dX7_lawOf_31 E
      · refine ww_aload_n C dX7_lawOf_21 rfl 0 rfl ?_
        have T_2 : gs S (gr S a0 6) = (8, 3) := hG.1 _ 7 T0 6 (by decide)
        refine ww_getr (ci := 7) (k0 := 6) C dX7_lawOf_22 rfl rfl inm7 (by decide) T0 q378 rfl T_2 (by decide) ?_
        refine ww_iload_n C dX7_lawOf_25 rfl 1 rfl ?_
        have T_3 : ib a1 3 → gs S (gr S (gr S a0 6) a1.toNatClampNeg) = (0, 2) := fun q => hG.2 _ 8 3 T_2 (by decide) (by decide) _ (ib_lt q)
        refine ww_aald C dX7_lawOf_26 T_2 (by decide) (by decide) rfl E T_3 (by decide) (fun q_ E => ?_)
        have T_3 := T_3 q_
        refine ww_goto (tgt := 31) C dX7_lawOf_27 (by decide) ?_
        exact ww_aret C HR HL (by have := gs_lt T_3 (by decide); omega) dX7_lawOf_31 E
section P_X7_passageOf
variable {p : Program} {l : Launch} {e : Env} {s : State} {m : MethodId} {args : Array Value} {below : List Frame} {meth : Method} {c : Code} {G : GG} {A : Nat → Prop} {ad : Nat → Nat} {S : ST} {N : Nat} {r : Nat} {dy' : DY}
end P_X7_passageOf
set_option maxHeartbeats 4000000 in
set_option maxRecDepth 100000 in
theorem M_X7_passageOf (l : Launch) (G : GG) (ad : Nat → Nat) {S : ST} (N : Nat) (hG : Good S) (a0 : Nat) (a1 : Int32) (dy : DY) (T0 : gs S a0 = (0, 7)) {r : Nat} {dy' : DY} (E : F_X7_passageOf S N a0 a1 dy = some (r, dy')) : MC l yX7_passageOf cX7_passageOf 2 (Option.some (Jvm.ClassFile.FieldType.object "PavementWalk$Passage")) (1) G ad [.ref (ad a0), .int a1] S dy (fun A => QR G ad A S r dy') := by
  rw [F_X7_passageOf_s] at E
  refine mc_of RX7 (by decide) rfl (Nat.le_of_ble_eq_true rfl) (fun p e s m args below meth c A C HR HL => ?_)
  refine ww_sub (lv' := [(0, .ref (ad a0)), (1, .int a1)]) [0, 1] rfl ?_
  refine ww_iload_n C dX7_passageOf_0 rfl 1 rfl ?_
  refine ww_if_lt (tgt := 30) C dX7_passageOf_1 (by decide) E (fun _ E => ?_) (fun _ E => ?_)
  · refine ww_null C dX7_passageOf_30 ?_
    exact ww_aretN C HR HL dX7_passageOf_31 E
  · refine ww_iload_n C dX7_passageOf_4 rfl 1 rfl ?_
    refine ww_aload_n C dX7_passageOf_5 rfl 0 rfl ?_
    refine ww_geti (ci := 7) (k0 := 5) C dX7_passageOf_6 rfl rfl inm7 (by decide) T0 q376 rfl ?_
    refine ww_icmp_ge (tgt := 30) C dX7_passageOf_9 (by decide) E (fun _ E => ?_) (fun _ E => ?_)
    · refine ww_null C dX7_passageOf_30 ?_
      exact ww_aretN C HR HL dX7_passageOf_31 E
    · refine ww_iload_n C dX7_passageOf_12 rfl 1 rfl ?_
      refine ww_aload_n C dX7_passageOf_13 rfl 0 rfl ?_
      have T_1 : gs S (gr S a0 4) = (7, 3) := hG.1 _ 7 T0 4 (by decide)
      refine ww_getr (ci := 7) (k0 := 4) C dX7_passageOf_14 rfl rfl inm7 (by decide) T0 q375 rfl T_1 (by decide) ?_
      refine ww_alen (v := (3 : Int32)) C dX7_passageOf_17 T_1 (by decide) (by decide) rfl (by decide) ?_
      refine ww_icmp_ge (tgt := 30) C dX7_passageOf_18 (by decide) E (fun _ E => ?_) (fun _ E => ?_)
      · refine ww_null C dX7_passageOf_30 ?_
        exact ww_aretN C HR HL dX7_passageOf_31 E
      · refine ww_aload_n C dX7_passageOf_21 rfl 0 rfl ?_
        have T_2 : gs S (gr S a0 4) = (7, 3) := hG.1 _ 7 T0 4 (by decide)
        refine ww_getr (ci := 7) (k0 := 4) C dX7_passageOf_22 rfl rfl inm7 (by decide) T0 q375 rfl T_2 (by decide) ?_
        refine ww_iload_n C dX7_passageOf_25 rfl 1 rfl ?_
        have T_3 : ib a1 3 → gs S (gr S (gr S a0 4) a1.toNatClampNeg) = (0, 4) := fun q => hG.2 _ 7 3 T_2 (by decide) (by decide) _ (ib_lt q)
        refine ww_aald C dX7_passageOf_26 T_2 (by decide) (by decide) rfl E T_3 (by decide) (fun q_ E => ?_)
        have T_3 := T_3 q_
        refine ww_goto (tgt := 31) C dX7_passageOf_27 (by decide) ?_
        exact ww_aret C HR HL (by have := gs_lt T_3 (by decide); omega) dX7_passageOf_31 E
section P_X7_takeTape
variable {p : Program} {l : Launch} {e : Env} {s : State} {m : MethodId} {args : Array Value} {below : List Frame} {meth : Method} {c : Code} {G : GG} {A : Nat → Prop} {ad : Nat → Nat} {S : ST} {N : Nat} {r : Int32} {dy' : DY}
end P_X7_takeTape
set_option maxHeartbeats 4000000 in
set_option maxRecDepth 100000 in
theorem M_X7_takeTape (l : Launch) (G : GG) (ad : Nat → Nat) {S : ST} (N : Nat) (hG : Good S) (a0 : Nat) (dy : DY) (T0 : gs S a0 = (0, 7)) {r : Int32} {dy' : DY} (E : F_X7_takeTape S N a0 dy = some (r, dy')) : MC l yX7_takeTape cX7_takeTape 2 (Option.some Jvm.ClassFile.FieldType.int) (1) G ad [.ref (ad a0)] S dy (fun A => QI G ad A S r dy') := by
  rw [F_X7_takeTape_s] at E
  refine mc_of RX7 (by decide) rfl (Nat.le_of_ble_eq_true rfl) (fun p e s m args below meth c A C HR HL => ?_)
  refine ww_sub (lv' := [(0, .ref (ad a0))]) [0] rfl ?_
  refine ww_aload_n C dX7_takeTape_0 rfl 0 rfl ?_
  refine ww_geti (ci := 7) (k0 := 1) C dX7_takeTape_1 rfl rfl inm7 (by decide) T0 q370 rfl ?_
  refine ww_istore_n (lv' := [(1, .int (gi dy a0 1)), (0, .ref (ad a0))]) C dX7_takeTape_4 rfl (by decide) rfl ?_
  refine ww_aload_n C dX7_takeTape_5 rfl 1 rfl ?_
  refine ww_iconst (v := 0) C dX7_takeTape_6 (by decide) ?_
  refine ww_puti (ci := 7) (k0 := 1) C dX7_takeTape_7 rfl rfl inm7 tyX7_ok nmX7 (by decide) T0 q370 rfl rfl rfl ?_
  refine ww_bd E (fun dy1 E => ?_)
  refine ww_aload_n C dX7_takeTape_10 rfl 1 rfl ?_
  refine ww_iconst (v := 0) C dX7_takeTape_11 (by decide) ?_
  refine ww_puti (ci := 7) (k0 := 2) C dX7_takeTape_12 rfl rfl inm7 tyX7_ok nmX7 (by decide) T0 q371 rfl rfl rfl ?_
  refine ww_bd E (fun dy2 E => ?_)
  refine ww_aload_n C dX7_takeTape_15 rfl 1 rfl ?_
  refine ww_iconst (v := (-1)) C dX7_takeTape_16 (by decide) ?_
  refine ww_puti (ci := 7) (k0 := 3) C dX7_takeTape_17 rfl rfl inm7 tyX7_ok nmX7 (by decide) T0 q373 rfl rfl rfl ?_
  refine ww_bd E (fun dy3 E => ?_)
  refine ww_iload_n C dX7_takeTape_20 rfl 0 rfl ?_
  exact ww_iret C HR HL dX7_takeTape_21 E
