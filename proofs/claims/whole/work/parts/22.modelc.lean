noncomputable def F_X10_flow_99 (S : ST) (N : Nat) (K45 : Nat → Int32 → Int32 → Int32 → DY → Option (Int32 × DY)) (x0 : Nat) (x4 : Int32) (x5 : Int32) (x6 : Int32) (y0 : Int32) (y1 : Nat) (y2 : Int32) (dy : DY) : Option (Int32 × DY) := if ib y2 201 then (if (y0 - (gi dy y1 y2.toNatClampNeg)) ≤ x5 then K45 x0 x4 x5 (x6 + (1 : Int32)) dy else K45 x0 x4 (y0 - (gi dy y1 y2.toNatClampNeg)) (x6 + (1 : Int32)) dy) else none
theorem F_X10_flow_99_s (S : ST) (N : Nat) (K45 : Nat → Int32 → Int32 → Int32 → DY → Option (Int32 × DY)) (x0 : Nat) (x4 : Int32) (x5 : Int32) (x6 : Int32) (y0 : Int32) (y1 : Nat) (y2 : Int32) (dy : DY) : F_X10_flow_99 S N K45 x0 x4 x5 x6 y0 y1 y2 dy = (if ib y2 201 then (if (y0 - (gi dy y1 y2.toNatClampNeg)) ≤ x5 then K45 x0 x4 x5 (x6 + (1 : Int32)) dy else K45 x0 x4 (y0 - (gi dy y1 y2.toNatClampNeg)) (x6 + (1 : Int32)) dy) else none) := rfl
noncomputable def F_X10_flow_45 (S : ST) (N : Nat) : Nat → Nat → Int32 → Int32 → Int32 → DY → Option (Int32 × DY) := fun k => Nat.rec (motive := fun _ => Nat → Int32 → Int32 → Int32 → DY → Option (Int32 × DY)) (fun _ _ _ _ _ => none) (fun _ ih x0 x4 x5 x6 dy => (if x4 < x6 then some (x5, dy) else (F_X10_tryOn S N x0 (1 : Int32) dy).bind fun u1 => if ib (2886 : Int32) 10080 then if ib x6 201 then bd (si u1 (gr S x0 55) x6.toNatClampNeg (gi u1 (gr S x0 39) (2886 : Int32).toNatClampNeg)) fun dy5 => if ib x6 201 then (if x6 ≤ (10 : Int32) then (F_X10_flow_99 S N ih) x0 x4 x5 x6 (gi dy5 (gr S x0 55) x6.toNatClampNeg) (gr S x0 55) (0 : Int32) dy5 else (F_X10_flow_99 S N ih) x0 x4 x5 x6 (gi dy5 (gr S x0 55) x6.toNatClampNeg) (gr S x0 55) (x6 - (10 : Int32)) dy5) else none else none else none)) k
theorem F_X10_flow_45_s (S : ST) (N : Nat) (k : Nat) (x0 : Nat) (x4 : Int32) (x5 : Int32) (x6 : Int32) (dy : DY) : F_X10_flow_45 S N (k + 1) x0 x4 x5 x6 dy = (if x4 < x6 then some (x5, dy) else (F_X10_tryOn S N x0 (1 : Int32) dy).bind fun u1 => if ib (2886 : Int32) 10080 then if ib x6 201 then bd (si u1 (gr S x0 55) x6.toNatClampNeg (gi u1 (gr S x0 39) (2886 : Int32).toNatClampNeg)) fun dy5 => if ib x6 201 then (if x6 ≤ (10 : Int32) then (F_X10_flow_99 S N (F_X10_flow_45 S N k)) x0 x4 x5 x6 (gi dy5 (gr S x0 55) x6.toNatClampNeg) (gr S x0 55) (0 : Int32) dy5 else (F_X10_flow_99 S N (F_X10_flow_45 S N k)) x0 x4 x5 x6 (gi dy5 (gr S x0 55) x6.toNatClampNeg) (gr S x0 55) (x6 - (10 : Int32)) dy5) else none else none else none) := rfl
noncomputable def F_X10_flow (S : ST) (N : Nat) (a0 : Nat) (a1 : Int32) (a2 : Int32) (a3 : Int32) (a4 : Int32) (dy : DY) : Option (Int32 × DY) := bd (si dy a0 0 (0 : Int32)) fun dy1 => (F_X10_isTried S N a0 a1 a2 a4 (200 : Int32) dy1).bind fun u2 => (if u2.1 = 0 then some ((-1 : Int32), u2.2) else (F_X10_lay S N a0 (4 : Int32) a1 a2 a3 (12 : Int32) (-1 : Int32) u2.2).bind fun u4 => if ib (0 : Int32) 201 then bd (si u4 (gr S a0 55) (0 : Int32).toNatClampNeg (0 : Int32)) fun dy7 => (F_X10_flow_45 S N N) a0 a4 (0 : Int32) (1 : Int32) dy7 else none)
theorem F_X10_flow_s (S : ST) (N : Nat) (a0 : Nat) (a1 : Int32) (a2 : Int32) (a3 : Int32) (a4 : Int32) (dy : DY) : F_X10_flow S N a0 a1 a2 a3 a4 dy = (bd (si dy a0 0 (0 : Int32)) fun dy1 => (F_X10_isTried S N a0 a1 a2 a4 (200 : Int32) dy1).bind fun u2 => (if u2.1 = 0 then some ((-1 : Int32), u2.2) else (F_X10_lay S N a0 (4 : Int32) a1 a2 a3 (12 : Int32) (-1 : Int32) u2.2).bind fun u4 => if ib (0 : Int32) 201 then bd (si u4 (gr S a0 55) (0 : Int32).toNatClampNeg (0 : Int32)) fun dy7 => (F_X10_flow_45 S N N) a0 a4 (0 : Int32) (1 : Int32) dy7 else none)) := rfl
noncomputable def F_X10_later_31 (S : ST) (N : Nat) (x0 : Nat) (x1 : Int32) (x2 : Int32) (dy : DY) : Option DY := bd (si dy x0 25 x1) fun dy1 => bd (si dy1 x0 26 x2) fun dy2 => some dy2
theorem F_X10_later_31_s (S : ST) (N : Nat) (x0 : Nat) (x1 : Int32) (x2 : Int32) (dy : DY) : F_X10_later_31 S N x0 x1 x2 dy = (bd (si dy x0 25 x1) fun dy1 => bd (si dy1 x0 26 x2) fun dy2 => some dy2) := rfl
noncomputable def F_X10_later (S : ST) (N : Nat) (a0 : Nat) (a1 : Int32) (a2 : Int32) (dy : DY) : Option DY := (if (gi dy a0 25) = 0 then (F_X10_later_31 S N) a0 a1 a2 dy else (if a2 < (gi dy a0 26) then (F_X10_later_31 S N) a0 a1 a2 dy else (if a2 = (gi dy a0 26) then (if (gi dy a0 25) ≤ a1 then some dy else (F_X10_later_31 S N) a0 a1 a2 dy) else some dy)))
theorem F_X10_later_s (S : ST) (N : Nat) (a0 : Nat) (a1 : Int32) (a2 : Int32) (dy : DY) : F_X10_later S N a0 a1 a2 dy = (if (gi dy a0 25) = 0 then (F_X10_later_31 S N) a0 a1 a2 dy else (if a2 < (gi dy a0 26) then (F_X10_later_31 S N) a0 a1 a2 dy else (if a2 = (gi dy a0 26) then (if (gi dy a0 25) ≤ a1 then some dy else (F_X10_later_31 S N) a0 a1 a2 dy) else some dy))) := rfl
noncomputable def F_X10_stops (S : ST) (N : Nat) (a0 : Nat) (dy : DY) : Option (Int32 × DY) := bd (si dy a0 24 (gi dy a0 20)) fun dy1 => some ((0 : Int32), dy1)
theorem F_X10_stops_s (S : ST) (N : Nat) (a0 : Nat) (dy : DY) : F_X10_stops S N a0 dy = (bd (si dy a0 24 (gi dy a0 20)) fun dy1 => some ((0 : Int32), dy1)) := rfl
noncomputable def F_X10_isSign (S : ST) (N : Nat) (a0 : Int32) (dy : DY) : Option (Int32 × DY) := (if a0 = (58 : Int32) then some ((1 : Int32), dy) else (if a0 = (59 : Int32) then some ((1 : Int32), dy) else (if a0 = (60 : Int32) then some ((1 : Int32), dy) else (if a0 = (62 : Int32) then some ((1 : Int32), dy) else (if a0 = (61 : Int32) then some ((1 : Int32), dy) else some ((0 : Int32), dy))))))
theorem F_X10_isSign_s (S : ST) (N : Nat) (a0 : Int32) (dy : DY) : F_X10_isSign S N a0 dy = (if a0 = (58 : Int32) then some ((1 : Int32), dy) else (if a0 = (59 : Int32) then some ((1 : Int32), dy) else (if a0 = (60 : Int32) then some ((1 : Int32), dy) else (if a0 = (62 : Int32) then some ((1 : Int32), dy) else (if a0 = (61 : Int32) then some ((1 : Int32), dy) else some ((0 : Int32), dy)))))) := rfl
noncomputable def F_X10_see (S : ST) (N : Nat) (a0 : Nat) (dy : DY) : Option (Int32 × DY) := (if (gi dy a0 19) ≤ (gi dy a0 18) then some ((-1 : Int32), dy) else if ib (gi dy a0 18) 2000 then some (((nr 2 (gi dy (gr S a0 1) (gi dy a0 18).toNatClampNeg)) &&& (255 : Int32)), dy) else none)
theorem F_X10_see_s (S : ST) (N : Nat) (a0 : Nat) (dy : DY) : F_X10_see S N a0 dy = (if (gi dy a0 19) ≤ (gi dy a0 18) then some ((-1 : Int32), dy) else if ib (gi dy a0 18) 2000 then some (((nr 2 (gi dy (gr S a0 1) (gi dy a0 18).toNatClampNeg)) &&& (255 : Int32)), dy) else none) := rfl
noncomputable def F_X10_token_18 (S : ST) (N : Nat) (K0 : Nat → DY → Option DY) (x0 : Nat) (dy : DY) : Option DY := bd (si dy x0 18 ((gi dy x0 18) + (1 : Int32))) fun dy1 => K0 x0 dy1
theorem F_X10_token_18_s (S : ST) (N : Nat) (K0 : Nat → DY → Option DY) (x0 : Nat) (dy : DY) : F_X10_token_18 S N K0 x0 dy = (bd (si dy x0 18 ((gi dy x0 18) + (1 : Int32))) fun dy1 => K0 x0 dy1) := rfl
noncomputable def F_X10_token_136 (S : ST) (N : Nat) (x0 : Nat) (y0 : Nat) (y1 : Int64) (dy : DY) : Option DY := bd (sl dy y0 23 y1) fun dy1 => bd (si dy1 x0 21 (2 : Int32)) fun dy2 => some dy2
theorem F_X10_token_136_s (S : ST) (N : Nat) (x0 : Nat) (y0 : Nat) (y1 : Int64) (dy : DY) : F_X10_token_136 S N x0 y0 y1 dy = (bd (sl dy y0 23 y1) fun dy1 => bd (si dy1 x0 21 (2 : Int32)) fun dy2 => some dy2) := rfl
noncomputable def F_X10_token_74 (S : ST) (N : Nat) : Nat → Nat → Int32 → DY → Option DY := fun k => Nat.rec (motive := fun _ => Nat → Int32 → DY → Option DY) (fun _ _ _ => none) (fun _ ih x0 x2 dy => (F_X10_see S N x0 dy).bind fun u1 => (F_X10_in S N u1.1 (97 : Int32) (122 : Int32) u1.2).bind fun u3 => (if u3.1 = 0 then (if x2 ≤ (8 : Int32) then (F_X10_token_136 S N) x0 x0 (gl u3.2 x0 23) u3.2 else (F_X10_token_136 S N) x0 x0 (0 : Int64) u3.2) else (F_X10_see S N x0 u3.2).bind fun u5 => bd (sl u5.2 x0 23 (((gl u3.2 x0 23) <<< (((8 : Int32)).toInt64 &&& 63)) ||| (u5.1).toInt64)) fun dy7 => bd (si dy7 x0 18 ((gi dy7 x0 18) + (1 : Int32))) fun dy8 => ih x0 (x2 + (1 : Int32)) dy8)) k
theorem F_X10_token_74_s (S : ST) (N : Nat) (k : Nat) (x0 : Nat) (x2 : Int32) (dy : DY) : F_X10_token_74 S N (k + 1) x0 x2 dy = ((F_X10_see S N x0 dy).bind fun u1 => (F_X10_in S N u1.1 (97 : Int32) (122 : Int32) u1.2).bind fun u3 => (if u3.1 = 0 then (if x2 ≤ (8 : Int32) then (F_X10_token_136 S N) x0 x0 (gl u3.2 x0 23) u3.2 else (F_X10_token_136 S N) x0 x0 (0 : Int64) u3.2) else (F_X10_see S N x0 u3.2).bind fun u5 => bd (sl u5.2 x0 23 (((gl u3.2 x0 23) <<< (((8 : Int32)).toInt64 &&& 63)) ||| (u5.1).toInt64)) fun dy7 => bd (si dy7 x0 18 ((gi dy7 x0 18) + (1 : Int32))) fun dy8 => (F_X10_token_74 S N k) x0 (x2 + (1 : Int32)) dy8)) := rfl
noncomputable def F_X10_token_205 (S : ST) (N : Nat) (K163 : Nat → Int32 → DY → Option DY) (x0 : Nat) (x2 : Int32) (y0 : Nat) (y1 : Int32) (dy : DY) : Option DY := bd (si dy y0 22 y1) fun dy1 => bd (si dy1 x0 18 ((gi dy1 x0 18) + (1 : Int32))) fun dy2 => K163 x0 (x2 + (1 : Int32)) dy2
theorem F_X10_token_205_s (S : ST) (N : Nat) (K163 : Nat → Int32 → DY → Option DY) (x0 : Nat) (x2 : Int32) (y0 : Nat) (y1 : Int32) (dy : DY) : F_X10_token_205 S N K163 x0 x2 y0 y1 dy = (bd (si dy y0 22 y1) fun dy1 => bd (si dy1 x0 18 ((gi dy1 x0 18) + (1 : Int32))) fun dy2 => K163 x0 (x2 + (1 : Int32)) dy2) := rfl
noncomputable def F_X10_token_235 (S : ST) (N : Nat) (y0 : Nat) (y1 : Int32) (dy : DY) : Option DY := bd (si dy y0 21 y1) fun dy1 => some dy1
theorem F_X10_token_235_s (S : ST) (N : Nat) (y0 : Nat) (y1 : Int32) (dy : DY) : F_X10_token_235 S N y0 y1 dy = (bd (si dy y0 21 y1) fun dy1 => some dy1) := rfl
noncomputable def F_X10_token_163 (S : ST) (N : Nat) : Nat → Nat → Int32 → DY → Option DY := fun k => Nat.rec (motive := fun _ => Nat → Int32 → DY → Option DY) (fun _ _ _ => none) (fun _ ih x0 x2 dy => (F_X10_see S N x0 dy).bind fun u1 => (F_X10_in S N u1.1 (48 : Int32) (57 : Int32) u1.2).bind fun u3 => (if u3.1 = 0 then (if x2 ≤ (3 : Int32) then (F_X10_token_235 S N) x0 (3 : Int32) u3.2 else (F_X10_token_235 S N) x0 (1 : Int32) u3.2) else (if (3 : Int32) ≤ x2 then (F_X10_token_205 S N ih) x0 x2 x0 (gi u3.2 x0 22) u3.2 else (F_X10_see S N x0 u3.2).bind fun u5 => (F_X10_token_205 S N ih) x0 x2 x0 ((((10 : Int32) * (gi u3.2 x0 22)) + u5.1) - (48 : Int32)) u5.2))) k
theorem F_X10_token_163_s (S : ST) (N : Nat) (k : Nat) (x0 : Nat) (x2 : Int32) (dy : DY) : F_X10_token_163 S N (k + 1) x0 x2 dy = ((F_X10_see S N x0 dy).bind fun u1 => (F_X10_in S N u1.1 (48 : Int32) (57 : Int32) u1.2).bind fun u3 => (if u3.1 = 0 then (if x2 ≤ (3 : Int32) then (F_X10_token_235 S N) x0 (3 : Int32) u3.2 else (F_X10_token_235 S N) x0 (1 : Int32) u3.2) else (if (3 : Int32) ≤ x2 then (F_X10_token_205 S N (F_X10_token_163 S N k)) x0 x2 x0 (gi u3.2 x0 22) u3.2 else (F_X10_see S N x0 u3.2).bind fun u5 => (F_X10_token_205 S N (F_X10_token_163 S N k)) x0 x2 x0 ((((10 : Int32) * (gi u3.2 x0 22)) + u5.1) - (48 : Int32)) u5.2))) := rfl
noncomputable def F_X10_token_269 (S : ST) (N : Nat) (y0 : Nat) (y1 : Int32) (dy : DY) : Option DY := bd (si dy y0 21 y1) fun dy1 => some dy1
theorem F_X10_token_269_s (S : ST) (N : Nat) (y0 : Nat) (y1 : Int32) (dy : DY) : F_X10_token_269 S N y0 y1 dy = (bd (si dy y0 21 y1) fun dy1 => some dy1) := rfl
noncomputable def F_X10_token_0 (S : ST) (N : Nat) : Nat → Nat → DY → Option DY := fun k => Nat.rec (motive := fun _ => Nat → DY → Option DY) (fun _ _ => none) (fun _ ih x0 dy => (F_X10_see S N x0 dy).bind fun u1 => (if u1.1 = (10 : Int32) then (F_X10_token_18 S N ih) x0 u1.2 else (F_X10_see S N x0 u1.2).bind fun u3 => (if u3.1 = (32 : Int32) then (F_X10_token_18 S N ih) x0 u3.2 else bd (si u3.2 x0 20 (gi u3.2 x0 18)) fun dy5 => (F_X10_see S N x0 dy5).bind fun u6 => bd (sl u6.2 x0 23 (0 : Int64)) fun dy8 => (if 0 ≤ u6.1 then (F_X10_in S N u6.1 (97 : Int32) (122 : Int32) dy8).bind fun u9 => (if u9.1 = 0 then (F_X10_in S N u6.1 (48 : Int32) (57 : Int32) u9.2).bind fun u11 => (if u11.1 = 0 then bd (si u11.2 x0 18 ((gi u11.2 x0 18) + (1 : Int32))) fun dy13 => bd (si dy13 x0 22 u6.1) fun dy14 => (F_X10_isSign S N u6.1 dy14).bind fun u15 => (if u15.1 = 0 then (F_X10_token_269 S N) x0 (1 : Int32) u15.2 else (F_X10_token_269 S N) x0 (4 : Int32) u15.2) else bd (si u11.2 x0 22 (0 : Int32)) fun dy17 => (F_X10_token_163 S N N) x0 (0 : Int32) dy17) else (F_X10_token_74 S N N) x0 (0 : Int32) u9.2) else bd (si dy8 x0 21 (0 : Int32)) fun dy18 => some dy18)))) k
theorem F_X10_token_0_s (S : ST) (N : Nat) (k : Nat) (x0 : Nat) (dy : DY) : F_X10_token_0 S N (k + 1) x0 dy = ((F_X10_see S N x0 dy).bind fun u1 => (if u1.1 = (10 : Int32) then (F_X10_token_18 S N (F_X10_token_0 S N k)) x0 u1.2 else (F_X10_see S N x0 u1.2).bind fun u3 => (if u3.1 = (32 : Int32) then (F_X10_token_18 S N (F_X10_token_0 S N k)) x0 u3.2 else bd (si u3.2 x0 20 (gi u3.2 x0 18)) fun dy5 => (F_X10_see S N x0 dy5).bind fun u6 => bd (sl u6.2 x0 23 (0 : Int64)) fun dy8 => (if 0 ≤ u6.1 then (F_X10_in S N u6.1 (97 : Int32) (122 : Int32) dy8).bind fun u9 => (if u9.1 = 0 then (F_X10_in S N u6.1 (48 : Int32) (57 : Int32) u9.2).bind fun u11 => (if u11.1 = 0 then bd (si u11.2 x0 18 ((gi u11.2 x0 18) + (1 : Int32))) fun dy13 => bd (si dy13 x0 22 u6.1) fun dy14 => (F_X10_isSign S N u6.1 dy14).bind fun u15 => (if u15.1 = 0 then (F_X10_token_269 S N) x0 (1 : Int32) u15.2 else (F_X10_token_269 S N) x0 (4 : Int32) u15.2) else bd (si u11.2 x0 22 (0 : Int32)) fun dy17 => (F_X10_token_163 S N N) x0 (0 : Int32) dy17) else (F_X10_token_74 S N N) x0 (0 : Int32) u9.2) else bd (si dy8 x0 21 (0 : Int32)) fun dy18 => some dy18)))) := rfl
noncomputable def F_X10_token (S : ST) (N : Nat) (a0 : Nat) (dy : DY) : Option DY := (F_X10_token_0 S N N) a0 dy
theorem F_X10_token_s (S : ST) (N : Nat) (a0 : Nat) (dy : DY) : F_X10_token S N a0 dy = ((F_X10_token_0 S N N) a0 dy) := rfl
noncomputable def F_X10_number_47 (S : ST) (N : Nat) (x0 : Nat) (dy : DY) : Option (Int32 × DY) := (F_X10_token S N x0 dy).bind fun u1 => some ((1 : Int32), u1)
theorem F_X10_number_47_s (S : ST) (N : Nat) (x0 : Nat) (dy : DY) : F_X10_number_47 S N x0 dy = ((F_X10_token S N x0 dy).bind fun u1 => some ((1 : Int32), u1)) := rfl
noncomputable def F_X10_number (S : ST) (N : Nat) (a0 : Nat) (a1 : Int32) (a2 : Int32) (dy : DY) : Option (Int32 × DY) := (if (gi dy a0 21) = (3 : Int32) then bd (si dy a0 27 (gi dy a0 22)) fun dy1 => (F_X10_in S N (gi dy1 a0 22) a1 a2 dy1).bind fun u2 => (if u2.1 = 0 then (F_X10_later S N a0 (2 : Int32) (gi u2.2 a0 20) u2.2).bind fun u4 => bd (si u4 a0 28 (0 : Int32)) fun dy6 => (F_X10_number_47 S N) a0 dy6 else (F_X10_number_47 S N) a0 u2.2) else (F_X10_stops S N a0 dy).bind fun u7 => if zb u7.1 then some (u7.1, u7.2) else none)
theorem F_X10_number_s (S : ST) (N : Nat) (a0 : Nat) (a1 : Int32) (a2 : Int32) (dy : DY) : F_X10_number S N a0 a1 a2 dy = (if (gi dy a0 21) = (3 : Int32) then bd (si dy a0 27 (gi dy a0 22)) fun dy1 => (F_X10_in S N (gi dy1 a0 22) a1 a2 dy1).bind fun u2 => (if u2.1 = 0 then (F_X10_later S N a0 (2 : Int32) (gi u2.2 a0 20) u2.2).bind fun u4 => bd (si u4 a0 28 (0 : Int32)) fun dy6 => (F_X10_number_47 S N) a0 dy6 else (F_X10_number_47 S N) a0 u2.2) else (F_X10_stops S N a0 dy).bind fun u7 => if zb u7.1 then some (u7.1, u7.2) else none) := rfl
noncomputable def F_X10_part (S : ST) (N : Nat) (a0 : Nat) (a1 : Int32) (dy : DY) : Option DY := if ib (((8 : Int32) * a1) + (7 : Int32)) 104 then (if (gi dy (gr S a0 34) (((8 : Int32) * a1) + (7 : Int32)).toNatClampNeg) = (-1 : Int32) then some dy else if ib (((8 : Int32) * (gi dy (gr S a0 34) (((8 : Int32) * a1) + (7 : Int32)).toNatClampNeg)) + (7 : Int32)) 104 then bd (si dy (gr S a0 34) (((8 : Int32) * (gi dy (gr S a0 34) (((8 : Int32) * a1) + (7 : Int32)).toNatClampNeg)) + (7 : Int32)).toNatClampNeg (-1 : Int32)) fun dy3 => if ib (((8 : Int32) * a1) + (7 : Int32)) 104 then bd (si dy3 (gr S a0 34) (((8 : Int32) * a1) + (7 : Int32)).toNatClampNeg (-1 : Int32)) fun dy5 => some dy5 else none else none) else none
theorem F_X10_part_s (S : ST) (N : Nat) (a0 : Nat) (a1 : Int32) (dy : DY) : F_X10_part S N a0 a1 dy = (if ib (((8 : Int32) * a1) + (7 : Int32)) 104 then (if (gi dy (gr S a0 34) (((8 : Int32) * a1) + (7 : Int32)).toNatClampNeg) = (-1 : Int32) then some dy else if ib (((8 : Int32) * (gi dy (gr S a0 34) (((8 : Int32) * a1) + (7 : Int32)).toNatClampNeg)) + (7 : Int32)) 104 then bd (si dy (gr S a0 34) (((8 : Int32) * (gi dy (gr S a0 34) (((8 : Int32) * a1) + (7 : Int32)).toNatClampNeg)) + (7 : Int32)).toNatClampNeg (-1 : Int32)) fun dy3 => if ib (((8 : Int32) * a1) + (7 : Int32)) 104 then bd (si dy3 (gr S a0 34) (((8 : Int32) * a1) + (7 : Int32)).toNatClampNeg (-1 : Int32)) fun dy5 => some dy5 else none else none) else none) := rfl
noncomputable def F_X10_friendsLine_68 (S : ST) (N : Nat) (x0 : Nat) (x1 : Int32) (dy : DY) : Option (Int32 × DY) := (if (nr 3 (gi dy x0 28)) = 0 then some ((1 : Int32), dy) else (F_X10_part S N x0 x1 dy).bind fun u1 => (F_X10_part S N x0 (gi u1 x0 27) u1).bind fun u3 => if ib (((8 : Int32) * x1) + (7 : Int32)) 104 then bd (si u3 (gr S x0 34) (((8 : Int32) * x1) + (7 : Int32)).toNatClampNeg (gi u3 x0 27)) fun dy6 => if ib (((8 : Int32) * (gi dy6 x0 27)) + (7 : Int32)) 104 then bd (si dy6 (gr S x0 34) (((8 : Int32) * (gi dy6 x0 27)) + (7 : Int32)).toNatClampNeg x1) fun dy8 => some ((1 : Int32), dy8) else none else none)
theorem F_X10_friendsLine_68_s (S : ST) (N : Nat) (x0 : Nat) (x1 : Int32) (dy : DY) : F_X10_friendsLine_68 S N x0 x1 dy = (if (nr 3 (gi dy x0 28)) = 0 then some ((1 : Int32), dy) else (F_X10_part S N x0 x1 dy).bind fun u1 => (F_X10_part S N x0 (gi u1 x0 27) u1).bind fun u3 => if ib (((8 : Int32) * x1) + (7 : Int32)) 104 then bd (si u3 (gr S x0 34) (((8 : Int32) * x1) + (7 : Int32)).toNatClampNeg (gi u3 x0 27)) fun dy6 => if ib (((8 : Int32) * (gi dy6 x0 27)) + (7 : Int32)) 104 then bd (si dy6 (gr S x0 34) (((8 : Int32) * (gi dy6 x0 27)) + (7 : Int32)).toNatClampNeg x1) fun dy8 => some ((1 : Int32), dy8) else none else none) := rfl
noncomputable def F_X10_friendsLine (S : ST) (N : Nat) (a0 : Nat) (dy : DY) : Option (Int32 × DY) := (F_X10_number S N a0 (0 : Int32) ((gi dy a0 31) - (1 : Int32)) dy).bind fun u1 => (if u1.1 = 0 then some ((0 : Int32), u1.2) else (F_X10_number S N a0 (0 : Int32) ((gi u1.2 a0 31) - (1 : Int32)) u1.2).bind fun u3 => (if u3.1 = 0 then some ((0 : Int32), u3.2) else (if (nr 3 (gi u3.2 a0 28)) = 0 then (F_X10_friendsLine_68 S N) a0 (gi u1.2 a0 27) u3.2 else (if (gi u3.2 a0 27) = (gi u1.2 a0 27) then (F_X10_later S N a0 (2 : Int32) (gi u1.2 a0 20) u3.2).bind fun u5 => bd (si u5 a0 28 (0 : Int32)) fun dy7 => (F_X10_friendsLine_68 S N) a0 (gi u1.2 a0 27) dy7 else (F_X10_friendsLine_68 S N) a0 (gi u1.2 a0 27) u3.2))))
theorem F_X10_friendsLine_s (S : ST) (N : Nat) (a0 : Nat) (dy : DY) : F_X10_friendsLine S N a0 dy = ((F_X10_number S N a0 (0 : Int32) ((gi dy a0 31) - (1 : Int32)) dy).bind fun u1 => (if u1.1 = 0 then some ((0 : Int32), u1.2) else (F_X10_number S N a0 (0 : Int32) ((gi u1.2 a0 31) - (1 : Int32)) u1.2).bind fun u3 => (if u3.1 = 0 then some ((0 : Int32), u3.2) else (if (nr 3 (gi u3.2 a0 28)) = 0 then (F_X10_friendsLine_68 S N) a0 (gi u1.2 a0 27) u3.2 else (if (gi u3.2 a0 27) = (gi u1.2 a0 27) then (F_X10_later S N a0 (2 : Int32) (gi u1.2 a0 20) u3.2).bind fun u5 => bd (si u5 a0 28 (0 : Int32)) fun dy7 => (F_X10_friendsLine_68 S N) a0 (gi u1.2 a0 27) dy7 else (F_X10_friendsLine_68 S N) a0 (gi u1.2 a0 27) u3.2))))) := rfl
noncomputable def F_X10_fullest_24 (S : ST) (N : Nat) : Nat → Nat → Int32 → Int32 → Int32 → Int32 → Int32 → DY → Option (Int32 × DY) := fun k => Nat.rec (motive := fun _ => Nat → Int32 → Int32 → Int32 → Int32 → Int32 → DY → Option (Int32 × DY)) (fun _ _ _ _ _ _ _ => none) (fun _ ih x0 x1 x2 x3 x4 x5 dy => if ib x1 12 then (if (gi dy (gr S x0 8) x1.toNatClampNeg) < x5 then some ((-1 : Int32), dy) else (F_X10_lay S N x0 (4 : Int32) x1 x2 x3 x5 (-1 : Int32) dy).bind fun u2 => (F_X10_tryOn S N x0 x4 u2).bind fun u4 => if ib (2886 : Int32) 10080 then (if x5 ≤ (gi u4 (gr S x0 39) (2886 : Int32).toNatClampNeg) then ih x0 x1 x2 x3 x4 (x5 + (1 : Int32)) u4 else some (x5, u4)) else none) else none) k
theorem F_X10_fullest_24_s (S : ST) (N : Nat) (k : Nat) (x0 : Nat) (x1 : Int32) (x2 : Int32) (x3 : Int32) (x4 : Int32) (x5 : Int32) (dy : DY) : F_X10_fullest_24 S N (k + 1) x0 x1 x2 x3 x4 x5 dy = (if ib x1 12 then (if (gi dy (gr S x0 8) x1.toNatClampNeg) < x5 then some ((-1 : Int32), dy) else (F_X10_lay S N x0 (4 : Int32) x1 x2 x3 x5 (-1 : Int32) dy).bind fun u2 => (F_X10_tryOn S N x0 x4 u2).bind fun u4 => if ib (2886 : Int32) 10080 then (if x5 ≤ (gi u4 (gr S x0 39) (2886 : Int32).toNatClampNeg) then (F_X10_fullest_24 S N k) x0 x1 x2 x3 x4 (x5 + (1 : Int32)) u4 else some (x5, u4)) else none) else none) := rfl
noncomputable def F_X10_fullest (S : ST) (N : Nat) (a0 : Nat) (a1 : Int32) (a2 : Int32) (a3 : Int32) (a4 : Int32) (dy : DY) : Option (Int32 × DY) := bd (si dy a0 0 (0 : Int32)) fun dy1 => (F_X10_isTried S N a0 a1 a2 a4 (200 : Int32) dy1).bind fun u2 => (if u2.1 = 0 then some ((-1 : Int32), u2.2) else (F_X10_fullest_24 S N N) a0 a1 a2 a3 a4 (1 : Int32) u2.2)
theorem F_X10_fullest_s (S : ST) (N : Nat) (a0 : Nat) (a1 : Int32) (a2 : Int32) (a3 : Int32) (a4 : Int32) (dy : DY) : F_X10_fullest S N a0 a1 a2 a3 a4 dy = (bd (si dy a0 0 (0 : Int32)) fun dy1 => (F_X10_isTried S N a0 a1 a2 a4 (200 : Int32) dy1).bind fun u2 => (if u2.1 = 0 then some ((-1 : Int32), u2.2) else (F_X10_fullest_24 S N N) a0 a1 a2 a3 a4 (1 : Int32) u2.2)) := rfl
noncomputable def F_X10_go_37 (S : ST) (N : Nat) : Nat → Nat → Int32 → Int32 → Int32 → DY → Option (Int32 × DY) := fun k => Nat.rec (motive := fun _ => Nat → Int32 → Int32 → Int32 → DY → Option (Int32 × DY)) (fun _ _ _ _ _ => none) (fun _ ih x0 x1 x2 x3 dy => (if x1 ≤ x3 then some (x2, dy) else (F_X10_step S N x0 (0 : Int32) dy).bind fun u1 => ih x0 x1 (x2 + u1.1) (x3 + (1 : Int32)) u1.2)) k
theorem F_X10_go_37_s (S : ST) (N : Nat) (k : Nat) (x0 : Nat) (x1 : Int32) (x2 : Int32) (x3 : Int32) (dy : DY) : F_X10_go_37 S N (k + 1) x0 x1 x2 x3 dy = (if x1 ≤ x3 then some (x2, dy) else (F_X10_step S N x0 (0 : Int32) dy).bind fun u1 => (F_X10_go_37 S N k) x0 x1 (x2 + u1.1) (x3 + (1 : Int32)) u1.2) := rfl
noncomputable def F_X10_go (S : ST) (N : Nat) (a0 : Nat) (a1 : Int32) (dy : DY) : Option (Int32 × DY) := bd (si dy a0 0 (0 : Int32)) fun dy1 => if ib (10 : Int32) 10080 then (if (gi dy1 (gr S a0 39) (10 : Int32).toNatClampNeg) = 0 then some ((-1 : Int32), dy1) else (F_X10_in S N a1 (0 : Int32) (200 : Int32) dy1).bind fun u3 => (if u3.1 = 0 then some ((-1 : Int32), u3.2) else bd (si u3.2 a0 45 (0 : Int32)) fun dy5 => (F_X10_go_37 S N N) a0 a1 (0 : Int32) (0 : Int32) dy5)) else none
theorem F_X10_go_s (S : ST) (N : Nat) (a0 : Nat) (a1 : Int32) (dy : DY) : F_X10_go S N a0 a1 dy = (bd (si dy a0 0 (0 : Int32)) fun dy1 => if ib (10 : Int32) 10080 then (if (gi dy1 (gr S a0 39) (10 : Int32).toNatClampNeg) = 0 then some ((-1 : Int32), dy1) else (F_X10_in S N a1 (0 : Int32) (200 : Int32) dy1).bind fun u3 => (if u3.1 = 0 then some ((-1 : Int32), u3.2) else bd (si u3.2 a0 45 (0 : Int32)) fun dy5 => (F_X10_go_37 S N N) a0 a1 (0 : Int32) (0 : Int32) dy5)) else none) := rfl
noncomputable def F_X10_habit_98 (S : ST) (N : Nat) (K75 : Nat → Int32 → Int32 → Int32 → Int32 → Int32 → Int32 → Int32 → DY → Option (Int64 × DY)) (x0 : Nat) (x1 : Int32) (x2 : Int32) (x3 : Int32) (x4 : Int32) (x5 : Int32) (x6 : Int32) (x7 : Int32) (y0 : Nat) (y1 : Int32) (y2 : Int64) (dy : DY) : Option (Int64 × DY) := if ib y1 18 then bd (sl dy y0 y1.toNatClampNeg y2) fun dy1 => K75 x0 x1 x2 x3 x4 x5 x6 (x7 + (1 : Int32)) dy1 else none
theorem F_X10_habit_98_s (S : ST) (N : Nat) (K75 : Nat → Int32 → Int32 → Int32 → Int32 → Int32 → Int32 → Int32 → DY → Option (Int64 × DY)) (x0 : Nat) (x1 : Int32) (x2 : Int32) (x3 : Int32) (x4 : Int32) (x5 : Int32) (x6 : Int32) (x7 : Int32) (y0 : Nat) (y1 : Int32) (y2 : Int64) (dy : DY) : F_X10_habit_98 S N K75 x0 x1 x2 x3 x4 x5 x6 x7 y0 y1 y2 dy = (if ib y1 18 then bd (sl dy y0 y1.toNatClampNeg y2) fun dy1 => K75 x0 x1 x2 x3 x4 x5 x6 (x7 + (1 : Int32)) dy1 else none) := rfl
noncomputable def F_X10_habit_275 (S : ST) (N : Nat) (K118 : Nat → Int32 → Int32 → Int32 → Int32 → Int32 → Int64 → Int32 → DY → Option (Int64 × DY)) : Nat → Nat → Int32 → Int32 → Int32 → Int32 → Int32 → Int64 → Int32 → Int32 → DY → Option (Int64 × DY) := fun k => Nat.rec (motive := fun _ => Nat → Int32 → Int32 → Int32 → Int32 → Int32 → Int64 → Int32 → Int32 → DY → Option (Int64 × DY)) (fun _ _ _ _ _ _ _ _ _ _ => none) (fun _ ih x0 x1 x3 x4 x5 x6 x7 x9 x10 dy => (if x1 < x10 then K118 x0 x1 x3 x4 x5 x6 x7 (x9 + (1 : Int32)) dy else if ib ((9 : Int32) + x10) 18 then if ib x10 18 then bd (sl dy (gr S x0 59) x10.toNatClampNeg (gl dy (gr S x0 59) ((9 : Int32) + x10).toNatClampNeg)) fun dy3 => ih x0 x1 x3 x4 x5 x6 x7 x9 (x10 + (1 : Int32)) dy3 else none else none)) k
theorem F_X10_habit_275_s (S : ST) (N : Nat) (K118 : Nat → Int32 → Int32 → Int32 → Int32 → Int32 → Int64 → Int32 → DY → Option (Int64 × DY)) (k : Nat) (x0 : Nat) (x1 : Int32) (x3 : Int32) (x4 : Int32) (x5 : Int32) (x6 : Int32) (x7 : Int64) (x9 : Int32) (x10 : Int32) (dy : DY) : F_X10_habit_275 S N K118 (k + 1) x0 x1 x3 x4 x5 x6 x7 x9 x10 dy = (if x1 < x10 then K118 x0 x1 x3 x4 x5 x6 x7 (x9 + (1 : Int32)) dy else if ib ((9 : Int32) + x10) 18 then if ib x10 18 then bd (sl dy (gr S x0 59) x10.toNatClampNeg (gl dy (gr S x0 59) ((9 : Int32) + x10).toNatClampNeg)) fun dy3 => (F_X10_habit_275 S N K118 k) x0 x1 x3 x4 x5 x6 x7 x9 (x10 + (1 : Int32)) dy3 else none else none) := rfl
noncomputable def F_X10_habit_154 (S : ST) (N : Nat) (K118 : Nat → Int32 → Int32 → Int32 → Int32 → Int32 → Int64 → Int32 → DY → Option (Int64 × DY)) : Nat → Nat → Int32 → Int32 → Int32 → Int32 → Int32 → Int64 → Int32 → Int32 → DY → Option (Int64 × DY) := fun k => Nat.rec (motive := fun _ => Nat → Int32 → Int32 → Int32 → Int32 → Int32 → Int64 → Int32 → Int32 → DY → Option (Int64 × DY)) (fun _ _ _ _ _ _ _ _ _ _ => none) (fun _ ih x0 x1 x3 x4 x5 x6 x7 x9 x10 dy => (if x1 < x10 then (F_X10_habit_275 S N K118 N) x0 x1 x3 x4 x5 x6 x7 x9 (0 : Int32) dy else if ib ((9 : Int32) + x10) 18 then if ib x10 18 then if ib ((9 : Int32) + x10) 18 then bd (sl dy (gr S x0 59) ((9 : Int32) + x10).toNatClampNeg ((gl dy (gr S x0 59) ((9 : Int32) + x10).toNatClampNeg) + ((gl dy (gr S x0 59) x10.toNatClampNeg) * (((12 : Int64) * x7) - (((x10 * (x1 - x10))).toInt64 * ((x3 + x4)).toInt64))))) fun dy3 => (if (lg_cmp ((x10 * (x1 - x10))).toInt64 (0 : Int64)) ≤ 0 then ih x0 x1 x3 x4 x5 x6 x7 x9 (x10 + (1 : Int32)) dy3 else if ib ((10 : Int32) + x10) 18 then if ib x10 18 then if ib ((10 : Int32) + x10) 18 then bd (sl dy3 (gr S x0 59) ((10 : Int32) + x10).toNatClampNeg ((gl dy3 (gr S x0 59) ((10 : Int32) + x10).toNatClampNeg) + (((gl dy3 (gr S x0 59) x10.toNatClampNeg) * ((x10 * (x1 - x10))).toInt64) * (x3).toInt64))) fun dy6 => if ib ((8 : Int32) + x10) 18 then if ib x10 18 then if ib ((8 : Int32) + x10) 18 then bd (sl dy6 (gr S x0 59) ((8 : Int32) + x10).toNatClampNeg ((gl dy6 (gr S x0 59) ((8 : Int32) + x10).toNatClampNeg) + (((gl dy6 (gr S x0 59) x10.toNatClampNeg) * ((x10 * (x1 - x10))).toInt64) * (x4).toInt64))) fun dy9 => ih x0 x1 x3 x4 x5 x6 x7 x9 (x10 + (1 : Int32)) dy9 else none else none else none else none else none else none) else none else none else none)) k
theorem F_X10_habit_154_s (S : ST) (N : Nat) (K118 : Nat → Int32 → Int32 → Int32 → Int32 → Int32 → Int64 → Int32 → DY → Option (Int64 × DY)) (k : Nat) (x0 : Nat) (x1 : Int32) (x3 : Int32) (x4 : Int32) (x5 : Int32) (x6 : Int32) (x7 : Int64) (x9 : Int32) (x10 : Int32) (dy : DY) : F_X10_habit_154 S N K118 (k + 1) x0 x1 x3 x4 x5 x6 x7 x9 x10 dy = (if x1 < x10 then (F_X10_habit_275 S N K118 N) x0 x1 x3 x4 x5 x6 x7 x9 (0 : Int32) dy else if ib ((9 : Int32) + x10) 18 then if ib x10 18 then if ib ((9 : Int32) + x10) 18 then bd (sl dy (gr S x0 59) ((9 : Int32) + x10).toNatClampNeg ((gl dy (gr S x0 59) ((9 : Int32) + x10).toNatClampNeg) + ((gl dy (gr S x0 59) x10.toNatClampNeg) * (((12 : Int64) * x7) - (((x10 * (x1 - x10))).toInt64 * ((x3 + x4)).toInt64))))) fun dy3 => (if (lg_cmp ((x10 * (x1 - x10))).toInt64 (0 : Int64)) ≤ 0 then (F_X10_habit_154 S N K118 k) x0 x1 x3 x4 x5 x6 x7 x9 (x10 + (1 : Int32)) dy3 else if ib ((10 : Int32) + x10) 18 then if ib x10 18 then if ib ((10 : Int32) + x10) 18 then bd (sl dy3 (gr S x0 59) ((10 : Int32) + x10).toNatClampNeg ((gl dy3 (gr S x0 59) ((10 : Int32) + x10).toNatClampNeg) + (((gl dy3 (gr S x0 59) x10.toNatClampNeg) * ((x10 * (x1 - x10))).toInt64) * (x3).toInt64))) fun dy6 => if ib ((8 : Int32) + x10) 18 then if ib x10 18 then if ib ((8 : Int32) + x10) 18 then bd (sl dy6 (gr S x0 59) ((8 : Int32) + x10).toNatClampNeg ((gl dy6 (gr S x0 59) ((8 : Int32) + x10).toNatClampNeg) + (((gl dy6 (gr S x0 59) x10.toNatClampNeg) * ((x10 * (x1 - x10))).toInt64) * (x4).toInt64))) fun dy9 => (F_X10_habit_154 S N K118 k) x0 x1 x3 x4 x5 x6 x7 x9 (x10 + (1 : Int32)) dy9 else none else none else none else none else none else none) else none else none else none) := rfl
noncomputable def F_X10_habit_128 (S : ST) (N : Nat) (K118 : Nat → Int32 → Int32 → Int32 → Int32 → Int32 → Int64 → Int32 → DY → Option (Int64 × DY)) : Nat → Nat → Int32 → Int32 → Int32 → Int32 → Int32 → Int64 → Int32 → Int32 → DY → Option (Int64 × DY) := fun k => Nat.rec (motive := fun _ => Nat → Int32 → Int32 → Int32 → Int32 → Int32 → Int64 → Int32 → Int32 → DY → Option (Int64 × DY)) (fun _ _ _ _ _ _ _ _ _ _ => none) (fun _ ih x0 x1 x3 x4 x5 x6 x7 x9 x10 dy => (if x1 < x10 then (F_X10_habit_154 S N K118 N) x0 x1 x3 x4 x5 x6 x7 x9 (0 : Int32) dy else if ib ((9 : Int32) + x10) 18 then bd (sl dy (gr S x0 59) ((9 : Int32) + x10).toNatClampNeg (0 : Int64)) fun dy2 => ih x0 x1 x3 x4 x5 x6 x7 x9 (x10 + (1 : Int32)) dy2 else none)) k
theorem F_X10_habit_128_s (S : ST) (N : Nat) (K118 : Nat → Int32 → Int32 → Int32 → Int32 → Int32 → Int64 → Int32 → DY → Option (Int64 × DY)) (k : Nat) (x0 : Nat) (x1 : Int32) (x3 : Int32) (x4 : Int32) (x5 : Int32) (x6 : Int32) (x7 : Int64) (x9 : Int32) (x10 : Int32) (dy : DY) : F_X10_habit_128 S N K118 (k + 1) x0 x1 x3 x4 x5 x6 x7 x9 x10 dy = (if x1 < x10 then (F_X10_habit_154 S N K118 N) x0 x1 x3 x4 x5 x6 x7 x9 (0 : Int32) dy else if ib ((9 : Int32) + x10) 18 then bd (sl dy (gr S x0 59) ((9 : Int32) + x10).toNatClampNeg (0 : Int64)) fun dy2 => (F_X10_habit_128 S N K118 k) x0 x1 x3 x4 x5 x6 x7 x9 (x10 + (1 : Int32)) dy2 else none) := rfl
noncomputable def F_X10_habit_118 (S : ST) (N : Nat) : Nat → Nat → Int32 → Int32 → Int32 → Int32 → Int32 → Int64 → Int32 → DY → Option (Int64 × DY) := fun k => Nat.rec (motive := fun _ => Nat → Int32 → Int32 → Int32 → Int32 → Int32 → Int64 → Int32 → DY → Option (Int64 × DY)) (fun _ _ _ _ _ _ _ _ _ => none) (fun _ ih x0 x1 x3 x4 x5 x6 x7 x9 dy => (if x5 ≤ x9 then if ib x6 18 then some ((gl dy (gr S x0 59) x6.toNatClampNeg), dy) else none else (F_X10_habit_128 S N ih N) x0 x1 x3 x4 x5 x6 x7 x9 (0 : Int32) dy)) k
theorem F_X10_habit_118_s (S : ST) (N : Nat) (k : Nat) (x0 : Nat) (x1 : Int32) (x3 : Int32) (x4 : Int32) (x5 : Int32) (x6 : Int32) (x7 : Int64) (x9 : Int32) (dy : DY) : F_X10_habit_118 S N (k + 1) x0 x1 x3 x4 x5 x6 x7 x9 dy = (if x5 ≤ x9 then if ib x6 18 then some ((gl dy (gr S x0 59) x6.toNatClampNeg), dy) else none else (F_X10_habit_128 S N (F_X10_habit_118 S N k) N) x0 x1 x3 x4 x5 x6 x7 x9 (0 : Int32) dy) := rfl
noncomputable def F_X10_habit_75 (S : ST) (N : Nat) : Nat → Nat → Int32 → Int32 → Int32 → Int32 → Int32 → Int32 → Int32 → DY → Option (Int64 × DY) := fun k => Nat.rec (motive := fun _ => Nat → Int32 → Int32 → Int32 → Int32 → Int32 → Int32 → Int32 → DY → Option (Int64 × DY)) (fun _ _ _ _ _ _ _ _ _ => none) (fun _ ih x0 x1 x2 x3 x4 x5 x6 x7 dy => (if x1 < x7 then if (2 : Int32) = 0 then none else (F_X10_habit_118 S N N) x0 x1 x3 x4 x5 x6 ((((x1 * (x1 - (1 : Int32))) / (2 : Int32))).toInt64) (0 : Int32) dy else (if x7 = x2 then (F_X10_habit_98 S N ih) x0 x1 x2 x3 x4 x5 x6 x7 (gr S x0 59) x7 (1 : Int64) dy else (F_X10_habit_98 S N ih) x0 x1 x2 x3 x4 x5 x6 x7 (gr S x0 59) x7 (0 : Int64) dy))) k
theorem F_X10_habit_75_s (S : ST) (N : Nat) (k : Nat) (x0 : Nat) (x1 : Int32) (x2 : Int32) (x3 : Int32) (x4 : Int32) (x5 : Int32) (x6 : Int32) (x7 : Int32) (dy : DY) : F_X10_habit_75 S N (k + 1) x0 x1 x2 x3 x4 x5 x6 x7 dy = (if x1 < x7 then if (2 : Int32) = 0 then none else (F_X10_habit_118 S N N) x0 x1 x3 x4 x5 x6 ((((x1 * (x1 - (1 : Int32))) / (2 : Int32))).toInt64) (0 : Int32) dy else (if x7 = x2 then (F_X10_habit_98 S N (F_X10_habit_75 S N k)) x0 x1 x2 x3 x4 x5 x6 x7 (gr S x0 59) x7 (1 : Int64) dy else (F_X10_habit_98 S N (F_X10_habit_75 S N k)) x0 x1 x2 x3 x4 x5 x6 x7 (gr S x0 59) x7 (0 : Int64) dy)) := rfl
noncomputable def F_X10_habit (S : ST) (N : Nat) (a0 : Nat) (a1 : Int32) (a2 : Int32) (a3 : Int32) (a4 : Int32) (a5 : Int32) (a6 : Int32) (dy : DY) : Option (Int64 × DY) := bd (si dy a0 0 (0 : Int32)) fun dy1 => (F_X10_in S N a1 (2 : Int32) (8 : Int32) dy1).bind fun u2 => (if u2.1 = 0 then some ((-1 : Int64), u2.2) else (F_X10_in S N a2 (0 : Int32) a1 u2.2).bind fun u4 => (if u4.1 = 0 then some ((-1 : Int64), u4.2) else (F_X10_in S N a3 (0 : Int32) (12 : Int32) u4.2).bind fun u6 => (if u6.1 = 0 then some ((-1 : Int64), u6.2) else (F_X10_in S N a4 (0 : Int32) ((12 : Int32) - a3) u6.2).bind fun u8 => (if u8.1 = 0 then some ((-1 : Int64), u8.2) else (F_X10_in S N a5 (0 : Int32) (6 : Int32) u8.2).bind fun u10 => (if u10.1 = 0 then some ((-1 : Int64), u10.2) else (F_X10_in S N a6 (0 : Int32) a1 u10.2).bind fun u12 => (if u12.1 = 0 then some ((-1 : Int64), u12.2) else (F_X10_habit_75 S N N) a0 a1 a2 a3 a4 a5 a6 (0 : Int32) u12.2))))))
theorem F_X10_habit_s (S : ST) (N : Nat) (a0 : Nat) (a1 : Int32) (a2 : Int32) (a3 : Int32) (a4 : Int32) (a5 : Int32) (a6 : Int32) (dy : DY) : F_X10_habit S N a0 a1 a2 a3 a4 a5 a6 dy = (bd (si dy a0 0 (0 : Int32)) fun dy1 => (F_X10_in S N a1 (2 : Int32) (8 : Int32) dy1).bind fun u2 => (if u2.1 = 0 then some ((-1 : Int64), u2.2) else (F_X10_in S N a2 (0 : Int32) a1 u2.2).bind fun u4 => (if u4.1 = 0 then some ((-1 : Int64), u4.2) else (F_X10_in S N a3 (0 : Int32) (12 : Int32) u4.2).bind fun u6 => (if u6.1 = 0 then some ((-1 : Int64), u6.2) else (F_X10_in S N a4 (0 : Int32) ((12 : Int32) - a3) u6.2).bind fun u8 => (if u8.1 = 0 then some ((-1 : Int64), u8.2) else (F_X10_in S N a5 (0 : Int32) (6 : Int32) u8.2).bind fun u10 => (if u10.1 = 0 then some ((-1 : Int64), u10.2) else (F_X10_in S N a6 (0 : Int32) a1 u10.2).bind fun u12 => (if u12.1 = 0 then some ((-1 : Int64), u12.2) else (F_X10_habit_75 S N N) a0 a1 a2 a3 a4 a5 a6 (0 : Int32) u12.2))))))) := rfl
noncomputable def F_X10_handLine_77 (S : ST) (N : Nat) (K78 : Nat → DY → Option (Int32 × DY)) (x0 : Nat) (y0 : Nat) (y1 : Int32) (y2 : Int32) (dy : DY) : Option (Int32 × DY) := if ib y1 104 then bd (si dy y0 y1.toNatClampNeg y2) fun dy1 => K78 x0 dy1 else none
theorem F_X10_handLine_77_s (S : ST) (N : Nat) (K78 : Nat → DY → Option (Int32 × DY)) (x0 : Nat) (y0 : Nat) (y1 : Int32) (y2 : Int32) (dy : DY) : F_X10_handLine_77 S N K78 x0 y0 y1 y2 dy = (if ib y1 104 then bd (si dy y0 y1.toNatClampNeg y2) fun dy1 => K78 x0 dy1 else none) := rfl
noncomputable def F_X10_handLine_78 (S : ST) (N : Nat) (x0 : Nat) (dy : DY) : Option (Int32 × DY) := (F_X10_token S N x0 dy).bind fun u1 => some ((1 : Int32), u1)
theorem F_X10_handLine_78_s (S : ST) (N : Nat) (x0 : Nat) (dy : DY) : F_X10_handLine_78 S N x0 dy = ((F_X10_token S N x0 dy).bind fun u1 => some ((1 : Int32), u1)) := rfl
noncomputable def F_X10_handLine_41 (S : ST) (N : Nat) (x0 : Nat) (dy : DY) : Option (Int32 × DY) := (if (nr 3 (gi dy x0 28)) = 0 then (F_X10_handLine_78 S N) x0 dy else (F_X10_isWord S N x0 (491394656372 : Int64) dy).bind fun u2 => (if u2.1 = 0 then (F_X10_handLine_77 S N (F_X10_handLine_78 S N)) x0 (gr S x0 34) (((8 : Int32) * (gi dy x0 27)) + (6 : Int32)) (2 : Int32) u2.2 else (F_X10_handLine_77 S N (F_X10_handLine_78 S N)) x0 (gr S x0 34) (((8 : Int32) * (gi dy x0 27)) + (6 : Int32)) (1 : Int32) u2.2))
theorem F_X10_handLine_41_s (S : ST) (N : Nat) (x0 : Nat) (dy : DY) : F_X10_handLine_41 S N x0 dy = (if (nr 3 (gi dy x0 28)) = 0 then (F_X10_handLine_78 S N) x0 dy else (F_X10_isWord S N x0 (491394656372 : Int64) dy).bind fun u2 => (if u2.1 = 0 then (F_X10_handLine_77 S N (F_X10_handLine_78 S N)) x0 (gr S x0 34) (((8 : Int32) * (gi dy x0 27)) + (6 : Int32)) (2 : Int32) u2.2 else (F_X10_handLine_77 S N (F_X10_handLine_78 S N)) x0 (gr S x0 34) (((8 : Int32) * (gi dy x0 27)) + (6 : Int32)) (1 : Int32) u2.2)) := rfl
noncomputable def F_X10_handLine (S : ST) (N : Nat) (a0 : Nat) (dy : DY) : Option (Int32 × DY) := (F_X10_number S N a0 (0 : Int32) ((gi dy a0 31) - (1 : Int32)) dy).bind fun u1 => (if u1.1 = 0 then some ((0 : Int32), u1.2) else (F_X10_isWord S N a0 (491394656372 : Int64) u1.2).bind fun u3 => (if u3.1 = 0 then (F_X10_isWord S N a0 (1818584692 : Int64) u3.2).bind fun u5 => (if u5.1 = 0 then (F_X10_stops S N a0 u5.2).bind fun u7 => if zb u7.1 then some (u7.1, u7.2) else none else (F_X10_handLine_41 S N) a0 u5.2) else (F_X10_handLine_41 S N) a0 u3.2))
theorem F_X10_handLine_s (S : ST) (N : Nat) (a0 : Nat) (dy : DY) : F_X10_handLine S N a0 dy = ((F_X10_number S N a0 (0 : Int32) ((gi dy a0 31) - (1 : Int32)) dy).bind fun u1 => (if u1.1 = 0 then some ((0 : Int32), u1.2) else (F_X10_isWord S N a0 (491394656372 : Int64) u1.2).bind fun u3 => (if u3.1 = 0 then (F_X10_isWord S N a0 (1818584692 : Int64) u3.2).bind fun u5 => (if u5.1 = 0 then (F_X10_stops S N a0 u5.2).bind fun u7 => if zb u7.1 then some (u7.1, u7.2) else none else (F_X10_handLine_41 S N) a0 u5.2) else (F_X10_handLine_41 S N) a0 u3.2))) := rfl
noncomputable def F_X10_hat (S : ST) (N : Nat) (a0 : Nat) (a1 : Int32) (a2 : Int32) (a3 : Int32) (dy : DY) : Option (Int32 × DY) := bd (si dy a0 0 (0 : Int32)) fun dy1 => (F_X10_in S N a1 (0 : Int32) (7 : Int32) dy1).bind fun u2 => (if u2.1 = 0 then some ((-1 : Int32), u2.2) else (F_X10_in S N a2 (0 : Int32) (99 : Int32) u2.2).bind fun u4 => (if u4.1 = 0 then some ((-1 : Int32), u4.2) else (F_X10_in S N a3 (0 : Int32) (99 : Int32) u4.2).bind fun u6 => (if u6.1 = 0 then some ((-1 : Int32), u6.2) else if ib a1 32 then (if (gi u6.2 (gr S a0 15) a1.toNatClampNeg) = (6 : Int32) then some ((-1 : Int32), u6.2) else if ib a1 32 then if ib (((6 : Int32) * a1) + (gi u6.2 (gr S a0 15) a1.toNatClampNeg)) 192 then bd (si u6.2 (gr S a0 16) (((6 : Int32) * a1) + (gi u6.2 (gr S a0 15) a1.toNatClampNeg)).toNatClampNeg a2) fun dy11 => if ib (((6 : Int32) * a1) + (gi u6.2 (gr S a0 15) a1.toNatClampNeg)) 192 then bd (si dy11 (gr S a0 17) (((6 : Int32) * a1) + (gi u6.2 (gr S a0 15) a1.toNatClampNeg)).toNatClampNeg a3) fun dy13 => if ib a1 32 then if ib a1 32 then bd (si dy13 (gr S a0 15) a1.toNatClampNeg ((gi dy13 (gr S a0 15) a1.toNatClampNeg) + (1 : Int32))) fun dy15 => if ib a1 32 then some (((gi dy15 (gr S a0 15) a1.toNatClampNeg) - (1 : Int32)), dy15) else none else none else none else none else none else none) else none)))
theorem F_X10_hat_s (S : ST) (N : Nat) (a0 : Nat) (a1 : Int32) (a2 : Int32) (a3 : Int32) (dy : DY) : F_X10_hat S N a0 a1 a2 a3 dy = (bd (si dy a0 0 (0 : Int32)) fun dy1 => (F_X10_in S N a1 (0 : Int32) (7 : Int32) dy1).bind fun u2 => (if u2.1 = 0 then some ((-1 : Int32), u2.2) else (F_X10_in S N a2 (0 : Int32) (99 : Int32) u2.2).bind fun u4 => (if u4.1 = 0 then some ((-1 : Int32), u4.2) else (F_X10_in S N a3 (0 : Int32) (99 : Int32) u4.2).bind fun u6 => (if u6.1 = 0 then some ((-1 : Int32), u6.2) else if ib a1 32 then (if (gi u6.2 (gr S a0 15) a1.toNatClampNeg) = (6 : Int32) then some ((-1 : Int32), u6.2) else if ib a1 32 then if ib (((6 : Int32) * a1) + (gi u6.2 (gr S a0 15) a1.toNatClampNeg)) 192 then bd (si u6.2 (gr S a0 16) (((6 : Int32) * a1) + (gi u6.2 (gr S a0 15) a1.toNatClampNeg)).toNatClampNeg a2) fun dy11 => if ib (((6 : Int32) * a1) + (gi u6.2 (gr S a0 15) a1.toNatClampNeg)) 192 then bd (si dy11 (gr S a0 17) (((6 : Int32) * a1) + (gi u6.2 (gr S a0 15) a1.toNatClampNeg)).toNatClampNeg a3) fun dy13 => if ib a1 32 then if ib a1 32 then bd (si dy13 (gr S a0 15) a1.toNatClampNeg ((gi dy13 (gr S a0 15) a1.toNatClampNeg) + (1 : Int32))) fun dy15 => if ib a1 32 then some (((gi dy15 (gr S a0 15) a1.toNatClampNeg) - (1 : Int32)), dy15) else none else none else none else none else none else none) else none)))) := rfl
noncomputable def F_X10_image (S : ST) (N : Nat) (a0 : Nat) (a1 : Int32) (dy : DY) : Option (Int32 × DY) := bd (si dy a0 0 (0 : Int32)) fun dy1 => (F_X10_in S N a1 (0 : Int32) (2 : Int32) dy1).bind fun u2 => (if u2.1 = 0 then some ((0 : Int32), u2.2) else (F_X10_copy S N a0 (0 : Int32) (a1 + (1 : Int32)) u2.2).bind fun u4 => if ib a1 3 then bd (si u4 (gr S a0 60) a1.toNatClampNeg (1 : Int32)) fun dy7 => some ((1 : Int32), dy7) else none)
theorem F_X10_image_s (S : ST) (N : Nat) (a0 : Nat) (a1 : Int32) (dy : DY) : F_X10_image S N a0 a1 dy = (bd (si dy a0 0 (0 : Int32)) fun dy1 => (F_X10_in S N a1 (0 : Int32) (2 : Int32) dy1).bind fun u2 => (if u2.1 = 0 then some ((0 : Int32), u2.2) else (F_X10_copy S N a0 (0 : Int32) (a1 + (1 : Int32)) u2.2).bind fun u4 => if ib a1 3 then bd (si u4 (gr S a0 60) a1.toNatClampNeg (1 : Int32)) fun dy7 => some ((1 : Int32), dy7) else none)) := rfl
noncomputable def F_X10_isFreeAtFirst_29 (S : ST) (N : Nat) : Nat → Nat → Int32 → Int32 → Int32 → Int32 → Int32 → DY → Option (Int32 × DY) := fun k => Nat.rec (motive := fun _ => Nat → Int32 → Int32 → Int32 → Int32 → Int32 → DY → Option (Int32 × DY)) (fun _ _ _ _ _ _ _ => none) (fun _ ih x0 x1 x2 x3 x4 x5 dy => if ib x1 12 then (if (gi dy (gr S x0 8) x1.toNatClampNeg) ≤ x5 then if zb x4 then some (x4, dy) else none else (if x4 = 0 then ih x0 x1 x2 x3 (0 : Int32) (x5 + (1 : Int32)) dy else if ib ((8 : Int32) * (((12 : Int32) * x1) + x5)) 1152 then (if (gi dy (gr S x0 11) ((8 : Int32) * (((12 : Int32) * x1) + x5)).toNatClampNeg) = x2 then if ib (((8 : Int32) * (((12 : Int32) * x1) + x5)) + (1 : Int32)) 1152 then (if (gi dy (gr S x0 11) (((8 : Int32) * (((12 : Int32) * x1) + x5)) + (1 : Int32)).toNatClampNeg) = x3 then ih x0 x1 x2 x3 (0 : Int32) (x5 + (1 : Int32)) dy else ih x0 x1 x2 x3 (1 : Int32) (x5 + (1 : Int32)) dy) else none else ih x0 x1 x2 x3 (1 : Int32) (x5 + (1 : Int32)) dy) else none)) else none) k
theorem F_X10_isFreeAtFirst_29_s (S : ST) (N : Nat) (k : Nat) (x0 : Nat) (x1 : Int32) (x2 : Int32) (x3 : Int32) (x4 : Int32) (x5 : Int32) (dy : DY) : F_X10_isFreeAtFirst_29 S N (k + 1) x0 x1 x2 x3 x4 x5 dy = (if ib x1 12 then (if (gi dy (gr S x0 8) x1.toNatClampNeg) ≤ x5 then if zb x4 then some (x4, dy) else none else (if x4 = 0 then (F_X10_isFreeAtFirst_29 S N k) x0 x1 x2 x3 (0 : Int32) (x5 + (1 : Int32)) dy else if ib ((8 : Int32) * (((12 : Int32) * x1) + x5)) 1152 then (if (gi dy (gr S x0 11) ((8 : Int32) * (((12 : Int32) * x1) + x5)).toNatClampNeg) = x2 then if ib (((8 : Int32) * (((12 : Int32) * x1) + x5)) + (1 : Int32)) 1152 then (if (gi dy (gr S x0 11) (((8 : Int32) * (((12 : Int32) * x1) + x5)) + (1 : Int32)).toNatClampNeg) = x3 then (F_X10_isFreeAtFirst_29 S N k) x0 x1 x2 x3 (0 : Int32) (x5 + (1 : Int32)) dy else (F_X10_isFreeAtFirst_29 S N k) x0 x1 x2 x3 (1 : Int32) (x5 + (1 : Int32)) dy) else none else (F_X10_isFreeAtFirst_29 S N k) x0 x1 x2 x3 (1 : Int32) (x5 + (1 : Int32)) dy) else none)) else none) := rfl
noncomputable def F_X10_isFreeAtFirst (S : ST) (N : Nat) (a0 : Nat) (a1 : Int32) (a2 : Int32) (a3 : Int32) (dy : DY) : Option (Int32 × DY) := if ib ((((96 : Int32) * a1) + ((6 : Int32) * a2)) + a3) 1152 then (if (gi dy (gr S a0 10) ((((96 : Int32) * a1) + ((6 : Int32) * a2)) + a3).toNatClampNeg) = 0 then (F_X10_isFreeAtFirst_29 S N N) a0 a1 a2 a3 (1 : Int32) (0 : Int32) dy else (F_X10_isFreeAtFirst_29 S N N) a0 a1 a2 a3 (0 : Int32) (0 : Int32) dy) else none
theorem F_X10_isFreeAtFirst_s (S : ST) (N : Nat) (a0 : Nat) (a1 : Int32) (a2 : Int32) (a3 : Int32) (dy : DY) : F_X10_isFreeAtFirst S N a0 a1 a2 a3 dy = (if ib ((((96 : Int32) * a1) + ((6 : Int32) * a2)) + a3) 1152 then (if (gi dy (gr S a0 10) ((((96 : Int32) * a1) + ((6 : Int32) * a2)) + a3).toNatClampNeg) = 0 then (F_X10_isFreeAtFirst_29 S N N) a0 a1 a2 a3 (1 : Int32) (0 : Int32) dy else (F_X10_isFreeAtFirst_29 S N N) a0 a1 a2 a3 (0 : Int32) (0 : Int32) dy) else none) := rfl
noncomputable def F_X10_isGood_49 (S : ST) (N : Nat) (x0 : Nat) (y0 : Nat) (y1 : Int32) (y2 : Int32) (dy : DY) : Option (Int32 × DY) := if ib y1 4 then bd (si dy y0 y1.toNatClampNeg y2) fun dy1 => if ib (0 : Int32) 4 then (if (gi dy1 (gr S x0 3) (0 : Int32).toNatClampNeg) = 0 then some ((1 : Int32), dy1) else some ((0 : Int32), dy1)) else none else none
theorem F_X10_isGood_49_s (S : ST) (N : Nat) (x0 : Nat) (y0 : Nat) (y1 : Int32) (y2 : Int32) (dy : DY) : F_X10_isGood_49 S N x0 y0 y1 y2 dy = (if ib y1 4 then bd (si dy y0 y1.toNatClampNeg y2) fun dy1 => if ib (0 : Int32) 4 then (if (gi dy1 (gr S x0 3) (0 : Int32).toNatClampNeg) = 0 then some ((1 : Int32), dy1) else some ((0 : Int32), dy1)) else none else none) := rfl
noncomputable def F_X10_isGood_17 (S : ST) (N : Nat) (x0 : Nat) (x1 : Int32) (y0 : Nat) (y1 : Int32) (y2 : Int32) (dy : DY) : Option (Int32 × DY) := if ib y1 4 then bd (si dy y0 y1.toNatClampNeg y2) fun dy1 => (if x1 = 0 then (F_X10_isGood_49 S N) x0 (gr S x0 4) (0 : Int32) (gi dy1 x0 24) dy1 else (if (gi dy1 x0 25) ≤ 0 then (F_X10_isGood_49 S N) x0 (gr S x0 4) (0 : Int32) (-1 : Int32) dy1 else (F_X10_isGood_49 S N) x0 (gr S x0 4) (0 : Int32) (gi dy1 x0 26) dy1)) else none
theorem F_X10_isGood_17_s (S : ST) (N : Nat) (x0 : Nat) (x1 : Int32) (y0 : Nat) (y1 : Int32) (y2 : Int32) (dy : DY) : F_X10_isGood_17 S N x0 x1 y0 y1 y2 dy = (if ib y1 4 then bd (si dy y0 y1.toNatClampNeg y2) fun dy1 => (if x1 = 0 then (F_X10_isGood_49 S N) x0 (gr S x0 4) (0 : Int32) (gi dy1 x0 24) dy1 else (if (gi dy1 x0 25) ≤ 0 then (F_X10_isGood_49 S N) x0 (gr S x0 4) (0 : Int32) (-1 : Int32) dy1 else (F_X10_isGood_49 S N) x0 (gr S x0 4) (0 : Int32) (gi dy1 x0 26) dy1)) else none) := rfl
noncomputable def F_X10_isGood (S : ST) (N : Nat) (a0 : Nat) (a1 : Int32) (dy : DY) : Option (Int32 × DY) := (if a1 = 0 then (F_X10_isGood_17 S N) a0 a1 (gr S a0 3) (0 : Int32) (1 : Int32) dy else (F_X10_isGood_17 S N) a0 a1 (gr S a0 3) (0 : Int32) (gi dy a0 25) dy)
theorem F_X10_isGood_s (S : ST) (N : Nat) (a0 : Nat) (a1 : Int32) (dy : DY) : F_X10_isGood S N a0 a1 dy = (if a1 = 0 then (F_X10_isGood_17 S N) a0 a1 (gr S a0 3) (0 : Int32) (1 : Int32) dy else (F_X10_isGood_17 S N) a0 a1 (gr S a0 3) (0 : Int32) (gi dy a0 25) dy) := rfl
noncomputable def F_X10_isMatch (S : ST) (N : Nat) (a0 : Int32) (a1 : Int32) (dy : DY) : Option (Int32 × DY) := (F_X10_in S N a0 (0 : Int32) (6 : Int32) dy).bind fun u1 => (if u1.1 = 0 then some ((0 : Int32), u1.2) else (F_X10_in S N a1 (0 : Int32) (99 : Int32) u1.2).bind fun u3 => (if u3.1 = 0 then some ((0 : Int32), u3.2) else some ((1 : Int32), u3.2)))
theorem F_X10_isMatch_s (S : ST) (N : Nat) (a0 : Int32) (a1 : Int32) (dy : DY) : F_X10_isMatch S N a0 a1 dy = ((F_X10_in S N a0 (0 : Int32) (6 : Int32) dy).bind fun u1 => (if u1.1 = 0 then some ((0 : Int32), u1.2) else (F_X10_in S N a1 (0 : Int32) (99 : Int32) u1.2).bind fun u3 => (if u3.1 = 0 then some ((0 : Int32), u3.2) else some ((1 : Int32), u3.2)))) := rfl
noncomputable def F_X10_isSignOf (S : ST) (N : Nat) (a0 : Nat) (a1 : Int32) (dy : DY) : Option (Int32 × DY) := (if (gi dy a0 21) = (4 : Int32) then (if (gi dy a0 22) = a1 then some ((1 : Int32), dy) else some ((0 : Int32), dy)) else some ((0 : Int32), dy))
theorem F_X10_isSignOf_s (S : ST) (N : Nat) (a0 : Nat) (a1 : Int32) (dy : DY) : F_X10_isSignOf S N a0 a1 dy = (if (gi dy a0 21) = (4 : Int32) then (if (gi dy a0 22) = a1 then some ((1 : Int32), dy) else some ((0 : Int32), dy)) else some ((0 : Int32), dy)) := rfl
noncomputable def F_X10_isTaken_2 (S : ST) (N : Nat) : Nat → Nat → Int32 → Int32 → DY → Option (Int32 × DY) := fun k => Nat.rec (motive := fun _ => Nat → Int32 → Int32 → DY → Option (Int32 × DY)) (fun _ _ _ _ => none) (fun _ ih x0 x1 x2 dy => (if (gi dy x0 31) ≤ x2 then if ib x1 96 then (if (gi dy (gr S x0 33) x1.toNatClampNeg) = (1 : Int32) then some ((1 : Int32), dy) else some ((0 : Int32), dy)) else none else if ib ((8 : Int32) * x2) 104 then if ib (((8 : Int32) * x2) + (1 : Int32)) 104 then (if (((6 : Int32) * (gi dy (gr S x0 34) ((8 : Int32) * x2).toNatClampNeg)) + (gi dy (gr S x0 34) (((8 : Int32) * x2) + (1 : Int32)).toNatClampNeg)) = x1 then some ((1 : Int32), dy) else ih x0 x1 (x2 + (1 : Int32)) dy) else none else none)) k
theorem F_X10_isTaken_2_s (S : ST) (N : Nat) (k : Nat) (x0 : Nat) (x1 : Int32) (x2 : Int32) (dy : DY) : F_X10_isTaken_2 S N (k + 1) x0 x1 x2 dy = (if (gi dy x0 31) ≤ x2 then if ib x1 96 then (if (gi dy (gr S x0 33) x1.toNatClampNeg) = (1 : Int32) then some ((1 : Int32), dy) else some ((0 : Int32), dy)) else none else if ib ((8 : Int32) * x2) 104 then if ib (((8 : Int32) * x2) + (1 : Int32)) 104 then (if (((6 : Int32) * (gi dy (gr S x0 34) ((8 : Int32) * x2).toNatClampNeg)) + (gi dy (gr S x0 34) (((8 : Int32) * x2) + (1 : Int32)).toNatClampNeg)) = x1 then some ((1 : Int32), dy) else (F_X10_isTaken_2 S N k) x0 x1 (x2 + (1 : Int32)) dy) else none else none) := rfl
noncomputable def F_X10_isTaken (S : ST) (N : Nat) (a0 : Nat) (a1 : Int32) (dy : DY) : Option (Int32 × DY) := (F_X10_isTaken_2 S N N) a0 a1 (0 : Int32) dy
theorem F_X10_isTaken_s (S : ST) (N : Nat) (a0 : Nat) (a1 : Int32) (dy : DY) : F_X10_isTaken S N a0 a1 dy = ((F_X10_isTaken_2 S N N) a0 a1 (0 : Int32) dy) := rfl
noncomputable def F_X10_waysOn_4 (S : ST) (N : Nat) : Nat → Nat → Int32 → Int32 → Int32 → DY → Option (Int32 × DY) := fun k => Nat.rec (motive := fun _ => Nat → Int32 → Int32 → Int32 → DY → Option (Int32 × DY)) (fun _ _ _ _ _ => none) (fun _ ih x0 x1 x2 x3 dy => if ib (2 : Int32) 10080 then (if (gi dy (gr S x0 39) (2 : Int32).toNatClampNeg) ≤ x3 then some (x2, dy) else (F_X10_at S N (0 : Int32) x3 dy).bind fun u2 => if ib u2.1 10080 then (if (gi u2.2 (gr S x0 39) u2.1.toNatClampNeg) = (-1 : Int32) then ih x0 x1 (x2 ||| (0 : Int32)) (x3 + (1 : Int32)) u2.2 else if ib (u2.1 + (4 : Int32)) 10080 then (if (gi u2.2 (gr S x0 39) (u2.1 + (4 : Int32)).toNatClampNeg) = x1 then if ib (u2.1 + (8 : Int32)) 10080 then (if (gi u2.2 (gr S x0 39) (u2.1 + (8 : Int32)).toNatClampNeg) = (1 : Int32) then ih x0 x1 (x2 ||| (1 : Int32)) (x3 + (1 : Int32)) u2.2 else ih x0 x1 (x2 ||| (2 : Int32)) (x3 + (1 : Int32)) u2.2) else none else ih x0 x1 (x2 ||| (0 : Int32)) (x3 + (1 : Int32)) u2.2) else none) else none) else none) k
theorem F_X10_waysOn_4_s (S : ST) (N : Nat) (k : Nat) (x0 : Nat) (x1 : Int32) (x2 : Int32) (x3 : Int32) (dy : DY) : F_X10_waysOn_4 S N (k + 1) x0 x1 x2 x3 dy = (if ib (2 : Int32) 10080 then (if (gi dy (gr S x0 39) (2 : Int32).toNatClampNeg) ≤ x3 then some (x2, dy) else (F_X10_at S N (0 : Int32) x3 dy).bind fun u2 => if ib u2.1 10080 then (if (gi u2.2 (gr S x0 39) u2.1.toNatClampNeg) = (-1 : Int32) then (F_X10_waysOn_4 S N k) x0 x1 (x2 ||| (0 : Int32)) (x3 + (1 : Int32)) u2.2 else if ib (u2.1 + (4 : Int32)) 10080 then (if (gi u2.2 (gr S x0 39) (u2.1 + (4 : Int32)).toNatClampNeg) = x1 then if ib (u2.1 + (8 : Int32)) 10080 then (if (gi u2.2 (gr S x0 39) (u2.1 + (8 : Int32)).toNatClampNeg) = (1 : Int32) then (F_X10_waysOn_4 S N k) x0 x1 (x2 ||| (1 : Int32)) (x3 + (1 : Int32)) u2.2 else (F_X10_waysOn_4 S N k) x0 x1 (x2 ||| (2 : Int32)) (x3 + (1 : Int32)) u2.2) else none else (F_X10_waysOn_4 S N k) x0 x1 (x2 ||| (0 : Int32)) (x3 + (1 : Int32)) u2.2) else none) else none) else none) := rfl
noncomputable def F_X10_waysOn (S : ST) (N : Nat) (a0 : Nat) (a1 : Int32) (dy : DY) : Option (Int32 × DY) := (F_X10_waysOn_4 S N N) a0 a1 (0 : Int32) (0 : Int32) dy
theorem F_X10_waysOn_s (S : ST) (N : Nat) (a0 : Nat) (a1 : Int32) (dy : DY) : F_X10_waysOn S N a0 a1 dy = ((F_X10_waysOn_4 S N N) a0 a1 (0 : Int32) (0 : Int32) dy) := rfl
noncomputable def F_X10_lanes_55 (S : ST) (N : Nat) (K10 : Nat → Int32 → Int32 → Int32 → Int32 → Int32 → DY → Option (Int32 × DY)) (x0 : Nat) (x1 : Int32) (x2 : Int32) (x3 : Int32) (x4 : Int32) (x5 : Int32) (x6 : Int32) (dy : DY) : Option (Int32 × DY) := (if x6 = x4 then K10 x0 x1 (x2 + (0 : Int32)) x3 x6 (x5 + (1 : Int32)) dy else K10 x0 x1 (x2 + (1 : Int32)) x3 x6 (x5 + (1 : Int32)) dy)
theorem F_X10_lanes_55_s (S : ST) (N : Nat) (K10 : Nat → Int32 → Int32 → Int32 → Int32 → Int32 → DY → Option (Int32 × DY)) (x0 : Nat) (x1 : Int32) (x2 : Int32) (x3 : Int32) (x4 : Int32) (x5 : Int32) (x6 : Int32) (dy : DY) : F_X10_lanes_55 S N K10 x0 x1 x2 x3 x4 x5 x6 dy = (if x6 = x4 then K10 x0 x1 (x2 + (0 : Int32)) x3 x6 (x5 + (1 : Int32)) dy else K10 x0 x1 (x2 + (1 : Int32)) x3 x6 (x5 + (1 : Int32)) dy) := rfl
noncomputable def F_X10_lanes_41 (S : ST) (N : Nat) (K10 : Nat → Int32 → Int32 → Int32 → Int32 → Int32 → DY → Option (Int32 × DY)) (x0 : Nat) (x1 : Int32) (x2 : Int32) (x4 : Int32) (x5 : Int32) (x6 : Int32) (y0 : Int32) (y1 : Int32) (dy : DY) : Option (Int32 × DY) := (if x6 = (1 : Int32) then (F_X10_lanes_55 S N K10) x0 x1 x2 (y0 + y1) x4 x5 x6 dy else (if x6 = (2 : Int32) then (F_X10_lanes_55 S N K10) x0 x1 x2 (y0 + y1) x4 x5 x6 dy else K10 x0 x1 x2 (y0 + y1) x4 (x5 + (1 : Int32)) dy))
theorem F_X10_lanes_41_s (S : ST) (N : Nat) (K10 : Nat → Int32 → Int32 → Int32 → Int32 → Int32 → DY → Option (Int32 × DY)) (x0 : Nat) (x1 : Int32) (x2 : Int32) (x4 : Int32) (x5 : Int32) (x6 : Int32) (y0 : Int32) (y1 : Int32) (dy : DY) : F_X10_lanes_41 S N K10 x0 x1 x2 x4 x5 x6 y0 y1 dy = (if x6 = (1 : Int32) then (F_X10_lanes_55 S N K10) x0 x1 x2 (y0 + y1) x4 x5 x6 dy else (if x6 = (2 : Int32) then (F_X10_lanes_55 S N K10) x0 x1 x2 (y0 + y1) x4 x5 x6 dy else K10 x0 x1 x2 (y0 + y1) x4 (x5 + (1 : Int32)) dy)) := rfl
noncomputable def F_X10_lanes_10 (S : ST) (N : Nat) : Nat → Nat → Int32 → Int32 → Int32 → Int32 → Int32 → DY → Option (Int32 × DY) := fun k => Nat.rec (motive := fun _ => Nat → Int32 → Int32 → Int32 → Int32 → Int32 → DY → Option (Int32 × DY)) (fun _ _ _ _ _ _ _ => none) (fun _ ih x0 x1 x2 x3 x4 x5 dy => if ib (1 : Int32) 10080 then (if (gi dy (gr S x0 39) (1 : Int32).toNatClampNeg) ≤ x5 then (if x1 = 0 then some (x2, dy) else some (x3, dy)) else (F_X10_waysOn S N x0 x5 dy).bind fun u2 => (if u2.1 = (3 : Int32) then (F_X10_lanes_41 S N ih) x0 x1 x2 x4 x5 u2.1 x3 (1 : Int32) u2.2 else (F_X10_lanes_41 S N ih) x0 x1 x2 x4 x5 u2.1 x3 (0 : Int32) u2.2)) else none) k
theorem F_X10_lanes_10_s (S : ST) (N : Nat) (k : Nat) (x0 : Nat) (x1 : Int32) (x2 : Int32) (x3 : Int32) (x4 : Int32) (x5 : Int32) (dy : DY) : F_X10_lanes_10 S N (k + 1) x0 x1 x2 x3 x4 x5 dy = (if ib (1 : Int32) 10080 then (if (gi dy (gr S x0 39) (1 : Int32).toNatClampNeg) ≤ x5 then (if x1 = 0 then some (x2, dy) else some (x3, dy)) else (F_X10_waysOn S N x0 x5 dy).bind fun u2 => (if u2.1 = (3 : Int32) then (F_X10_lanes_41 S N (F_X10_lanes_10 S N k)) x0 x1 x2 x4 x5 u2.1 x3 (1 : Int32) u2.2 else (F_X10_lanes_41 S N (F_X10_lanes_10 S N k)) x0 x1 x2 x4 x5 u2.1 x3 (0 : Int32) u2.2)) else none) := rfl
noncomputable def F_X10_lanes (S : ST) (N : Nat) (a0 : Nat) (a1 : Int32) (dy : DY) : Option (Int32 × DY) := (F_X10_lanes_10 S N N) a0 a1 (0 : Int32) (0 : Int32) (0 : Int32) (0 : Int32) dy
theorem F_X10_lanes_s (S : ST) (N : Nat) (a0 : Nat) (a1 : Int32) (dy : DY) : F_X10_lanes S N a0 a1 dy = ((F_X10_lanes_10 S N N) a0 a1 (0 : Int32) (0 : Int32) (0 : Int32) (0 : Int32) dy) := rfl
noncomputable def F_X10_passes (S : ST) (N : Nat) (a0 : Nat) (dy : DY) : Option (Int32 × DY) := (F_X10_isSignOf S N a0 (59 : Int32) dy).bind fun u1 => (if u1.1 = 0 then (F_X10_stops S N a0 u1.2).bind fun u5 => if zb u5.1 then some (u5.1, u5.2) else none else (F_X10_token S N a0 u1.2).bind fun u3 => some ((1 : Int32), u3))
theorem F_X10_passes_s (S : ST) (N : Nat) (a0 : Nat) (dy : DY) : F_X10_passes S N a0 dy = ((F_X10_isSignOf S N a0 (59 : Int32) dy).bind fun u1 => (if u1.1 = 0 then (F_X10_stops S N a0 u1.2).bind fun u5 => if zb u5.1 then some (u5.1, u5.2) else none else (F_X10_token S N a0 u1.2).bind fun u3 => some ((1 : Int32), u3))) := rfl
noncomputable def F_X10_testOf (S : ST) (N : Nat) (a0 : Nat) (dy : DY) : Option (Int32 × DY) := (F_X10_isWord S N a0 (418363302244 : Int64) dy).bind fun u1 => (if u1.1 = 0 then (F_X10_isWord S N a0 (1936682862 : Int64) u1.2).bind fun u3 => (if u3.1 = 0 then (F_X10_isWord S N a0 (1852137842 : Int64) u3.2).bind fun u5 => (if u5.1 = 0 then (F_X10_isWord S N a0 (491394656372 : Int64) u5.2).bind fun u7 => (if u7.1 = 0 then (F_X10_isWord S N a0 (1818584692 : Int64) u7.2).bind fun u9 => (if u9.1 = 0 then (F_X10_isWord S N a0 (131260264768868 : Int64) u9.2).bind fun u11 => (if u11.1 = 0 then (F_X10_isWord S N a0 (448311555173 : Int64) u11.2).bind fun u13 => (if u13.1 = 0 then (F_X10_isWord S N a0 (427121669988 : Int64) u13.2).bind fun u15 => (if u15.1 = 0 then (F_X10_isWord S N a0 (27703773382796644 : Int64) u15.2).bind fun u17 => (if u17.1 = 0 then (F_X10_isWord S N a0 (112568465714791 : Int64) u17.2).bind fun u19 => (if u19.1 = 0 then (F_X10_isWord S N a0 (123563834369380 : Int64) u19.2).bind fun u21 => (if u21.1 = 0 then some ((-1 : Int32), u21.2) else some ((10 : Int32), u21.2)) else some ((9 : Int32), u19.2)) else some ((8 : Int32), u17.2)) else some ((7 : Int32), u15.2)) else some ((6 : Int32), u13.2)) else some ((5 : Int32), u11.2)) else some ((4 : Int32), u9.2)) else some ((3 : Int32), u7.2)) else some ((2 : Int32), u5.2)) else some ((1 : Int32), u3.2)) else some ((0 : Int32), u1.2))
theorem F_X10_testOf_s (S : ST) (N : Nat) (a0 : Nat) (dy : DY) : F_X10_testOf S N a0 dy = ((F_X10_isWord S N a0 (418363302244 : Int64) dy).bind fun u1 => (if u1.1 = 0 then (F_X10_isWord S N a0 (1936682862 : Int64) u1.2).bind fun u3 => (if u3.1 = 0 then (F_X10_isWord S N a0 (1852137842 : Int64) u3.2).bind fun u5 => (if u5.1 = 0 then (F_X10_isWord S N a0 (491394656372 : Int64) u5.2).bind fun u7 => (if u7.1 = 0 then (F_X10_isWord S N a0 (1818584692 : Int64) u7.2).bind fun u9 => (if u9.1 = 0 then (F_X10_isWord S N a0 (131260264768868 : Int64) u9.2).bind fun u11 => (if u11.1 = 0 then (F_X10_isWord S N a0 (448311555173 : Int64) u11.2).bind fun u13 => (if u13.1 = 0 then (F_X10_isWord S N a0 (427121669988 : Int64) u13.2).bind fun u15 => (if u15.1 = 0 then (F_X10_isWord S N a0 (27703773382796644 : Int64) u15.2).bind fun u17 => (if u17.1 = 0 then (F_X10_isWord S N a0 (112568465714791 : Int64) u17.2).bind fun u19 => (if u19.1 = 0 then (F_X10_isWord S N a0 (123563834369380 : Int64) u19.2).bind fun u21 => (if u21.1 = 0 then some ((-1 : Int32), u21.2) else some ((10 : Int32), u21.2)) else some ((9 : Int32), u19.2)) else some ((8 : Int32), u17.2)) else some ((7 : Int32), u15.2)) else some ((6 : Int32), u13.2)) else some ((5 : Int32), u11.2)) else some ((4 : Int32), u9.2)) else some ((3 : Int32), u7.2)) else some ((2 : Int32), u5.2)) else some ((1 : Int32), u3.2)) else some ((0 : Int32), u1.2))) := rfl
noncomputable def F_X10_test_189 (S : ST) (N : Nat) (x0 : Nat) (x1 : Int32) (dy : DY) : Option (Int32 × DY) := if ib (x1 + (1 : Int32)) 306 then bd (si dy (gr S x0 38) (x1 + (1 : Int32)).toNatClampNeg (gi dy x0 22)) fun dy2 => (F_X10_token S N x0 dy2).bind fun u3 => (if (gi u3 x0 21) = (3 : Int32) then if ib (x1 + (2 : Int32)) 306 then bd (si u3 (gr S x0 38) (x1 + (2 : Int32)).toNatClampNeg (gi u3 x0 22)) fun dy6 => (F_X10_token S N x0 dy6).bind fun u7 => some ((1 : Int32), u7) else none else (F_X10_stops S N x0 u3).bind fun u9 => if zb u9.1 then some (u9.1, u9.2) else none) else none
theorem F_X10_test_189_s (S : ST) (N : Nat) (x0 : Nat) (x1 : Int32) (dy : DY) : F_X10_test_189 S N x0 x1 dy = (if ib (x1 + (1 : Int32)) 306 then bd (si dy (gr S x0 38) (x1 + (1 : Int32)).toNatClampNeg (gi dy x0 22)) fun dy2 => (F_X10_token S N x0 dy2).bind fun u3 => (if (gi u3 x0 21) = (3 : Int32) then if ib (x1 + (2 : Int32)) 306 then bd (si u3 (gr S x0 38) (x1 + (2 : Int32)).toNatClampNeg (gi u3 x0 22)) fun dy6 => (F_X10_token S N x0 dy6).bind fun u7 => some ((1 : Int32), u7) else none else (F_X10_stops S N x0 u3).bind fun u9 => if zb u9.1 then some (u9.1, u9.2) else none) else none) := rfl
noncomputable def F_X10_test_141 (S : ST) (N : Nat) (x0 : Nat) (x1 : Int32) (x2 : Int32) (y0 : Nat) (y1 : Int32) (y2 : Int32) (dy : DY) : Option (Int32 × DY) := bd (si dy y0 37 (y1 + y2)) fun dy1 => (F_X10_token S N x0 dy1).bind fun u2 => (if x2 < (8 : Int32) then (F_X10_isSignOf S N x0 (60 : Int32) u2).bind fun u4 => (if u4.1 = 0 then (F_X10_isSignOf S N x0 (62 : Int32) u4.2).bind fun u6 => (if u6.1 = 0 then (F_X10_isSignOf S N x0 (61 : Int32) u6.2).bind fun u8 => (if u8.1 = 0 then (F_X10_stops S N x0 u8.2).bind fun u10 => if zb u10.1 then some (u10.1, u10.2) else none else (F_X10_test_189 S N) x0 x1 u8.2) else (F_X10_test_189 S N) x0 x1 u6.2) else (F_X10_test_189 S N) x0 x1 u4.2) else some ((1 : Int32), u2))
theorem F_X10_test_141_s (S : ST) (N : Nat) (x0 : Nat) (x1 : Int32) (x2 : Int32) (y0 : Nat) (y1 : Int32) (y2 : Int32) (dy : DY) : F_X10_test_141 S N x0 x1 x2 y0 y1 y2 dy = (bd (si dy y0 37 (y1 + y2)) fun dy1 => (F_X10_token S N x0 dy1).bind fun u2 => (if x2 < (8 : Int32) then (F_X10_isSignOf S N x0 (60 : Int32) u2).bind fun u4 => (if u4.1 = 0 then (F_X10_isSignOf S N x0 (62 : Int32) u4.2).bind fun u6 => (if u6.1 = 0 then (F_X10_isSignOf S N x0 (61 : Int32) u6.2).bind fun u8 => (if u8.1 = 0 then (F_X10_stops S N x0 u8.2).bind fun u10 => if zb u10.1 then some (u10.1, u10.2) else none else (F_X10_test_189 S N) x0 x1 u8.2) else (F_X10_test_189 S N) x0 x1 u6.2) else (F_X10_test_189 S N) x0 x1 u4.2) else some ((1 : Int32), u2))) := rfl
noncomputable def F_X10_test_83 (S : ST) (N : Nat) (x0 : Nat) (x1 : Int32) (dy : DY) : Option (Int32 × DY) := (F_X10_testOf S N x0 dy).bind fun u1 => (if u1.1 = (-1 : Int32) then (F_X10_stops S N x0 u1.2).bind fun u9 => if zb u9.1 then some (u9.1, u9.2) else none else if ib x1 306 then bd (si u1.2 (gr S x0 38) x1.toNatClampNeg u1.1) fun dy4 => if ib (x1 + (1 : Int32)) 306 then bd (si dy4 (gr S x0 38) (x1 + (1 : Int32)).toNatClampNeg (0 : Int32)) fun dy6 => if ib (x1 + (2 : Int32)) 306 then bd (si dy6 (gr S x0 38) (x1 + (2 : Int32)).toNatClampNeg (0 : Int32)) fun dy8 => (if (4 : Int32) ≤ (gi dy8 x0 37) then (F_X10_test_141 S N) x0 x1 u1.1 x0 (gi dy8 x0 37) (0 : Int32) dy8 else (F_X10_test_141 S N) x0 x1 u1.1 x0 (gi dy8 x0 37) (1 : Int32) dy8) else none else none else none)
theorem F_X10_test_83_s (S : ST) (N : Nat) (x0 : Nat) (x1 : Int32) (dy : DY) : F_X10_test_83 S N x0 x1 dy = ((F_X10_testOf S N x0 dy).bind fun u1 => (if u1.1 = (-1 : Int32) then (F_X10_stops S N x0 u1.2).bind fun u9 => if zb u9.1 then some (u9.1, u9.2) else none else if ib x1 306 then bd (si u1.2 (gr S x0 38) x1.toNatClampNeg u1.1) fun dy4 => if ib (x1 + (1 : Int32)) 306 then bd (si dy4 (gr S x0 38) (x1 + (1 : Int32)).toNatClampNeg (0 : Int32)) fun dy6 => if ib (x1 + (2 : Int32)) 306 then bd (si dy6 (gr S x0 38) (x1 + (2 : Int32)).toNatClampNeg (0 : Int32)) fun dy8 => (if (4 : Int32) ≤ (gi dy8 x0 37) then (F_X10_test_141 S N) x0 x1 u1.1 x0 (gi dy8 x0 37) (0 : Int32) dy8 else (F_X10_test_141 S N) x0 x1 u1.1 x0 (gi dy8 x0 37) (1 : Int32) dy8) else none else none else none)) := rfl
noncomputable def F_X10_test_68 (S : ST) (N : Nat) (x0 : Nat) (x1 : Int32) (y0 : Nat) (y1 : Int32) (y2 : Int32) (dy : DY) : Option (Int32 × DY) := if ib y1 306 then bd (si dy y0 y1.toNatClampNeg y2) fun dy1 => (F_X10_isWord S N x0 (7237492 : Int64) dy1).bind fun u2 => (if u2.1 = 0 then (F_X10_test_83 S N) x0 x1 u2.2 else (F_X10_token S N x0 u2.2).bind fun u4 => (F_X10_test_83 S N) x0 x1 u4) else none
theorem F_X10_test_68_s (S : ST) (N : Nat) (x0 : Nat) (x1 : Int32) (y0 : Nat) (y1 : Int32) (y2 : Int32) (dy : DY) : F_X10_test_68 S N x0 x1 y0 y1 y2 dy = (if ib y1 306 then bd (si dy y0 y1.toNatClampNeg y2) fun dy1 => (F_X10_isWord S N x0 (7237492 : Int64) dy1).bind fun u2 => (if u2.1 = 0 then (F_X10_test_83 S N) x0 x1 u2.2 else (F_X10_token S N x0 u2.2).bind fun u4 => (F_X10_test_83 S N) x0 x1 u4) else none) := rfl
noncomputable def F_X10_test_43 (S : ST) (N : Nat) (x0 : Nat) (y0 : Int32) (y1 : Int32) (y2 : Int32) (dy : DY) : Option (Int32 × DY) := (F_X10_isWord S N x0 (7237492 : Int64) dy).bind fun u2 => (if u2.1 = 0 then (F_X10_test_68 S N) x0 (y0 + (y1 * y2)) (gr S x0 38) ((y0 + (y1 * y2)) + (3 : Int32)) (0 : Int32) u2.2 else (F_X10_test_68 S N) x0 (y0 + (y1 * y2)) (gr S x0 38) ((y0 + (y1 * y2)) + (3 : Int32)) (1 : Int32) u2.2)
theorem F_X10_test_43_s (S : ST) (N : Nat) (x0 : Nat) (y0 : Int32) (y1 : Int32) (y2 : Int32) (dy : DY) : F_X10_test_43 S N x0 y0 y1 y2 dy = ((F_X10_isWord S N x0 (7237492 : Int64) dy).bind fun u2 => (if u2.1 = 0 then (F_X10_test_68 S N) x0 (y0 + (y1 * y2)) (gr S x0 38) ((y0 + (y1 * y2)) + (3 : Int32)) (0 : Int32) u2.2 else (F_X10_test_68 S N) x0 (y0 + (y1 * y2)) (gr S x0 38) ((y0 + (y1 * y2)) + (3 : Int32)) (1 : Int32) u2.2)) := rfl
noncomputable def F_X10_test_17 (S : ST) (N : Nat) (x0 : Nat) (dy : DY) : Option (Int32 × DY) := (if (4 : Int32) ≤ (gi dy x0 37) then (F_X10_test_43 S N) x0 (((18 : Int32) * (gi dy x0 36)) + (2 : Int32)) (4 : Int32) (3 : Int32) dy else (F_X10_test_43 S N) x0 (((18 : Int32) * (gi dy x0 36)) + (2 : Int32)) (4 : Int32) (gi dy x0 37) dy)
theorem F_X10_test_17_s (S : ST) (N : Nat) (x0 : Nat) (dy : DY) : F_X10_test_17 S N x0 dy = (if (4 : Int32) ≤ (gi dy x0 37) then (F_X10_test_43 S N) x0 (((18 : Int32) * (gi dy x0 36)) + (2 : Int32)) (4 : Int32) (3 : Int32) dy else (F_X10_test_43 S N) x0 (((18 : Int32) * (gi dy x0 36)) + (2 : Int32)) (4 : Int32) (gi dy x0 37) dy) := rfl
noncomputable def F_X10_test (S : ST) (N : Nat) (a0 : Nat) (dy : DY) : Option (Int32 × DY) := (if (gi dy a0 37) = (4 : Int32) then (F_X10_later S N a0 (3 : Int32) (gi dy a0 20) dy).bind fun u1 => (F_X10_test_17 S N) a0 u1 else (F_X10_test_17 S N) a0 dy)
theorem F_X10_test_s (S : ST) (N : Nat) (a0 : Nat) (dy : DY) : F_X10_test S N a0 dy = (if (gi dy a0 37) = (4 : Int32) then (F_X10_later S N a0 (3 : Int32) (gi dy a0 20) dy).bind fun u1 => (F_X10_test_17 S N) a0 u1 else (F_X10_test_17 S N) a0 dy) := rfl
noncomputable def F_X10_ruleLine_35 (S : ST) (N : Nat) (K81 : Nat → DY → Option (Int32 × DY)) : Nat → Nat → Int32 → DY → Option (Int32 × DY) := fun k => Nat.rec (motive := fun _ => Nat → Int32 → DY → Option (Int32 × DY)) (fun _ _ _ => none) (fun _ ih x0 x1 dy => (if x1 = 0 then (F_X10_isSignOf S N x0 (58 : Int32) dy).bind fun u1 => (if u1.1 = 0 then (F_X10_stops S N x0 u1.2).bind fun u5 => if zb u5.1 then some (u5.1, u5.2) else none else (F_X10_token S N x0 u1.2).bind fun u3 => K81 x0 u3) else (F_X10_token S N x0 dy).bind fun u7 => (F_X10_test S N x0 u7).bind fun u9 => (if u9.1 = 0 then some ((0 : Int32), u9.2) else (F_X10_isWord S N x0 (6385252 : Int64) u9.2).bind fun u11 => ih x0 u11.1 u11.2))) k
theorem F_X10_ruleLine_35_s (S : ST) (N : Nat) (K81 : Nat → DY → Option (Int32 × DY)) (k : Nat) (x0 : Nat) (x1 : Int32) (dy : DY) : F_X10_ruleLine_35 S N K81 (k + 1) x0 x1 dy = (if x1 = 0 then (F_X10_isSignOf S N x0 (58 : Int32) dy).bind fun u1 => (if u1.1 = 0 then (F_X10_stops S N x0 u1.2).bind fun u5 => if zb u5.1 then some (u5.1, u5.2) else none else (F_X10_token S N x0 u1.2).bind fun u3 => K81 x0 u3) else (F_X10_token S N x0 dy).bind fun u7 => (F_X10_test S N x0 u7).bind fun u9 => (if u9.1 = 0 then some ((0 : Int32), u9.2) else (F_X10_isWord S N x0 (6385252 : Int64) u9.2).bind fun u11 => (F_X10_ruleLine_35 S N K81 k) x0 u11.1 u11.2)) := rfl
noncomputable def F_X10_ruleLine_147 (S : ST) (N : Nat) (x0 : Nat) (y0 : Nat) (y1 : Int32) (y2 : Int32) (dy : DY) : Option (Int32 × DY) := bd (si dy y0 36 (y1 + y2)) fun dy1 => (F_X10_token S N x0 dy1).bind fun u2 => (F_X10_passes S N x0 u2).bind fun u4 => if zb u4.1 then some (u4.1, u4.2) else none
theorem F_X10_ruleLine_147_s (S : ST) (N : Nat) (x0 : Nat) (y0 : Nat) (y1 : Int32) (y2 : Int32) (dy : DY) : F_X10_ruleLine_147 S N x0 y0 y1 y2 dy = (bd (si dy y0 36 (y1 + y2)) fun dy1 => (F_X10_token S N x0 dy1).bind fun u2 => (F_X10_passes S N x0 u2).bind fun u4 => if zb u4.1 then some (u4.1, u4.2) else none) := rfl
noncomputable def F_X10_ruleLine_81 (S : ST) (N : Nat) (x0 : Nat) (dy : DY) : Option (Int32 × DY) := (F_X10_actOf S N x0 dy).bind fun u1 => (if u1.1 = (-1 : Int32) then (F_X10_stops S N x0 u1.2).bind fun u9 => if zb u9.1 then some (u9.1, u9.2) else none else (F_X10_actOf S N x0 u1.2).bind fun u4 => if ib ((18 : Int32) * (gi u1.2 x0 36)) 306 then bd (si u4.2 (gr S x0 38) ((18 : Int32) * (gi u1.2 x0 36)).toNatClampNeg u4.1) fun dy6 => if ib (((18 : Int32) * (gi dy6 x0 36)) + (1 : Int32)) 306 then bd (si dy6 (gr S x0 38) (((18 : Int32) * (gi dy6 x0 36)) + (1 : Int32)).toNatClampNeg (gi dy6 x0 37)) fun dy8 => (if (16 : Int32) ≤ (gi dy8 x0 36) then (F_X10_ruleLine_147 S N) x0 x0 (gi dy8 x0 36) (0 : Int32) dy8 else (F_X10_ruleLine_147 S N) x0 x0 (gi dy8 x0 36) (1 : Int32) dy8) else none else none)
theorem F_X10_ruleLine_81_s (S : ST) (N : Nat) (x0 : Nat) (dy : DY) : F_X10_ruleLine_81 S N x0 dy = ((F_X10_actOf S N x0 dy).bind fun u1 => (if u1.1 = (-1 : Int32) then (F_X10_stops S N x0 u1.2).bind fun u9 => if zb u9.1 then some (u9.1, u9.2) else none else (F_X10_actOf S N x0 u1.2).bind fun u4 => if ib ((18 : Int32) * (gi u1.2 x0 36)) 306 then bd (si u4.2 (gr S x0 38) ((18 : Int32) * (gi u1.2 x0 36)).toNatClampNeg u4.1) fun dy6 => if ib (((18 : Int32) * (gi dy6 x0 36)) + (1 : Int32)) 306 then bd (si dy6 (gr S x0 38) (((18 : Int32) * (gi dy6 x0 36)) + (1 : Int32)).toNatClampNeg (gi dy6 x0 37)) fun dy8 => (if (16 : Int32) ≤ (gi dy8 x0 36) then (F_X10_ruleLine_147 S N) x0 x0 (gi dy8 x0 36) (0 : Int32) dy8 else (F_X10_ruleLine_147 S N) x0 x0 (gi dy8 x0 36) (1 : Int32) dy8) else none else none)) := rfl
noncomputable def F_X10_ruleLine_18 (S : ST) (N : Nat) (x0 : Nat) (dy : DY) : Option (Int32 × DY) := bd (si dy x0 37 (0 : Int32)) fun dy1 => (F_X10_isWord S N x0 (26982 : Int64) dy1).bind fun u2 => (if u2.1 = 0 then (F_X10_ruleLine_81 S N) x0 u2.2 else (F_X10_ruleLine_35 S N (F_X10_ruleLine_81 S N) N) x0 (1 : Int32) u2.2)
theorem F_X10_ruleLine_18_s (S : ST) (N : Nat) (x0 : Nat) (dy : DY) : F_X10_ruleLine_18 S N x0 dy = (bd (si dy x0 37 (0 : Int32)) fun dy1 => (F_X10_isWord S N x0 (26982 : Int64) dy1).bind fun u2 => (if u2.1 = 0 then (F_X10_ruleLine_81 S N) x0 u2.2 else (F_X10_ruleLine_35 S N (F_X10_ruleLine_81 S N) N) x0 (1 : Int32) u2.2)) := rfl
noncomputable def F_X10_ruleLine (S : ST) (N : Nat) (a0 : Nat) (dy : DY) : Option (Int32 × DY) := (if (gi dy a0 36) = (16 : Int32) then (F_X10_later S N a0 (3 : Int32) (gi dy a0 20) dy).bind fun u1 => (F_X10_ruleLine_18 S N) a0 u1 else (F_X10_ruleLine_18 S N) a0 dy)
theorem F_X10_ruleLine_s (S : ST) (N : Nat) (a0 : Nat) (dy : DY) : F_X10_ruleLine S N a0 dy = (if (gi dy a0 36) = (16 : Int32) then (F_X10_later S N a0 (3 : Int32) (gi dy a0 20) dy).bind fun u1 => (F_X10_ruleLine_18 S N) a0 u1 else (F_X10_ruleLine_18 S N) a0 dy) := rfl
noncomputable def F_X10_takeTape (S : ST) (N : Nat) (a0 : Nat) (dy : DY) : Option DY := if ib (0 : Int32) 4 then bd (si dy a0 19 (gi dy (gr S a0 2) (0 : Int32).toNatClampNeg)) fun dy2 => if ib (0 : Int32) 4 then bd (si dy2 (gr S a0 2) (0 : Int32).toNatClampNeg (0 : Int32)) fun dy4 => if ib (0 : Int32) 4 then bd (si dy4 (gr S a0 3) (0 : Int32).toNatClampNeg (0 : Int32)) fun dy6 => if ib (0 : Int32) 4 then bd (si dy6 (gr S a0 4) (0 : Int32).toNatClampNeg (-1 : Int32)) fun dy8 => bd (si dy8 a0 18 (0 : Int32)) fun dy9 => bd (si dy9 a0 25 (0 : Int32)) fun dy10 => some dy10 else none else none else none else none
theorem F_X10_takeTape_s (S : ST) (N : Nat) (a0 : Nat) (dy : DY) : F_X10_takeTape S N a0 dy = (if ib (0 : Int32) 4 then bd (si dy a0 19 (gi dy (gr S a0 2) (0 : Int32).toNatClampNeg)) fun dy2 => if ib (0 : Int32) 4 then bd (si dy2 (gr S a0 2) (0 : Int32).toNatClampNeg (0 : Int32)) fun dy4 => if ib (0 : Int32) 4 then bd (si dy4 (gr S a0 3) (0 : Int32).toNatClampNeg (0 : Int32)) fun dy6 => if ib (0 : Int32) 4 then bd (si dy6 (gr S a0 4) (0 : Int32).toNatClampNeg (-1 : Int32)) fun dy8 => bd (si dy8 a0 18 (0 : Int32)) fun dy9 => bd (si dy9 a0 25 (0 : Int32)) fun dy10 => some dy10 else none else none else none else none) := rfl
noncomputable def F_X10_law_126 (S : ST) (N : Nat) : Nat → Nat → Int32 → Int32 → DY → Option (Int32 × DY) := fun k => Nat.rec (motive := fun _ => Nat → Int32 → Int32 → DY → Option (Int32 × DY)) (fun _ _ _ _ => none) (fun _ ih x0 x3 x4 dy => (if ((18 : Int32) * (gi dy x0 36)) ≤ x4 then some (x3, dy) else if ib x4 306 then if ib (((288 : Int32) * x3) + x4) 3456 then bd (si dy (gr S x0 14) (((288 : Int32) * x3) + x4).toNatClampNeg (gi dy (gr S x0 38) x4.toNatClampNeg)) fun dy3 => ih x0 x3 (x4 + (1 : Int32)) dy3 else none else none)) k
theorem F_X10_law_126_s (S : ST) (N : Nat) (k : Nat) (x0 : Nat) (x3 : Int32) (x4 : Int32) (dy : DY) : F_X10_law_126 S N (k + 1) x0 x3 x4 dy = (if ((18 : Int32) * (gi dy x0 36)) ≤ x4 then some (x3, dy) else if ib x4 306 then if ib (((288 : Int32) * x3) + x4) 3456 then bd (si dy (gr S x0 14) (((288 : Int32) * x3) + x4).toNatClampNeg (gi dy (gr S x0 38) x4.toNatClampNeg)) fun dy3 => (F_X10_law_126 S N k) x0 x3 (x4 + (1 : Int32)) dy3 else none else none) := rfl
noncomputable def F_X10_law_111 (S : ST) (N : Nat) (x0 : Nat) (x3 : Int32) (y0 : Nat) (y1 : Int32) (y2 : Int32) (y3 : Int32) (dy : DY) : Option (Int32 × DY) := if ib y1 4 then bd (si dy y0 y1.toNatClampNeg (y2 + y3)) fun dy1 => if ib x3 12 then bd (si dy1 (gr S x0 13) x3.toNatClampNeg (gi dy1 x0 36)) fun dy3 => (F_X10_law_126 S N N) x0 x3 (0 : Int32) dy3 else none else none
theorem F_X10_law_111_s (S : ST) (N : Nat) (x0 : Nat) (x3 : Int32) (y0 : Nat) (y1 : Int32) (y2 : Int32) (y3 : Int32) (dy : DY) : F_X10_law_111 S N x0 x3 y0 y1 y2 y3 dy = (if ib y1 4 then bd (si dy y0 y1.toNatClampNeg (y2 + y3)) fun dy1 => if ib x3 12 then bd (si dy1 (gr S x0 13) x3.toNatClampNeg (gi dy1 x0 36)) fun dy3 => (F_X10_law_126 S N N) x0 x3 (0 : Int32) dy3 else none else none) := rfl
noncomputable def F_X10_law_93 (S : ST) (N : Nat) (x0 : Nat) (x1 : Int32) (y0 : Int32) (dy : DY) : Option (Int32 × DY) := if ib (0 : Int32) 4 then (if x1 = (-1 : Int32) then (F_X10_law_111 S N) x0 y0 (gr S x0 12) (0 : Int32) (gi dy (gr S x0 12) (0 : Int32).toNatClampNeg) (1 : Int32) dy else (F_X10_law_111 S N) x0 y0 (gr S x0 12) (0 : Int32) (gi dy (gr S x0 12) (0 : Int32).toNatClampNeg) (0 : Int32) dy) else none
theorem F_X10_law_93_s (S : ST) (N : Nat) (x0 : Nat) (x1 : Int32) (y0 : Int32) (dy : DY) : F_X10_law_93 S N x0 x1 y0 dy = (if ib (0 : Int32) 4 then (if x1 = (-1 : Int32) then (F_X10_law_111 S N) x0 y0 (gr S x0 12) (0 : Int32) (gi dy (gr S x0 12) (0 : Int32).toNatClampNeg) (1 : Int32) dy else (F_X10_law_111 S N) x0 y0 (gr S x0 12) (0 : Int32) (gi dy (gr S x0 12) (0 : Int32).toNatClampNeg) (0 : Int32) dy) else none) := rfl
noncomputable def F_X10_law_68 (S : ST) (N : Nat) (x0 : Nat) (x1 : Int32) (x2 : Int32) (dy : DY) : Option (Int32 × DY) := (F_X10_isGood S N x0 x2 dy).bind fun u1 => (if u1.1 = 0 then some ((-1 : Int32), u1.2) else (if x1 = (-1 : Int32) then if ib (0 : Int32) 4 then (F_X10_law_93 S N) x0 x1 (gi u1.2 (gr S x0 12) (0 : Int32).toNatClampNeg) u1.2 else none else (F_X10_law_93 S N) x0 x1 x1 u1.2))
theorem F_X10_law_68_s (S : ST) (N : Nat) (x0 : Nat) (x1 : Int32) (x2 : Int32) (dy : DY) : F_X10_law_68 S N x0 x1 x2 dy = ((F_X10_isGood S N x0 x2 dy).bind fun u1 => (if u1.1 = 0 then some ((-1 : Int32), u1.2) else (if x1 = (-1 : Int32) then if ib (0 : Int32) 4 then (F_X10_law_93 S N) x0 x1 (gi u1.2 (gr S x0 12) (0 : Int32).toNatClampNeg) u1.2 else none else (F_X10_law_93 S N) x0 x1 x1 u1.2))) := rfl
noncomputable def F_X10_law_49 (S : ST) (N : Nat) : Nat → Nat → Int32 → Int32 → DY → Option (Int32 × DY) := fun k => Nat.rec (motive := fun _ => Nat → Int32 → Int32 → DY → Option (Int32 × DY)) (fun _ _ _ _ => none) (fun _ ih x0 x1 x2 dy => (if x2 = 0 then (F_X10_law_68 S N) x0 x1 x2 dy else (if (gi dy x0 21) = 0 then (F_X10_law_68 S N) x0 x1 x2 dy else (F_X10_ruleLine S N x0 dy).bind fun u1 => ih x0 x1 u1.1 u1.2))) k
theorem F_X10_law_49_s (S : ST) (N : Nat) (k : Nat) (x0 : Nat) (x1 : Int32) (x2 : Int32) (dy : DY) : F_X10_law_49 S N (k + 1) x0 x1 x2 dy = (if x2 = 0 then (F_X10_law_68 S N) x0 x1 x2 dy else (if (gi dy x0 21) = 0 then (F_X10_law_68 S N) x0 x1 x2 dy else (F_X10_ruleLine S N x0 dy).bind fun u1 => (F_X10_law_49 S N k) x0 x1 u1.1 u1.2)) := rfl
noncomputable def F_X10_law_38 (S : ST) (N : Nat) (x0 : Nat) (x1 : Int32) (dy : DY) : Option (Int32 × DY) := bd (si dy x0 36 (0 : Int32)) fun dy1 => (F_X10_token S N x0 dy1).bind fun u2 => (F_X10_law_49 S N N) x0 x1 (1 : Int32) u2
theorem F_X10_law_38_s (S : ST) (N : Nat) (x0 : Nat) (x1 : Int32) (dy : DY) : F_X10_law_38 S N x0 x1 dy = (bd (si dy x0 36 (0 : Int32)) fun dy1 => (F_X10_token S N x0 dy1).bind fun u2 => (F_X10_law_49 S N N) x0 x1 (1 : Int32) u2) := rfl
noncomputable def F_X10_law (S : ST) (N : Nat) (a0 : Nat) (a1 : Int32) (dy : DY) : Option (Int32 × DY) := bd (si dy a0 0 (0 : Int32)) fun dy1 => (F_X10_takeTape S N a0 dy1).bind fun u2 => (if a1 = (-1 : Int32) then if ib (0 : Int32) 4 then (if (gi u2 (gr S a0 12) (0 : Int32).toNatClampNeg) = (3 : Int32) then some ((-2 : Int32), u2) else (F_X10_law_38 S N) a0 a1 u2) else none else (F_X10_isLaw S N a0 a1 u2).bind fun u4 => (if u4.1 = 0 then some ((-2 : Int32), u4.2) else (F_X10_law_38 S N) a0 a1 u4.2))
theorem F_X10_law_s (S : ST) (N : Nat) (a0 : Nat) (a1 : Int32) (dy : DY) : F_X10_law S N a0 a1 dy = (bd (si dy a0 0 (0 : Int32)) fun dy1 => (F_X10_takeTape S N a0 dy1).bind fun u2 => (if a1 = (-1 : Int32) then if ib (0 : Int32) 4 then (if (gi u2 (gr S a0 12) (0 : Int32).toNatClampNeg) = (3 : Int32) then some ((-2 : Int32), u2) else (F_X10_law_38 S N) a0 a1 u2) else none else (F_X10_isLaw S N a0 a1 u2).bind fun u4 => (if u4.1 = 0 then some ((-2 : Int32), u4.2) else (F_X10_law_38 S N) a0 a1 u4.2))) := rfl
noncomputable def F_X10_match (S : ST) (N : Nat) (a0 : Nat) (a1 : Int32) (a2 : Int32) (a3 : Int32) (dy : DY) : Option (Int32 × DY) := bd (si dy a0 0 (0 : Int32)) fun dy1 => (F_X10_isMatch S N a1 a2 dy1).bind fun u2 => (if u2.1 = 0 then some ((-1 : Int32), u2.2) else if ib a1 32 then (F_X10_in S N a3 (0 : Int32) ((gi u2.2 (gr S a0 15) a1.toNatClampNeg) - (1 : Int32)) u2.2).bind fun u5 => (if u5.1 = 0 then some ((-1 : Int32), u5.2) else (F_X10_findMatch S N a0 a1 a2 u5.2).bind fun u7 => if ib a3 6 then some ((gi u7 (gr S a0 57) a3.toNatClampNeg), u7) else none) else none)
theorem F_X10_match_s (S : ST) (N : Nat) (a0 : Nat) (a1 : Int32) (a2 : Int32) (a3 : Int32) (dy : DY) : F_X10_match S N a0 a1 a2 a3 dy = (bd (si dy a0 0 (0 : Int32)) fun dy1 => (F_X10_isMatch S N a1 a2 dy1).bind fun u2 => (if u2.1 = 0 then some ((-1 : Int32), u2.2) else if ib a1 32 then (F_X10_in S N a3 (0 : Int32) ((gi u2.2 (gr S a0 15) a1.toNatClampNeg) - (1 : Int32)) u2.2).bind fun u5 => (if u5.1 = 0 then some ((-1 : Int32), u5.2) else (F_X10_findMatch S N a0 a1 a2 u5.2).bind fun u7 => if ib a3 6 then some ((gi u7 (gr S a0 57) a3.toNatClampNeg), u7) else none) else none)) := rfl
noncomputable def F_X10_ofLine (S : ST) (N : Nat) (a0 : Nat) (a1 : Int32) (a2 : Int32) (a3 : Int32) (dy : DY) : Option (Int32 × DY) := (F_X10_number S N a0 (0 : Int32) ((gi dy a0 31) - (1 : Int32)) dy).bind fun u1 => (if u1.1 = 0 then some ((0 : Int32), u1.2) else (F_X10_number S N a0 a2 a3 u1.2).bind fun u3 => (if u3.1 = 0 then some ((0 : Int32), u3.2) else (if (nr 3 (gi u3.2 a0 28)) = 0 then some ((1 : Int32), u3.2) else if ib (((8 : Int32) * (gi u1.2 a0 27)) + a1) 104 then bd (si u3.2 (gr S a0 34) (((8 : Int32) * (gi u1.2 a0 27)) + a1).toNatClampNeg (gi u3.2 a0 27)) fun dy6 => some ((1 : Int32), dy6) else none)))
theorem F_X10_ofLine_s (S : ST) (N : Nat) (a0 : Nat) (a1 : Int32) (a2 : Int32) (a3 : Int32) (dy : DY) : F_X10_ofLine S N a0 a1 a2 a3 dy = ((F_X10_number S N a0 (0 : Int32) ((gi dy a0 31) - (1 : Int32)) dy).bind fun u1 => (if u1.1 = 0 then some ((0 : Int32), u1.2) else (F_X10_number S N a0 a2 a3 u1.2).bind fun u3 => (if u3.1 = 0 then some ((0 : Int32), u3.2) else (if (nr 3 (gi u3.2 a0 28)) = 0 then some ((1 : Int32), u3.2) else if ib (((8 : Int32) * (gi u1.2 a0 27)) + a1) 104 then bd (si u3.2 (gr S a0 34) (((8 : Int32) * (gi u1.2 a0 27)) + a1).toNatClampNeg (gi u3.2 a0 27)) fun dy6 => some ((1 : Int32), dy6) else none)))) := rfl
noncomputable def F_X10_on_42 (S : ST) (N : Nat) : Nat → Nat → Int32 → Int32 → Int32 → DY → Option (Int32 × DY) := fun k => Nat.rec (motive := fun _ => Nat → Int32 → Int32 → Int32 → DY → Option (Int32 × DY)) (fun _ _ _ _ _ => none) (fun _ ih x0 x1 x2 x3 dy => if ib (2 : Int32) 10080 then (if (gi dy (gr S x0 39) (2 : Int32).toNatClampNeg) ≤ x3 then some ((-1 : Int32), dy) else (F_X10_at S N (0 : Int32) x3 dy).bind fun u3 => if ib u3.1 10080 then (if (gi u3.2 (gr S x0 39) u3.1.toNatClampNeg) = x1 then (F_X10_at S N (0 : Int32) x3 u3.2).bind fun u6 => if ib (u6.1 + (4 : Int32)) 10080 then (if (gi u6.2 (gr S x0 39) (u6.1 + (4 : Int32)).toNatClampNeg) = x2 then some (x3, u6.2) else ih x0 x1 x2 (x3 + (1 : Int32)) u6.2) else none else ih x0 x1 x2 (x3 + (1 : Int32)) u3.2) else none) else none) k
theorem F_X10_on_42_s (S : ST) (N : Nat) (k : Nat) (x0 : Nat) (x1 : Int32) (x2 : Int32) (x3 : Int32) (dy : DY) : F_X10_on_42 S N (k + 1) x0 x1 x2 x3 dy = (if ib (2 : Int32) 10080 then (if (gi dy (gr S x0 39) (2 : Int32).toNatClampNeg) ≤ x3 then some ((-1 : Int32), dy) else (F_X10_at S N (0 : Int32) x3 dy).bind fun u3 => if ib u3.1 10080 then (if (gi u3.2 (gr S x0 39) u3.1.toNatClampNeg) = x1 then (F_X10_at S N (0 : Int32) x3 u3.2).bind fun u6 => if ib (u6.1 + (4 : Int32)) 10080 then (if (gi u6.2 (gr S x0 39) (u6.1 + (4 : Int32)).toNatClampNeg) = x2 then some (x3, u6.2) else (F_X10_on_42 S N k) x0 x1 x2 (x3 + (1 : Int32)) u6.2) else none else (F_X10_on_42 S N k) x0 x1 x2 (x3 + (1 : Int32)) u3.2) else none) else none) := rfl
noncomputable def F_X10_on (S : ST) (N : Nat) (a0 : Nat) (a1 : Int32) (a2 : Int32) (dy : DY) : Option (Int32 × DY) := bd (si dy a0 0 (0 : Int32)) fun dy1 => if ib (10 : Int32) 10080 then (if (gi dy1 (gr S a0 39) (10 : Int32).toNatClampNeg) = 0 then some ((-1 : Int32), dy1) else (F_X10_isInside S N a0 (0 : Int32) a1 a2 dy1).bind fun u3 => (if u3.1 = 0 then some ((-1 : Int32), u3.2) else (F_X10_isWall S N a0 (0 : Int32) a1 a2 u3.2).bind fun u5 => (if u5.1 = 0 then (F_X10_on_42 S N N) a0 a1 a2 (0 : Int32) u5.2 else some ((100 : Int32), u5.2)))) else none
theorem F_X10_on_s (S : ST) (N : Nat) (a0 : Nat) (a1 : Int32) (a2 : Int32) (dy : DY) : F_X10_on S N a0 a1 a2 dy = (bd (si dy a0 0 (0 : Int32)) fun dy1 => if ib (10 : Int32) 10080 then (if (gi dy1 (gr S a0 39) (10 : Int32).toNatClampNeg) = 0 then some ((-1 : Int32), dy1) else (F_X10_isInside S N a0 (0 : Int32) a1 a2 dy1).bind fun u3 => (if u3.1 = 0 then some ((-1 : Int32), u3.2) else (F_X10_isWall S N a0 (0 : Int32) a1 a2 u3.2).bind fun u5 => (if u5.1 = 0 then (F_X10_on_42 S N N) a0 a1 a2 (0 : Int32) u5.2 else some ((100 : Int32), u5.2)))) else none) := rfl
noncomputable def F_X10_opened_37 (S : ST) (N : Nat) : Nat → Nat → Int32 → Int32 → Int32 → Int32 → Int32 → Int32 → Int32 → DY → Option (Int32 × DY) := fun k => Nat.rec (motive := fun _ => Nat → Int32 → Int32 → Int32 → Int32 → Int32 → Int32 → Int32 → DY → Option (Int32 × DY)) (fun _ _ _ _ _ _ _ _ _ => none) (fun _ ih x0 x1 x2 x3 x4 x5 x6 x7 dy => (if (96 : Int32) ≤ x7 then some (x6, dy) else if ib (((96 : Int32) * x1) + x7) 1152 then (if (gi dy (gr S x0 10) (((96 : Int32) * x1) + x7).toNatClampNeg) = 0 then ih x0 x1 x2 x3 x4 x5 x6 (x7 + (1 : Int32)) dy else (F_X10_lay S N x0 (4 : Int32) x1 x2 x3 (12 : Int32) (-1 : Int32) dy).bind fun u2 => if ib ((3136 : Int32) + x7) 10080 then bd (si u2 (gr S x0 39) ((3136 : Int32) + x7).toNatClampNeg (0 : Int32)) fun dy5 => (F_X10_tryOn S N x0 x4 dy5).bind fun u6 => if ib (2886 : Int32) 10080 then (if (gi u6 (gr S x0 39) (2886 : Int32).toNatClampNeg) ≤ x5 then ih x0 x1 x2 x3 x4 x5 x6 (x7 + (1 : Int32)) u6 else if ib (2886 : Int32) 10080 then if (6 : Int32) = 0 then none else if (6 : Int32) = 0 then none else ih x0 x1 x2 x3 x4 (gi u6 (gr S x0 39) (2886 : Int32).toNatClampNeg) (((100 : Int32) * (x7 / (6 : Int32))) + (x7 - x7 / (6 : Int32) * (6 : Int32))) (x7 + (1 : Int32)) u6 else none) else none else none) else none)) k
theorem F_X10_opened_37_s (S : ST) (N : Nat) (k : Nat) (x0 : Nat) (x1 : Int32) (x2 : Int32) (x3 : Int32) (x4 : Int32) (x5 : Int32) (x6 : Int32) (x7 : Int32) (dy : DY) : F_X10_opened_37 S N (k + 1) x0 x1 x2 x3 x4 x5 x6 x7 dy = (if (96 : Int32) ≤ x7 then some (x6, dy) else if ib (((96 : Int32) * x1) + x7) 1152 then (if (gi dy (gr S x0 10) (((96 : Int32) * x1) + x7).toNatClampNeg) = 0 then (F_X10_opened_37 S N k) x0 x1 x2 x3 x4 x5 x6 (x7 + (1 : Int32)) dy else (F_X10_lay S N x0 (4 : Int32) x1 x2 x3 (12 : Int32) (-1 : Int32) dy).bind fun u2 => if ib ((3136 : Int32) + x7) 10080 then bd (si u2 (gr S x0 39) ((3136 : Int32) + x7).toNatClampNeg (0 : Int32)) fun dy5 => (F_X10_tryOn S N x0 x4 dy5).bind fun u6 => if ib (2886 : Int32) 10080 then (if (gi u6 (gr S x0 39) (2886 : Int32).toNatClampNeg) ≤ x5 then (F_X10_opened_37 S N k) x0 x1 x2 x3 x4 x5 x6 (x7 + (1 : Int32)) u6 else if ib (2886 : Int32) 10080 then if (6 : Int32) = 0 then none else if (6 : Int32) = 0 then none else (F_X10_opened_37 S N k) x0 x1 x2 x3 x4 (gi u6 (gr S x0 39) (2886 : Int32).toNatClampNeg) (((100 : Int32) * (x7 / (6 : Int32))) + (x7 - x7 / (6 : Int32) * (6 : Int32))) (x7 + (1 : Int32)) u6 else none) else none else none) else none) := rfl
noncomputable def F_X10_opened (S : ST) (N : Nat) (a0 : Nat) (a1 : Int32) (a2 : Int32) (a3 : Int32) (a4 : Int32) (dy : DY) : Option (Int32 × DY) := bd (si dy a0 0 (0 : Int32)) fun dy1 => (F_X10_isTried S N a0 a1 a2 a4 (100 : Int32) dy1).bind fun u2 => (if u2.1 = 0 then some ((-1 : Int32), u2.2) else (F_X10_arrive S N a0 a1 a2 a3 a4 u2.2).bind fun u4 => (F_X10_opened_37 S N N) a0 a1 a2 a3 a4 u4.1 (-1 : Int32) (0 : Int32) u4.2)
theorem F_X10_opened_s (S : ST) (N : Nat) (a0 : Nat) (a1 : Int32) (a2 : Int32) (a3 : Int32) (a4 : Int32) (dy : DY) : F_X10_opened S N a0 a1 a2 a3 a4 dy = (bd (si dy a0 0 (0 : Int32)) fun dy1 => (F_X10_isTried S N a0 a1 a2 a4 (100 : Int32) dy1).bind fun u2 => (if u2.1 = 0 then some ((-1 : Int32), u2.2) else (F_X10_arrive S N a0 a1 a2 a3 a4 u2.2).bind fun u4 => (F_X10_opened_37 S N N) a0 a1 a2 a3 a4 u4.1 (-1 : Int32) (0 : Int32) u4.2)) := rfl
noncomputable def F_X10_readSquare (S : ST) (N : Nat) (a0 : Nat) (dy : DY) : Option (Int32 × DY) := (F_X10_number S N a0 (0 : Int32) ((gi dy a0 29) - (1 : Int32)) dy).bind fun u1 => (if u1.1 = 0 then some ((0 : Int32), u1.2) else (F_X10_number S N a0 (0 : Int32) ((gi u1.2 a0 30) - (1 : Int32)) u1.2).bind fun u3 => (if u3.1 = 0 then some ((0 : Int32), u3.2) else bd (si u3.2 a0 35 (((6 : Int32) * (gi u1.2 a0 27)) + (gi u3.2 a0 27))) fun dy5 => (if (nr 3 (gi dy5 a0 28)) = 0 then some ((1 : Int32), dy5) else (F_X10_isTaken S N a0 (gi dy5 a0 35) dy5).bind fun u6 => (if u6.1 = 0 then some ((1 : Int32), u6.2) else (F_X10_later S N a0 (4 : Int32) (gi dy a0 20) u6.2).bind fun u8 => some ((1 : Int32), u8)))))
theorem F_X10_readSquare_s (S : ST) (N : Nat) (a0 : Nat) (dy : DY) : F_X10_readSquare S N a0 dy = ((F_X10_number S N a0 (0 : Int32) ((gi dy a0 29) - (1 : Int32)) dy).bind fun u1 => (if u1.1 = 0 then some ((0 : Int32), u1.2) else (F_X10_number S N a0 (0 : Int32) ((gi u1.2 a0 30) - (1 : Int32)) u1.2).bind fun u3 => (if u3.1 = 0 then some ((0 : Int32), u3.2) else bd (si u3.2 a0 35 (((6 : Int32) * (gi u1.2 a0 27)) + (gi u3.2 a0 27))) fun dy5 => (if (nr 3 (gi dy5 a0 28)) = 0 then some ((1 : Int32), dy5) else (F_X10_isTaken S N a0 (gi dy5 a0 35) dy5).bind fun u6 => (if u6.1 = 0 then some ((1 : Int32), u6.2) else (F_X10_later S N a0 (4 : Int32) (gi dy a0 20) u6.2).bind fun u8 => some ((1 : Int32), u8)))))) := rfl
noncomputable def F_X10_walkerLine_197 (S : ST) (N : Nat) (x0 : Nat) (y0 : Nat) (y1 : Int32) (y2 : Int32) (dy : DY) : Option (Int32 × DY) := bd (si dy y0 31 (y1 + y2)) fun dy1 => (F_X10_token S N x0 dy1).bind fun u2 => some ((1 : Int32), u2)
theorem F_X10_walkerLine_197_s (S : ST) (N : Nat) (x0 : Nat) (y0 : Nat) (y1 : Int32) (y2 : Int32) (dy : DY) : F_X10_walkerLine_197 S N x0 y0 y1 y2 dy = (bd (si dy y0 31 (y1 + y2)) fun dy1 => (F_X10_token S N x0 dy1).bind fun u2 => some ((1 : Int32), u2)) := rfl
noncomputable def F_X10_walkerLine_177 (S : ST) (N : Nat) (x0 : Nat) (y0 : Nat) (y1 : Int32) (y2 : Int32) (dy : DY) : Option (Int32 × DY) := if ib y1 104 then bd (si dy y0 y1.toNatClampNeg y2) fun dy1 => (if (12 : Int32) ≤ (gi dy1 x0 31) then (F_X10_walkerLine_197 S N) x0 x0 (gi dy1 x0 31) (0 : Int32) dy1 else (F_X10_walkerLine_197 S N) x0 x0 (gi dy1 x0 31) (1 : Int32) dy1) else none
theorem F_X10_walkerLine_177_s (S : ST) (N : Nat) (x0 : Nat) (y0 : Nat) (y1 : Int32) (y2 : Int32) (dy : DY) : F_X10_walkerLine_177 S N x0 y0 y1 y2 dy = (if ib y1 104 then bd (si dy y0 y1.toNatClampNeg y2) fun dy1 => (if (12 : Int32) ≤ (gi dy1 x0 31) then (F_X10_walkerLine_197 S N) x0 x0 (gi dy1 x0 31) (0 : Int32) dy1 else (F_X10_walkerLine_197 S N) x0 x0 (gi dy1 x0 31) (1 : Int32) dy1) else none) := rfl
noncomputable def F_X10_walkerLine_107 (S : ST) (N : Nat) (x0 : Nat) (x2 : Int32) (y0 : Nat) (y1 : Int32) (y2 : Int32) (dy : DY) : Option (Int32 × DY) := if ib y1 104 then bd (si dy y0 y1.toNatClampNeg y2) fun dy1 => if ib (x2 + (3 : Int32)) 104 then bd (si dy1 (gr S x0 34) (x2 + (3 : Int32)).toNatClampNeg (1 : Int32)) fun dy3 => if ib (x2 + (4 : Int32)) 104 then bd (si dy3 (gr S x0 34) (x2 + (4 : Int32)).toNatClampNeg (0 : Int32)) fun dy5 => if ib (x2 + (5 : Int32)) 104 then bd (si dy5 (gr S x0 34) (x2 + (5 : Int32)).toNatClampNeg (0 : Int32)) fun dy7 => if ib (x2 + (6 : Int32)) 104 then bd (si dy7 (gr S x0 34) (x2 + (6 : Int32)).toNatClampNeg (0 : Int32)) fun dy9 => if ib (x2 + (7 : Int32)) 104 then bd (si dy9 (gr S x0 34) (x2 + (7 : Int32)).toNatClampNeg (-1 : Int32)) fun dy11 => (if (nr 3 (gi dy11 x0 28)) = 0 then (F_X10_walkerLine_177 S N) x0 (gr S x0 34) x2 (-1 : Int32) dy11 else if ib x2 104 then (F_X10_walkerLine_177 S N) x0 (gr S x0 34) x2 (gi dy11 (gr S x0 34) x2.toNatClampNeg) dy11 else none) else none else none else none else none else none else none
theorem F_X10_walkerLine_107_s (S : ST) (N : Nat) (x0 : Nat) (x2 : Int32) (y0 : Nat) (y1 : Int32) (y2 : Int32) (dy : DY) : F_X10_walkerLine_107 S N x0 x2 y0 y1 y2 dy = (if ib y1 104 then bd (si dy y0 y1.toNatClampNeg y2) fun dy1 => if ib (x2 + (3 : Int32)) 104 then bd (si dy1 (gr S x0 34) (x2 + (3 : Int32)).toNatClampNeg (1 : Int32)) fun dy3 => if ib (x2 + (4 : Int32)) 104 then bd (si dy3 (gr S x0 34) (x2 + (4 : Int32)).toNatClampNeg (0 : Int32)) fun dy5 => if ib (x2 + (5 : Int32)) 104 then bd (si dy5 (gr S x0 34) (x2 + (5 : Int32)).toNatClampNeg (0 : Int32)) fun dy7 => if ib (x2 + (6 : Int32)) 104 then bd (si dy7 (gr S x0 34) (x2 + (6 : Int32)).toNatClampNeg (0 : Int32)) fun dy9 => if ib (x2 + (7 : Int32)) 104 then bd (si dy9 (gr S x0 34) (x2 + (7 : Int32)).toNatClampNeg (-1 : Int32)) fun dy11 => (if (nr 3 (gi dy11 x0 28)) = 0 then (F_X10_walkerLine_177 S N) x0 (gr S x0 34) x2 (-1 : Int32) dy11 else if ib x2 104 then (F_X10_walkerLine_177 S N) x0 (gr S x0 34) x2 (gi dy11 (gr S x0 34) x2.toNatClampNeg) dy11 else none) else none else none else none else none else none else none) := rfl
noncomputable def F_X10_walkerLine_49 (S : ST) (N : Nat) (x0 : Nat) (dy : DY) : Option (Int32 × DY) := if (6 : Int32) = 0 then none else if ib ((8 : Int32) * (gi dy x0 31)) 104 then bd (si dy (gr S x0 34) ((8 : Int32) * (gi dy x0 31)).toNatClampNeg ((gi dy x0 35) / (6 : Int32))) fun dy2 => if (6 : Int32) = 0 then none else if ib (((8 : Int32) * (gi dy x0 31)) + (1 : Int32)) 104 then bd (si dy2 (gr S x0 34) (((8 : Int32) * (gi dy x0 31)) + (1 : Int32)).toNatClampNeg ((gi dy2 x0 35) - (gi dy2 x0 35) / (6 : Int32) * (6 : Int32))) fun dy4 => (F_X10_isWord S N x0 (1700885364 : Int64) dy4).bind fun u6 => (if u6.1 = 0 then (F_X10_walkerLine_107 S N) x0 ((8 : Int32) * (gi dy x0 31)) (gr S x0 34) (((8 : Int32) * (gi dy x0 31)) + (2 : Int32)) (0 : Int32) u6.2 else (F_X10_walkerLine_107 S N) x0 ((8 : Int32) * (gi dy x0 31)) (gr S x0 34) (((8 : Int32) * (gi dy x0 31)) + (2 : Int32)) (1 : Int32) u6.2) else none else none
theorem F_X10_walkerLine_49_s (S : ST) (N : Nat) (x0 : Nat) (dy : DY) : F_X10_walkerLine_49 S N x0 dy = (if (6 : Int32) = 0 then none else if ib ((8 : Int32) * (gi dy x0 31)) 104 then bd (si dy (gr S x0 34) ((8 : Int32) * (gi dy x0 31)).toNatClampNeg ((gi dy x0 35) / (6 : Int32))) fun dy2 => if (6 : Int32) = 0 then none else if ib (((8 : Int32) * (gi dy x0 31)) + (1 : Int32)) 104 then bd (si dy2 (gr S x0 34) (((8 : Int32) * (gi dy x0 31)) + (1 : Int32)).toNatClampNeg ((gi dy2 x0 35) - (gi dy2 x0 35) / (6 : Int32) * (6 : Int32))) fun dy4 => (F_X10_isWord S N x0 (1700885364 : Int64) dy4).bind fun u6 => (if u6.1 = 0 then (F_X10_walkerLine_107 S N) x0 ((8 : Int32) * (gi dy x0 31)) (gr S x0 34) (((8 : Int32) * (gi dy x0 31)) + (2 : Int32)) (0 : Int32) u6.2 else (F_X10_walkerLine_107 S N) x0 ((8 : Int32) * (gi dy x0 31)) (gr S x0 34) (((8 : Int32) * (gi dy x0 31)) + (2 : Int32)) (1 : Int32) u6.2) else none else none) := rfl
noncomputable def F_X10_walkerLine_15 (S : ST) (N : Nat) (x0 : Nat) (dy : DY) : Option (Int32 × DY) := (F_X10_readSquare S N x0 dy).bind fun u1 => (if u1.1 = 0 then some ((0 : Int32), u1.2) else (F_X10_isWord S N x0 (1700885364 : Int64) u1.2).bind fun u3 => (if u3.1 = 0 then (F_X10_isWord S N x0 (2003137396 : Int64) u3.2).bind fun u5 => (if u5.1 = 0 then (F_X10_stops S N x0 u5.2).bind fun u7 => if zb u7.1 then some (u7.1, u7.2) else none else (F_X10_walkerLine_49 S N) x0 u5.2) else (F_X10_walkerLine_49 S N) x0 u3.2))
theorem F_X10_walkerLine_15_s (S : ST) (N : Nat) (x0 : Nat) (dy : DY) : F_X10_walkerLine_15 S N x0 dy = ((F_X10_readSquare S N x0 dy).bind fun u1 => (if u1.1 = 0 then some ((0 : Int32), u1.2) else (F_X10_isWord S N x0 (1700885364 : Int64) u1.2).bind fun u3 => (if u3.1 = 0 then (F_X10_isWord S N x0 (2003137396 : Int64) u3.2).bind fun u5 => (if u5.1 = 0 then (F_X10_stops S N x0 u5.2).bind fun u7 => if zb u7.1 then some (u7.1, u7.2) else none else (F_X10_walkerLine_49 S N) x0 u5.2) else (F_X10_walkerLine_49 S N) x0 u3.2))) := rfl
noncomputable def F_X10_walkerLine (S : ST) (N : Nat) (a0 : Nat) (a1 : Int32) (dy : DY) : Option (Int32 × DY) := (if (gi dy a0 31) = (12 : Int32) then (F_X10_later S N a0 (3 : Int32) a1 dy).bind fun u1 => (F_X10_walkerLine_15 S N) a0 u1 else (F_X10_walkerLine_15 S N) a0 dy)
theorem F_X10_walkerLine_s (S : ST) (N : Nat) (a0 : Nat) (a1 : Int32) (dy : DY) : F_X10_walkerLine S N a0 a1 dy = (if (gi dy a0 31) = (12 : Int32) then (F_X10_later S N a0 (3 : Int32) a1 dy).bind fun u1 => (F_X10_walkerLine_15 S N) a0 u1 else (F_X10_walkerLine_15 S N) a0 dy) := rfl
noncomputable def F_X10_wallLine_38 (S : ST) (N : Nat) (x0 : Nat) (y0 : Nat) (y1 : Int32) (y2 : Int32) (dy : DY) : Option (Int32 × DY) := bd (si dy y0 32 (y1 + y2)) fun dy1 => if ib (gi dy1 x0 35) 96 then bd (si dy1 (gr S x0 33) (gi dy1 x0 35).toNatClampNeg (1 : Int32)) fun dy3 => some ((1 : Int32), dy3) else none
theorem F_X10_wallLine_38_s (S : ST) (N : Nat) (x0 : Nat) (y0 : Nat) (y1 : Int32) (y2 : Int32) (dy : DY) : F_X10_wallLine_38 S N x0 y0 y1 y2 dy = (bd (si dy y0 32 (y1 + y2)) fun dy1 => if ib (gi dy1 x0 35) 96 then bd (si dy1 (gr S x0 33) (gi dy1 x0 35).toNatClampNeg (1 : Int32)) fun dy3 => some ((1 : Int32), dy3) else none) := rfl
noncomputable def F_X10_wallLine (S : ST) (N : Nat) (a0 : Nat) (dy : DY) : Option (Int32 × DY) := (F_X10_readSquare S N a0 dy).bind fun u1 => (if u1.1 = 0 then some ((0 : Int32), u1.2) else (if (nr 3 (gi u1.2 a0 28)) = 0 then some ((1 : Int32), u1.2) else if ib (gi u1.2 a0 35) 96 then (if (gi u1.2 (gr S a0 33) (gi u1.2 a0 35).toNatClampNeg) = 0 then (F_X10_wallLine_38 S N) a0 a0 (gi u1.2 a0 32) (1 : Int32) u1.2 else (F_X10_wallLine_38 S N) a0 a0 (gi u1.2 a0 32) (0 : Int32) u1.2) else none))
theorem F_X10_wallLine_s (S : ST) (N : Nat) (a0 : Nat) (dy : DY) : F_X10_wallLine S N a0 dy = ((F_X10_readSquare S N a0 dy).bind fun u1 => (if u1.1 = 0 then some ((0 : Int32), u1.2) else (if (nr 3 (gi u1.2 a0 28)) = 0 then some ((1 : Int32), u1.2) else if ib (gi u1.2 a0 35) 96 then (if (gi u1.2 (gr S a0 33) (gi u1.2 a0 35).toNatClampNeg) = 0 then (F_X10_wallLine_38 S N) a0 a0 (gi u1.2 a0 32) (1 : Int32) u1.2 else (F_X10_wallLine_38 S N) a0 a0 (gi u1.2 a0 32) (0 : Int32) u1.2) else none))) := rfl
noncomputable def F_X10_passageLine_197 (S : ST) (N : Nat) (x0 : Nat) (y0 : Int32) (dy : DY) : Option (Int32 × DY) := (if y0 = 0 then some ((0 : Int32), dy) else (F_X10_passes S N x0 dy).bind fun u1 => (if u1.1 = 0 then some ((0 : Int32), u1.2) else some ((1 : Int32), u1.2)))
theorem F_X10_passageLine_197_s (S : ST) (N : Nat) (x0 : Nat) (y0 : Int32) (dy : DY) : F_X10_passageLine_197 S N x0 y0 dy = (if y0 = 0 then some ((0 : Int32), dy) else (F_X10_passes S N x0 dy).bind fun u1 => (if u1.1 = 0 then some ((0 : Int32), u1.2) else some ((1 : Int32), u1.2))) := rfl
noncomputable def F_X10_passageLine_88 (S : ST) (N : Nat) (x0 : Nat) (x1 : Int32) (x2 : Int64) (dy : DY) : Option (Int32 × DY) := (F_X10_token S N x0 dy).bind fun u1 => (if (lg_cmp x2 (2002873452 : Int64)) = 0 then (F_X10_wallLine S N x0 u1).bind fun u15 => (F_X10_passageLine_197 S N) x0 u15.1 u15.2 else (if (lg_cmp x2 (131260314510706 : Int64)) = 0 then (F_X10_walkerLine S N x0 x1 u1).bind fun u13 => (F_X10_passageLine_197 S N) x0 u13.1 u13.2 else (if (lg_cmp x2 (1885430629 : Int64)) = 0 then (F_X10_ofLine S N x0 (3 : Int32) (1 : Int32) (4 : Int32) u1).bind fun u11 => (F_X10_passageLine_197 S N) x0 u11.1 u11.2 else (if (lg_cmp x2 (1818326117 : Int64)) = 0 then (F_X10_ofLine S N x0 (4 : Int32) (0 : Int32) (3 : Int32) u1).bind fun u9 => (F_X10_passageLine_197 S N) x0 u9.1 u9.2 else (if (lg_cmp x2 (448311555173 : Int64)) = 0 then (F_X10_ofLine S N x0 (5 : Int32) (0 : Int32) (9 : Int32) u1).bind fun u7 => (F_X10_passageLine_197 S N) x0 u7.1 u7.2 else (if (lg_cmp x2 (1751215716 : Int64)) = 0 then (F_X10_handLine S N x0 u1).bind fun u5 => (F_X10_passageLine_197 S N) x0 u5.1 u5.2 else (F_X10_friendsLine S N x0 u1).bind fun u3 => (F_X10_passageLine_197 S N) x0 u3.1 u3.2))))))
theorem F_X10_passageLine_88_s (S : ST) (N : Nat) (x0 : Nat) (x1 : Int32) (x2 : Int64) (dy : DY) : F_X10_passageLine_88 S N x0 x1 x2 dy = ((F_X10_token S N x0 dy).bind fun u1 => (if (lg_cmp x2 (2002873452 : Int64)) = 0 then (F_X10_wallLine S N x0 u1).bind fun u15 => (F_X10_passageLine_197 S N) x0 u15.1 u15.2 else (if (lg_cmp x2 (131260314510706 : Int64)) = 0 then (F_X10_walkerLine S N x0 x1 u1).bind fun u13 => (F_X10_passageLine_197 S N) x0 u13.1 u13.2 else (if (lg_cmp x2 (1885430629 : Int64)) = 0 then (F_X10_ofLine S N x0 (3 : Int32) (1 : Int32) (4 : Int32) u1).bind fun u11 => (F_X10_passageLine_197 S N) x0 u11.1 u11.2 else (if (lg_cmp x2 (1818326117 : Int64)) = 0 then (F_X10_ofLine S N x0 (4 : Int32) (0 : Int32) (3 : Int32) u1).bind fun u9 => (F_X10_passageLine_197 S N) x0 u9.1 u9.2 else (if (lg_cmp x2 (448311555173 : Int64)) = 0 then (F_X10_ofLine S N x0 (5 : Int32) (0 : Int32) (9 : Int32) u1).bind fun u7 => (F_X10_passageLine_197 S N) x0 u7.1 u7.2 else (if (lg_cmp x2 (1751215716 : Int64)) = 0 then (F_X10_handLine S N x0 u1).bind fun u5 => (F_X10_passageLine_197 S N) x0 u5.1 u5.2 else (F_X10_friendsLine S N x0 u1).bind fun u3 => (F_X10_passageLine_197 S N) x0 u3.1 u3.2))))))) := rfl
noncomputable def F_X10_passageLine_26 (S : ST) (N : Nat) (x0 : Nat) (x1 : Int32) (y0 : Int64) (dy : DY) : Option (Int32 × DY) := (if (lg_cmp y0 (2002873452 : Int64)) = 0 then (F_X10_passageLine_88 S N) x0 x1 y0 dy else (if (lg_cmp y0 (131260314510706 : Int64)) = 0 then (F_X10_passageLine_88 S N) x0 x1 y0 dy else (if (lg_cmp y0 (1885430629 : Int64)) = 0 then (F_X10_passageLine_88 S N) x0 x1 y0 dy else (if (lg_cmp y0 (1818326117 : Int64)) = 0 then (F_X10_passageLine_88 S N) x0 x1 y0 dy else (if (lg_cmp y0 (448311555173 : Int64)) = 0 then (F_X10_passageLine_88 S N) x0 x1 y0 dy else (if (lg_cmp y0 (1751215716 : Int64)) = 0 then (F_X10_passageLine_88 S N) x0 x1 y0 dy else (if (lg_cmp y0 (28836244623352947 : Int64)) = 0 then (F_X10_passageLine_88 S N) x0 x1 y0 dy else (F_X10_stops S N x0 dy).bind fun u1 => if zb u1.1 then some (u1.1, u1.2) else none)))))))
theorem F_X10_passageLine_26_s (S : ST) (N : Nat) (x0 : Nat) (x1 : Int32) (y0 : Int64) (dy : DY) : F_X10_passageLine_26 S N x0 x1 y0 dy = (if (lg_cmp y0 (2002873452 : Int64)) = 0 then (F_X10_passageLine_88 S N) x0 x1 y0 dy else (if (lg_cmp y0 (131260314510706 : Int64)) = 0 then (F_X10_passageLine_88 S N) x0 x1 y0 dy else (if (lg_cmp y0 (1885430629 : Int64)) = 0 then (F_X10_passageLine_88 S N) x0 x1 y0 dy else (if (lg_cmp y0 (1818326117 : Int64)) = 0 then (F_X10_passageLine_88 S N) x0 x1 y0 dy else (if (lg_cmp y0 (448311555173 : Int64)) = 0 then (F_X10_passageLine_88 S N) x0 x1 y0 dy else (if (lg_cmp y0 (1751215716 : Int64)) = 0 then (F_X10_passageLine_88 S N) x0 x1 y0 dy else (if (lg_cmp y0 (28836244623352947 : Int64)) = 0 then (F_X10_passageLine_88 S N) x0 x1 y0 dy else (F_X10_stops S N x0 dy).bind fun u1 => if zb u1.1 then some (u1.1, u1.2) else none))))))) := rfl
noncomputable def F_X10_passageLine (S : ST) (N : Nat) (a0 : Nat) (dy : DY) : Option (Int32 × DY) := bd (si dy a0 28 (1 : Int32)) fun dy1 => (if (gi dy1 a0 21) = (2 : Int32) then (F_X10_passageLine_26 S N) a0 (gi dy a0 20) (gl dy1 a0 23) dy1 else (F_X10_passageLine_26 S N) a0 (gi dy a0 20) (0 : Int64) dy1)
theorem F_X10_passageLine_s (S : ST) (N : Nat) (a0 : Nat) (dy : DY) : F_X10_passageLine S N a0 dy = (bd (si dy a0 28 (1 : Int32)) fun dy1 => (if (gi dy1 a0 21) = (2 : Int32) then (F_X10_passageLine_26 S N) a0 (gi dy a0 20) (gl dy1 a0 23) dy1 else (F_X10_passageLine_26 S N) a0 (gi dy a0 20) (0 : Int64) dy1)) := rfl
noncomputable def F_X10_sizeLine_95 (S : ST) (N : Nat) (x0 : Nat) (y0 : Nat) (y1 : Int32) (dy : DY) : Option (Int32 × DY) := bd (si dy y0 30 y1) fun dy1 => (F_X10_passes S N x0 dy1).bind fun u2 => if zb u2.1 then some (u2.1, u2.2) else none
theorem F_X10_sizeLine_95_s (S : ST) (N : Nat) (x0 : Nat) (y0 : Nat) (y1 : Int32) (dy : DY) : F_X10_sizeLine_95 S N x0 y0 y1 dy = (bd (si dy y0 30 y1) fun dy1 => (F_X10_passes S N x0 dy1).bind fun u2 => if zb u2.1 then some (u2.1, u2.2) else none) := rfl
noncomputable def F_X10_sizeLine_58 (S : ST) (N : Nat) (x0 : Nat) (y0 : Nat) (y1 : Int32) (dy : DY) : Option (Int32 × DY) := bd (si dy y0 29 y1) fun dy1 => (F_X10_number S N x0 (1 : Int32) (6 : Int32) dy1).bind fun u2 => (if u2.1 = 0 then some ((0 : Int32), u2.2) else (F_X10_in S N (gi u2.2 x0 27) (1 : Int32) (6 : Int32) u2.2).bind fun u4 => (if u4.1 = 0 then (F_X10_sizeLine_95 S N) x0 x0 (1 : Int32) u4.2 else (F_X10_sizeLine_95 S N) x0 x0 (gi u4.2 x0 27) u4.2))
theorem F_X10_sizeLine_58_s (S : ST) (N : Nat) (x0 : Nat) (y0 : Nat) (y1 : Int32) (dy : DY) : F_X10_sizeLine_58 S N x0 y0 y1 dy = (bd (si dy y0 29 y1) fun dy1 => (F_X10_number S N x0 (1 : Int32) (6 : Int32) dy1).bind fun u2 => (if u2.1 = 0 then some ((0 : Int32), u2.2) else (F_X10_in S N (gi u2.2 x0 27) (1 : Int32) (6 : Int32) u2.2).bind fun u4 => (if u4.1 = 0 then (F_X10_sizeLine_95 S N) x0 x0 (1 : Int32) u4.2 else (F_X10_sizeLine_95 S N) x0 x0 (gi u4.2 x0 27) u4.2))) := rfl
noncomputable def F_X10_sizeLine (S : ST) (N : Nat) (a0 : Nat) (dy : DY) : Option (Int32 × DY) := (F_X10_isWord S N a0 (1936292453 : Int64) dy).bind fun u1 => (if u1.1 = 0 then (F_X10_stops S N a0 u1.2).bind fun u10 => if zb u10.1 then some (u10.1, u10.2) else none else (F_X10_token S N a0 u1.2).bind fun u3 => bd (si u3 a0 28 (1 : Int32)) fun dy5 => (F_X10_number S N a0 (2 : Int32) (16 : Int32) dy5).bind fun u6 => (if u6.1 = 0 then some ((0 : Int32), u6.2) else (F_X10_in S N (gi u6.2 a0 27) (2 : Int32) (16 : Int32) u6.2).bind fun u8 => (if u8.1 = 0 then (F_X10_sizeLine_58 S N) a0 a0 (2 : Int32) u8.2 else (F_X10_sizeLine_58 S N) a0 a0 (gi u8.2 a0 27) u8.2)))
theorem F_X10_sizeLine_s (S : ST) (N : Nat) (a0 : Nat) (dy : DY) : F_X10_sizeLine S N a0 dy = ((F_X10_isWord S N a0 (1936292453 : Int64) dy).bind fun u1 => (if u1.1 = 0 then (F_X10_stops S N a0 u1.2).bind fun u10 => if zb u10.1 then some (u10.1, u10.2) else none else (F_X10_token S N a0 u1.2).bind fun u3 => bd (si u3 a0 28 (1 : Int32)) fun dy5 => (F_X10_number S N a0 (2 : Int32) (16 : Int32) dy5).bind fun u6 => (if u6.1 = 0 then some ((0 : Int32), u6.2) else (F_X10_in S N (gi u6.2 a0 27) (2 : Int32) (16 : Int32) u6.2).bind fun u8 => (if u8.1 = 0 then (F_X10_sizeLine_58 S N) a0 a0 (2 : Int32) u8.2 else (F_X10_sizeLine_58 S N) a0 a0 (gi u8.2 a0 27) u8.2)))) := rfl
noncomputable def F_X10_passage_106 (S : ST) (N : Nat) (K80 : Nat → Int32 → Int32 → Int32 → DY → Option (Int32 × DY)) (x0 : Nat) (x1 : Int32) (x3 : Int32) (dy : DY) : Option (Int32 × DY) := (F_X10_passageLine S N x0 dy).bind fun u1 => K80 x0 x1 u1.1 (x3 + (1 : Int32)) u1.2
theorem F_X10_passage_106_s (S : ST) (N : Nat) (K80 : Nat → Int32 → Int32 → Int32 → DY → Option (Int32 × DY)) (x0 : Nat) (x1 : Int32) (x3 : Int32) (dy : DY) : F_X10_passage_106 S N K80 x0 x1 x3 dy = ((F_X10_passageLine S N x0 dy).bind fun u1 => K80 x0 x1 u1.1 (x3 + (1 : Int32)) u1.2) := rfl
noncomputable def F_X10_passage_246 (S : ST) (N : Nat) : Nat → Nat → Int32 → Int32 → DY → Option (Int32 × DY) := fun k => Nat.rec (motive := fun _ => Nat → Int32 → Int32 → DY → Option (Int32 × DY)) (fun _ _ _ _ => none) (fun _ ih x0 x4 x5 dy => (if ((8 : Int32) * (gi dy x0 31)) ≤ x5 then some (x4, dy) else if ib x5 104 then if ib (((96 : Int32) * x4) + x5) 1152 then bd (si dy (gr S x0 11) (((96 : Int32) * x4) + x5).toNatClampNeg (gi dy (gr S x0 34) x5.toNatClampNeg)) fun dy3 => ih x0 x4 (x5 + (1 : Int32)) dy3 else none else none)) k
theorem F_X10_passage_246_s (S : ST) (N : Nat) (k : Nat) (x0 : Nat) (x4 : Int32) (x5 : Int32) (dy : DY) : F_X10_passage_246 S N (k + 1) x0 x4 x5 dy = (if ((8 : Int32) * (gi dy x0 31)) ≤ x5 then some (x4, dy) else if ib x5 104 then if ib (((96 : Int32) * x4) + x5) 1152 then bd (si dy (gr S x0 11) (((96 : Int32) * x4) + x5).toNatClampNeg (gi dy (gr S x0 34) x5.toNatClampNeg)) fun dy3 => (F_X10_passage_246 S N k) x0 x4 (x5 + (1 : Int32)) dy3 else none else none) := rfl
noncomputable def F_X10_passage_210 (S : ST) (N : Nat) : Nat → Nat → Int32 → Int32 → DY → Option (Int32 × DY) := fun k => Nat.rec (motive := fun _ => Nat → Int32 → Int32 → DY → Option (Int32 × DY)) (fun _ _ _ _ => none) (fun _ ih x0 x4 x5 dy => (if (96 : Int32) ≤ x5 then (F_X10_passage_246 S N N) x0 x4 (0 : Int32) dy else if ib x5 96 then if ib (((96 : Int32) * x4) + x5) 1152 then bd (si dy (gr S x0 10) (((96 : Int32) * x4) + x5).toNatClampNeg (gi dy (gr S x0 33) x5.toNatClampNeg)) fun dy3 => ih x0 x4 (x5 + (1 : Int32)) dy3 else none else none)) k
theorem F_X10_passage_210_s (S : ST) (N : Nat) (k : Nat) (x0 : Nat) (x4 : Int32) (x5 : Int32) (dy : DY) : F_X10_passage_210 S N (k + 1) x0 x4 x5 dy = (if (96 : Int32) ≤ x5 then (F_X10_passage_246 S N N) x0 x4 (0 : Int32) dy else if ib x5 96 then if ib (((96 : Int32) * x4) + x5) 1152 then bd (si dy (gr S x0 10) (((96 : Int32) * x4) + x5).toNatClampNeg (gi dy (gr S x0 33) x5.toNatClampNeg)) fun dy3 => (F_X10_passage_210 S N k) x0 x4 (x5 + (1 : Int32)) dy3 else none else none) := rfl
noncomputable def F_X10_passage_161 (S : ST) (N : Nat) (x0 : Nat) (x4 : Int32) (y0 : Nat) (y1 : Int32) (y2 : Int32) (y3 : Int32) (dy : DY) : Option (Int32 × DY) := if ib y1 4 then bd (si dy y0 y1.toNatClampNeg (y2 + y3)) fun dy1 => if ib x4 12 then bd (si dy1 (gr S x0 6) x4.toNatClampNeg (gi dy1 x0 29)) fun dy3 => if ib x4 12 then bd (si dy3 (gr S x0 7) x4.toNatClampNeg (gi dy3 x0 30)) fun dy5 => if ib x4 12 then bd (si dy5 (gr S x0 8) x4.toNatClampNeg (gi dy5 x0 31)) fun dy7 => if ib x4 12 then bd (si dy7 (gr S x0 9) x4.toNatClampNeg (gi dy7 x0 32)) fun dy9 => (F_X10_passage_210 S N N) x0 x4 (0 : Int32) dy9 else none else none else none else none else none
theorem F_X10_passage_161_s (S : ST) (N : Nat) (x0 : Nat) (x4 : Int32) (y0 : Nat) (y1 : Int32) (y2 : Int32) (y3 : Int32) (dy : DY) : F_X10_passage_161 S N x0 x4 y0 y1 y2 y3 dy = (if ib y1 4 then bd (si dy y0 y1.toNatClampNeg (y2 + y3)) fun dy1 => if ib x4 12 then bd (si dy1 (gr S x0 6) x4.toNatClampNeg (gi dy1 x0 29)) fun dy3 => if ib x4 12 then bd (si dy3 (gr S x0 7) x4.toNatClampNeg (gi dy3 x0 30)) fun dy5 => if ib x4 12 then bd (si dy5 (gr S x0 8) x4.toNatClampNeg (gi dy5 x0 31)) fun dy7 => if ib x4 12 then bd (si dy7 (gr S x0 9) x4.toNatClampNeg (gi dy7 x0 32)) fun dy9 => (F_X10_passage_210 S N N) x0 x4 (0 : Int32) dy9 else none else none else none else none else none) := rfl
noncomputable def F_X10_passage_142 (S : ST) (N : Nat) (x0 : Nat) (x1 : Int32) (y0 : Int32) (dy : DY) : Option (Int32 × DY) := if ib (0 : Int32) 4 then (if x1 = (-1 : Int32) then (F_X10_passage_161 S N) x0 y0 (gr S x0 5) (0 : Int32) (gi dy (gr S x0 5) (0 : Int32).toNatClampNeg) (1 : Int32) dy else (F_X10_passage_161 S N) x0 y0 (gr S x0 5) (0 : Int32) (gi dy (gr S x0 5) (0 : Int32).toNatClampNeg) (0 : Int32) dy) else none
theorem F_X10_passage_142_s (S : ST) (N : Nat) (x0 : Nat) (x1 : Int32) (y0 : Int32) (dy : DY) : F_X10_passage_142 S N x0 x1 y0 dy = (if ib (0 : Int32) 4 then (if x1 = (-1 : Int32) then (F_X10_passage_161 S N) x0 y0 (gr S x0 5) (0 : Int32) (gi dy (gr S x0 5) (0 : Int32).toNatClampNeg) (1 : Int32) dy else (F_X10_passage_161 S N) x0 y0 (gr S x0 5) (0 : Int32) (gi dy (gr S x0 5) (0 : Int32).toNatClampNeg) (0 : Int32) dy) else none) := rfl
noncomputable def F_X10_passage_117 (S : ST) (N : Nat) (x0 : Nat) (x1 : Int32) (x2 : Int32) (dy : DY) : Option (Int32 × DY) := (F_X10_isGood S N x0 x2 dy).bind fun u1 => (if u1.1 = 0 then some ((-1 : Int32), u1.2) else (if x1 = (-1 : Int32) then if ib (0 : Int32) 4 then (F_X10_passage_142 S N) x0 x1 (gi u1.2 (gr S x0 5) (0 : Int32).toNatClampNeg) u1.2 else none else (F_X10_passage_142 S N) x0 x1 x1 u1.2))
theorem F_X10_passage_117_s (S : ST) (N : Nat) (x0 : Nat) (x1 : Int32) (x2 : Int32) (dy : DY) : F_X10_passage_117 S N x0 x1 x2 dy = ((F_X10_isGood S N x0 x2 dy).bind fun u1 => (if u1.1 = 0 then some ((-1 : Int32), u1.2) else (if x1 = (-1 : Int32) then if ib (0 : Int32) 4 then (F_X10_passage_142 S N) x0 x1 (gi u1.2 (gr S x0 5) (0 : Int32).toNatClampNeg) u1.2 else none else (F_X10_passage_142 S N) x0 x1 x1 u1.2))) := rfl
noncomputable def F_X10_passage_80 (S : ST) (N : Nat) : Nat → Nat → Int32 → Int32 → Int32 → DY → Option (Int32 × DY) := fun k => Nat.rec (motive := fun _ => Nat → Int32 → Int32 → Int32 → DY → Option (Int32 × DY)) (fun _ _ _ _ _ => none) (fun _ ih x0 x1 x2 x3 dy => (if x2 = 0 then (F_X10_passage_117 S N) x0 x1 x2 dy else (if (gi dy x0 21) = 0 then (F_X10_passage_117 S N) x0 x1 x2 dy else (if x3 = (40 : Int32) then (F_X10_later S N x0 (3 : Int32) (gi dy x0 20) dy).bind fun u1 => (F_X10_passage_106 S N ih) x0 x1 x3 u1 else (F_X10_passage_106 S N ih) x0 x1 x3 dy)))) k
theorem F_X10_passage_80_s (S : ST) (N : Nat) (k : Nat) (x0 : Nat) (x1 : Int32) (x2 : Int32) (x3 : Int32) (dy : DY) : F_X10_passage_80 S N (k + 1) x0 x1 x2 x3 dy = (if x2 = 0 then (F_X10_passage_117 S N) x0 x1 x2 dy else (if (gi dy x0 21) = 0 then (F_X10_passage_117 S N) x0 x1 x2 dy else (if x3 = (40 : Int32) then (F_X10_later S N x0 (3 : Int32) (gi dy x0 20) dy).bind fun u1 => (F_X10_passage_106 S N (F_X10_passage_80 S N k)) x0 x1 x3 u1 else (F_X10_passage_106 S N (F_X10_passage_80 S N k)) x0 x1 x3 dy))) := rfl
noncomputable def F_X10_passage_50 (S : ST) (N : Nat) : Nat → Nat → Int32 → Int32 → DY → Option (Int32 × DY) := fun k => Nat.rec (motive := fun _ => Nat → Int32 → Int32 → DY → Option (Int32 × DY)) (fun _ _ _ _ => none) (fun _ ih x0 x1 x2 dy => (if (96 : Int32) ≤ x2 then (F_X10_token S N x0 dy).bind fun u1 => (F_X10_sizeLine S N x0 u1).bind fun u3 => (F_X10_passage_80 S N N) x0 x1 u3.1 (0 : Int32) u3.2 else if ib x2 96 then bd (si dy (gr S x0 33) x2.toNatClampNeg (0 : Int32)) fun dy6 => ih x0 x1 (x2 + (1 : Int32)) dy6 else none)) k
theorem F_X10_passage_50_s (S : ST) (N : Nat) (k : Nat) (x0 : Nat) (x1 : Int32) (x2 : Int32) (dy : DY) : F_X10_passage_50 S N (k + 1) x0 x1 x2 dy = (if (96 : Int32) ≤ x2 then (F_X10_token S N x0 dy).bind fun u1 => (F_X10_sizeLine S N x0 u1).bind fun u3 => (F_X10_passage_80 S N N) x0 x1 u3.1 (0 : Int32) u3.2 else if ib x2 96 then bd (si dy (gr S x0 33) x2.toNatClampNeg (0 : Int32)) fun dy6 => (F_X10_passage_50 S N k) x0 x1 (x2 + (1 : Int32)) dy6 else none) := rfl
noncomputable def F_X10_passage_38 (S : ST) (N : Nat) (x0 : Nat) (x1 : Int32) (dy : DY) : Option (Int32 × DY) := bd (si dy x0 31 (0 : Int32)) fun dy1 => bd (si dy1 x0 32 (0 : Int32)) fun dy2 => (F_X10_passage_50 S N N) x0 x1 (0 : Int32) dy2
theorem F_X10_passage_38_s (S : ST) (N : Nat) (x0 : Nat) (x1 : Int32) (dy : DY) : F_X10_passage_38 S N x0 x1 dy = (bd (si dy x0 31 (0 : Int32)) fun dy1 => bd (si dy1 x0 32 (0 : Int32)) fun dy2 => (F_X10_passage_50 S N N) x0 x1 (0 : Int32) dy2) := rfl
noncomputable def F_X10_passage (S : ST) (N : Nat) (a0 : Nat) (a1 : Int32) (dy : DY) : Option (Int32 × DY) := bd (si dy a0 0 (0 : Int32)) fun dy1 => (F_X10_takeTape S N a0 dy1).bind fun u2 => (if a1 = (-1 : Int32) then if ib (0 : Int32) 4 then (if (gi u2 (gr S a0 5) (0 : Int32).toNatClampNeg) = (3 : Int32) then some ((-2 : Int32), u2) else (F_X10_passage_38 S N) a0 a1 u2) else none else (F_X10_isPassage S N a0 a1 u2).bind fun u4 => (if u4.1 = 0 then some ((-2 : Int32), u4.2) else (F_X10_passage_38 S N) a0 a1 u4.2))
theorem F_X10_passage_s (S : ST) (N : Nat) (a0 : Nat) (a1 : Int32) (dy : DY) : F_X10_passage S N a0 a1 dy = (bd (si dy a0 0 (0 : Int32)) fun dy1 => (F_X10_takeTape S N a0 dy1).bind fun u2 => (if a1 = (-1 : Int32) then if ib (0 : Int32) 4 then (if (gi u2 (gr S a0 5) (0 : Int32).toNatClampNeg) = (3 : Int32) then some ((-2 : Int32), u2) else (F_X10_passage_38 S N) a0 a1 u2) else none else (F_X10_isPassage S N a0 a1 u2).bind fun u4 => (if u4.1 = 0 then some ((-2 : Int32), u4.2) else (F_X10_passage_38 S N) a0 a1 u4.2))) := rfl
noncomputable def F_X10_pillar_67 (S : ST) (N : Nat) (K53 : Nat → Int32 → Int32 → Int32 → Int32 → Int32 → Int32 → Int32 → DY → Option (Int32 × DY)) : Nat → Nat → Int32 → Int32 → Int32 → Int32 → Int32 → Int32 → Int32 → Int32 → DY → Option (Int32 × DY) := fun k => Nat.rec (motive := fun _ => Nat → Int32 → Int32 → Int32 → Int32 → Int32 → Int32 → Int32 → Int32 → DY → Option (Int32 × DY)) (fun _ _ _ _ _ _ _ _ _ _ => none) (fun _ ih x0 x1 x2 x3 x4 x5 x6 x7 x8 dy => if ib x1 12 then (if (gi dy (gr S x0 7) x1.toNatClampNeg) ≤ x8 then K53 x0 x1 x2 x3 x4 x5 x6 (x7 + (1 : Int32)) dy else (F_X10_isFreeAtFirst S N x0 x1 x7 x8 dy).bind fun u2 => (if u2.1 = 0 then ih x0 x1 x2 x3 x4 x5 x6 x7 (x8 + (1 : Int32)) u2.2 else (F_X10_lay S N x0 (4 : Int32) x1 x2 x3 (12 : Int32) (-1 : Int32) u2.2).bind fun u4 => if ib (((3136 : Int32) + ((6 : Int32) * x7)) + x8) 10080 then bd (si u4 (gr S x0 39) (((3136 : Int32) + ((6 : Int32) * x7)) + x8).toNatClampNeg (1 : Int32)) fun dy7 => (F_X10_tryOn S N x0 x4 dy7).bind fun u8 => if ib (2886 : Int32) 10080 then (if (gi u8 (gr S x0 39) (2886 : Int32).toNatClampNeg) ≤ x5 then ih x0 x1 x2 x3 x4 x5 x6 x7 (x8 + (1 : Int32)) u8 else if ib (2886 : Int32) 10080 then ih x0 x1 x2 x3 x4 (gi u8 (gr S x0 39) (2886 : Int32).toNatClampNeg) (((100 : Int32) * x7) + x8) x7 (x8 + (1 : Int32)) u8 else none) else none else none)) else none) k
theorem F_X10_pillar_67_s (S : ST) (N : Nat) (K53 : Nat → Int32 → Int32 → Int32 → Int32 → Int32 → Int32 → Int32 → DY → Option (Int32 × DY)) (k : Nat) (x0 : Nat) (x1 : Int32) (x2 : Int32) (x3 : Int32) (x4 : Int32) (x5 : Int32) (x6 : Int32) (x7 : Int32) (x8 : Int32) (dy : DY) : F_X10_pillar_67 S N K53 (k + 1) x0 x1 x2 x3 x4 x5 x6 x7 x8 dy = (if ib x1 12 then (if (gi dy (gr S x0 7) x1.toNatClampNeg) ≤ x8 then K53 x0 x1 x2 x3 x4 x5 x6 (x7 + (1 : Int32)) dy else (F_X10_isFreeAtFirst S N x0 x1 x7 x8 dy).bind fun u2 => (if u2.1 = 0 then (F_X10_pillar_67 S N K53 k) x0 x1 x2 x3 x4 x5 x6 x7 (x8 + (1 : Int32)) u2.2 else (F_X10_lay S N x0 (4 : Int32) x1 x2 x3 (12 : Int32) (-1 : Int32) u2.2).bind fun u4 => if ib (((3136 : Int32) + ((6 : Int32) * x7)) + x8) 10080 then bd (si u4 (gr S x0 39) (((3136 : Int32) + ((6 : Int32) * x7)) + x8).toNatClampNeg (1 : Int32)) fun dy7 => (F_X10_tryOn S N x0 x4 dy7).bind fun u8 => if ib (2886 : Int32) 10080 then (if (gi u8 (gr S x0 39) (2886 : Int32).toNatClampNeg) ≤ x5 then (F_X10_pillar_67 S N K53 k) x0 x1 x2 x3 x4 x5 x6 x7 (x8 + (1 : Int32)) u8 else if ib (2886 : Int32) 10080 then (F_X10_pillar_67 S N K53 k) x0 x1 x2 x3 x4 (gi u8 (gr S x0 39) (2886 : Int32).toNatClampNeg) (((100 : Int32) * x7) + x8) x7 (x8 + (1 : Int32)) u8 else none) else none else none)) else none) := rfl
noncomputable def F_X10_pillar_53 (S : ST) (N : Nat) : Nat → Nat → Int32 → Int32 → Int32 → Int32 → Int32 → Int32 → Int32 → DY → Option (Int32 × DY) := fun k => Nat.rec (motive := fun _ => Nat → Int32 → Int32 → Int32 → Int32 → Int32 → Int32 → Int32 → DY → Option (Int32 × DY)) (fun _ _ _ _ _ _ _ _ _ => none) (fun _ ih x0 x1 x2 x3 x4 x5 x6 x7 dy => if ib x1 12 then (if (gi dy (gr S x0 6) x1.toNatClampNeg) ≤ x7 then some (x6, dy) else (F_X10_pillar_67 S N ih N) x0 x1 x2 x3 x4 x5 x6 x7 (0 : Int32) dy) else none) k
theorem F_X10_pillar_53_s (S : ST) (N : Nat) (k : Nat) (x0 : Nat) (x1 : Int32) (x2 : Int32) (x3 : Int32) (x4 : Int32) (x5 : Int32) (x6 : Int32) (x7 : Int32) (dy : DY) : F_X10_pillar_53 S N (k + 1) x0 x1 x2 x3 x4 x5 x6 x7 dy = (if ib x1 12 then (if (gi dy (gr S x0 6) x1.toNatClampNeg) ≤ x7 then some (x6, dy) else (F_X10_pillar_67 S N (F_X10_pillar_53 S N k) N) x0 x1 x2 x3 x4 x5 x6 x7 (0 : Int32) dy) else none) := rfl
noncomputable def F_X10_pillar (S : ST) (N : Nat) (a0 : Nat) (a1 : Int32) (a2 : Int32) (a3 : Int32) (a4 : Int32) (dy : DY) : Option (Int32 × DY) := bd (si dy a0 0 (0 : Int32)) fun dy1 => (F_X10_isTried S N a0 a1 a2 a4 (100 : Int32) dy1).bind fun u2 => (if u2.1 = 0 then some ((-1 : Int32), u2.2) else (F_X10_lay S N a0 (4 : Int32) a1 a2 a3 (12 : Int32) (-1 : Int32) u2.2).bind fun u4 => (F_X10_tryOn S N a0 a4 u4).bind fun u6 => if ib (2886 : Int32) 10080 then (F_X10_pillar_53 S N N) a0 a1 a2 a3 a4 (gi u6 (gr S a0 39) (2886 : Int32).toNatClampNeg) (-1 : Int32) (0 : Int32) u6 else none)
theorem F_X10_pillar_s (S : ST) (N : Nat) (a0 : Nat) (a1 : Int32) (a2 : Int32) (a3 : Int32) (a4 : Int32) (dy : DY) : F_X10_pillar S N a0 a1 a2 a3 a4 dy = (bd (si dy a0 0 (0 : Int32)) fun dy1 => (F_X10_isTried S N a0 a1 a2 a4 (100 : Int32) dy1).bind fun u2 => (if u2.1 = 0 then some ((-1 : Int32), u2.2) else (F_X10_lay S N a0 (4 : Int32) a1 a2 a3 (12 : Int32) (-1 : Int32) u2.2).bind fun u4 => (F_X10_tryOn S N a0 a4 u4).bind fun u6 => if ib (2886 : Int32) 10080 then (F_X10_pillar_53 S N N) a0 a1 a2 a3 a4 (gi u6 (gr S a0 39) (2886 : Int32).toNatClampNeg) (-1 : Int32) (0 : Int32) u6 else none)) := rfl
noncomputable def F_X10_ran (S : ST) (N : Nat) (a0 : Nat) (a1 : Int32) (a2 : Int32) (dy : DY) : Option (Int32 × DY) := bd (si dy a0 0 (0 : Int32)) fun dy1 => (F_X10_isRunner S N a0 a1 dy1).bind fun u2 => (if u2.1 = 0 then some ((-2 : Int32), u2.2) else (F_X10_at S N (0 : Int32) a1 u2.2).bind fun u4 => (if a2 = (0 : Int32) then if ib u4.1 10080 then some ((gi u4.2 (gr S a0 39) u4.1.toNatClampNeg), u4.2) else none else if a2 = (1 : Int32) then if ib (u4.1 + (4 : Int32)) 10080 then some ((gi u4.2 (gr S a0 39) (u4.1 + (4 : Int32)).toNatClampNeg), u4.2) else none else if a2 = (2 : Int32) then if ib (u4.1 + (14 : Int32)) 10080 then some ((gi u4.2 (gr S a0 39) (u4.1 + (14 : Int32)).toNatClampNeg), u4.2) else none else if a2 = (3 : Int32) then if ib (u4.1 + (15 : Int32)) 10080 then some ((gi u4.2 (gr S a0 39) (u4.1 + (15 : Int32)).toNatClampNeg), u4.2) else none else if a2 = (4 : Int32) then if ib (u4.1 + (16 : Int32)) 10080 then some ((gi u4.2 (gr S a0 39) (u4.1 + (16 : Int32)).toNatClampNeg), u4.2) else none else if a2 = (5 : Int32) then if ib (u4.1 + (17 : Int32)) 10080 then some ((gi u4.2 (gr S a0 39) (u4.1 + (17 : Int32)).toNatClampNeg), u4.2) else none else if a2 = (6 : Int32) then if ib (u4.1 + (18 : Int32)) 10080 then some ((gi u4.2 (gr S a0 39) (u4.1 + (18 : Int32)).toNatClampNeg), u4.2) else none else some ((-2 : Int32), u4.2)))
theorem F_X10_ran_s (S : ST) (N : Nat) (a0 : Nat) (a1 : Int32) (a2 : Int32) (dy : DY) : F_X10_ran S N a0 a1 a2 dy = (bd (si dy a0 0 (0 : Int32)) fun dy1 => (F_X10_isRunner S N a0 a1 dy1).bind fun u2 => (if u2.1 = 0 then some ((-2 : Int32), u2.2) else (F_X10_at S N (0 : Int32) a1 u2.2).bind fun u4 => (if a2 = (0 : Int32) then if ib u4.1 10080 then some ((gi u4.2 (gr S a0 39) u4.1.toNatClampNeg), u4.2) else none else if a2 = (1 : Int32) then if ib (u4.1 + (4 : Int32)) 10080 then some ((gi u4.2 (gr S a0 39) (u4.1 + (4 : Int32)).toNatClampNeg), u4.2) else none else if a2 = (2 : Int32) then if ib (u4.1 + (14 : Int32)) 10080 then some ((gi u4.2 (gr S a0 39) (u4.1 + (14 : Int32)).toNatClampNeg), u4.2) else none else if a2 = (3 : Int32) then if ib (u4.1 + (15 : Int32)) 10080 then some ((gi u4.2 (gr S a0 39) (u4.1 + (15 : Int32)).toNatClampNeg), u4.2) else none else if a2 = (4 : Int32) then if ib (u4.1 + (16 : Int32)) 10080 then some ((gi u4.2 (gr S a0 39) (u4.1 + (16 : Int32)).toNatClampNeg), u4.2) else none else if a2 = (5 : Int32) then if ib (u4.1 + (17 : Int32)) 10080 then some ((gi u4.2 (gr S a0 39) (u4.1 + (17 : Int32)).toNatClampNeg), u4.2) else none else if a2 = (6 : Int32) then if ib (u4.1 + (18 : Int32)) 10080 then some ((gi u4.2 (gr S a0 39) (u4.1 + (18 : Int32)).toNatClampNeg), u4.2) else none else some ((-2 : Int32), u4.2)))) := rfl
noncomputable def F_X10_rules (S : ST) (N : Nat) (a0 : Nat) (a1 : Int32) (dy : DY) : Option (Int32 × DY) := bd (si dy a0 0 (0 : Int32)) fun dy1 => (F_X10_isLaw S N a0 a1 dy1).bind fun u2 => (if u2.1 = 0 then some ((-1 : Int32), u2.2) else if ib a1 12 then some ((gi u2.2 (gr S a0 13) a1.toNatClampNeg), u2.2) else none)
theorem F_X10_rules_s (S : ST) (N : Nat) (a0 : Nat) (a1 : Int32) (dy : DY) : F_X10_rules S N a0 a1 dy = (bd (si dy a0 0 (0 : Int32)) fun dy1 => (F_X10_isLaw S N a0 a1 dy1).bind fun u2 => (if u2.1 = 0 then some ((-1 : Int32), u2.2) else if ib a1 12 then some ((gi u2.2 (gr S a0 13) a1.toNatClampNeg), u2.2) else none)) := rfl
noncomputable def F_X10_run (S : ST) (N : Nat) (a0 : Nat) (a1 : Int32) (a2 : Int32) (a3 : Int32) (dy : DY) : Option (Int32 × DY) := bd (si dy a0 0 (0 : Int32)) fun dy1 => (F_X10_isPassage S N a0 a1 dy1).bind fun u2 => (if u2.1 = 0 then some ((0 : Int32), u2.2) else (F_X10_isLaw S N a0 a2 u2.2).bind fun u4 => (if u4.1 = 0 then some ((0 : Int32), u4.2) else (F_X10_lay S N a0 (0 : Int32) a1 a2 a3 (12 : Int32) (-1 : Int32) u4.2).bind fun u6 => some ((1 : Int32), u6)))
theorem F_X10_run_s (S : ST) (N : Nat) (a0 : Nat) (a1 : Int32) (a2 : Int32) (a3 : Int32) (dy : DY) : F_X10_run S N a0 a1 a2 a3 dy = (bd (si dy a0 0 (0 : Int32)) fun dy1 => (F_X10_isPassage S N a0 a1 dy1).bind fun u2 => (if u2.1 = 0 then some ((0 : Int32), u2.2) else (F_X10_isLaw S N a0 a2 u2.2).bind fun u4 => (if u4.1 = 0 then some ((0 : Int32), u4.2) else (F_X10_lay S N a0 (0 : Int32) a1 a2 a3 (12 : Int32) (-1 : Int32) u4.2).bind fun u6 => some ((1 : Int32), u6)))) := rfl
noncomputable def F_X10_slack_41 (S : ST) (N : Nat) : Nat → Nat → Int32 → Int32 → Int32 → Int32 → Int32 → Int32 → DY → Option (Int32 × DY) := fun k => Nat.rec (motive := fun _ => Nat → Int32 → Int32 → Int32 → Int32 → Int32 → Int32 → DY → Option (Int32 × DY)) (fun _ _ _ _ _ _ _ _ => none) (fun _ ih x0 x1 x2 x3 x4 x5 x6 dy => (if x6 < 0 then some ((-1 : Int32), dy) else (F_X10_lay S N x0 (4 : Int32) x1 x2 x3 (12 : Int32) (-1 : Int32) dy).bind fun u1 => (F_X10_at S N (4 : Int32) x5 u1).bind fun u4 => if ib (u4.1 + (10 : Int32)) 10080 then bd (si u4.2 (gr S x0 39) (u4.1 + (10 : Int32)).toNatClampNeg x6) fun dy6 => (F_X10_tryOn S N x0 x4 dy6).bind fun u7 => if ib (2886 : Int32) 10080 then if ib x1 12 then (if (gi u7 (gr S x0 39) (2886 : Int32).toNatClampNeg) = (gi u7 (gr S x0 8) x1.toNatClampNeg) then some (x6, u7) else ih x0 x1 x2 x3 x4 x5 (x6 + (-1 : Int32)) u7) else none else none else none)) k
theorem F_X10_slack_41_s (S : ST) (N : Nat) (k : Nat) (x0 : Nat) (x1 : Int32) (x2 : Int32) (x3 : Int32) (x4 : Int32) (x5 : Int32) (x6 : Int32) (dy : DY) : F_X10_slack_41 S N (k + 1) x0 x1 x2 x3 x4 x5 x6 dy = (if x6 < 0 then some ((-1 : Int32), dy) else (F_X10_lay S N x0 (4 : Int32) x1 x2 x3 (12 : Int32) (-1 : Int32) dy).bind fun u1 => (F_X10_at S N (4 : Int32) x5 u1).bind fun u4 => if ib (u4.1 + (10 : Int32)) 10080 then bd (si u4.2 (gr S x0 39) (u4.1 + (10 : Int32)).toNatClampNeg x6) fun dy6 => (F_X10_tryOn S N x0 x4 dy6).bind fun u7 => if ib (2886 : Int32) 10080 then if ib x1 12 then (if (gi u7 (gr S x0 39) (2886 : Int32).toNatClampNeg) = (gi u7 (gr S x0 8) x1.toNatClampNeg) then some (x6, u7) else (F_X10_slack_41 S N k) x0 x1 x2 x3 x4 x5 (x6 + (-1 : Int32)) u7) else none else none else none) := rfl
noncomputable def F_X10_slack (S : ST) (N : Nat) (a0 : Nat) (a1 : Int32) (a2 : Int32) (a3 : Int32) (a4 : Int32) (a5 : Int32) (dy : DY) : Option (Int32 × DY) := bd (si dy a0 0 (0 : Int32)) fun dy1 => (F_X10_isTried S N a0 a1 a2 a4 (200 : Int32) dy1).bind fun u2 => (if u2.1 = 0 then some ((-1 : Int32), u2.2) else if ib a1 12 then (F_X10_in S N a5 (0 : Int32) ((gi u2.2 (gr S a0 8) a1.toNatClampNeg) - (1 : Int32)) u2.2).bind fun u5 => (if u5.1 = 0 then some ((-1 : Int32), u5.2) else (F_X10_slack_41 S N N) a0 a1 a2 a3 a4 a5 (3 : Int32) u5.2) else none)
theorem F_X10_slack_s (S : ST) (N : Nat) (a0 : Nat) (a1 : Int32) (a2 : Int32) (a3 : Int32) (a4 : Int32) (a5 : Int32) (dy : DY) : F_X10_slack S N a0 a1 a2 a3 a4 a5 dy = (bd (si dy a0 0 (0 : Int32)) fun dy1 => (F_X10_isTried S N a0 a1 a2 a4 (200 : Int32) dy1).bind fun u2 => (if u2.1 = 0 then some ((-1 : Int32), u2.2) else if ib a1 12 then (F_X10_in S N a5 (0 : Int32) ((gi u2.2 (gr S a0 8) a1.toNatClampNeg) - (1 : Int32)) u2.2).bind fun u5 => (if u5.1 = 0 then some ((-1 : Int32), u5.2) else (F_X10_slack_41 S N N) a0 a1 a2 a3 a4 a5 (3 : Int32) u5.2) else none)) := rfl
noncomputable def F_X10_state (S : ST) (N : Nat) (a0 : Nat) (a1 : Int32) (dy : DY) : Option (Int32 × DY) := bd (si dy a0 0 (0 : Int32)) fun dy1 => if ib (10 : Int32) 10080 then (if (gi dy1 (gr S a0 39) (10 : Int32).toNatClampNeg) = 0 then some ((-1 : Int32), dy1) else (if a1 = (0 : Int32) then if ib (3 : Int32) 10080 then some ((gi dy1 (gr S a0 39) (3 : Int32).toNatClampNeg), dy1) else none else if a1 = (1 : Int32) then if ib (6 : Int32) 10080 then some ((gi dy1 (gr S a0 39) (6 : Int32).toNatClampNeg), dy1) else none else if a1 = (2 : Int32) then if ib (7 : Int32) 10080 then (if (gi dy1 (gr S a0 39) (7 : Int32).toNatClampNeg) < (10 : Int32) then some ((0 : Int32), dy1) else some ((1 : Int32), dy1)) else none else if a1 = (3 : Int32) then if ib (8 : Int32) 10080 then some ((gi dy1 (gr S a0 39) (8 : Int32).toNatClampNeg), dy1) else none else if a1 = (4 : Int32) then (F_X10_lanes S N a0 (0 : Int32) dy1).bind fun u12 => some (u12.1, u12.2) else if a1 = (5 : Int32) then (F_X10_lanes S N a0 (1 : Int32) dy1).bind fun u15 => some (u15.1, u15.2) else if a1 = (6 : Int32) then if ib (5 : Int32) 10080 then some ((gi dy1 (gr S a0 39) (5 : Int32).toNatClampNeg), dy1) else none else some ((-1 : Int32), dy1))) else none
theorem F_X10_state_s (S : ST) (N : Nat) (a0 : Nat) (a1 : Int32) (dy : DY) : F_X10_state S N a0 a1 dy = (bd (si dy a0 0 (0 : Int32)) fun dy1 => if ib (10 : Int32) 10080 then (if (gi dy1 (gr S a0 39) (10 : Int32).toNatClampNeg) = 0 then some ((-1 : Int32), dy1) else (if a1 = (0 : Int32) then if ib (3 : Int32) 10080 then some ((gi dy1 (gr S a0 39) (3 : Int32).toNatClampNeg), dy1) else none else if a1 = (1 : Int32) then if ib (6 : Int32) 10080 then some ((gi dy1 (gr S a0 39) (6 : Int32).toNatClampNeg), dy1) else none else if a1 = (2 : Int32) then if ib (7 : Int32) 10080 then (if (gi dy1 (gr S a0 39) (7 : Int32).toNatClampNeg) < (10 : Int32) then some ((0 : Int32), dy1) else some ((1 : Int32), dy1)) else none else if a1 = (3 : Int32) then if ib (8 : Int32) 10080 then some ((gi dy1 (gr S a0 39) (8 : Int32).toNatClampNeg), dy1) else none else if a1 = (4 : Int32) then (F_X10_lanes S N a0 (0 : Int32) dy1).bind fun u12 => some (u12.1, u12.2) else if a1 = (5 : Int32) then (F_X10_lanes S N a0 (1 : Int32) dy1).bind fun u15 => some (u15.1, u15.2) else if a1 = (6 : Int32) then if ib (5 : Int32) 10080 then some ((gi dy1 (gr S a0 39) (5 : Int32).toNatClampNeg), dy1) else none else some ((-1 : Int32), dy1))) else none) := rfl
noncomputable def F_X10_touch_76 (S : ST) (N : Nat) : Nat → Nat → Int32 → Int32 → Int32 → Int32 → DY → Option (Int32 × DY) := fun k => Nat.rec (motive := fun _ => Nat → Int32 → Int32 → Int32 → Int32 → DY → Option (Int32 × DY)) (fun _ _ _ _ _ _ => none) (fun _ ih x0 x4 x5 x6 x7 dy => (if x4 ≤ x7 then some ((-1 : Int32), dy) else (F_X10_areBeside S N x0 x5 x6 dy).bind fun u1 => (if u1.1 = 0 then (F_X10_tryOn S N x0 (1 : Int32) u1.2).bind fun u3 => ih x0 x4 x5 x6 (x7 + (1 : Int32)) u3 else some (x7, u1.2)))) k
theorem F_X10_touch_76_s (S : ST) (N : Nat) (k : Nat) (x0 : Nat) (x4 : Int32) (x5 : Int32) (x6 : Int32) (x7 : Int32) (dy : DY) : F_X10_touch_76 S N (k + 1) x0 x4 x5 x6 x7 dy = (if x4 ≤ x7 then some ((-1 : Int32), dy) else (F_X10_areBeside S N x0 x5 x6 dy).bind fun u1 => (if u1.1 = 0 then (F_X10_tryOn S N x0 (1 : Int32) u1.2).bind fun u3 => (F_X10_touch_76 S N k) x0 x4 x5 x6 (x7 + (1 : Int32)) u3 else some (x7, u1.2))) := rfl
noncomputable def F_X10_touch (S : ST) (N : Nat) (a0 : Nat) (a1 : Int32) (a2 : Int32) (a3 : Int32) (a4 : Int32) (a5 : Int32) (a6 : Int32) (dy : DY) : Option (Int32 × DY) := bd (si dy a0 0 (0 : Int32)) fun dy1 => (F_X10_isTried S N a0 a1 a2 a4 (200 : Int32) dy1).bind fun u2 => (if u2.1 = 0 then some ((-1 : Int32), u2.2) else if ib a1 12 then (F_X10_in S N a5 (0 : Int32) ((gi u2.2 (gr S a0 8) a1.toNatClampNeg) - (1 : Int32)) u2.2).bind fun u5 => (if u5.1 = 0 then some ((-1 : Int32), u5.2) else if ib a1 12 then (F_X10_in S N a6 (0 : Int32) ((gi u5.2 (gr S a0 8) a1.toNatClampNeg) - (1 : Int32)) u5.2).bind fun u8 => (if u8.1 = 0 then some ((-1 : Int32), u8.2) else (if a5 = a6 then some ((-1 : Int32), u8.2) else (F_X10_lay S N a0 (4 : Int32) a1 a2 a3 (12 : Int32) (-1 : Int32) u8.2).bind fun u10 => (F_X10_touch_76 S N N) a0 a4 a5 a6 (0 : Int32) u10)) else none) else none)
theorem F_X10_touch_s (S : ST) (N : Nat) (a0 : Nat) (a1 : Int32) (a2 : Int32) (a3 : Int32) (a4 : Int32) (a5 : Int32) (a6 : Int32) (dy : DY) : F_X10_touch S N a0 a1 a2 a3 a4 a5 a6 dy = (bd (si dy a0 0 (0 : Int32)) fun dy1 => (F_X10_isTried S N a0 a1 a2 a4 (200 : Int32) dy1).bind fun u2 => (if u2.1 = 0 then some ((-1 : Int32), u2.2) else if ib a1 12 then (F_X10_in S N a5 (0 : Int32) ((gi u2.2 (gr S a0 8) a1.toNatClampNeg) - (1 : Int32)) u2.2).bind fun u5 => (if u5.1 = 0 then some ((-1 : Int32), u5.2) else if ib a1 12 then (F_X10_in S N a6 (0 : Int32) ((gi u5.2 (gr S a0 8) a1.toNatClampNeg) - (1 : Int32)) u5.2).bind fun u8 => (if u8.1 = 0 then some ((-1 : Int32), u8.2) else (if a5 = a6 then some ((-1 : Int32), u8.2) else (F_X10_lay S N a0 (4 : Int32) a1 a2 a3 (12 : Int32) (-1 : Int32) u8.2).bind fun u10 => (F_X10_touch_76 S N N) a0 a4 a5 a6 (0 : Int32) u10)) else none) else none)) := rfl
noncomputable def F_X10_track_60 (S : ST) (N : Nat) : Nat → Nat → Int32 → Int32 → Int32 → Int32 → DY → Option (Int32 × DY) := fun k => Nat.rec (motive := fun _ => Nat → Int32 → Int32 → Int32 → Int32 → DY → Option (Int32 × DY)) (fun _ _ _ _ _ _ => none) (fun _ ih x0 x3 x4 x5 x6 dy => (if x4 ≤ x6 then some (x5, dy) else (if x5 = (-1 : Int32) then some (x5, dy) else (F_X10_findMatch S N x0 x6 x3 dy).bind fun u1 => if ib x5 6 then ih x0 x3 x4 (gi u1 (gr S x0 57) x5.toNatClampNeg) (x6 + (1 : Int32)) u1 else none))) k
theorem F_X10_track_60_s (S : ST) (N : Nat) (k : Nat) (x0 : Nat) (x3 : Int32) (x4 : Int32) (x5 : Int32) (x6 : Int32) (dy : DY) : F_X10_track_60 S N (k + 1) x0 x3 x4 x5 x6 dy = (if x4 ≤ x6 then some (x5, dy) else (if x5 = (-1 : Int32) then some (x5, dy) else (F_X10_findMatch S N x0 x6 x3 dy).bind fun u1 => if ib x5 6 then (F_X10_track_60 S N k) x0 x3 x4 (gi u1 (gr S x0 57) x5.toNatClampNeg) (x6 + (1 : Int32)) u1 else none)) := rfl
noncomputable def F_X10_track (S : ST) (N : Nat) (a0 : Nat) (a1 : Int32) (a2 : Int32) (a3 : Int32) (a4 : Int32) (dy : DY) : Option (Int32 × DY) := bd (si dy a0 0 (0 : Int32)) fun dy1 => (F_X10_in S N a1 (0 : Int32) (7 : Int32) dy1).bind fun u2 => (if u2.1 = 0 then some ((-1 : Int32), u2.2) else (F_X10_in S N a4 a1 (7 : Int32) u2.2).bind fun u4 => (if u4.1 = 0 then some ((-1 : Int32), u4.2) else (F_X10_in S N a3 (0 : Int32) (99 : Int32) u4.2).bind fun u6 => (if u6.1 = 0 then some ((-1 : Int32), u6.2) else if ib a1 32 then (F_X10_in S N a2 (0 : Int32) ((gi u6.2 (gr S a0 15) a1.toNatClampNeg) - (1 : Int32)) u6.2).bind fun u9 => (if u9.1 = 0 then some ((-1 : Int32), u9.2) else (F_X10_track_60 S N N) a0 a3 a4 a2 a1 u9.2) else none)))
theorem F_X10_track_s (S : ST) (N : Nat) (a0 : Nat) (a1 : Int32) (a2 : Int32) (a3 : Int32) (a4 : Int32) (dy : DY) : F_X10_track S N a0 a1 a2 a3 a4 dy = (bd (si dy a0 0 (0 : Int32)) fun dy1 => (F_X10_in S N a1 (0 : Int32) (7 : Int32) dy1).bind fun u2 => (if u2.1 = 0 then some ((-1 : Int32), u2.2) else (F_X10_in S N a4 a1 (7 : Int32) u2.2).bind fun u4 => (if u4.1 = 0 then some ((-1 : Int32), u4.2) else (F_X10_in S N a3 (0 : Int32) (99 : Int32) u4.2).bind fun u6 => (if u6.1 = 0 then some ((-1 : Int32), u6.2) else if ib a1 32 then (F_X10_in S N a2 (0 : Int32) ((gi u6.2 (gr S a0 15) a1.toNatClampNeg) - (1 : Int32)) u6.2).bind fun u9 => (if u9.1 = 0 then some ((-1 : Int32), u9.2) else (F_X10_track_60 S N N) a0 a3 a4 a2 a1 u9.2) else none)))) := rfl
noncomputable def F_X10_two_60 (S : ST) (N : Nat) (x0 : Nat) (x1 : Int32) (x2 : Int32) (x3 : Int32) (x4 : Int32) (dy : DY) : Option (Int32 × DY) := (F_X10_lay S N x0 (5 : Int32) x1 x2 (0 : Int32) (12 : Int32) (-1 : Int32) dy).bind fun u1 => (F_X10_findTwo S N x0 x3 u1).bind fun u3 => (if x4 = 0 then some ((gi u3 x0 53), u3) else if ib (x4 - (10 : Int32)) 9 then some ((gi u3 (gr S x0 54) (x4 - (10 : Int32)).toNatClampNeg), u3) else none)
theorem F_X10_two_60_s (S : ST) (N : Nat) (x0 : Nat) (x1 : Int32) (x2 : Int32) (x3 : Int32) (x4 : Int32) (dy : DY) : F_X10_two_60 S N x0 x1 x2 x3 x4 dy = ((F_X10_lay S N x0 (5 : Int32) x1 x2 (0 : Int32) (12 : Int32) (-1 : Int32) dy).bind fun u1 => (F_X10_findTwo S N x0 x3 u1).bind fun u3 => (if x4 = 0 then some ((gi u3 x0 53), u3) else if ib (x4 - (10 : Int32)) 9 then some ((gi u3 (gr S x0 54) (x4 - (10 : Int32)).toNatClampNeg), u3) else none)) := rfl
noncomputable def F_X10_two (S : ST) (N : Nat) (a0 : Nat) (a1 : Int32) (a2 : Int32) (a3 : Int32) (a4 : Int32) (dy : DY) : Option (Int32 × DY) := bd (si dy a0 0 (0 : Int32)) fun dy1 => (F_X10_isPassage S N a0 a1 dy1).bind fun u2 => (if u2.1 = 0 then some ((-1 : Int32), u2.2) else (F_X10_isLaw S N a0 a2 u2.2).bind fun u4 => (if u4.1 = 0 then some ((-1 : Int32), u4.2) else if ib a1 12 then (if (gi u4.2 (gr S a0 8) a1.toNatClampNeg) = (2 : Int32) then (F_X10_in S N a3 (0 : Int32) (8 : Int32) u4.2).bind fun u7 => (if u7.1 = 0 then some ((-1 : Int32), u7.2) else (if a4 = 0 then (F_X10_two_60 S N) a0 a1 a2 a3 a4 u7.2 else (F_X10_in S N a4 (10 : Int32) (18 : Int32) u7.2).bind fun u9 => (if u9.1 = 0 then some ((-1 : Int32), u9.2) else (F_X10_two_60 S N) a0 a1 a2 a3 a4 u9.2))) else some ((-1 : Int32), u4.2)) else none))
theorem F_X10_two_s (S : ST) (N : Nat) (a0 : Nat) (a1 : Int32) (a2 : Int32) (a3 : Int32) (a4 : Int32) (dy : DY) : F_X10_two S N a0 a1 a2 a3 a4 dy = (bd (si dy a0 0 (0 : Int32)) fun dy1 => (F_X10_isPassage S N a0 a1 dy1).bind fun u2 => (if u2.1 = 0 then some ((-1 : Int32), u2.2) else (F_X10_isLaw S N a0 a2 u2.2).bind fun u4 => (if u4.1 = 0 then some ((-1 : Int32), u4.2) else if ib a1 12 then (if (gi u4.2 (gr S a0 8) a1.toNatClampNeg) = (2 : Int32) then (F_X10_in S N a3 (0 : Int32) (8 : Int32) u4.2).bind fun u7 => (if u7.1 = 0 then some ((-1 : Int32), u7.2) else (if a4 = 0 then (F_X10_two_60 S N) a0 a1 a2 a3 a4 u7.2 else (F_X10_in S N a4 (10 : Int32) (18 : Int32) u7.2).bind fun u9 => (if u9.1 = 0 then some ((-1 : Int32), u9.2) else (F_X10_two_60 S N) a0 a1 a2 a3 a4 u9.2))) else some ((-1 : Int32), u4.2)) else none))) := rfl
noncomputable def F_X10_walker (S : ST) (N : Nat) (a0 : Nat) (a1 : Int32) (a2 : Int32) (a3 : Int32) (dy : DY) : Option (Int32 × DY) := bd (si dy a0 0 (0 : Int32)) fun dy1 => (F_X10_isPassage S N a0 a1 dy1).bind fun u2 => (if u2.1 = 0 then some ((-2 : Int32), u2.2) else if ib a1 12 then (F_X10_in S N a2 (0 : Int32) ((gi u2.2 (gr S a0 8) a1.toNatClampNeg) - (1 : Int32)) u2.2).bind fun u5 => (if u5.1 = 0 then some ((-2 : Int32), u5.2) else (F_X10_in S N a3 (0 : Int32) (7 : Int32) u5.2).bind fun u7 => (if u7.1 = 0 then some ((-2 : Int32), u7.2) else if ib (((8 : Int32) * (((12 : Int32) * a1) + a2)) + a3) 1152 then some ((gi u7.2 (gr S a0 11) (((8 : Int32) * (((12 : Int32) * a1) + a2)) + a3).toNatClampNeg), u7.2) else none)) else none)
theorem F_X10_walker_s (S : ST) (N : Nat) (a0 : Nat) (a1 : Int32) (a2 : Int32) (a3 : Int32) (dy : DY) : F_X10_walker S N a0 a1 a2 a3 dy = (bd (si dy a0 0 (0 : Int32)) fun dy1 => (F_X10_isPassage S N a0 a1 dy1).bind fun u2 => (if u2.1 = 0 then some ((-2 : Int32), u2.2) else if ib a1 12 then (F_X10_in S N a2 (0 : Int32) ((gi u2.2 (gr S a0 8) a1.toNatClampNeg) - (1 : Int32)) u2.2).bind fun u5 => (if u5.1 = 0 then some ((-2 : Int32), u5.2) else (F_X10_in S N a3 (0 : Int32) (7 : Int32) u5.2).bind fun u7 => (if u7.1 = 0 then some ((-2 : Int32), u7.2) else if ib (((8 : Int32) * (((12 : Int32) * a1) + a2)) + a3) 1152 then some ((gi u7.2 (gr S a0 11) (((8 : Int32) * (((12 : Int32) * a1) + a2)) + a3).toNatClampNeg), u7.2) else none)) else none)) := rfl
noncomputable def F_X10_worth (S : ST) (N : Nat) (a0 : Nat) (a1 : Int32) (a2 : Int32) (dy : DY) : Option (Int32 × DY) := bd (si dy a0 0 (0 : Int32)) fun dy1 => (F_X10_isMatch S N a1 a2 dy1).bind fun u2 => (if u2.1 = 0 then some ((-1 : Int32), u2.2) else (F_X10_findMatch S N a0 a1 a2 u2.2).bind fun u4 => some ((gi u4 a0 58), u4))
theorem F_X10_worth_s (S : ST) (N : Nat) (a0 : Nat) (a1 : Int32) (a2 : Int32) (dy : DY) : F_X10_worth S N a0 a1 a2 dy = (bd (si dy a0 0 (0 : Int32)) fun dy1 => (F_X10_isMatch S N a1 a2 dy1).bind fun u2 => (if u2.1 = 0 then some ((-1 : Int32), u2.2) else (F_X10_findMatch S N a0 a1 a2 u2.2).bind fun u4 => some ((gi u4 a0 58), u4))) := rfl
theorem dX10_flow_0 : decode cX10_flow 0 = .ok (.aload_n 0, 1) := by decide +kernel
theorem dX10_flow_1 : decode cX10_flow 1 = .ok (.iconst 0, 1) := by decide +kernel
theorem dX10_flow_2 : decode cX10_flow 2 = .ok (.putfield 121, 3) := by decide +kernel
theorem dX10_flow_5 : decode cX10_flow 5 = .ok (.aload_n 0, 1) := by decide +kernel
theorem dX10_flow_6 : decode cX10_flow 6 = .ok (.iload_n 1, 1) := by decide +kernel
theorem dX10_flow_7 : decode cX10_flow 7 = .ok (.iload_n 2, 1) := by decide +kernel
theorem dX10_flow_8 : decode cX10_flow 8 = .ok (.iload 4, 2) := by decide +kernel
theorem dX10_flow_10 : decode cX10_flow 10 = .ok (.sipush 200, 3) := by decide +kernel
theorem dX10_flow_13 : decode cX10_flow 13 = .ok (.invokevirtual 447, 3) := by decide +kernel
theorem dX10_flow_16 : decode cX10_flow 16 = .ok (.ifCond .ne 5, 3) := by decide +kernel
theorem dX10_flow_19 : decode cX10_flow 19 = .ok (.iconst (-1), 1) := by decide +kernel
theorem dX10_flow_20 : decode cX10_flow 20 = .ok (.ireturn, 1) := by decide +kernel
theorem dX10_flow_21 : decode cX10_flow 21 = .ok (.aload_n 0, 1) := by decide +kernel
theorem dX10_flow_22 : decode cX10_flow 22 = .ok (.iconst 4, 1) := by decide +kernel
theorem dX10_flow_23 : decode cX10_flow 23 = .ok (.iload_n 1, 1) := by decide +kernel
theorem dX10_flow_24 : decode cX10_flow 24 = .ok (.iload_n 2, 1) := by decide +kernel
theorem dX10_flow_25 : decode cX10_flow 25 = .ok (.iload_n 3, 1) := by decide +kernel
theorem dX10_flow_26 : decode cX10_flow 26 = .ok (.bipush 12, 2) := by decide +kernel
theorem dX10_flow_28 : decode cX10_flow 28 = .ok (.iconst (-1), 1) := by decide +kernel
theorem dX10_flow_29 : decode cX10_flow 29 = .ok (.invokevirtual 420, 3) := by decide +kernel
theorem dX10_flow_32 : decode cX10_flow 32 = .ok (.iconst 0, 1) := by decide +kernel
theorem dX10_flow_33 : decode cX10_flow 33 = .ok (.istore 5, 2) := by decide +kernel
theorem dX10_flow_35 : decode cX10_flow 35 = .ok (.aload_n 0, 1) := by decide +kernel
theorem dX10_flow_36 : decode cX10_flow 36 = .ok (.getfield 104, 3) := by decide +kernel
theorem dX10_flow_39 : decode cX10_flow 39 = .ok (.iconst 0, 1) := by decide +kernel
theorem dX10_flow_40 : decode cX10_flow 40 = .ok (.iconst 0, 1) := by decide +kernel
theorem dX10_flow_41 : decode cX10_flow 41 = .ok (.iastore, 1) := by decide +kernel
theorem dX10_flow_42 : decode cX10_flow 42 = .ok (.iconst 1, 1) := by decide +kernel
theorem dX10_flow_43 : decode cX10_flow 43 = .ok (.istore 6, 2) := by decide +kernel
theorem dX10_flow_45 : decode cX10_flow 45 = .ok (.iload 6, 2) := by decide +kernel
theorem dX10_flow_47 : decode cX10_flow 47 = .ok (.iload 4, 2) := by decide +kernel
theorem dX10_flow_49 : decode cX10_flow 49 = .ok (.if_icmp .gt 76, 3) := by decide +kernel
theorem dX10_flow_52 : decode cX10_flow 52 = .ok (.aload_n 0, 1) := by decide +kernel
theorem dX10_flow_53 : decode cX10_flow 53 = .ok (.iconst 1, 1) := by decide +kernel
theorem dX10_flow_54 : decode cX10_flow 54 = .ok (.invokevirtual 451, 3) := by decide +kernel
theorem dX10_flow_57 : decode cX10_flow 57 = .ok (.aload_n 0, 1) := by decide +kernel
theorem dX10_flow_58 : decode cX10_flow 58 = .ok (.getfield 104, 3) := by decide +kernel
theorem dX10_flow_61 : decode cX10_flow 61 = .ok (.iload 6, 2) := by decide +kernel
theorem dX10_flow_63 : decode cX10_flow 63 = .ok (.aload_n 0, 1) := by decide +kernel
theorem dX10_flow_64 : decode cX10_flow 64 = .ok (.getfield 71, 3) := by decide +kernel
theorem dX10_flow_67 : decode cX10_flow 67 = .ok (.sipush 2886, 3) := by decide +kernel
theorem dX10_flow_70 : decode cX10_flow 70 = .ok (.iaload, 1) := by decide +kernel
theorem dX10_flow_71 : decode cX10_flow 71 = .ok (.iastore, 1) := by decide +kernel
theorem dX10_flow_72 : decode cX10_flow 72 = .ok (.aload_n 0, 1) := by decide +kernel
theorem dX10_flow_73 : decode cX10_flow 73 = .ok (.getfield 104, 3) := by decide +kernel
theorem dX10_flow_76 : decode cX10_flow 76 = .ok (.iload 6, 2) := by decide +kernel
theorem dX10_flow_78 : decode cX10_flow 78 = .ok (.iaload, 1) := by decide +kernel
theorem dX10_flow_79 : decode cX10_flow 79 = .ok (.aload_n 0, 1) := by decide +kernel
theorem dX10_flow_80 : decode cX10_flow 80 = .ok (.getfield 104, 3) := by decide +kernel
theorem dX10_flow_83 : decode cX10_flow 83 = .ok (.iload 6, 2) := by decide +kernel
theorem dX10_flow_85 : decode cX10_flow 85 = .ok (.bipush 10, 2) := by decide +kernel
theorem dX10_flow_87 : decode cX10_flow 87 = .ok (.if_icmp .le 11, 3) := by decide +kernel
theorem dX10_flow_90 : decode cX10_flow 90 = .ok (.iload 6, 2) := by decide +kernel
theorem dX10_flow_92 : decode cX10_flow 92 = .ok (.bipush 10, 2) := by decide +kernel
theorem dX10_flow_94 : decode cX10_flow 94 = .ok (.isub, 1) := by decide +kernel
theorem dX10_flow_95 : decode cX10_flow 95 = .ok (.goto 4, 3) := by decide +kernel
theorem dX10_flow_98 : decode cX10_flow 98 = .ok (.iconst 0, 1) := by decide +kernel
theorem dX10_flow_99 : decode cX10_flow 99 = .ok (.iaload, 1) := by decide +kernel
theorem dX10_flow_100 : decode cX10_flow 100 = .ok (.isub, 1) := by decide +kernel
theorem dX10_flow_101 : decode cX10_flow 101 = .ok (.istore 7, 2) := by decide +kernel
theorem dX10_flow_103 : decode cX10_flow 103 = .ok (.iload 7, 2) := by decide +kernel
theorem dX10_flow_105 : decode cX10_flow 105 = .ok (.iload 5, 2) := by decide +kernel
theorem dX10_flow_107 : decode cX10_flow 107 = .ok (.if_icmp .le 8, 3) := by decide +kernel
theorem dX10_flow_110 : decode cX10_flow 110 = .ok (.iload 7, 2) := by decide +kernel
theorem dX10_flow_112 : decode cX10_flow 112 = .ok (.goto 5, 3) := by decide +kernel
theorem dX10_flow_115 : decode cX10_flow 115 = .ok (.iload 5, 2) := by decide +kernel
theorem dX10_flow_117 : decode cX10_flow 117 = .ok (.istore 5, 2) := by decide +kernel
theorem dX10_flow_119 : decode cX10_flow 119 = .ok (.iinc 6 1, 3) := by decide +kernel
theorem dX10_flow_122 : decode cX10_flow 122 = .ok (.goto (-77), 3) := by decide +kernel
theorem dX10_flow_125 : decode cX10_flow 125 = .ok (.iload 5, 2) := by decide +kernel
theorem dX10_flow_127 : decode cX10_flow 127 = .ok (.ireturn, 1) := by decide +kernel
theorem dX10_later_0 : decode cX10_later 0 = .ok (.aload_n 0, 1) := by decide +kernel
theorem dX10_later_1 : decode cX10_later 1 = .ok (.getfield 167, 3) := by decide +kernel
theorem dX10_later_4 : decode cX10_later 4 = .ok (.ifCond .eq 27, 3) := by decide +kernel
theorem dX10_later_7 : decode cX10_later 7 = .ok (.iload_n 2, 1) := by decide +kernel
theorem dX10_later_8 : decode cX10_later 8 = .ok (.aload_n 0, 1) := by decide +kernel
theorem dX10_later_9 : decode cX10_later 9 = .ok (.getfield 170, 3) := by decide +kernel
theorem dX10_later_12 : decode cX10_later 12 = .ok (.if_icmp .lt 19, 3) := by decide +kernel
theorem dX10_later_15 : decode cX10_later 15 = .ok (.iload_n 2, 1) := by decide +kernel
theorem dX10_later_16 : decode cX10_later 16 = .ok (.aload_n 0, 1) := by decide +kernel
theorem dX10_later_17 : decode cX10_later 17 = .ok (.getfield 170, 3) := by decide +kernel
theorem dX10_later_20 : decode cX10_later 20 = .ok (.if_icmp .ne 21, 3) := by decide +kernel
theorem dX10_later_23 : decode cX10_later 23 = .ok (.iload_n 1, 1) := by decide +kernel
theorem dX10_later_24 : decode cX10_later 24 = .ok (.aload_n 0, 1) := by decide +kernel
theorem dX10_later_25 : decode cX10_later 25 = .ok (.getfield 167, 3) := by decide +kernel
theorem dX10_later_28 : decode cX10_later 28 = .ok (.if_icmp .ge 13, 3) := by decide +kernel
theorem dX10_later_31 : decode cX10_later 31 = .ok (.aload_n 0, 1) := by decide +kernel
theorem dX10_later_32 : decode cX10_later 32 = .ok (.iload_n 1, 1) := by decide +kernel
theorem dX10_later_33 : decode cX10_later 33 = .ok (.putfield 167, 3) := by decide +kernel
theorem dX10_later_36 : decode cX10_later 36 = .ok (.aload_n 0, 1) := by decide +kernel
theorem dX10_later_37 : decode cX10_later 37 = .ok (.iload_n 2, 1) := by decide +kernel
theorem dX10_later_38 : decode cX10_later 38 = .ok (.putfield 170, 3) := by decide +kernel
theorem dX10_later_41 : decode cX10_later 41 = .ok (.return_, 1) := by decide +kernel
theorem dX10_stops_0 : decode cX10_stops 0 = .ok (.aload_n 0, 1) := by decide +kernel
theorem dX10_stops_1 : decode cX10_stops 1 = .ok (.aload_n 0, 1) := by decide +kernel
theorem dX10_stops_2 : decode cX10_stops 2 = .ok (.getfield 147, 3) := by decide +kernel
theorem dX10_stops_5 : decode cX10_stops 5 = .ok (.putfield 164, 3) := by decide +kernel
theorem dX10_stops_8 : decode cX10_stops 8 = .ok (.iconst 0, 1) := by decide +kernel
theorem dX10_stops_9 : decode cX10_stops 9 = .ok (.ireturn, 1) := by decide +kernel
theorem dX10_isSign_0 : decode cX10_isSign 0 = .ok (.iload_n 0, 1) := by decide +kernel
theorem dX10_isSign_1 : decode cX10_isSign 1 = .ok (.bipush 58, 2) := by decide +kernel
theorem dX10_isSign_3 : decode cX10_isSign 3 = .ok (.if_icmp .eq 27, 3) := by decide +kernel
theorem dX10_isSign_6 : decode cX10_isSign 6 = .ok (.iload_n 0, 1) := by decide +kernel
theorem dX10_isSign_7 : decode cX10_isSign 7 = .ok (.bipush 59, 2) := by decide +kernel
theorem dX10_isSign_9 : decode cX10_isSign 9 = .ok (.if_icmp .eq 21, 3) := by decide +kernel
theorem dX10_isSign_12 : decode cX10_isSign 12 = .ok (.iload_n 0, 1) := by decide +kernel
theorem dX10_isSign_13 : decode cX10_isSign 13 = .ok (.bipush 60, 2) := by decide +kernel
theorem dX10_isSign_15 : decode cX10_isSign 15 = .ok (.if_icmp .eq 15, 3) := by decide +kernel
theorem dX10_isSign_18 : decode cX10_isSign 18 = .ok (.iload_n 0, 1) := by decide +kernel
theorem dX10_isSign_19 : decode cX10_isSign 19 = .ok (.bipush 62, 2) := by decide +kernel
theorem dX10_isSign_21 : decode cX10_isSign 21 = .ok (.if_icmp .eq 9, 3) := by decide +kernel
theorem dX10_isSign_24 : decode cX10_isSign 24 = .ok (.iload_n 0, 1) := by decide +kernel
theorem dX10_isSign_25 : decode cX10_isSign 25 = .ok (.bipush 61, 2) := by decide +kernel
theorem dX10_isSign_27 : decode cX10_isSign 27 = .ok (.if_icmp .ne 7, 3) := by decide +kernel
theorem dX10_isSign_30 : decode cX10_isSign 30 = .ok (.iconst 1, 1) := by decide +kernel
theorem dX10_isSign_31 : decode cX10_isSign 31 = .ok (.goto 4, 3) := by decide +kernel
theorem dX10_isSign_34 : decode cX10_isSign 34 = .ok (.iconst 0, 1) := by decide +kernel
theorem dX10_isSign_35 : decode cX10_isSign 35 = .ok (.ireturn, 1) := by decide +kernel
theorem dX10_see_0 : decode cX10_see 0 = .ok (.aload_n 0, 1) := by decide +kernel
theorem dX10_see_1 : decode cX10_see 1 = .ok (.getfield 137, 3) := by decide +kernel
theorem dX10_see_4 : decode cX10_see 4 = .ok (.aload_n 0, 1) := by decide +kernel
theorem dX10_see_5 : decode cX10_see 5 = .ok (.getfield 140, 3) := by decide +kernel
theorem dX10_see_8 : decode cX10_see 8 = .ok (.if_icmp .ge 19, 3) := by decide +kernel
theorem dX10_see_11 : decode cX10_see 11 = .ok (.aload_n 0, 1) := by decide +kernel
theorem dX10_see_12 : decode cX10_see 12 = .ok (.getfield 7, 3) := by decide +kernel
theorem dX10_see_15 : decode cX10_see 15 = .ok (.aload_n 0, 1) := by decide +kernel
theorem dX10_see_16 : decode cX10_see 16 = .ok (.getfield 137, 3) := by decide +kernel
theorem dX10_see_19 : decode cX10_see 19 = .ok (.baload, 1) := by decide +kernel
theorem dX10_see_20 : decode cX10_see 20 = .ok (.sipush 255, 3) := by decide +kernel
theorem dX10_see_23 : decode cX10_see 23 = .ok (.iand, 1) := by decide +kernel
theorem dX10_see_24 : decode cX10_see 24 = .ok (.goto 4, 3) := by decide +kernel
theorem dX10_see_27 : decode cX10_see 27 = .ok (.iconst (-1), 1) := by decide +kernel
theorem dX10_see_28 : decode cX10_see 28 = .ok (.ireturn, 1) := by decide +kernel
theorem dX10_token_0 : decode cX10_token 0 = .ok (.aload_n 0, 1) := by decide +kernel
theorem dX10_token_1 : decode cX10_token 1 = .ok (.invokevirtual 143, 3) := by decide +kernel
theorem dX10_token_4 : decode cX10_token 4 = .ok (.bipush 10, 2) := by decide +kernel
theorem dX10_token_6 : decode cX10_token 6 = .ok (.if_icmp .eq 12, 3) := by decide +kernel
theorem dX10_token_9 : decode cX10_token 9 = .ok (.aload_n 0, 1) := by decide +kernel
theorem dX10_token_10 : decode cX10_token 10 = .ok (.invokevirtual 143, 3) := by decide +kernel
theorem dX10_token_13 : decode cX10_token 13 = .ok (.bipush 32, 2) := by decide +kernel
theorem dX10_token_15 : decode cX10_token 15 = .ok (.if_icmp .ne 16, 3) := by decide +kernel
theorem dX10_token_18 : decode cX10_token 18 = .ok (.aload_n 0, 1) := by decide +kernel
theorem dX10_token_19 : decode cX10_token 19 = .ok (.dup, 1) := by decide +kernel
theorem dX10_token_20 : decode cX10_token 20 = .ok (.getfield 137, 3) := by decide +kernel
theorem dX10_token_23 : decode cX10_token 23 = .ok (.iconst 1, 1) := by decide +kernel
theorem dX10_token_24 : decode cX10_token 24 = .ok (.iadd, 1) := by decide +kernel
theorem dX10_token_25 : decode cX10_token 25 = .ok (.putfield 137, 3) := by decide +kernel
theorem dX10_token_28 : decode cX10_token 28 = .ok (.goto (-28), 3) := by decide +kernel
theorem dX10_token_31 : decode cX10_token 31 = .ok (.aload_n 0, 1) := by decide +kernel
theorem dX10_token_32 : decode cX10_token 32 = .ok (.aload_n 0, 1) := by decide +kernel
theorem dX10_token_33 : decode cX10_token 33 = .ok (.getfield 137, 3) := by decide +kernel
theorem dX10_token_36 : decode cX10_token 36 = .ok (.putfield 147, 3) := by decide +kernel
theorem dX10_token_39 : decode cX10_token 39 = .ok (.aload_n 0, 1) := by decide +kernel
theorem dX10_token_40 : decode cX10_token 40 = .ok (.invokevirtual 143, 3) := by decide +kernel
theorem dX10_token_43 : decode cX10_token 43 = .ok (.istore_n 1, 1) := by decide +kernel
theorem dX10_token_44 : decode cX10_token 44 = .ok (.aload_n 0, 1) := by decide +kernel
theorem dX10_token_45 : decode cX10_token 45 = .ok (.lconst 0, 1) := by decide +kernel
theorem dX10_token_46 : decode cX10_token 46 = .ok (.putfield 150, 3) := by decide +kernel
theorem dX10_token_49 : decode cX10_token 49 = .ok (.iconst 0, 1) := by decide +kernel
theorem dX10_token_50 : decode cX10_token 50 = .ok (.istore_n 2, 1) := by decide +kernel
theorem dX10_token_51 : decode cX10_token 51 = .ok (.iload_n 1, 1) := by decide +kernel
theorem dX10_token_52 : decode cX10_token 52 = .ok (.ifCond .ge 11, 3) := by decide +kernel
theorem dX10_token_55 : decode cX10_token 55 = .ok (.aload_n 0, 1) := by decide +kernel
theorem dX10_token_56 : decode cX10_token 56 = .ok (.iconst 0, 1) := by decide +kernel
theorem dX10_token_57 : decode cX10_token 57 = .ok (.putfield 154, 3) := by decide +kernel
theorem dX10_token_60 : decode cX10_token 60 = .ok (.goto 212, 3) := by decide +kernel
theorem dX10_token_63 : decode cX10_token 63 = .ok (.iload_n 1, 1) := by decide +kernel
theorem dX10_token_64 : decode cX10_token 64 = .ok (.bipush 97, 2) := by decide +kernel
theorem dX10_token_66 : decode cX10_token 66 = .ok (.bipush 122, 2) := by decide +kernel
theorem dX10_token_68 : decode cX10_token 68 = .ok (.invokestatic 129, 3) := by decide +kernel
theorem dX10_token_71 : decode cX10_token 71 = .ok (.ifCond .eq 76, 3) := by decide +kernel
theorem dX10_token_74 : decode cX10_token 74 = .ok (.aload_n 0, 1) := by decide +kernel
theorem dX10_token_75 : decode cX10_token 75 = .ok (.invokevirtual 143, 3) := by decide +kernel
theorem dX10_token_78 : decode cX10_token 78 = .ok (.bipush 97, 2) := by decide +kernel
theorem dX10_token_80 : decode cX10_token 80 = .ok (.bipush 122, 2) := by decide +kernel
theorem dX10_token_82 : decode cX10_token 82 = .ok (.invokestatic 129, 3) := by decide +kernel
theorem dX10_token_85 : decode cX10_token 85 = .ok (.ifCond .eq 36, 3) := by decide +kernel
theorem dX10_token_88 : decode cX10_token 88 = .ok (.aload_n 0, 1) := by decide +kernel
theorem dX10_token_89 : decode cX10_token 89 = .ok (.aload_n 0, 1) := by decide +kernel
theorem dX10_token_90 : decode cX10_token 90 = .ok (.getfield 150, 3) := by decide +kernel
theorem dX10_token_93 : decode cX10_token 93 = .ok (.bipush 8, 2) := by decide +kernel
theorem dX10_token_95 : decode cX10_token 95 = .ok (.lshl, 1) := by decide +kernel
theorem dX10_token_96 : decode cX10_token 96 = .ok (.aload_n 0, 1) := by decide +kernel
theorem dX10_token_97 : decode cX10_token 97 = .ok (.invokevirtual 143, 3) := by decide +kernel
theorem dX10_token_100 : decode cX10_token 100 = .ok (.i2l, 1) := by decide +kernel
theorem dX10_token_101 : decode cX10_token 101 = .ok (.lor, 1) := by decide +kernel
theorem dX10_token_102 : decode cX10_token 102 = .ok (.putfield 150, 3) := by decide +kernel
theorem dX10_token_105 : decode cX10_token 105 = .ok (.aload_n 0, 1) := by decide +kernel
theorem dX10_token_106 : decode cX10_token 106 = .ok (.dup, 1) := by decide +kernel
theorem dX10_token_107 : decode cX10_token 107 = .ok (.getfield 137, 3) := by decide +kernel
theorem dX10_token_110 : decode cX10_token 110 = .ok (.iconst 1, 1) := by decide +kernel
theorem dX10_token_111 : decode cX10_token 111 = .ok (.iadd, 1) := by decide +kernel
theorem dX10_token_112 : decode cX10_token 112 = .ok (.putfield 137, 3) := by decide +kernel
theorem dX10_token_115 : decode cX10_token 115 = .ok (.iinc 2 1, 3) := by decide +kernel
theorem dX10_token_118 : decode cX10_token 118 = .ok (.goto (-44), 3) := by decide +kernel
theorem dX10_token_121 : decode cX10_token 121 = .ok (.aload_n 0, 1) := by decide +kernel
theorem dX10_token_122 : decode cX10_token 122 = .ok (.iload_n 2, 1) := by decide +kernel
theorem dX10_token_123 : decode cX10_token 123 = .ok (.bipush 8, 2) := by decide +kernel
theorem dX10_token_125 : decode cX10_token 125 = .ok (.if_icmp .le 7, 3) := by decide +kernel
theorem dX10_token_128 : decode cX10_token 128 = .ok (.lconst 0, 1) := by decide +kernel
theorem dX10_token_129 : decode cX10_token 129 = .ok (.goto 7, 3) := by decide +kernel
theorem dX10_token_132 : decode cX10_token 132 = .ok (.aload_n 0, 1) := by decide +kernel
theorem dX10_token_133 : decode cX10_token 133 = .ok (.getfield 150, 3) := by decide +kernel
theorem dX10_token_136 : decode cX10_token 136 = .ok (.putfield 150, 3) := by decide +kernel
theorem dX10_token_139 : decode cX10_token 139 = .ok (.aload_n 0, 1) := by decide +kernel
theorem dX10_token_140 : decode cX10_token 140 = .ok (.iconst 2, 1) := by decide +kernel
theorem dX10_token_141 : decode cX10_token 141 = .ok (.putfield 154, 3) := by decide +kernel
theorem dX10_token_144 : decode cX10_token 144 = .ok (.goto 128, 3) := by decide +kernel
theorem dX10_token_147 : decode cX10_token 147 = .ok (.iload_n 1, 1) := by decide +kernel
theorem dX10_token_148 : decode cX10_token 148 = .ok (.bipush 48, 2) := by decide +kernel
theorem dX10_token_150 : decode cX10_token 150 = .ok (.bipush 57, 2) := by decide +kernel
theorem dX10_token_152 : decode cX10_token 152 = .ok (.invokestatic 129, 3) := by decide +kernel
theorem dX10_token_155 : decode cX10_token 155 = .ok (.ifCond .eq 86, 3) := by decide +kernel
theorem dX10_token_158 : decode cX10_token 158 = .ok (.aload_n 0, 1) := by decide +kernel
theorem dX10_token_159 : decode cX10_token 159 = .ok (.iconst 0, 1) := by decide +kernel
theorem dX10_token_160 : decode cX10_token 160 = .ok (.putfield 157, 3) := by decide +kernel
theorem dX10_token_163 : decode cX10_token 163 = .ok (.aload_n 0, 1) := by decide +kernel
theorem dX10_token_164 : decode cX10_token 164 = .ok (.invokevirtual 143, 3) := by decide +kernel
theorem dX10_token_167 : decode cX10_token 167 = .ok (.bipush 48, 2) := by decide +kernel
theorem dX10_token_169 : decode cX10_token 169 = .ok (.bipush 57, 2) := by decide +kernel
theorem dX10_token_171 : decode cX10_token 171 = .ok (.invokestatic 129, 3) := by decide +kernel
theorem dX10_token_174 : decode cX10_token 174 = .ok (.ifCond .eq 50, 3) := by decide +kernel
theorem dX10_token_177 : decode cX10_token 177 = .ok (.aload_n 0, 1) := by decide +kernel
theorem dX10_token_178 : decode cX10_token 178 = .ok (.iload_n 2, 1) := by decide +kernel
theorem dX10_token_179 : decode cX10_token 179 = .ok (.iconst 3, 1) := by decide +kernel
theorem dX10_token_180 : decode cX10_token 180 = .ok (.if_icmp .ge 21, 3) := by decide +kernel
theorem dX10_token_183 : decode cX10_token 183 = .ok (.bipush 10, 2) := by decide +kernel
theorem dX10_token_185 : decode cX10_token 185 = .ok (.aload_n 0, 1) := by decide +kernel
theorem dX10_token_186 : decode cX10_token 186 = .ok (.getfield 157, 3) := by decide +kernel
theorem dX10_token_189 : decode cX10_token 189 = .ok (.imul, 1) := by decide +kernel
theorem dX10_token_190 : decode cX10_token 190 = .ok (.aload_n 0, 1) := by decide +kernel
theorem dX10_token_191 : decode cX10_token 191 = .ok (.invokevirtual 143, 3) := by decide +kernel
theorem dX10_token_194 : decode cX10_token 194 = .ok (.iadd, 1) := by decide +kernel
theorem dX10_token_195 : decode cX10_token 195 = .ok (.bipush 48, 2) := by decide +kernel
theorem dX10_token_197 : decode cX10_token 197 = .ok (.isub, 1) := by decide +kernel
theorem dX10_token_198 : decode cX10_token 198 = .ok (.goto 7, 3) := by decide +kernel
theorem dX10_token_201 : decode cX10_token 201 = .ok (.aload_n 0, 1) := by decide +kernel
theorem dX10_token_202 : decode cX10_token 202 = .ok (.getfield 157, 3) := by decide +kernel
theorem dX10_token_205 : decode cX10_token 205 = .ok (.putfield 157, 3) := by decide +kernel
theorem dX10_token_208 : decode cX10_token 208 = .ok (.aload_n 0, 1) := by decide +kernel
theorem dX10_token_209 : decode cX10_token 209 = .ok (.dup, 1) := by decide +kernel
theorem dX10_token_210 : decode cX10_token 210 = .ok (.getfield 137, 3) := by decide +kernel
theorem dX10_token_213 : decode cX10_token 213 = .ok (.iconst 1, 1) := by decide +kernel
theorem dX10_token_214 : decode cX10_token 214 = .ok (.iadd, 1) := by decide +kernel
theorem dX10_token_215 : decode cX10_token 215 = .ok (.putfield 137, 3) := by decide +kernel
theorem dX10_token_218 : decode cX10_token 218 = .ok (.iinc 2 1, 3) := by decide +kernel
theorem dX10_token_221 : decode cX10_token 221 = .ok (.goto (-58), 3) := by decide +kernel
theorem dX10_token_224 : decode cX10_token 224 = .ok (.aload_n 0, 1) := by decide +kernel
theorem dX10_token_225 : decode cX10_token 225 = .ok (.iload_n 2, 1) := by decide +kernel
theorem dX10_token_226 : decode cX10_token 226 = .ok (.iconst 3, 1) := by decide +kernel
theorem dX10_token_227 : decode cX10_token 227 = .ok (.if_icmp .le 7, 3) := by decide +kernel
theorem dX10_token_230 : decode cX10_token 230 = .ok (.iconst 1, 1) := by decide +kernel
theorem dX10_token_231 : decode cX10_token 231 = .ok (.goto 4, 3) := by decide +kernel
theorem dX10_token_234 : decode cX10_token 234 = .ok (.iconst 3, 1) := by decide +kernel
theorem dX10_token_235 : decode cX10_token 235 = .ok (.putfield 154, 3) := by decide +kernel
theorem dX10_token_238 : decode cX10_token 238 = .ok (.goto 34, 3) := by decide +kernel
theorem dX10_token_241 : decode cX10_token 241 = .ok (.aload_n 0, 1) := by decide +kernel
theorem dX10_token_242 : decode cX10_token 242 = .ok (.dup, 1) := by decide +kernel
theorem dX10_token_243 : decode cX10_token 243 = .ok (.getfield 137, 3) := by decide +kernel
theorem dX10_token_246 : decode cX10_token 246 = .ok (.iconst 1, 1) := by decide +kernel
theorem dX10_token_247 : decode cX10_token 247 = .ok (.iadd, 1) := by decide +kernel
theorem dX10_token_248 : decode cX10_token 248 = .ok (.putfield 137, 3) := by decide +kernel
theorem dX10_token_251 : decode cX10_token 251 = .ok (.aload_n 0, 1) := by decide +kernel
theorem dX10_token_252 : decode cX10_token 252 = .ok (.iload_n 1, 1) := by decide +kernel
theorem dX10_token_253 : decode cX10_token 253 = .ok (.putfield 157, 3) := by decide +kernel
theorem dX10_token_256 : decode cX10_token 256 = .ok (.aload_n 0, 1) := by decide +kernel
theorem dX10_token_257 : decode cX10_token 257 = .ok (.iload_n 1, 1) := by decide +kernel
theorem dX10_token_258 : decode cX10_token 258 = .ok (.invokestatic 160, 3) := by decide +kernel
theorem dX10_token_261 : decode cX10_token 261 = .ok (.ifCond .eq 7, 3) := by decide +kernel
theorem dX10_token_264 : decode cX10_token 264 = .ok (.iconst 4, 1) := by decide +kernel
theorem dX10_token_265 : decode cX10_token 265 = .ok (.goto 4, 3) := by decide +kernel
theorem dX10_token_268 : decode cX10_token 268 = .ok (.iconst 1, 1) := by decide +kernel
theorem dX10_token_269 : decode cX10_token 269 = .ok (.putfield 154, 3) := by decide +kernel
theorem dX10_token_272 : decode cX10_token 272 = .ok (.return_, 1) := by decide +kernel
theorem dX10_number_0 : decode cX10_number 0 = .ok (.aload_n 0, 1) := by decide +kernel
theorem dX10_number_1 : decode cX10_number 1 = .ok (.getfield 154, 3) := by decide +kernel
theorem dX10_number_4 : decode cX10_number 4 = .ok (.iconst 3, 1) := by decide +kernel
theorem dX10_number_5 : decode cX10_number 5 = .ok (.if_icmp .eq 8, 3) := by decide +kernel
theorem dX10_number_8 : decode cX10_number 8 = .ok (.aload_n 0, 1) := by decide +kernel
theorem dX10_number_9 : decode cX10_number 9 = .ok (.invokevirtual 173, 3) := by decide +kernel
theorem dX10_number_12 : decode cX10_number 12 = .ok (.ireturn, 1) := by decide +kernel
theorem dX10_number_13 : decode cX10_number 13 = .ok (.aload_n 0, 1) := by decide +kernel
theorem dX10_number_14 : decode cX10_number 14 = .ok (.aload_n 0, 1) := by decide +kernel
theorem dX10_number_15 : decode cX10_number 15 = .ok (.getfield 157, 3) := by decide +kernel
theorem dX10_number_18 : decode cX10_number 18 = .ok (.putfield 177, 3) := by decide +kernel
theorem dX10_number_21 : decode cX10_number 21 = .ok (.aload_n 0, 1) := by decide +kernel
theorem dX10_number_22 : decode cX10_number 22 = .ok (.getfield 157, 3) := by decide +kernel
theorem dX10_number_25 : decode cX10_number 25 = .ok (.iload_n 1, 1) := by decide +kernel
theorem dX10_number_26 : decode cX10_number 26 = .ok (.iload_n 2, 1) := by decide +kernel
theorem dX10_number_27 : decode cX10_number 27 = .ok (.invokestatic 129, 3) := by decide +kernel
theorem dX10_number_30 : decode cX10_number 30 = .ok (.ifCond .ne 17, 3) := by decide +kernel
theorem dX10_number_33 : decode cX10_number 33 = .ok (.aload_n 0, 1) := by decide +kernel
theorem dX10_number_34 : decode cX10_number 34 = .ok (.iconst 2, 1) := by decide +kernel
theorem dX10_number_35 : decode cX10_number 35 = .ok (.aload_n 0, 1) := by decide +kernel
theorem dX10_number_36 : decode cX10_number 36 = .ok (.getfield 147, 3) := by decide +kernel
theorem dX10_number_39 : decode cX10_number 39 = .ok (.invokevirtual 180, 3) := by decide +kernel
theorem dX10_number_42 : decode cX10_number 42 = .ok (.aload_n 0, 1) := by decide +kernel
theorem dX10_number_43 : decode cX10_number 43 = .ok (.iconst 0, 1) := by decide +kernel
theorem dX10_number_44 : decode cX10_number 44 = .ok (.putfield 184, 3) := by decide +kernel
theorem dX10_number_47 : decode cX10_number 47 = .ok (.aload_n 0, 1) := by decide +kernel
theorem dX10_number_48 : decode cX10_number 48 = .ok (.invokevirtual 188, 3) := by decide +kernel
theorem dX10_number_51 : decode cX10_number 51 = .ok (.iconst 1, 1) := by decide +kernel
theorem dX10_number_52 : decode cX10_number 52 = .ok (.ireturn, 1) := by decide +kernel
theorem dX10_part_0 : decode cX10_part 0 = .ok (.aload_n 0, 1) := by decide +kernel
theorem dX10_part_1 : decode cX10_part 1 = .ok (.getfield 65, 3) := by decide +kernel
theorem dX10_part_4 : decode cX10_part 4 = .ok (.bipush 8, 2) := by decide +kernel
theorem dX10_part_6 : decode cX10_part 6 = .ok (.iload_n 1, 1) := by decide +kernel
theorem dX10_part_7 : decode cX10_part 7 = .ok (.imul, 1) := by decide +kernel
theorem dX10_part_8 : decode cX10_part 8 = .ok (.bipush 7, 2) := by decide +kernel
theorem dX10_part_10 : decode cX10_part 10 = .ok (.iadd, 1) := by decide +kernel
theorem dX10_part_11 : decode cX10_part 11 = .ok (.iaload, 1) := by decide +kernel
theorem dX10_part_12 : decode cX10_part 12 = .ok (.istore_n 2, 1) := by decide +kernel
theorem dX10_part_13 : decode cX10_part 13 = .ok (.iload_n 2, 1) := by decide +kernel
theorem dX10_part_14 : decode cX10_part 14 = .ok (.iconst (-1), 1) := by decide +kernel
theorem dX10_part_15 : decode cX10_part 15 = .ok (.if_icmp .eq 29, 3) := by decide +kernel
theorem dX10_part_18 : decode cX10_part 18 = .ok (.aload_n 0, 1) := by decide +kernel
theorem dX10_part_19 : decode cX10_part 19 = .ok (.getfield 65, 3) := by decide +kernel
theorem dX10_part_22 : decode cX10_part 22 = .ok (.bipush 8, 2) := by decide +kernel
theorem dX10_part_24 : decode cX10_part 24 = .ok (.iload_n 2, 1) := by decide +kernel
theorem dX10_part_25 : decode cX10_part 25 = .ok (.imul, 1) := by decide +kernel
theorem dX10_part_26 : decode cX10_part 26 = .ok (.bipush 7, 2) := by decide +kernel
theorem dX10_part_28 : decode cX10_part 28 = .ok (.iadd, 1) := by decide +kernel
theorem dX10_part_29 : decode cX10_part 29 = .ok (.iconst (-1), 1) := by decide +kernel
theorem dX10_part_30 : decode cX10_part 30 = .ok (.iastore, 1) := by decide +kernel
theorem dX10_part_31 : decode cX10_part 31 = .ok (.aload_n 0, 1) := by decide +kernel
theorem dX10_part_32 : decode cX10_part 32 = .ok (.getfield 65, 3) := by decide +kernel
theorem dX10_part_35 : decode cX10_part 35 = .ok (.bipush 8, 2) := by decide +kernel
theorem dX10_part_37 : decode cX10_part 37 = .ok (.iload_n 1, 1) := by decide +kernel
theorem dX10_part_38 : decode cX10_part 38 = .ok (.imul, 1) := by decide +kernel
theorem dX10_part_39 : decode cX10_part 39 = .ok (.bipush 7, 2) := by decide +kernel
theorem dX10_part_41 : decode cX10_part 41 = .ok (.iadd, 1) := by decide +kernel
theorem dX10_part_42 : decode cX10_part 42 = .ok (.iconst (-1), 1) := by decide +kernel
theorem dX10_part_43 : decode cX10_part 43 = .ok (.iastore, 1) := by decide +kernel
theorem dX10_part_44 : decode cX10_part 44 = .ok (.return_, 1) := by decide +kernel
theorem dX10_friendsLine_0 : decode cX10_friendsLine 0 = .ok (.aload_n 0, 1) := by decide +kernel
theorem dX10_friendsLine_1 : decode cX10_friendsLine 1 = .ok (.iconst 0, 1) := by decide +kernel
theorem dX10_friendsLine_2 : decode cX10_friendsLine 2 = .ok (.aload_n 0, 1) := by decide +kernel
theorem dX10_friendsLine_3 : decode cX10_friendsLine 3 = .ok (.getfield 210, 3) := by decide +kernel
theorem dX10_friendsLine_6 : decode cX10_friendsLine 6 = .ok (.iconst 1, 1) := by decide +kernel
theorem dX10_friendsLine_7 : decode cX10_friendsLine 7 = .ok (.isub, 1) := by decide +kernel
theorem dX10_friendsLine_8 : decode cX10_friendsLine 8 = .ok (.invokevirtual 197, 3) := by decide +kernel
theorem dX10_friendsLine_11 : decode cX10_friendsLine 11 = .ok (.ifCond .ne 5, 3) := by decide +kernel
theorem dX10_friendsLine_14 : decode cX10_friendsLine 14 = .ok (.iconst 0, 1) := by decide +kernel
theorem dX10_friendsLine_15 : decode cX10_friendsLine 15 = .ok (.ireturn, 1) := by decide +kernel
theorem dX10_friendsLine_16 : decode cX10_friendsLine 16 = .ok (.aload_n 0, 1) := by decide +kernel
theorem dX10_friendsLine_17 : decode cX10_friendsLine 17 = .ok (.getfield 177, 3) := by decide +kernel
theorem dX10_friendsLine_20 : decode cX10_friendsLine 20 = .ok (.istore_n 1, 1) := by decide +kernel
theorem dX10_friendsLine_21 : decode cX10_friendsLine 21 = .ok (.aload_n 0, 1) := by decide +kernel
theorem dX10_friendsLine_22 : decode cX10_friendsLine 22 = .ok (.getfield 147, 3) := by decide +kernel
theorem dX10_friendsLine_25 : decode cX10_friendsLine 25 = .ok (.istore_n 2, 1) := by decide +kernel
theorem dX10_friendsLine_26 : decode cX10_friendsLine 26 = .ok (.aload_n 0, 1) := by decide +kernel
theorem dX10_friendsLine_27 : decode cX10_friendsLine 27 = .ok (.iconst 0, 1) := by decide +kernel
theorem dX10_friendsLine_28 : decode cX10_friendsLine 28 = .ok (.aload_n 0, 1) := by decide +kernel
theorem dX10_friendsLine_29 : decode cX10_friendsLine 29 = .ok (.getfield 210, 3) := by decide +kernel
theorem dX10_friendsLine_32 : decode cX10_friendsLine 32 = .ok (.iconst 1, 1) := by decide +kernel
theorem dX10_friendsLine_33 : decode cX10_friendsLine 33 = .ok (.isub, 1) := by decide +kernel
theorem dX10_friendsLine_34 : decode cX10_friendsLine 34 = .ok (.invokevirtual 197, 3) := by decide +kernel
theorem dX10_friendsLine_37 : decode cX10_friendsLine 37 = .ok (.ifCond .ne 5, 3) := by decide +kernel
theorem dX10_friendsLine_40 : decode cX10_friendsLine 40 = .ok (.iconst 0, 1) := by decide +kernel
theorem dX10_friendsLine_41 : decode cX10_friendsLine 41 = .ok (.ireturn, 1) := by decide +kernel
theorem dX10_friendsLine_42 : decode cX10_friendsLine 42 = .ok (.aload_n 0, 1) := by decide +kernel
theorem dX10_friendsLine_43 : decode cX10_friendsLine 43 = .ok (.getfield 184, 3) := by decide +kernel
theorem dX10_friendsLine_46 : decode cX10_friendsLine 46 = .ok (.ifCond .eq 22, 3) := by decide +kernel
theorem dX10_friendsLine_49 : decode cX10_friendsLine 49 = .ok (.aload_n 0, 1) := by decide +kernel
theorem dX10_friendsLine_50 : decode cX10_friendsLine 50 = .ok (.getfield 177, 3) := by decide +kernel
theorem dX10_friendsLine_53 : decode cX10_friendsLine 53 = .ok (.iload_n 1, 1) := by decide +kernel
theorem dX10_friendsLine_54 : decode cX10_friendsLine 54 = .ok (.if_icmp .ne 14, 3) := by decide +kernel
theorem dX10_friendsLine_57 : decode cX10_friendsLine 57 = .ok (.aload_n 0, 1) := by decide +kernel
theorem dX10_friendsLine_58 : decode cX10_friendsLine 58 = .ok (.iconst 2, 1) := by decide +kernel
theorem dX10_friendsLine_59 : decode cX10_friendsLine 59 = .ok (.iload_n 2, 1) := by decide +kernel
theorem dX10_friendsLine_60 : decode cX10_friendsLine 60 = .ok (.invokevirtual 180, 3) := by decide +kernel
theorem dX10_friendsLine_63 : decode cX10_friendsLine 63 = .ok (.aload_n 0, 1) := by decide +kernel
theorem dX10_friendsLine_64 : decode cX10_friendsLine 64 = .ok (.iconst 0, 1) := by decide +kernel
theorem dX10_friendsLine_65 : decode cX10_friendsLine 65 = .ok (.putfield 184, 3) := by decide +kernel
theorem dX10_friendsLine_68 : decode cX10_friendsLine 68 = .ok (.aload_n 0, 1) := by decide +kernel
theorem dX10_friendsLine_69 : decode cX10_friendsLine 69 = .ok (.getfield 184, 3) := by decide +kernel
theorem dX10_friendsLine_72 : decode cX10_friendsLine 72 = .ok (.ifCond .eq 48, 3) := by decide +kernel
theorem dX10_friendsLine_75 : decode cX10_friendsLine 75 = .ok (.aload_n 0, 1) := by decide +kernel
theorem dX10_friendsLine_76 : decode cX10_friendsLine 76 = .ok (.iload_n 1, 1) := by decide +kernel
theorem dX10_friendsLine_77 : decode cX10_friendsLine 77 = .ok (.invokevirtual 231, 3) := by decide +kernel
theorem dX10_friendsLine_80 : decode cX10_friendsLine 80 = .ok (.aload_n 0, 1) := by decide +kernel
theorem dX10_friendsLine_81 : decode cX10_friendsLine 81 = .ok (.aload_n 0, 1) := by decide +kernel
theorem dX10_friendsLine_82 : decode cX10_friendsLine 82 = .ok (.getfield 177, 3) := by decide +kernel
theorem dX10_friendsLine_85 : decode cX10_friendsLine 85 = .ok (.invokevirtual 231, 3) := by decide +kernel
theorem dX10_friendsLine_88 : decode cX10_friendsLine 88 = .ok (.aload_n 0, 1) := by decide +kernel
theorem dX10_friendsLine_89 : decode cX10_friendsLine 89 = .ok (.getfield 65, 3) := by decide +kernel
theorem dX10_friendsLine_92 : decode cX10_friendsLine 92 = .ok (.bipush 8, 2) := by decide +kernel
theorem dX10_friendsLine_94 : decode cX10_friendsLine 94 = .ok (.iload_n 1, 1) := by decide +kernel
theorem dX10_friendsLine_95 : decode cX10_friendsLine 95 = .ok (.imul, 1) := by decide +kernel
theorem dX10_friendsLine_96 : decode cX10_friendsLine 96 = .ok (.bipush 7, 2) := by decide +kernel
theorem dX10_friendsLine_98 : decode cX10_friendsLine 98 = .ok (.iadd, 1) := by decide +kernel
theorem dX10_friendsLine_99 : decode cX10_friendsLine 99 = .ok (.aload_n 0, 1) := by decide +kernel
theorem dX10_friendsLine_100 : decode cX10_friendsLine 100 = .ok (.getfield 177, 3) := by decide +kernel
theorem dX10_friendsLine_103 : decode cX10_friendsLine 103 = .ok (.iastore, 1) := by decide +kernel
theorem dX10_friendsLine_104 : decode cX10_friendsLine 104 = .ok (.aload_n 0, 1) := by decide +kernel
theorem dX10_friendsLine_105 : decode cX10_friendsLine 105 = .ok (.getfield 65, 3) := by decide +kernel
theorem dX10_friendsLine_108 : decode cX10_friendsLine 108 = .ok (.bipush 8, 2) := by decide +kernel
theorem dX10_friendsLine_110 : decode cX10_friendsLine 110 = .ok (.aload_n 0, 1) := by decide +kernel
theorem dX10_friendsLine_111 : decode cX10_friendsLine 111 = .ok (.getfield 177, 3) := by decide +kernel
theorem dX10_friendsLine_114 : decode cX10_friendsLine 114 = .ok (.imul, 1) := by decide +kernel
theorem dX10_friendsLine_115 : decode cX10_friendsLine 115 = .ok (.bipush 7, 2) := by decide +kernel
theorem dX10_friendsLine_117 : decode cX10_friendsLine 117 = .ok (.iadd, 1) := by decide +kernel
theorem dX10_friendsLine_118 : decode cX10_friendsLine 118 = .ok (.iload_n 1, 1) := by decide +kernel
theorem dX10_friendsLine_119 : decode cX10_friendsLine 119 = .ok (.iastore, 1) := by decide +kernel
theorem dX10_friendsLine_120 : decode cX10_friendsLine 120 = .ok (.iconst 1, 1) := by decide +kernel
theorem dX10_friendsLine_121 : decode cX10_friendsLine 121 = .ok (.ireturn, 1) := by decide +kernel
theorem dX10_fullest_0 : decode cX10_fullest 0 = .ok (.aload_n 0, 1) := by decide +kernel
theorem dX10_fullest_1 : decode cX10_fullest 1 = .ok (.iconst 0, 1) := by decide +kernel
theorem dX10_fullest_2 : decode cX10_fullest 2 = .ok (.putfield 121, 3) := by decide +kernel
theorem dX10_fullest_5 : decode cX10_fullest 5 = .ok (.aload_n 0, 1) := by decide +kernel
theorem dX10_fullest_6 : decode cX10_fullest 6 = .ok (.iload_n 1, 1) := by decide +kernel
theorem dX10_fullest_7 : decode cX10_fullest 7 = .ok (.iload_n 2, 1) := by decide +kernel
theorem dX10_fullest_8 : decode cX10_fullest 8 = .ok (.iload 4, 2) := by decide +kernel
theorem dX10_fullest_10 : decode cX10_fullest 10 = .ok (.sipush 200, 3) := by decide +kernel
theorem dX10_fullest_13 : decode cX10_fullest 13 = .ok (.invokevirtual 447, 3) := by decide +kernel
theorem dX10_fullest_16 : decode cX10_fullest 16 = .ok (.ifCond .ne 5, 3) := by decide +kernel
theorem dX10_fullest_19 : decode cX10_fullest 19 = .ok (.iconst (-1), 1) := by decide +kernel
theorem dX10_fullest_20 : decode cX10_fullest 20 = .ok (.ireturn, 1) := by decide +kernel
theorem dX10_fullest_21 : decode cX10_fullest 21 = .ok (.iconst 1, 1) := by decide +kernel
theorem dX10_fullest_22 : decode cX10_fullest 22 = .ok (.istore 5, 2) := by decide +kernel
theorem dX10_fullest_24 : decode cX10_fullest 24 = .ok (.iload 5, 2) := by decide +kernel
theorem dX10_fullest_26 : decode cX10_fullest 26 = .ok (.aload_n 0, 1) := by decide +kernel
theorem dX10_fullest_27 : decode cX10_fullest 27 = .ok (.getfield 32, 3) := by decide +kernel
theorem dX10_fullest_30 : decode cX10_fullest 30 = .ok (.iload_n 1, 1) := by decide +kernel
theorem dX10_fullest_31 : decode cX10_fullest 31 = .ok (.iaload, 1) := by decide +kernel
theorem dX10_fullest_32 : decode cX10_fullest 32 = .ok (.if_icmp .gt 42, 3) := by decide +kernel
theorem dX10_fullest_35 : decode cX10_fullest 35 = .ok (.aload_n 0, 1) := by decide +kernel
theorem dX10_fullest_36 : decode cX10_fullest 36 = .ok (.iconst 4, 1) := by decide +kernel
theorem dX10_fullest_37 : decode cX10_fullest 37 = .ok (.iload_n 1, 1) := by decide +kernel
theorem dX10_fullest_38 : decode cX10_fullest 38 = .ok (.iload_n 2, 1) := by decide +kernel
theorem dX10_fullest_39 : decode cX10_fullest 39 = .ok (.iload_n 3, 1) := by decide +kernel
theorem dX10_fullest_40 : decode cX10_fullest 40 = .ok (.iload 5, 2) := by decide +kernel
theorem dX10_fullest_42 : decode cX10_fullest 42 = .ok (.iconst (-1), 1) := by decide +kernel
theorem dX10_fullest_43 : decode cX10_fullest 43 = .ok (.invokevirtual 420, 3) := by decide +kernel
theorem dX10_fullest_46 : decode cX10_fullest 46 = .ok (.aload_n 0, 1) := by decide +kernel
theorem dX10_fullest_47 : decode cX10_fullest 47 = .ok (.iload 4, 2) := by decide +kernel
theorem dX10_fullest_49 : decode cX10_fullest 49 = .ok (.invokevirtual 451, 3) := by decide +kernel
theorem dX10_fullest_52 : decode cX10_fullest 52 = .ok (.aload_n 0, 1) := by decide +kernel
theorem dX10_fullest_53 : decode cX10_fullest 53 = .ok (.getfield 71, 3) := by decide +kernel
theorem dX10_fullest_56 : decode cX10_fullest 56 = .ok (.sipush 2886, 3) := by decide +kernel
theorem dX10_fullest_59 : decode cX10_fullest 59 = .ok (.iaload, 1) := by decide +kernel
theorem dX10_fullest_60 : decode cX10_fullest 60 = .ok (.iload 5, 2) := by decide +kernel
theorem dX10_fullest_62 : decode cX10_fullest 62 = .ok (.if_icmp .ge 6, 3) := by decide +kernel
theorem dX10_fullest_65 : decode cX10_fullest 65 = .ok (.iload 5, 2) := by decide +kernel
theorem dX10_fullest_67 : decode cX10_fullest 67 = .ok (.ireturn, 1) := by decide +kernel
theorem dX10_fullest_68 : decode cX10_fullest 68 = .ok (.iinc 5 1, 3) := by decide +kernel
theorem dX10_fullest_71 : decode cX10_fullest 71 = .ok (.goto (-47), 3) := by decide +kernel
theorem dX10_fullest_74 : decode cX10_fullest 74 = .ok (.iconst (-1), 1) := by decide +kernel
theorem dX10_fullest_75 : decode cX10_fullest 75 = .ok (.ireturn, 1) := by decide +kernel
theorem dX10_go_0 : decode cX10_go 0 = .ok (.aload_n 0, 1) := by decide +kernel
theorem dX10_go_1 : decode cX10_go 1 = .ok (.iconst 0, 1) := by decide +kernel
theorem dX10_go_2 : decode cX10_go 2 = .ok (.putfield 121, 3) := by decide +kernel
theorem dX10_go_5 : decode cX10_go 5 = .ok (.aload_n 0, 1) := by decide +kernel
theorem dX10_go_6 : decode cX10_go 6 = .ok (.getfield 71, 3) := by decide +kernel
theorem dX10_go_9 : decode cX10_go 9 = .ok (.bipush 10, 2) := by decide +kernel
theorem dX10_go_11 : decode cX10_go 11 = .ok (.iaload, 1) := by decide +kernel
theorem dX10_go_12 : decode cX10_go 12 = .ok (.ifCond .eq 14, 3) := by decide +kernel
theorem dX10_go_15 : decode cX10_go 15 = .ok (.iload_n 1, 1) := by decide +kernel
theorem dX10_go_16 : decode cX10_go 16 = .ok (.iconst 0, 1) := by decide +kernel
theorem dX10_go_17 : decode cX10_go 17 = .ok (.sipush 200, 3) := by decide +kernel
theorem dX10_go_20 : decode cX10_go 20 = .ok (.invokestatic 129, 3) := by decide +kernel
theorem dX10_go_23 : decode cX10_go 23 = .ok (.ifCond .ne 5, 3) := by decide +kernel
theorem dX10_go_26 : decode cX10_go 26 = .ok (.iconst (-1), 1) := by decide +kernel
theorem dX10_go_27 : decode cX10_go 27 = .ok (.ireturn, 1) := by decide +kernel
theorem dX10_go_28 : decode cX10_go 28 = .ok (.aload_n 0, 1) := by decide +kernel
theorem dX10_go_29 : decode cX10_go 29 = .ok (.iconst 0, 1) := by decide +kernel
theorem dX10_go_30 : decode cX10_go 30 = .ok (.putfield 385, 3) := by decide +kernel
theorem dX10_go_33 : decode cX10_go 33 = .ok (.iconst 0, 1) := by decide +kernel
theorem dX10_go_34 : decode cX10_go 34 = .ok (.istore_n 2, 1) := by decide +kernel
theorem dX10_go_35 : decode cX10_go 35 = .ok (.iconst 0, 1) := by decide +kernel
theorem dX10_go_36 : decode cX10_go 36 = .ok (.istore_n 3, 1) := by decide +kernel
theorem dX10_go_37 : decode cX10_go 37 = .ok (.iload_n 3, 1) := by decide +kernel
theorem dX10_go_38 : decode cX10_go 38 = .ok (.iload_n 1, 1) := by decide +kernel
theorem dX10_go_39 : decode cX10_go 39 = .ok (.if_icmp .ge 17, 3) := by decide +kernel
theorem dX10_go_42 : decode cX10_go 42 = .ok (.iload_n 2, 1) := by decide +kernel
theorem dX10_go_43 : decode cX10_go 43 = .ok (.aload_n 0, 1) := by decide +kernel
theorem dX10_go_44 : decode cX10_go 44 = .ok (.iconst 0, 1) := by decide +kernel
theorem dX10_go_45 : decode cX10_go 45 = .ok (.invokevirtual 424, 3) := by decide +kernel
theorem dX10_go_48 : decode cX10_go 48 = .ok (.iadd, 1) := by decide +kernel
theorem dX10_go_49 : decode cX10_go 49 = .ok (.istore_n 2, 1) := by decide +kernel
theorem dX10_go_50 : decode cX10_go 50 = .ok (.iinc 3 1, 3) := by decide +kernel
theorem dX10_go_53 : decode cX10_go 53 = .ok (.goto (-16), 3) := by decide +kernel
theorem dX10_go_56 : decode cX10_go 56 = .ok (.iload_n 2, 1) := by decide +kernel
theorem dX10_go_57 : decode cX10_go 57 = .ok (.ireturn, 1) := by decide +kernel
theorem dX10_habit_0 : decode cX10_habit 0 = .ok (.aload_n 0, 1) := by decide +kernel
theorem dX10_habit_1 : decode cX10_habit 1 = .ok (.iconst 0, 1) := by decide +kernel
theorem dX10_habit_2 : decode cX10_habit 2 = .ok (.putfield 121, 3) := by decide +kernel
theorem dX10_habit_5 : decode cX10_habit 5 = .ok (.iload_n 1, 1) := by decide +kernel
theorem dX10_habit_6 : decode cX10_habit 6 = .ok (.iconst 2, 1) := by decide +kernel
theorem dX10_habit_7 : decode cX10_habit 7 = .ok (.bipush 8, 2) := by decide +kernel
theorem dX10_habit_9 : decode cX10_habit 9 = .ok (.invokestatic 129, 3) := by decide +kernel
theorem dX10_habit_12 : decode cX10_habit 12 = .ok (.ifCond .eq 56, 3) := by decide +kernel
theorem dX10_habit_15 : decode cX10_habit 15 = .ok (.iload_n 2, 1) := by decide +kernel
theorem dX10_habit_16 : decode cX10_habit 16 = .ok (.iconst 0, 1) := by decide +kernel
theorem dX10_habit_17 : decode cX10_habit 17 = .ok (.iload_n 1, 1) := by decide +kernel
theorem dX10_habit_18 : decode cX10_habit 18 = .ok (.invokestatic 129, 3) := by decide +kernel
theorem dX10_habit_21 : decode cX10_habit 21 = .ok (.ifCond .eq 47, 3) := by decide +kernel
theorem dX10_habit_24 : decode cX10_habit 24 = .ok (.iload_n 3, 1) := by decide +kernel
theorem dX10_habit_25 : decode cX10_habit 25 = .ok (.iconst 0, 1) := by decide +kernel
theorem dX10_habit_26 : decode cX10_habit 26 = .ok (.bipush 12, 2) := by decide +kernel
theorem dX10_habit_28 : decode cX10_habit 28 = .ok (.invokestatic 129, 3) := by decide +kernel
theorem dX10_habit_31 : decode cX10_habit 31 = .ok (.ifCond .eq 37, 3) := by decide +kernel
theorem dX10_habit_34 : decode cX10_habit 34 = .ok (.iload 4, 2) := by decide +kernel
theorem dX10_habit_36 : decode cX10_habit 36 = .ok (.iconst 0, 1) := by decide +kernel
theorem dX10_habit_37 : decode cX10_habit 37 = .ok (.bipush 12, 2) := by decide +kernel
theorem dX10_habit_39 : decode cX10_habit 39 = .ok (.iload_n 3, 1) := by decide +kernel
theorem dX10_habit_40 : decode cX10_habit 40 = .ok (.isub, 1) := by decide +kernel
theorem dX10_habit_41 : decode cX10_habit 41 = .ok (.invokestatic 129, 3) := by decide +kernel
theorem dX10_habit_44 : decode cX10_habit 44 = .ok (.ifCond .eq 24, 3) := by decide +kernel
theorem dX10_habit_47 : decode cX10_habit 47 = .ok (.iload 5, 2) := by decide +kernel
theorem dX10_habit_49 : decode cX10_habit 49 = .ok (.iconst 0, 1) := by decide +kernel
theorem dX10_habit_50 : decode cX10_habit 50 = .ok (.bipush 6, 2) := by decide +kernel
theorem dX10_habit_52 : decode cX10_habit 52 = .ok (.invokestatic 129, 3) := by decide +kernel
theorem dX10_habit_55 : decode cX10_habit 55 = .ok (.ifCond .eq 13, 3) := by decide +kernel
theorem dX10_habit_58 : decode cX10_habit 58 = .ok (.iload 6, 2) := by decide +kernel
theorem dX10_habit_60 : decode cX10_habit 60 = .ok (.iconst 0, 1) := by decide +kernel
theorem dX10_habit_61 : decode cX10_habit 61 = .ok (.iload_n 1, 1) := by decide +kernel
theorem dX10_habit_62 : decode cX10_habit 62 = .ok (.invokestatic 129, 3) := by decide +kernel
theorem dX10_habit_65 : decode cX10_habit 65 = .ok (.ifCond .ne 7, 3) := by decide +kernel
theorem dX10_habit_68 : decode cX10_habit 68 = .ok (.ldc2_w 491, 3) := by decide +kernel
theorem dX10_habit_71 : decode cX10_habit 71 = .ok (.lreturn, 1) := by decide +kernel
theorem dX10_habit_72 : decode cX10_habit 72 = .ok (.iconst 0, 1) := by decide +kernel
theorem dX10_habit_73 : decode cX10_habit 73 = .ok (.istore 7, 2) := by decide +kernel
theorem dX10_habit_75 : decode cX10_habit 75 = .ok (.iload 7, 2) := by decide +kernel
theorem dX10_habit_77 : decode cX10_habit 77 = .ok (.iload_n 1, 1) := by decide +kernel
theorem dX10_habit_78 : decode cX10_habit 78 = .ok (.if_icmp .gt 27, 3) := by decide +kernel
theorem dX10_habit_81 : decode cX10_habit 81 = .ok (.aload_n 0, 1) := by decide +kernel
theorem dX10_habit_82 : decode cX10_habit 82 = .ok (.getfield 113, 3) := by decide +kernel
theorem dX10_habit_85 : decode cX10_habit 85 = .ok (.iload 7, 2) := by decide +kernel
theorem dX10_habit_87 : decode cX10_habit 87 = .ok (.iload 7, 2) := by decide +kernel
theorem dX10_habit_89 : decode cX10_habit 89 = .ok (.iload_n 2, 1) := by decide +kernel
theorem dX10_habit_90 : decode cX10_habit 90 = .ok (.if_icmp .ne 7, 3) := by decide +kernel
theorem dX10_habit_93 : decode cX10_habit 93 = .ok (.lconst 1, 1) := by decide +kernel
theorem dX10_habit_94 : decode cX10_habit 94 = .ok (.goto 4, 3) := by decide +kernel
theorem dX10_habit_97 : decode cX10_habit 97 = .ok (.lconst 0, 1) := by decide +kernel
theorem dX10_habit_98 : decode cX10_habit 98 = .ok (.lastore, 1) := by decide +kernel
theorem dX10_habit_99 : decode cX10_habit 99 = .ok (.iinc 7 1, 3) := by decide +kernel
theorem dX10_habit_102 : decode cX10_habit 102 = .ok (.goto (-27), 3) := by decide +kernel
theorem dX10_habit_105 : decode cX10_habit 105 = .ok (.iload_n 1, 1) := by decide +kernel
theorem dX10_habit_106 : decode cX10_habit 106 = .ok (.iload_n 1, 1) := by decide +kernel
theorem dX10_habit_107 : decode cX10_habit 107 = .ok (.iconst 1, 1) := by decide +kernel
theorem dX10_habit_108 : decode cX10_habit 108 = .ok (.isub, 1) := by decide +kernel
theorem dX10_habit_109 : decode cX10_habit 109 = .ok (.imul, 1) := by decide +kernel
theorem dX10_habit_110 : decode cX10_habit 110 = .ok (.iconst 2, 1) := by decide +kernel
theorem dX10_habit_111 : decode cX10_habit 111 = .ok (.idiv, 1) := by decide +kernel
theorem dX10_habit_112 : decode cX10_habit 112 = .ok (.i2l, 1) := by decide +kernel
theorem dX10_habit_113 : decode cX10_habit 113 = .ok (.lstore 7, 2) := by decide +kernel
theorem dX10_habit_115 : decode cX10_habit 115 = .ok (.iconst 0, 1) := by decide +kernel
theorem dX10_habit_116 : decode cX10_habit 116 = .ok (.istore 9, 2) := by decide +kernel
theorem dX10_habit_118 : decode cX10_habit 118 = .ok (.iload 9, 2) := by decide +kernel
theorem dX10_habit_120 : decode cX10_habit 120 = .ok (.iload 5, 2) := by decide +kernel
theorem dX10_habit_122 : decode cX10_habit 122 = .ok (.if_icmp .ge 188, 3) := by decide +kernel
theorem dX10_habit_125 : decode cX10_habit 125 = .ok (.iconst 0, 1) := by decide +kernel
theorem dX10_habit_126 : decode cX10_habit 126 = .ok (.istore 10, 2) := by decide +kernel
theorem dX10_habit_128 : decode cX10_habit 128 = .ok (.iload 10, 2) := by decide +kernel
theorem dX10_habit_130 : decode cX10_habit 130 = .ok (.iload_n 1, 1) := by decide +kernel
theorem dX10_habit_131 : decode cX10_habit 131 = .ok (.if_icmp .gt 20, 3) := by decide +kernel
theorem dX10_habit_134 : decode cX10_habit 134 = .ok (.aload_n 0, 1) := by decide +kernel
theorem dX10_habit_135 : decode cX10_habit 135 = .ok (.getfield 113, 3) := by decide +kernel
theorem dX10_habit_138 : decode cX10_habit 138 = .ok (.bipush 9, 2) := by decide +kernel
theorem dX10_habit_140 : decode cX10_habit 140 = .ok (.iload 10, 2) := by decide +kernel
theorem dX10_habit_142 : decode cX10_habit 142 = .ok (.iadd, 1) := by decide +kernel
theorem dX10_habit_143 : decode cX10_habit 143 = .ok (.lconst 0, 1) := by decide +kernel
theorem dX10_habit_144 : decode cX10_habit 144 = .ok (.lastore, 1) := by decide +kernel
theorem dX10_habit_145 : decode cX10_habit 145 = .ok (.iinc 10 1, 3) := by decide +kernel
theorem dX10_habit_148 : decode cX10_habit 148 = .ok (.goto (-20), 3) := by decide +kernel
theorem dX10_habit_151 : decode cX10_habit 151 = .ok (.iconst 0, 1) := by decide +kernel
theorem dX10_habit_152 : decode cX10_habit 152 = .ok (.istore 10, 2) := by decide +kernel
theorem dX10_habit_154 : decode cX10_habit 154 = .ok (.iload 10, 2) := by decide +kernel
theorem dX10_habit_156 : decode cX10_habit 156 = .ok (.iload_n 1, 1) := by decide +kernel
theorem dX10_habit_157 : decode cX10_habit 157 = .ok (.if_icmp .gt 115, 3) := by decide +kernel
theorem dX10_habit_160 : decode cX10_habit 160 = .ok (.iload 10, 2) := by decide +kernel
theorem dX10_habit_162 : decode cX10_habit 162 = .ok (.iload_n 1, 1) := by decide +kernel
theorem dX10_habit_163 : decode cX10_habit 163 = .ok (.iload 10, 2) := by decide +kernel
theorem dX10_habit_165 : decode cX10_habit 165 = .ok (.isub, 1) := by decide +kernel
theorem dX10_habit_166 : decode cX10_habit 166 = .ok (.imul, 1) := by decide +kernel
theorem dX10_habit_167 : decode cX10_habit 167 = .ok (.i2l, 1) := by decide +kernel
theorem dX10_habit_168 : decode cX10_habit 168 = .ok (.lstore 11, 2) := by decide +kernel
theorem dX10_habit_170 : decode cX10_habit 170 = .ok (.aload_n 0, 1) := by decide +kernel
theorem dX10_habit_171 : decode cX10_habit 171 = .ok (.getfield 113, 3) := by decide +kernel
theorem dX10_habit_174 : decode cX10_habit 174 = .ok (.bipush 9, 2) := by decide +kernel
theorem dX10_habit_176 : decode cX10_habit 176 = .ok (.iload 10, 2) := by decide +kernel
theorem dX10_habit_178 : decode cX10_habit 178 = .ok (.iadd, 1) := by decide +kernel
theorem dX10_habit_179 : decode cX10_habit 179 = .ok (.dup2, 1) := by decide +kernel
theorem dX10_habit_180 : decode cX10_habit 180 = .ok (.laload, 1) := by decide +kernel
theorem dX10_habit_181 : decode cX10_habit 181 = .ok (.aload_n 0, 1) := by decide +kernel
theorem dX10_habit_182 : decode cX10_habit 182 = .ok (.getfield 113, 3) := by decide +kernel
theorem dX10_habit_185 : decode cX10_habit 185 = .ok (.iload 10, 2) := by decide +kernel
theorem dX10_habit_187 : decode cX10_habit 187 = .ok (.laload, 1) := by decide +kernel
theorem dX10_habit_188 : decode cX10_habit 188 = .ok (.ldc2_w 493, 3) := by decide +kernel
theorem dX10_habit_191 : decode cX10_habit 191 = .ok (.lload 7, 2) := by decide +kernel
theorem dX10_habit_193 : decode cX10_habit 193 = .ok (.lmul, 1) := by decide +kernel
theorem dX10_habit_194 : decode cX10_habit 194 = .ok (.lload 11, 2) := by decide +kernel
theorem dX10_habit_196 : decode cX10_habit 196 = .ok (.iload_n 3, 1) := by decide +kernel
theorem dX10_habit_197 : decode cX10_habit 197 = .ok (.iload 4, 2) := by decide +kernel
theorem dX10_habit_199 : decode cX10_habit 199 = .ok (.iadd, 1) := by decide +kernel
theorem dX10_habit_200 : decode cX10_habit 200 = .ok (.i2l, 1) := by decide +kernel
theorem dX10_habit_201 : decode cX10_habit 201 = .ok (.lmul, 1) := by decide +kernel
theorem dX10_habit_202 : decode cX10_habit 202 = .ok (.lsub, 1) := by decide +kernel
theorem dX10_habit_203 : decode cX10_habit 203 = .ok (.lmul, 1) := by decide +kernel
theorem dX10_habit_204 : decode cX10_habit 204 = .ok (.ladd, 1) := by decide +kernel
theorem dX10_habit_205 : decode cX10_habit 205 = .ok (.lastore, 1) := by decide +kernel
theorem dX10_habit_206 : decode cX10_habit 206 = .ok (.lload 11, 2) := by decide +kernel
theorem dX10_habit_208 : decode cX10_habit 208 = .ok (.lconst 0, 1) := by decide +kernel
theorem dX10_habit_209 : decode cX10_habit 209 = .ok (.lcmp, 1) := by decide +kernel
theorem dX10_habit_210 : decode cX10_habit 210 = .ok (.ifCond .le 56, 3) := by decide +kernel
theorem dX10_habit_213 : decode cX10_habit 213 = .ok (.aload_n 0, 1) := by decide +kernel
theorem dX10_habit_214 : decode cX10_habit 214 = .ok (.getfield 113, 3) := by decide +kernel
theorem dX10_habit_217 : decode cX10_habit 217 = .ok (.bipush 10, 2) := by decide +kernel
theorem dX10_habit_219 : decode cX10_habit 219 = .ok (.iload 10, 2) := by decide +kernel
theorem dX10_habit_221 : decode cX10_habit 221 = .ok (.iadd, 1) := by decide +kernel
theorem dX10_habit_222 : decode cX10_habit 222 = .ok (.dup2, 1) := by decide +kernel
theorem dX10_habit_223 : decode cX10_habit 223 = .ok (.laload, 1) := by decide +kernel
theorem dX10_habit_224 : decode cX10_habit 224 = .ok (.aload_n 0, 1) := by decide +kernel
theorem dX10_habit_225 : decode cX10_habit 225 = .ok (.getfield 113, 3) := by decide +kernel
theorem dX10_habit_228 : decode cX10_habit 228 = .ok (.iload 10, 2) := by decide +kernel
theorem dX10_habit_230 : decode cX10_habit 230 = .ok (.laload, 1) := by decide +kernel
theorem dX10_habit_231 : decode cX10_habit 231 = .ok (.lload 11, 2) := by decide +kernel
theorem dX10_habit_233 : decode cX10_habit 233 = .ok (.lmul, 1) := by decide +kernel
theorem dX10_habit_234 : decode cX10_habit 234 = .ok (.iload_n 3, 1) := by decide +kernel
theorem dX10_habit_235 : decode cX10_habit 235 = .ok (.i2l, 1) := by decide +kernel
theorem dX10_habit_236 : decode cX10_habit 236 = .ok (.lmul, 1) := by decide +kernel
theorem dX10_habit_237 : decode cX10_habit 237 = .ok (.ladd, 1) := by decide +kernel
theorem dX10_habit_238 : decode cX10_habit 238 = .ok (.lastore, 1) := by decide +kernel
theorem dX10_habit_239 : decode cX10_habit 239 = .ok (.aload_n 0, 1) := by decide +kernel
theorem dX10_habit_240 : decode cX10_habit 240 = .ok (.getfield 113, 3) := by decide +kernel
theorem dX10_habit_243 : decode cX10_habit 243 = .ok (.bipush 8, 2) := by decide +kernel
theorem dX10_habit_245 : decode cX10_habit 245 = .ok (.iload 10, 2) := by decide +kernel
theorem dX10_habit_247 : decode cX10_habit 247 = .ok (.iadd, 1) := by decide +kernel
theorem dX10_habit_248 : decode cX10_habit 248 = .ok (.dup2, 1) := by decide +kernel
theorem dX10_habit_249 : decode cX10_habit 249 = .ok (.laload, 1) := by decide +kernel
theorem dX10_habit_250 : decode cX10_habit 250 = .ok (.aload_n 0, 1) := by decide +kernel
theorem dX10_habit_251 : decode cX10_habit 251 = .ok (.getfield 113, 3) := by decide +kernel
theorem dX10_habit_254 : decode cX10_habit 254 = .ok (.iload 10, 2) := by decide +kernel
theorem dX10_habit_256 : decode cX10_habit 256 = .ok (.laload, 1) := by decide +kernel
theorem dX10_habit_257 : decode cX10_habit 257 = .ok (.lload 11, 2) := by decide +kernel
theorem dX10_habit_259 : decode cX10_habit 259 = .ok (.lmul, 1) := by decide +kernel
theorem dX10_habit_260 : decode cX10_habit 260 = .ok (.iload 4, 2) := by decide +kernel
theorem dX10_habit_262 : decode cX10_habit 262 = .ok (.i2l, 1) := by decide +kernel
theorem dX10_habit_263 : decode cX10_habit 263 = .ok (.lmul, 1) := by decide +kernel
theorem dX10_habit_264 : decode cX10_habit 264 = .ok (.ladd, 1) := by decide +kernel
theorem dX10_habit_265 : decode cX10_habit 265 = .ok (.lastore, 1) := by decide +kernel
theorem dX10_habit_266 : decode cX10_habit 266 = .ok (.iinc 10 1, 3) := by decide +kernel
theorem dX10_habit_269 : decode cX10_habit 269 = .ok (.goto (-115), 3) := by decide +kernel
theorem dX10_habit_272 : decode cX10_habit 272 = .ok (.iconst 0, 1) := by decide +kernel
theorem dX10_habit_273 : decode cX10_habit 273 = .ok (.istore 10, 2) := by decide +kernel
theorem dX10_habit_275 : decode cX10_habit 275 = .ok (.iload 10, 2) := by decide +kernel
theorem dX10_habit_277 : decode cX10_habit 277 = .ok (.iload_n 1, 1) := by decide +kernel
theorem dX10_habit_278 : decode cX10_habit 278 = .ok (.if_icmp .gt 26, 3) := by decide +kernel
theorem dX10_habit_281 : decode cX10_habit 281 = .ok (.aload_n 0, 1) := by decide +kernel
theorem dX10_habit_282 : decode cX10_habit 282 = .ok (.getfield 113, 3) := by decide +kernel
theorem dX10_habit_285 : decode cX10_habit 285 = .ok (.iload 10, 2) := by decide +kernel
theorem dX10_habit_287 : decode cX10_habit 287 = .ok (.aload_n 0, 1) := by decide +kernel
theorem dX10_habit_288 : decode cX10_habit 288 = .ok (.getfield 113, 3) := by decide +kernel
theorem dX10_habit_291 : decode cX10_habit 291 = .ok (.bipush 9, 2) := by decide +kernel
theorem dX10_habit_293 : decode cX10_habit 293 = .ok (.iload 10, 2) := by decide +kernel
theorem dX10_habit_295 : decode cX10_habit 295 = .ok (.iadd, 1) := by decide +kernel
theorem dX10_habit_296 : decode cX10_habit 296 = .ok (.laload, 1) := by decide +kernel
theorem dX10_habit_297 : decode cX10_habit 297 = .ok (.lastore, 1) := by decide +kernel
theorem dX10_habit_298 : decode cX10_habit 298 = .ok (.iinc 10 1, 3) := by decide +kernel
theorem dX10_habit_301 : decode cX10_habit 301 = .ok (.goto (-26), 3) := by decide +kernel
theorem dX10_habit_304 : decode cX10_habit 304 = .ok (.iinc 9 1, 3) := by decide +kernel
theorem dX10_habit_307 : decode cX10_habit 307 = .ok (.goto (-189), 3) := by decide +kernel
theorem dX10_habit_310 : decode cX10_habit 310 = .ok (.aload_n 0, 1) := by decide +kernel
theorem dX10_habit_311 : decode cX10_habit 311 = .ok (.getfield 113, 3) := by decide +kernel
theorem dX10_habit_314 : decode cX10_habit 314 = .ok (.iload 6, 2) := by decide +kernel
theorem dX10_habit_316 : decode cX10_habit 316 = .ok (.laload, 1) := by decide +kernel
theorem dX10_habit_317 : decode cX10_habit 317 = .ok (.lreturn, 1) := by decide +kernel
theorem dX10_handLine_0 : decode cX10_handLine 0 = .ok (.aload_n 0, 1) := by decide +kernel
theorem dX10_handLine_1 : decode cX10_handLine 1 = .ok (.iconst 0, 1) := by decide +kernel
theorem dX10_handLine_2 : decode cX10_handLine 2 = .ok (.aload_n 0, 1) := by decide +kernel
theorem dX10_handLine_3 : decode cX10_handLine 3 = .ok (.getfield 210, 3) := by decide +kernel
theorem dX10_handLine_6 : decode cX10_handLine 6 = .ok (.iconst 1, 1) := by decide +kernel
theorem dX10_handLine_7 : decode cX10_handLine 7 = .ok (.isub, 1) := by decide +kernel
theorem dX10_handLine_8 : decode cX10_handLine 8 = .ok (.invokevirtual 197, 3) := by decide +kernel
theorem dX10_handLine_11 : decode cX10_handLine 11 = .ok (.ifCond .ne 5, 3) := by decide +kernel
theorem dX10_handLine_14 : decode cX10_handLine 14 = .ok (.iconst 0, 1) := by decide +kernel
theorem dX10_handLine_15 : decode cX10_handLine 15 = .ok (.ireturn, 1) := by decide +kernel
theorem dX10_handLine_16 : decode cX10_handLine 16 = .ok (.aload_n 0, 1) := by decide +kernel
theorem dX10_handLine_17 : decode cX10_handLine 17 = .ok (.ldc2_w 227, 3) := by decide +kernel
theorem dX10_handLine_20 : decode cX10_handLine 20 = .ok (.invokevirtual 221, 3) := by decide +kernel
theorem dX10_handLine_23 : decode cX10_handLine 23 = .ok (.ifCond .ne 18, 3) := by decide +kernel
theorem dX10_handLine_26 : decode cX10_handLine 26 = .ok (.aload_n 0, 1) := by decide +kernel
theorem dX10_handLine_27 : decode cX10_handLine 27 = .ok (.ldc2_w 229, 3) := by decide +kernel
theorem dX10_handLine_30 : decode cX10_handLine 30 = .ok (.invokevirtual 221, 3) := by decide +kernel
theorem dX10_handLine_33 : decode cX10_handLine 33 = .ok (.ifCond .ne 8, 3) := by decide +kernel
theorem dX10_handLine_36 : decode cX10_handLine 36 = .ok (.aload_n 0, 1) := by decide +kernel
theorem dX10_handLine_37 : decode cX10_handLine 37 = .ok (.invokevirtual 173, 3) := by decide +kernel
theorem dX10_handLine_40 : decode cX10_handLine 40 = .ok (.ireturn, 1) := by decide +kernel
theorem dX10_handLine_41 : decode cX10_handLine 41 = .ok (.aload_n 0, 1) := by decide +kernel
theorem dX10_handLine_42 : decode cX10_handLine 42 = .ok (.getfield 184, 3) := by decide +kernel
theorem dX10_handLine_45 : decode cX10_handLine 45 = .ok (.ifCond .eq 33, 3) := by decide +kernel
theorem dX10_handLine_48 : decode cX10_handLine 48 = .ok (.aload_n 0, 1) := by decide +kernel
theorem dX10_handLine_49 : decode cX10_handLine 49 = .ok (.getfield 65, 3) := by decide +kernel
theorem dX10_handLine_52 : decode cX10_handLine 52 = .ok (.bipush 8, 2) := by decide +kernel
theorem dX10_handLine_54 : decode cX10_handLine 54 = .ok (.aload_n 0, 1) := by decide +kernel
theorem dX10_handLine_55 : decode cX10_handLine 55 = .ok (.getfield 177, 3) := by decide +kernel
theorem dX10_handLine_58 : decode cX10_handLine 58 = .ok (.imul, 1) := by decide +kernel
theorem dX10_handLine_59 : decode cX10_handLine 59 = .ok (.bipush 6, 2) := by decide +kernel
theorem dX10_handLine_61 : decode cX10_handLine 61 = .ok (.iadd, 1) := by decide +kernel
theorem dX10_handLine_62 : decode cX10_handLine 62 = .ok (.aload_n 0, 1) := by decide +kernel
theorem dX10_handLine_63 : decode cX10_handLine 63 = .ok (.ldc2_w 227, 3) := by decide +kernel
theorem dX10_handLine_66 : decode cX10_handLine 66 = .ok (.invokevirtual 221, 3) := by decide +kernel
theorem dX10_handLine_69 : decode cX10_handLine 69 = .ok (.ifCond .eq 7, 3) := by decide +kernel
theorem dX10_handLine_72 : decode cX10_handLine 72 = .ok (.iconst 1, 1) := by decide +kernel
theorem dX10_handLine_73 : decode cX10_handLine 73 = .ok (.goto 4, 3) := by decide +kernel
theorem dX10_handLine_76 : decode cX10_handLine 76 = .ok (.iconst 2, 1) := by decide +kernel
theorem dX10_handLine_77 : decode cX10_handLine 77 = .ok (.iastore, 1) := by decide +kernel
theorem dX10_handLine_78 : decode cX10_handLine 78 = .ok (.aload_n 0, 1) := by decide +kernel
theorem dX10_handLine_79 : decode cX10_handLine 79 = .ok (.invokevirtual 188, 3) := by decide +kernel
theorem dX10_handLine_82 : decode cX10_handLine 82 = .ok (.iconst 1, 1) := by decide +kernel
theorem dX10_handLine_83 : decode cX10_handLine 83 = .ok (.ireturn, 1) := by decide +kernel
theorem dX10_hat_0 : decode cX10_hat 0 = .ok (.aload_n 0, 1) := by decide +kernel
theorem dX10_hat_1 : decode cX10_hat 1 = .ok (.iconst 0, 1) := by decide +kernel
theorem dX10_hat_2 : decode cX10_hat 2 = .ok (.putfield 121, 3) := by decide +kernel
theorem dX10_hat_5 : decode cX10_hat 5 = .ok (.iload_n 1, 1) := by decide +kernel
theorem dX10_hat_6 : decode cX10_hat 6 = .ok (.iconst 0, 1) := by decide +kernel
theorem dX10_hat_7 : decode cX10_hat 7 = .ok (.bipush 7, 2) := by decide +kernel
theorem dX10_hat_9 : decode cX10_hat 9 = .ok (.invokestatic 129, 3) := by decide +kernel
theorem dX10_hat_12 : decode cX10_hat 12 = .ok (.ifCond .eq 34, 3) := by decide +kernel
theorem dX10_hat_15 : decode cX10_hat 15 = .ok (.iload_n 2, 1) := by decide +kernel
theorem dX10_hat_16 : decode cX10_hat 16 = .ok (.iconst 0, 1) := by decide +kernel
theorem dX10_hat_17 : decode cX10_hat 17 = .ok (.bipush 99, 2) := by decide +kernel
theorem dX10_hat_19 : decode cX10_hat 19 = .ok (.invokestatic 129, 3) := by decide +kernel
theorem dX10_hat_22 : decode cX10_hat 22 = .ok (.ifCond .eq 24, 3) := by decide +kernel
theorem dX10_hat_25 : decode cX10_hat 25 = .ok (.iload_n 3, 1) := by decide +kernel
theorem dX10_hat_26 : decode cX10_hat 26 = .ok (.iconst 0, 1) := by decide +kernel
theorem dX10_hat_27 : decode cX10_hat 27 = .ok (.bipush 99, 2) := by decide +kernel
theorem dX10_hat_29 : decode cX10_hat 29 = .ok (.invokestatic 129, 3) := by decide +kernel
theorem dX10_hat_32 : decode cX10_hat 32 = .ok (.ifCond .eq 14, 3) := by decide +kernel
theorem dX10_hat_35 : decode cX10_hat 35 = .ok (.aload_n 0, 1) := by decide +kernel
theorem dX10_hat_36 : decode cX10_hat 36 = .ok (.getfield 53, 3) := by decide +kernel
theorem dX10_hat_39 : decode cX10_hat 39 = .ok (.iload_n 1, 1) := by decide +kernel
theorem dX10_hat_40 : decode cX10_hat 40 = .ok (.iaload, 1) := by decide +kernel
theorem dX10_hat_41 : decode cX10_hat 41 = .ok (.bipush 6, 2) := by decide +kernel
theorem dX10_hat_43 : decode cX10_hat 43 = .ok (.if_icmp .ne 5, 3) := by decide +kernel
theorem dX10_hat_46 : decode cX10_hat 46 = .ok (.iconst (-1), 1) := by decide +kernel
theorem dX10_hat_47 : decode cX10_hat 47 = .ok (.ireturn, 1) := by decide +kernel
theorem dX10_hat_48 : decode cX10_hat 48 = .ok (.bipush 6, 2) := by decide +kernel
theorem dX10_hat_50 : decode cX10_hat 50 = .ok (.iload_n 1, 1) := by decide +kernel
theorem dX10_hat_51 : decode cX10_hat 51 = .ok (.imul, 1) := by decide +kernel
theorem dX10_hat_52 : decode cX10_hat 52 = .ok (.aload_n 0, 1) := by decide +kernel
theorem dX10_hat_53 : decode cX10_hat 53 = .ok (.getfield 53, 3) := by decide +kernel
theorem dX10_hat_56 : decode cX10_hat 56 = .ok (.iload_n 1, 1) := by decide +kernel
theorem dX10_hat_57 : decode cX10_hat 57 = .ok (.iaload, 1) := by decide +kernel
theorem dX10_hat_58 : decode cX10_hat 58 = .ok (.iadd, 1) := by decide +kernel
theorem dX10_hat_59 : decode cX10_hat 59 = .ok (.istore 4, 2) := by decide +kernel
theorem dX10_hat_61 : decode cX10_hat 61 = .ok (.aload_n 0, 1) := by decide +kernel
theorem dX10_hat_62 : decode cX10_hat 62 = .ok (.getfield 56, 3) := by decide +kernel
theorem dX10_hat_65 : decode cX10_hat 65 = .ok (.iload 4, 2) := by decide +kernel
theorem dX10_hat_67 : decode cX10_hat 67 = .ok (.iload_n 2, 1) := by decide +kernel
theorem dX10_hat_68 : decode cX10_hat 68 = .ok (.iastore, 1) := by decide +kernel
theorem dX10_hat_69 : decode cX10_hat 69 = .ok (.aload_n 0, 1) := by decide +kernel
theorem dX10_hat_70 : decode cX10_hat 70 = .ok (.getfield 59, 3) := by decide +kernel
theorem dX10_hat_73 : decode cX10_hat 73 = .ok (.iload 4, 2) := by decide +kernel
theorem dX10_hat_75 : decode cX10_hat 75 = .ok (.iload_n 3, 1) := by decide +kernel
theorem dX10_hat_76 : decode cX10_hat 76 = .ok (.iastore, 1) := by decide +kernel
theorem dX10_hat_77 : decode cX10_hat 77 = .ok (.aload_n 0, 1) := by decide +kernel
theorem dX10_hat_78 : decode cX10_hat 78 = .ok (.getfield 53, 3) := by decide +kernel
theorem dX10_hat_81 : decode cX10_hat 81 = .ok (.iload_n 1, 1) := by decide +kernel
theorem dX10_hat_82 : decode cX10_hat 82 = .ok (.dup2, 1) := by decide +kernel
theorem dX10_hat_83 : decode cX10_hat 83 = .ok (.iaload, 1) := by decide +kernel
theorem dX10_hat_84 : decode cX10_hat 84 = .ok (.iconst 1, 1) := by decide +kernel
theorem dX10_hat_85 : decode cX10_hat 85 = .ok (.iadd, 1) := by decide +kernel
theorem dX10_hat_86 : decode cX10_hat 86 = .ok (.iastore, 1) := by decide +kernel
theorem dX10_hat_87 : decode cX10_hat 87 = .ok (.aload_n 0, 1) := by decide +kernel
theorem dX10_hat_88 : decode cX10_hat 88 = .ok (.getfield 53, 3) := by decide +kernel
theorem dX10_hat_91 : decode cX10_hat 91 = .ok (.iload_n 1, 1) := by decide +kernel
theorem dX10_hat_92 : decode cX10_hat 92 = .ok (.iaload, 1) := by decide +kernel
theorem dX10_hat_93 : decode cX10_hat 93 = .ok (.iconst 1, 1) := by decide +kernel
theorem dX10_hat_94 : decode cX10_hat 94 = .ok (.isub, 1) := by decide +kernel
theorem dX10_hat_95 : decode cX10_hat 95 = .ok (.ireturn, 1) := by decide +kernel
theorem dX10_image_0 : decode cX10_image 0 = .ok (.aload_n 0, 1) := by decide +kernel
theorem dX10_image_1 : decode cX10_image 1 = .ok (.iconst 0, 1) := by decide +kernel
theorem dX10_image_2 : decode cX10_image 2 = .ok (.putfield 121, 3) := by decide +kernel
theorem dX10_image_5 : decode cX10_image 5 = .ok (.iload_n 1, 1) := by decide +kernel
theorem dX10_image_6 : decode cX10_image 6 = .ok (.iconst 0, 1) := by decide +kernel
theorem dX10_image_7 : decode cX10_image 7 = .ok (.iconst 2, 1) := by decide +kernel
theorem dX10_image_8 : decode cX10_image 8 = .ok (.invokestatic 129, 3) := by decide +kernel
theorem dX10_image_11 : decode cX10_image 11 = .ok (.ifCond .ne 5, 3) := by decide +kernel
theorem dX10_image_14 : decode cX10_image 14 = .ok (.iconst 0, 1) := by decide +kernel
theorem dX10_image_15 : decode cX10_image 15 = .ok (.ireturn, 1) := by decide +kernel
theorem dX10_image_16 : decode cX10_image 16 = .ok (.aload_n 0, 1) := by decide +kernel
theorem dX10_image_17 : decode cX10_image 17 = .ok (.iconst 0, 1) := by decide +kernel
theorem dX10_image_18 : decode cX10_image 18 = .ok (.iload_n 1, 1) := by decide +kernel
theorem dX10_image_19 : decode cX10_image 19 = .ok (.iconst 1, 1) := by decide +kernel
theorem dX10_image_20 : decode cX10_image 20 = .ok (.iadd, 1) := by decide +kernel
theorem dX10_image_21 : decode cX10_image 21 = .ok (.invokevirtual 495, 3) := by decide +kernel
theorem dX10_image_24 : decode cX10_image 24 = .ok (.aload_n 0, 1) := by decide +kernel
theorem dX10_image_25 : decode cX10_image 25 = .ok (.getfield 117, 3) := by decide +kernel
theorem dX10_image_28 : decode cX10_image 28 = .ok (.iload_n 1, 1) := by decide +kernel
theorem dX10_image_29 : decode cX10_image 29 = .ok (.iconst 1, 1) := by decide +kernel
theorem dX10_image_30 : decode cX10_image 30 = .ok (.bastore, 1) := by decide +kernel
theorem dX10_image_31 : decode cX10_image 31 = .ok (.iconst 1, 1) := by decide +kernel
theorem dX10_image_32 : decode cX10_image 32 = .ok (.ireturn, 1) := by decide +kernel
theorem dX10_isFreeAtFirst_0 : decode cX10_isFreeAtFirst 0 = .ok (.aload_n 0, 1) := by decide +kernel
theorem dX10_isFreeAtFirst_1 : decode cX10_isFreeAtFirst 1 = .ok (.getfield 38, 3) := by decide +kernel
theorem dX10_isFreeAtFirst_4 : decode cX10_isFreeAtFirst 4 = .ok (.bipush 96, 2) := by decide +kernel
theorem dX10_isFreeAtFirst_6 : decode cX10_isFreeAtFirst 6 = .ok (.iload_n 1, 1) := by decide +kernel
theorem dX10_isFreeAtFirst_7 : decode cX10_isFreeAtFirst 7 = .ok (.imul, 1) := by decide +kernel
theorem dX10_isFreeAtFirst_8 : decode cX10_isFreeAtFirst 8 = .ok (.bipush 6, 2) := by decide +kernel
theorem dX10_isFreeAtFirst_10 : decode cX10_isFreeAtFirst 10 = .ok (.iload_n 2, 1) := by decide +kernel
theorem dX10_isFreeAtFirst_11 : decode cX10_isFreeAtFirst 11 = .ok (.imul, 1) := by decide +kernel
theorem dX10_isFreeAtFirst_12 : decode cX10_isFreeAtFirst 12 = .ok (.iadd, 1) := by decide +kernel
theorem dX10_isFreeAtFirst_13 : decode cX10_isFreeAtFirst 13 = .ok (.iload_n 3, 1) := by decide +kernel
theorem dX10_isFreeAtFirst_14 : decode cX10_isFreeAtFirst 14 = .ok (.iadd, 1) := by decide +kernel
theorem dX10_isFreeAtFirst_15 : decode cX10_isFreeAtFirst 15 = .ok (.iaload, 1) := by decide +kernel
theorem dX10_isFreeAtFirst_16 : decode cX10_isFreeAtFirst 16 = .ok (.ifCond .ne 7, 3) := by decide +kernel
theorem dX10_isFreeAtFirst_19 : decode cX10_isFreeAtFirst 19 = .ok (.iconst 1, 1) := by decide +kernel
theorem dX10_isFreeAtFirst_20 : decode cX10_isFreeAtFirst 20 = .ok (.goto 4, 3) := by decide +kernel
theorem dX10_isFreeAtFirst_23 : decode cX10_isFreeAtFirst 23 = .ok (.iconst 0, 1) := by decide +kernel
theorem dX10_isFreeAtFirst_24 : decode cX10_isFreeAtFirst 24 = .ok (.istore 4, 2) := by decide +kernel
theorem dX10_isFreeAtFirst_26 : decode cX10_isFreeAtFirst 26 = .ok (.iconst 0, 1) := by decide +kernel
theorem dX10_isFreeAtFirst_27 : decode cX10_isFreeAtFirst 27 = .ok (.istore 5, 2) := by decide +kernel
theorem dX10_isFreeAtFirst_29 : decode cX10_isFreeAtFirst 29 = .ok (.iload 5, 2) := by decide +kernel
theorem dX10_isFreeAtFirst_31 : decode cX10_isFreeAtFirst 31 = .ok (.aload_n 0, 1) := by decide +kernel
theorem dX10_isFreeAtFirst_32 : decode cX10_isFreeAtFirst 32 = .ok (.getfield 32, 3) := by decide +kernel
theorem dX10_isFreeAtFirst_35 : decode cX10_isFreeAtFirst 35 = .ok (.iload_n 1, 1) := by decide +kernel
theorem dX10_isFreeAtFirst_36 : decode cX10_isFreeAtFirst 36 = .ok (.iaload, 1) := by decide +kernel
theorem dX10_isFreeAtFirst_37 : decode cX10_isFreeAtFirst 37 = .ok (.if_icmp .ge 57, 3) := by decide +kernel
theorem dX10_isFreeAtFirst_40 : decode cX10_isFreeAtFirst 40 = .ok (.bipush 8, 2) := by decide +kernel
theorem dX10_isFreeAtFirst_42 : decode cX10_isFreeAtFirst 42 = .ok (.bipush 12, 2) := by decide +kernel
theorem dX10_isFreeAtFirst_44 : decode cX10_isFreeAtFirst 44 = .ok (.iload_n 1, 1) := by decide +kernel
theorem dX10_isFreeAtFirst_45 : decode cX10_isFreeAtFirst 45 = .ok (.imul, 1) := by decide +kernel
theorem dX10_isFreeAtFirst_46 : decode cX10_isFreeAtFirst 46 = .ok (.iload 5, 2) := by decide +kernel
theorem dX10_isFreeAtFirst_48 : decode cX10_isFreeAtFirst 48 = .ok (.iadd, 1) := by decide +kernel
theorem dX10_isFreeAtFirst_49 : decode cX10_isFreeAtFirst 49 = .ok (.imul, 1) := by decide +kernel
theorem dX10_isFreeAtFirst_50 : decode cX10_isFreeAtFirst 50 = .ok (.istore 6, 2) := by decide +kernel
theorem dX10_isFreeAtFirst_52 : decode cX10_isFreeAtFirst 52 = .ok (.iload 4, 2) := by decide +kernel
theorem dX10_isFreeAtFirst_54 : decode cX10_isFreeAtFirst 54 = .ok (.ifCond .eq 31, 3) := by decide +kernel
theorem dX10_isFreeAtFirst_57 : decode cX10_isFreeAtFirst 57 = .ok (.aload_n 0, 1) := by decide +kernel
theorem dX10_isFreeAtFirst_58 : decode cX10_isFreeAtFirst 58 = .ok (.getfield 41, 3) := by decide +kernel
theorem dX10_isFreeAtFirst_61 : decode cX10_isFreeAtFirst 61 = .ok (.iload 6, 2) := by decide +kernel
theorem dX10_isFreeAtFirst_63 : decode cX10_isFreeAtFirst 63 = .ok (.iaload, 1) := by decide +kernel
theorem dX10_isFreeAtFirst_64 : decode cX10_isFreeAtFirst 64 = .ok (.iload_n 2, 1) := by decide +kernel
theorem dX10_isFreeAtFirst_65 : decode cX10_isFreeAtFirst 65 = .ok (.if_icmp .ne 16, 3) := by decide +kernel
theorem dX10_isFreeAtFirst_68 : decode cX10_isFreeAtFirst 68 = .ok (.aload_n 0, 1) := by decide +kernel
theorem dX10_isFreeAtFirst_69 : decode cX10_isFreeAtFirst 69 = .ok (.getfield 41, 3) := by decide +kernel
theorem dX10_isFreeAtFirst_72 : decode cX10_isFreeAtFirst 72 = .ok (.iload 6, 2) := by decide +kernel
theorem dX10_isFreeAtFirst_74 : decode cX10_isFreeAtFirst 74 = .ok (.iconst 1, 1) := by decide +kernel
theorem dX10_isFreeAtFirst_75 : decode cX10_isFreeAtFirst 75 = .ok (.iadd, 1) := by decide +kernel
theorem dX10_isFreeAtFirst_76 : decode cX10_isFreeAtFirst 76 = .ok (.iaload, 1) := by decide +kernel
theorem dX10_isFreeAtFirst_77 : decode cX10_isFreeAtFirst 77 = .ok (.iload_n 3, 1) := by decide +kernel
theorem dX10_isFreeAtFirst_78 : decode cX10_isFreeAtFirst 78 = .ok (.if_icmp .eq 7, 3) := by decide +kernel
theorem dX10_isFreeAtFirst_81 : decode cX10_isFreeAtFirst 81 = .ok (.iconst 1, 1) := by decide +kernel
theorem dX10_isFreeAtFirst_82 : decode cX10_isFreeAtFirst 82 = .ok (.goto 4, 3) := by decide +kernel
theorem dX10_isFreeAtFirst_85 : decode cX10_isFreeAtFirst 85 = .ok (.iconst 0, 1) := by decide +kernel
theorem dX10_isFreeAtFirst_86 : decode cX10_isFreeAtFirst 86 = .ok (.istore 4, 2) := by decide +kernel
theorem dX10_isFreeAtFirst_88 : decode cX10_isFreeAtFirst 88 = .ok (.iinc 5 1, 3) := by decide +kernel
theorem dX10_isFreeAtFirst_91 : decode cX10_isFreeAtFirst 91 = .ok (.goto (-62), 3) := by decide +kernel
theorem dX10_isFreeAtFirst_94 : decode cX10_isFreeAtFirst 94 = .ok (.iload 4, 2) := by decide +kernel
theorem dX10_isFreeAtFirst_96 : decode cX10_isFreeAtFirst 96 = .ok (.ireturn, 1) := by decide +kernel
theorem dX10_isGood_0 : decode cX10_isGood 0 = .ok (.aload_n 0, 1) := by decide +kernel
theorem dX10_isGood_1 : decode cX10_isGood 1 = .ok (.getfield 17, 3) := by decide +kernel
theorem dX10_isGood_4 : decode cX10_isGood 4 = .ok (.iconst 0, 1) := by decide +kernel
theorem dX10_isGood_5 : decode cX10_isGood 5 = .ok (.iload_n 1, 1) := by decide +kernel
theorem dX10_isGood_6 : decode cX10_isGood 6 = .ok (.ifCond .eq 10, 3) := by decide +kernel
theorem dX10_isGood_9 : decode cX10_isGood 9 = .ok (.aload_n 0, 1) := by decide +kernel
theorem dX10_isGood_10 : decode cX10_isGood 10 = .ok (.getfield 167, 3) := by decide +kernel
theorem dX10_isGood_13 : decode cX10_isGood 13 = .ok (.goto 4, 3) := by decide +kernel
theorem dX10_isGood_16 : decode cX10_isGood 16 = .ok (.iconst 1, 1) := by decide +kernel
theorem dX10_isGood_17 : decode cX10_isGood 17 = .ok (.iastore, 1) := by decide +kernel
theorem dX10_isGood_18 : decode cX10_isGood 18 = .ok (.aload_n 0, 1) := by decide +kernel
theorem dX10_isGood_19 : decode cX10_isGood 19 = .ok (.getfield 20, 3) := by decide +kernel
theorem dX10_isGood_22 : decode cX10_isGood 22 = .ok (.iconst 0, 1) := by decide +kernel
theorem dX10_isGood_23 : decode cX10_isGood 23 = .ok (.iload_n 1, 1) := by decide +kernel
theorem dX10_isGood_24 : decode cX10_isGood 24 = .ok (.ifCond .ne 10, 3) := by decide +kernel
theorem dX10_isGood_27 : decode cX10_isGood 27 = .ok (.aload_n 0, 1) := by decide +kernel
theorem dX10_isGood_28 : decode cX10_isGood 28 = .ok (.getfield 164, 3) := by decide +kernel
theorem dX10_isGood_31 : decode cX10_isGood 31 = .ok (.goto 18, 3) := by decide +kernel
theorem dX10_isGood_34 : decode cX10_isGood 34 = .ok (.aload_n 0, 1) := by decide +kernel
theorem dX10_isGood_35 : decode cX10_isGood 35 = .ok (.getfield 167, 3) := by decide +kernel
theorem dX10_isGood_38 : decode cX10_isGood 38 = .ok (.ifCond .le 10, 3) := by decide +kernel
theorem dX10_isGood_41 : decode cX10_isGood 41 = .ok (.aload_n 0, 1) := by decide +kernel
theorem dX10_isGood_42 : decode cX10_isGood 42 = .ok (.getfield 170, 3) := by decide +kernel
theorem dX10_isGood_45 : decode cX10_isGood 45 = .ok (.goto 4, 3) := by decide +kernel
theorem dX10_isGood_48 : decode cX10_isGood 48 = .ok (.iconst (-1), 1) := by decide +kernel
theorem dX10_isGood_49 : decode cX10_isGood 49 = .ok (.iastore, 1) := by decide +kernel
theorem dX10_isGood_50 : decode cX10_isGood 50 = .ok (.aload_n 0, 1) := by decide +kernel
theorem dX10_isGood_51 : decode cX10_isGood 51 = .ok (.getfield 17, 3) := by decide +kernel
theorem dX10_isGood_54 : decode cX10_isGood 54 = .ok (.iconst 0, 1) := by decide +kernel
theorem dX10_isGood_55 : decode cX10_isGood 55 = .ok (.iaload, 1) := by decide +kernel
theorem dX10_isGood_56 : decode cX10_isGood 56 = .ok (.ifCond .ne 7, 3) := by decide +kernel
theorem dX10_isGood_59 : decode cX10_isGood 59 = .ok (.iconst 1, 1) := by decide +kernel
theorem dX10_isGood_60 : decode cX10_isGood 60 = .ok (.goto 4, 3) := by decide +kernel
theorem dX10_isGood_63 : decode cX10_isGood 63 = .ok (.iconst 0, 1) := by decide +kernel
theorem dX10_isGood_64 : decode cX10_isGood 64 = .ok (.ireturn, 1) := by decide +kernel
theorem dX10_isMatch_0 : decode cX10_isMatch 0 = .ok (.iload_n 0, 1) := by decide +kernel
theorem dX10_isMatch_1 : decode cX10_isMatch 1 = .ok (.iconst 0, 1) := by decide +kernel
theorem dX10_isMatch_2 : decode cX10_isMatch 2 = .ok (.bipush 6, 2) := by decide +kernel
theorem dX10_isMatch_4 : decode cX10_isMatch 4 = .ok (.invokestatic 129, 3) := by decide +kernel
theorem dX10_isMatch_7 : decode cX10_isMatch 7 = .ok (.ifCond .eq 17, 3) := by decide +kernel
theorem dX10_isMatch_10 : decode cX10_isMatch 10 = .ok (.iload_n 1, 1) := by decide +kernel
theorem dX10_isMatch_11 : decode cX10_isMatch 11 = .ok (.iconst 0, 1) := by decide +kernel
theorem dX10_isMatch_12 : decode cX10_isMatch 12 = .ok (.bipush 99, 2) := by decide +kernel
theorem dX10_isMatch_14 : decode cX10_isMatch 14 = .ok (.invokestatic 129, 3) := by decide +kernel
theorem dX10_isMatch_17 : decode cX10_isMatch 17 = .ok (.ifCond .eq 7, 3) := by decide +kernel
theorem dX10_isMatch_20 : decode cX10_isMatch 20 = .ok (.iconst 1, 1) := by decide +kernel
theorem dX10_isMatch_21 : decode cX10_isMatch 21 = .ok (.goto 4, 3) := by decide +kernel
theorem dX10_isMatch_24 : decode cX10_isMatch 24 = .ok (.iconst 0, 1) := by decide +kernel
theorem dX10_isMatch_25 : decode cX10_isMatch 25 = .ok (.ireturn, 1) := by decide +kernel
theorem dX10_isSignOf_0 : decode cX10_isSignOf 0 = .ok (.aload_n 0, 1) := by decide +kernel
theorem dX10_isSignOf_1 : decode cX10_isSignOf 1 = .ok (.getfield 154, 3) := by decide +kernel
theorem dX10_isSignOf_4 : decode cX10_isSignOf 4 = .ok (.iconst 4, 1) := by decide +kernel
theorem dX10_isSignOf_5 : decode cX10_isSignOf 5 = .ok (.if_icmp .ne 15, 3) := by decide +kernel
theorem dX10_isSignOf_8 : decode cX10_isSignOf 8 = .ok (.aload_n 0, 1) := by decide +kernel
theorem dX10_isSignOf_9 : decode cX10_isSignOf 9 = .ok (.getfield 157, 3) := by decide +kernel
theorem dX10_isSignOf_12 : decode cX10_isSignOf 12 = .ok (.iload_n 1, 1) := by decide +kernel
theorem dX10_isSignOf_13 : decode cX10_isSignOf 13 = .ok (.if_icmp .ne 7, 3) := by decide +kernel
theorem dX10_isSignOf_16 : decode cX10_isSignOf 16 = .ok (.iconst 1, 1) := by decide +kernel
theorem dX10_isSignOf_17 : decode cX10_isSignOf 17 = .ok (.goto 4, 3) := by decide +kernel
theorem dX10_isSignOf_20 : decode cX10_isSignOf 20 = .ok (.iconst 0, 1) := by decide +kernel
theorem dX10_isSignOf_21 : decode cX10_isSignOf 21 = .ok (.ireturn, 1) := by decide +kernel
theorem dX10_isTaken_0 : decode cX10_isTaken 0 = .ok (.iconst 0, 1) := by decide +kernel
theorem dX10_isTaken_1 : decode cX10_isTaken 1 = .ok (.istore_n 2, 1) := by decide +kernel
theorem dX10_isTaken_2 : decode cX10_isTaken 2 = .ok (.iload_n 2, 1) := by decide +kernel
theorem dX10_isTaken_3 : decode cX10_isTaken 3 = .ok (.aload_n 0, 1) := by decide +kernel
theorem dX10_isTaken_4 : decode cX10_isTaken 4 = .ok (.getfield 210, 3) := by decide +kernel
theorem dX10_isTaken_7 : decode cX10_isTaken 7 = .ok (.if_icmp .ge 39, 3) := by decide +kernel
theorem dX10_isTaken_10 : decode cX10_isTaken 10 = .ok (.bipush 6, 2) := by decide +kernel
theorem dX10_isTaken_12 : decode cX10_isTaken 12 = .ok (.aload_n 0, 1) := by decide +kernel
theorem dX10_isTaken_13 : decode cX10_isTaken 13 = .ok (.getfield 65, 3) := by decide +kernel
theorem dX10_isTaken_16 : decode cX10_isTaken 16 = .ok (.bipush 8, 2) := by decide +kernel
theorem dX10_isTaken_18 : decode cX10_isTaken 18 = .ok (.iload_n 2, 1) := by decide +kernel
theorem dX10_isTaken_19 : decode cX10_isTaken 19 = .ok (.imul, 1) := by decide +kernel
theorem dX10_isTaken_20 : decode cX10_isTaken 20 = .ok (.iaload, 1) := by decide +kernel
theorem dX10_isTaken_21 : decode cX10_isTaken 21 = .ok (.imul, 1) := by decide +kernel
theorem dX10_isTaken_22 : decode cX10_isTaken 22 = .ok (.aload_n 0, 1) := by decide +kernel
theorem dX10_isTaken_23 : decode cX10_isTaken 23 = .ok (.getfield 65, 3) := by decide +kernel
theorem dX10_isTaken_26 : decode cX10_isTaken 26 = .ok (.bipush 8, 2) := by decide +kernel
theorem dX10_isTaken_28 : decode cX10_isTaken 28 = .ok (.iload_n 2, 1) := by decide +kernel
theorem dX10_isTaken_29 : decode cX10_isTaken 29 = .ok (.imul, 1) := by decide +kernel
theorem dX10_isTaken_30 : decode cX10_isTaken 30 = .ok (.iconst 1, 1) := by decide +kernel
theorem dX10_isTaken_31 : decode cX10_isTaken 31 = .ok (.iadd, 1) := by decide +kernel
theorem dX10_isTaken_32 : decode cX10_isTaken 32 = .ok (.iaload, 1) := by decide +kernel
theorem dX10_isTaken_33 : decode cX10_isTaken 33 = .ok (.iadd, 1) := by decide +kernel
theorem dX10_isTaken_34 : decode cX10_isTaken 34 = .ok (.iload_n 1, 1) := by decide +kernel
theorem dX10_isTaken_35 : decode cX10_isTaken 35 = .ok (.if_icmp .ne 5, 3) := by decide +kernel
theorem dX10_isTaken_38 : decode cX10_isTaken 38 = .ok (.iconst 1, 1) := by decide +kernel
theorem dX10_isTaken_39 : decode cX10_isTaken 39 = .ok (.ireturn, 1) := by decide +kernel
theorem dX10_isTaken_40 : decode cX10_isTaken 40 = .ok (.iinc 2 1, 3) := by decide +kernel
theorem dX10_isTaken_43 : decode cX10_isTaken 43 = .ok (.goto (-41), 3) := by decide +kernel
theorem dX10_isTaken_46 : decode cX10_isTaken 46 = .ok (.aload_n 0, 1) := by decide +kernel
theorem dX10_isTaken_47 : decode cX10_isTaken 47 = .ok (.getfield 62, 3) := by decide +kernel
theorem dX10_isTaken_50 : decode cX10_isTaken 50 = .ok (.iload_n 1, 1) := by decide +kernel
theorem dX10_isTaken_51 : decode cX10_isTaken 51 = .ok (.iaload, 1) := by decide +kernel
theorem dX10_isTaken_52 : decode cX10_isTaken 52 = .ok (.iconst 1, 1) := by decide +kernel
theorem dX10_isTaken_53 : decode cX10_isTaken 53 = .ok (.if_icmp .ne 7, 3) := by decide +kernel
theorem dX10_isTaken_56 : decode cX10_isTaken 56 = .ok (.iconst 1, 1) := by decide +kernel
theorem dX10_isTaken_57 : decode cX10_isTaken 57 = .ok (.goto 4, 3) := by decide +kernel
theorem dX10_isTaken_60 : decode cX10_isTaken 60 = .ok (.iconst 0, 1) := by decide +kernel
theorem dX10_isTaken_61 : decode cX10_isTaken 61 = .ok (.ireturn, 1) := by decide +kernel
theorem dX10_waysOn_0 : decode cX10_waysOn 0 = .ok (.iconst 0, 1) := by decide +kernel
theorem dX10_waysOn_1 : decode cX10_waysOn 1 = .ok (.istore_n 2, 1) := by decide +kernel
theorem dX10_waysOn_2 : decode cX10_waysOn 2 = .ok (.iconst 0, 1) := by decide +kernel
theorem dX10_waysOn_3 : decode cX10_waysOn 3 = .ok (.istore_n 3, 1) := by decide +kernel
theorem dX10_waysOn_4 : decode cX10_waysOn 4 = .ok (.iload_n 3, 1) := by decide +kernel
theorem dX10_waysOn_5 : decode cX10_waysOn 5 = .ok (.aload_n 0, 1) := by decide +kernel
theorem dX10_waysOn_6 : decode cX10_waysOn 6 = .ok (.getfield 71, 3) := by decide +kernel
theorem dX10_waysOn_9 : decode cX10_waysOn 9 = .ok (.iconst 2, 1) := by decide +kernel
theorem dX10_waysOn_10 : decode cX10_waysOn 10 = .ok (.iaload, 1) := by decide +kernel
theorem dX10_waysOn_11 : decode cX10_waysOn 11 = .ok (.if_icmp .ge 66, 3) := by decide +kernel
theorem dX10_waysOn_14 : decode cX10_waysOn 14 = .ok (.iconst 0, 1) := by decide +kernel
theorem dX10_waysOn_15 : decode cX10_waysOn 15 = .ok (.iload_n 3, 1) := by decide +kernel
theorem dX10_waysOn_16 : decode cX10_waysOn 16 = .ok (.invokestatic 332, 3) := by decide +kernel
theorem dX10_waysOn_19 : decode cX10_waysOn 19 = .ok (.istore 4, 2) := by decide +kernel
theorem dX10_waysOn_21 : decode cX10_waysOn 21 = .ok (.iload_n 2, 1) := by decide +kernel
theorem dX10_waysOn_22 : decode cX10_waysOn 22 = .ok (.aload_n 0, 1) := by decide +kernel
theorem dX10_waysOn_23 : decode cX10_waysOn 23 = .ok (.getfield 71, 3) := by decide +kernel
theorem dX10_waysOn_26 : decode cX10_waysOn 26 = .ok (.iload 4, 2) := by decide +kernel
theorem dX10_waysOn_28 : decode cX10_waysOn 28 = .ok (.iaload, 1) := by decide +kernel
theorem dX10_waysOn_29 : decode cX10_waysOn 29 = .ok (.iconst (-1), 1) := by decide +kernel
theorem dX10_waysOn_30 : decode cX10_waysOn 30 = .ok (.if_icmp .eq 38, 3) := by decide +kernel
theorem dX10_waysOn_33 : decode cX10_waysOn 33 = .ok (.aload_n 0, 1) := by decide +kernel
theorem dX10_waysOn_34 : decode cX10_waysOn 34 = .ok (.getfield 71, 3) := by decide +kernel
theorem dX10_waysOn_37 : decode cX10_waysOn 37 = .ok (.iload 4, 2) := by decide +kernel
theorem dX10_waysOn_39 : decode cX10_waysOn 39 = .ok (.iconst 4, 1) := by decide +kernel
theorem dX10_waysOn_40 : decode cX10_waysOn 40 = .ok (.iadd, 1) := by decide +kernel
theorem dX10_waysOn_41 : decode cX10_waysOn 41 = .ok (.iaload, 1) := by decide +kernel
theorem dX10_waysOn_42 : decode cX10_waysOn 42 = .ok (.iload_n 1, 1) := by decide +kernel
theorem dX10_waysOn_43 : decode cX10_waysOn 43 = .ok (.if_icmp .ne 25, 3) := by decide +kernel
theorem dX10_waysOn_46 : decode cX10_waysOn 46 = .ok (.aload_n 0, 1) := by decide +kernel
theorem dX10_waysOn_47 : decode cX10_waysOn 47 = .ok (.getfield 71, 3) := by decide +kernel
theorem dX10_waysOn_50 : decode cX10_waysOn 50 = .ok (.iload 4, 2) := by decide +kernel
theorem dX10_waysOn_52 : decode cX10_waysOn 52 = .ok (.bipush 8, 2) := by decide +kernel
theorem dX10_waysOn_54 : decode cX10_waysOn 54 = .ok (.iadd, 1) := by decide +kernel
theorem dX10_waysOn_55 : decode cX10_waysOn 55 = .ok (.iaload, 1) := by decide +kernel
theorem dX10_waysOn_56 : decode cX10_waysOn 56 = .ok (.iconst 1, 1) := by decide +kernel
theorem dX10_waysOn_57 : decode cX10_waysOn 57 = .ok (.if_icmp .ne 7, 3) := by decide +kernel
theorem dX10_waysOn_60 : decode cX10_waysOn 60 = .ok (.iconst 1, 1) := by decide +kernel
theorem dX10_waysOn_61 : decode cX10_waysOn 61 = .ok (.goto 8, 3) := by decide +kernel
theorem dX10_waysOn_64 : decode cX10_waysOn 64 = .ok (.iconst 2, 1) := by decide +kernel
theorem dX10_waysOn_65 : decode cX10_waysOn 65 = .ok (.goto 4, 3) := by decide +kernel
theorem dX10_waysOn_68 : decode cX10_waysOn 68 = .ok (.iconst 0, 1) := by decide +kernel
theorem dX10_waysOn_69 : decode cX10_waysOn 69 = .ok (.ior, 1) := by decide +kernel
theorem dX10_waysOn_70 : decode cX10_waysOn 70 = .ok (.istore_n 2, 1) := by decide +kernel
theorem dX10_waysOn_71 : decode cX10_waysOn 71 = .ok (.iinc 3 1, 3) := by decide +kernel
theorem dX10_waysOn_74 : decode cX10_waysOn 74 = .ok (.goto (-70), 3) := by decide +kernel
theorem dX10_waysOn_77 : decode cX10_waysOn 77 = .ok (.iload_n 2, 1) := by decide +kernel
theorem dX10_waysOn_78 : decode cX10_waysOn 78 = .ok (.ireturn, 1) := by decide +kernel
theorem dX10_lanes_0 : decode cX10_lanes 0 = .ok (.iconst 0, 1) := by decide +kernel
theorem dX10_lanes_1 : decode cX10_lanes 1 = .ok (.istore_n 2, 1) := by decide +kernel
theorem dX10_lanes_2 : decode cX10_lanes 2 = .ok (.iconst 0, 1) := by decide +kernel
theorem dX10_lanes_3 : decode cX10_lanes 3 = .ok (.istore_n 3, 1) := by decide +kernel
theorem dX10_lanes_4 : decode cX10_lanes 4 = .ok (.iconst 0, 1) := by decide +kernel
theorem dX10_lanes_5 : decode cX10_lanes 5 = .ok (.istore 4, 2) := by decide +kernel
theorem dX10_lanes_7 : decode cX10_lanes 7 = .ok (.iconst 0, 1) := by decide +kernel
theorem dX10_lanes_8 : decode cX10_lanes 8 = .ok (.istore 5, 2) := by decide +kernel
theorem dX10_lanes_10 : decode cX10_lanes 10 = .ok (.iload 5, 2) := by decide +kernel
theorem dX10_lanes_12 : decode cX10_lanes 12 = .ok (.aload_n 0, 1) := by decide +kernel
theorem dX10_lanes_13 : decode cX10_lanes 13 = .ok (.getfield 71, 3) := by decide +kernel
theorem dX10_lanes_16 : decode cX10_lanes 16 = .ok (.iconst 1, 1) := by decide +kernel
theorem dX10_lanes_17 : decode cX10_lanes 17 = .ok (.iaload, 1) := by decide +kernel
theorem dX10_lanes_18 : decode cX10_lanes 18 = .ok (.if_icmp .ge 62, 3) := by decide +kernel
theorem dX10_lanes_21 : decode cX10_lanes 21 = .ok (.aload_n 0, 1) := by decide +kernel
theorem dX10_lanes_22 : decode cX10_lanes 22 = .ok (.iload 5, 2) := by decide +kernel
theorem dX10_lanes_24 : decode cX10_lanes 24 = .ok (.invokevirtual 431, 3) := by decide +kernel
theorem dX10_lanes_27 : decode cX10_lanes 27 = .ok (.istore 6, 2) := by decide +kernel
theorem dX10_lanes_29 : decode cX10_lanes 29 = .ok (.iload_n 3, 1) := by decide +kernel
theorem dX10_lanes_30 : decode cX10_lanes 30 = .ok (.iload 6, 2) := by decide +kernel
theorem dX10_lanes_32 : decode cX10_lanes 32 = .ok (.iconst 3, 1) := by decide +kernel
theorem dX10_lanes_33 : decode cX10_lanes 33 = .ok (.if_icmp .ne 7, 3) := by decide +kernel
theorem dX10_lanes_36 : decode cX10_lanes 36 = .ok (.iconst 1, 1) := by decide +kernel
theorem dX10_lanes_37 : decode cX10_lanes 37 = .ok (.goto 4, 3) := by decide +kernel
theorem dX10_lanes_40 : decode cX10_lanes 40 = .ok (.iconst 0, 1) := by decide +kernel
theorem dX10_lanes_41 : decode cX10_lanes 41 = .ok (.iadd, 1) := by decide +kernel
theorem dX10_lanes_42 : decode cX10_lanes 42 = .ok (.istore_n 3, 1) := by decide +kernel
theorem dX10_lanes_43 : decode cX10_lanes 43 = .ok (.iload 6, 2) := by decide +kernel
theorem dX10_lanes_45 : decode cX10_lanes 45 = .ok (.iconst 1, 1) := by decide +kernel
theorem dX10_lanes_46 : decode cX10_lanes 46 = .ok (.if_icmp .eq 9, 3) := by decide +kernel
theorem dX10_lanes_49 : decode cX10_lanes 49 = .ok (.iload 6, 2) := by decide +kernel
theorem dX10_lanes_51 : decode cX10_lanes 51 = .ok (.iconst 2, 1) := by decide +kernel
theorem dX10_lanes_52 : decode cX10_lanes 52 = .ok (.if_icmp .ne 22, 3) := by decide +kernel
theorem dX10_lanes_55 : decode cX10_lanes 55 = .ok (.iload_n 2, 1) := by decide +kernel
theorem dX10_lanes_56 : decode cX10_lanes 56 = .ok (.iload 6, 2) := by decide +kernel
theorem dX10_lanes_58 : decode cX10_lanes 58 = .ok (.iload 4, 2) := by decide +kernel
theorem dX10_lanes_60 : decode cX10_lanes 60 = .ok (.if_icmp .eq 7, 3) := by decide +kernel
theorem dX10_lanes_63 : decode cX10_lanes 63 = .ok (.iconst 1, 1) := by decide +kernel
theorem dX10_lanes_64 : decode cX10_lanes 64 = .ok (.goto 4, 3) := by decide +kernel
theorem dX10_lanes_67 : decode cX10_lanes 67 = .ok (.iconst 0, 1) := by decide +kernel
theorem dX10_lanes_68 : decode cX10_lanes 68 = .ok (.iadd, 1) := by decide +kernel
theorem dX10_lanes_69 : decode cX10_lanes 69 = .ok (.istore_n 2, 1) := by decide +kernel
theorem dX10_lanes_70 : decode cX10_lanes 70 = .ok (.iload 6, 2) := by decide +kernel
theorem dX10_lanes_72 : decode cX10_lanes 72 = .ok (.istore 4, 2) := by decide +kernel
theorem dX10_lanes_74 : decode cX10_lanes 74 = .ok (.iinc 5 1, 3) := by decide +kernel
theorem dX10_lanes_77 : decode cX10_lanes 77 = .ok (.goto (-67), 3) := by decide +kernel
theorem dX10_lanes_80 : decode cX10_lanes 80 = .ok (.iload_n 1, 1) := by decide +kernel
theorem dX10_lanes_81 : decode cX10_lanes 81 = .ok (.ifCond .eq 7, 3) := by decide +kernel
theorem dX10_lanes_84 : decode cX10_lanes 84 = .ok (.iload_n 3, 1) := by decide +kernel
theorem dX10_lanes_85 : decode cX10_lanes 85 = .ok (.goto 4, 3) := by decide +kernel
theorem dX10_lanes_88 : decode cX10_lanes 88 = .ok (.iload_n 2, 1) := by decide +kernel
theorem dX10_lanes_89 : decode cX10_lanes 89 = .ok (.ireturn, 1) := by decide +kernel
theorem dX10_passes_0 : decode cX10_passes 0 = .ok (.aload_n 0, 1) := by decide +kernel
theorem dX10_passes_1 : decode cX10_passes 1 = .ok (.bipush 59, 2) := by decide +kernel
theorem dX10_passes_3 : decode cX10_passes 3 = .ok (.invokevirtual 191, 3) := by decide +kernel
theorem dX10_passes_6 : decode cX10_passes 6 = .ok (.ifCond .ne 8, 3) := by decide +kernel
theorem dX10_passes_9 : decode cX10_passes 9 = .ok (.aload_n 0, 1) := by decide +kernel
theorem dX10_passes_10 : decode cX10_passes 10 = .ok (.invokevirtual 173, 3) := by decide +kernel
theorem dX10_passes_13 : decode cX10_passes 13 = .ok (.ireturn, 1) := by decide +kernel
theorem dX10_passes_14 : decode cX10_passes 14 = .ok (.aload_n 0, 1) := by decide +kernel
theorem dX10_passes_15 : decode cX10_passes 15 = .ok (.invokevirtual 188, 3) := by decide +kernel
theorem dX10_passes_18 : decode cX10_passes 18 = .ok (.iconst 1, 1) := by decide +kernel
theorem dX10_passes_19 : decode cX10_passes 19 = .ok (.ireturn, 1) := by decide +kernel
theorem dX10_testOf_0 : decode cX10_testOf 0 = .ok (.aload_n 0, 1) := by decide +kernel
theorem dX10_testOf_1 : decode cX10_testOf 1 = .ok (.ldc2_w 283, 3) := by decide +kernel
theorem dX10_testOf_4 : decode cX10_testOf 4 = .ok (.invokevirtual 221, 3) := by decide +kernel
theorem dX10_testOf_7 : decode cX10_testOf 7 = .ok (.ifCond .eq 7, 3) := by decide +kernel
theorem dX10_testOf_10 : decode cX10_testOf 10 = .ok (.iconst 0, 1) := by decide +kernel
theorem dX10_testOf_11 : decode cX10_testOf 11 = .ok (.goto 149, 3) := by decide +kernel
theorem dX10_testOf_14 : decode cX10_testOf 14 = .ok (.aload_n 0, 1) := by decide +kernel
theorem dX10_testOf_15 : decode cX10_testOf 15 = .ok (.ldc2_w 285, 3) := by decide +kernel
theorem dX10_testOf_18 : decode cX10_testOf 18 = .ok (.invokevirtual 221, 3) := by decide +kernel
theorem dX10_testOf_21 : decode cX10_testOf 21 = .ok (.ifCond .eq 7, 3) := by decide +kernel
theorem dX10_testOf_24 : decode cX10_testOf 24 = .ok (.iconst 1, 1) := by decide +kernel
theorem dX10_testOf_25 : decode cX10_testOf 25 = .ok (.goto 135, 3) := by decide +kernel
theorem dX10_testOf_28 : decode cX10_testOf 28 = .ok (.aload_n 0, 1) := by decide +kernel
theorem dX10_testOf_29 : decode cX10_testOf 29 = .ok (.ldc2_w 287, 3) := by decide +kernel
theorem dX10_testOf_32 : decode cX10_testOf 32 = .ok (.invokevirtual 221, 3) := by decide +kernel
theorem dX10_testOf_35 : decode cX10_testOf 35 = .ok (.ifCond .eq 7, 3) := by decide +kernel
theorem dX10_testOf_38 : decode cX10_testOf 38 = .ok (.iconst 2, 1) := by decide +kernel
theorem dX10_testOf_39 : decode cX10_testOf 39 = .ok (.goto 121, 3) := by decide +kernel
theorem dX10_testOf_42 : decode cX10_testOf 42 = .ok (.aload_n 0, 1) := by decide +kernel
theorem dX10_testOf_43 : decode cX10_testOf 43 = .ok (.ldc2_w 227, 3) := by decide +kernel
theorem dX10_testOf_46 : decode cX10_testOf 46 = .ok (.invokevirtual 221, 3) := by decide +kernel
theorem dX10_testOf_49 : decode cX10_testOf 49 = .ok (.ifCond .eq 7, 3) := by decide +kernel
theorem dX10_testOf_52 : decode cX10_testOf 52 = .ok (.iconst 3, 1) := by decide +kernel
theorem dX10_testOf_53 : decode cX10_testOf 53 = .ok (.goto 107, 3) := by decide +kernel
theorem dX10_testOf_56 : decode cX10_testOf 56 = .ok (.aload_n 0, 1) := by decide +kernel
theorem dX10_testOf_57 : decode cX10_testOf 57 = .ok (.ldc2_w 229, 3) := by decide +kernel
theorem dX10_testOf_60 : decode cX10_testOf 60 = .ok (.invokevirtual 221, 3) := by decide +kernel
theorem dX10_testOf_63 : decode cX10_testOf 63 = .ok (.ifCond .eq 7, 3) := by decide +kernel
theorem dX10_testOf_66 : decode cX10_testOf 66 = .ok (.iconst 4, 1) := by decide +kernel
theorem dX10_testOf_67 : decode cX10_testOf 67 = .ok (.goto 93, 3) := by decide +kernel
theorem dX10_testOf_70 : decode cX10_testOf 70 = .ok (.aload_n 0, 1) := by decide +kernel
theorem dX10_testOf_71 : decode cX10_testOf 71 = .ok (.ldc2_w 289, 3) := by decide +kernel
theorem dX10_testOf_74 : decode cX10_testOf 74 = .ok (.invokevirtual 221, 3) := by decide +kernel
theorem dX10_testOf_77 : decode cX10_testOf 77 = .ok (.ifCond .eq 7, 3) := by decide +kernel
theorem dX10_testOf_80 : decode cX10_testOf 80 = .ok (.iconst 5, 1) := by decide +kernel
theorem dX10_testOf_81 : decode cX10_testOf 81 = .ok (.goto 79, 3) := by decide +kernel
theorem dX10_testOf_84 : decode cX10_testOf 84 = .ok (.aload_n 0, 1) := by decide +kernel
theorem dX10_testOf_85 : decode cX10_testOf 85 = .ok (.ldc2_w 241, 3) := by decide +kernel
theorem dX10_testOf_88 : decode cX10_testOf 88 = .ok (.invokevirtual 221, 3) := by decide +kernel
theorem dX10_testOf_91 : decode cX10_testOf 91 = .ok (.ifCond .eq 8, 3) := by decide +kernel
theorem dX10_testOf_94 : decode cX10_testOf 94 = .ok (.bipush 6, 2) := by decide +kernel
theorem dX10_testOf_96 : decode cX10_testOf 96 = .ok (.goto 64, 3) := by decide +kernel
theorem dX10_testOf_99 : decode cX10_testOf 99 = .ok (.aload_n 0, 1) := by decide +kernel
theorem dX10_testOf_100 : decode cX10_testOf 100 = .ok (.ldc2_w 291, 3) := by decide +kernel
theorem dX10_testOf_103 : decode cX10_testOf 103 = .ok (.invokevirtual 221, 3) := by decide +kernel
theorem dX10_testOf_106 : decode cX10_testOf 106 = .ok (.ifCond .eq 8, 3) := by decide +kernel
theorem dX10_testOf_109 : decode cX10_testOf 109 = .ok (.bipush 7, 2) := by decide +kernel
theorem dX10_testOf_111 : decode cX10_testOf 111 = .ok (.goto 49, 3) := by decide +kernel
theorem dX10_testOf_114 : decode cX10_testOf 114 = .ok (.aload_n 0, 1) := by decide +kernel
theorem dX10_testOf_115 : decode cX10_testOf 115 = .ok (.ldc2_w 293, 3) := by decide +kernel
theorem dX10_testOf_118 : decode cX10_testOf 118 = .ok (.invokevirtual 221, 3) := by decide +kernel
theorem dX10_testOf_121 : decode cX10_testOf 121 = .ok (.ifCond .eq 8, 3) := by decide +kernel
theorem dX10_testOf_124 : decode cX10_testOf 124 = .ok (.bipush 8, 2) := by decide +kernel
theorem dX10_testOf_126 : decode cX10_testOf 126 = .ok (.goto 34, 3) := by decide +kernel
theorem dX10_testOf_129 : decode cX10_testOf 129 = .ok (.aload_n 0, 1) := by decide +kernel
theorem dX10_testOf_130 : decode cX10_testOf 130 = .ok (.ldc2_w 295, 3) := by decide +kernel
theorem dX10_testOf_133 : decode cX10_testOf 133 = .ok (.invokevirtual 221, 3) := by decide +kernel
theorem dX10_testOf_136 : decode cX10_testOf 136 = .ok (.ifCond .eq 8, 3) := by decide +kernel
theorem dX10_testOf_139 : decode cX10_testOf 139 = .ok (.bipush 9, 2) := by decide +kernel
theorem dX10_testOf_141 : decode cX10_testOf 141 = .ok (.goto 19, 3) := by decide +kernel
theorem dX10_testOf_144 : decode cX10_testOf 144 = .ok (.aload_n 0, 1) := by decide +kernel
theorem dX10_testOf_145 : decode cX10_testOf 145 = .ok (.ldc2_w 297, 3) := by decide +kernel
theorem dX10_testOf_148 : decode cX10_testOf 148 = .ok (.invokevirtual 221, 3) := by decide +kernel
theorem dX10_testOf_151 : decode cX10_testOf 151 = .ok (.ifCond .eq 8, 3) := by decide +kernel
theorem dX10_testOf_154 : decode cX10_testOf 154 = .ok (.bipush 10, 2) := by decide +kernel
theorem dX10_testOf_156 : decode cX10_testOf 156 = .ok (.goto 4, 3) := by decide +kernel
theorem dX10_testOf_159 : decode cX10_testOf 159 = .ok (.iconst (-1), 1) := by decide +kernel
theorem dX10_testOf_160 : decode cX10_testOf 160 = .ok (.ireturn, 1) := by decide +kernel
theorem dX10_test_0 : decode cX10_test 0 = .ok (.aload_n 0, 1) := by decide +kernel
theorem dX10_test_1 : decode cX10_test 1 = .ok (.getfield 299, 3) := by decide +kernel
theorem dX10_test_4 : decode cX10_test 4 = .ok (.iconst 4, 1) := by decide +kernel
theorem dX10_test_5 : decode cX10_test 5 = .ok (.if_icmp .ne 12, 3) := by decide +kernel
theorem dX10_test_8 : decode cX10_test 8 = .ok (.aload_n 0, 1) := by decide +kernel
theorem dX10_test_9 : decode cX10_test 9 = .ok (.iconst 3, 1) := by decide +kernel
theorem dX10_test_10 : decode cX10_test 10 = .ok (.aload_n 0, 1) := by decide +kernel
theorem dX10_test_11 : decode cX10_test 11 = .ok (.getfield 147, 3) := by decide +kernel
theorem dX10_test_14 : decode cX10_test 14 = .ok (.invokevirtual 180, 3) := by decide +kernel
theorem dX10_test_17 : decode cX10_test 17 = .ok (.bipush 18, 2) := by decide +kernel
theorem dX10_test_19 : decode cX10_test 19 = .ok (.aload_n 0, 1) := by decide +kernel
theorem dX10_test_20 : decode cX10_test 20 = .ok (.getfield 302, 3) := by decide +kernel
theorem dX10_test_23 : decode cX10_test 23 = .ok (.imul, 1) := by decide +kernel
theorem dX10_test_24 : decode cX10_test 24 = .ok (.iconst 2, 1) := by decide +kernel
theorem dX10_test_25 : decode cX10_test 25 = .ok (.iadd, 1) := by decide +kernel
theorem dX10_test_26 : decode cX10_test 26 = .ok (.iconst 4, 1) := by decide +kernel
theorem dX10_test_27 : decode cX10_test 27 = .ok (.aload_n 0, 1) := by decide +kernel
theorem dX10_test_28 : decode cX10_test 28 = .ok (.getfield 299, 3) := by decide +kernel
theorem dX10_test_31 : decode cX10_test 31 = .ok (.iconst 4, 1) := by decide +kernel
theorem dX10_test_32 : decode cX10_test 32 = .ok (.if_icmp .ge 10, 3) := by decide +kernel
theorem dX10_test_35 : decode cX10_test 35 = .ok (.aload_n 0, 1) := by decide +kernel
theorem dX10_test_36 : decode cX10_test 36 = .ok (.getfield 299, 3) := by decide +kernel
theorem dX10_test_39 : decode cX10_test 39 = .ok (.goto 4, 3) := by decide +kernel
theorem dX10_test_42 : decode cX10_test 42 = .ok (.iconst 3, 1) := by decide +kernel
theorem dX10_test_43 : decode cX10_test 43 = .ok (.imul, 1) := by decide +kernel
theorem dX10_test_44 : decode cX10_test 44 = .ok (.iadd, 1) := by decide +kernel
theorem dX10_test_45 : decode cX10_test 45 = .ok (.istore_n 1, 1) := by decide +kernel
theorem dX10_test_46 : decode cX10_test 46 = .ok (.aload_n 0, 1) := by decide +kernel
theorem dX10_test_47 : decode cX10_test 47 = .ok (.getfield 68, 3) := by decide +kernel
theorem dX10_test_50 : decode cX10_test 50 = .ok (.iload_n 1, 1) := by decide +kernel
theorem dX10_test_51 : decode cX10_test 51 = .ok (.iconst 3, 1) := by decide +kernel
theorem dX10_test_52 : decode cX10_test 52 = .ok (.iadd, 1) := by decide +kernel
theorem dX10_test_53 : decode cX10_test 53 = .ok (.aload_n 0, 1) := by decide +kernel
theorem dX10_test_54 : decode cX10_test 54 = .ok (.ldc2_w 305, 3) := by decide +kernel
theorem dX10_test_57 : decode cX10_test 57 = .ok (.invokevirtual 221, 3) := by decide +kernel
theorem dX10_test_60 : decode cX10_test 60 = .ok (.ifCond .eq 7, 3) := by decide +kernel
theorem dX10_test_63 : decode cX10_test 63 = .ok (.iconst 1, 1) := by decide +kernel
theorem dX10_test_64 : decode cX10_test 64 = .ok (.goto 4, 3) := by decide +kernel
theorem dX10_test_67 : decode cX10_test 67 = .ok (.iconst 0, 1) := by decide +kernel
theorem dX10_test_68 : decode cX10_test 68 = .ok (.iastore, 1) := by decide +kernel
theorem dX10_test_69 : decode cX10_test 69 = .ok (.aload_n 0, 1) := by decide +kernel
theorem dX10_test_70 : decode cX10_test 70 = .ok (.ldc2_w 305, 3) := by decide +kernel
theorem dX10_test_73 : decode cX10_test 73 = .ok (.invokevirtual 221, 3) := by decide +kernel
theorem dX10_test_76 : decode cX10_test 76 = .ok (.ifCond .eq 7, 3) := by decide +kernel
theorem dX10_test_79 : decode cX10_test 79 = .ok (.aload_n 0, 1) := by decide +kernel
theorem dX10_test_80 : decode cX10_test 80 = .ok (.invokevirtual 188, 3) := by decide +kernel
theorem dX10_test_83 : decode cX10_test 83 = .ok (.aload_n 0, 1) := by decide +kernel
theorem dX10_test_84 : decode cX10_test 84 = .ok (.invokevirtual 307, 3) := by decide +kernel
theorem dX10_test_87 : decode cX10_test 87 = .ok (.istore_n 2, 1) := by decide +kernel
theorem dX10_test_88 : decode cX10_test 88 = .ok (.iload_n 2, 1) := by decide +kernel
theorem dX10_test_89 : decode cX10_test 89 = .ok (.iconst (-1), 1) := by decide +kernel
theorem dX10_test_90 : decode cX10_test 90 = .ok (.if_icmp .ne 8, 3) := by decide +kernel
theorem dX10_test_93 : decode cX10_test 93 = .ok (.aload_n 0, 1) := by decide +kernel
theorem dX10_test_94 : decode cX10_test 94 = .ok (.invokevirtual 173, 3) := by decide +kernel
theorem dX10_test_97 : decode cX10_test 97 = .ok (.ireturn, 1) := by decide +kernel
theorem dX10_test_98 : decode cX10_test 98 = .ok (.aload_n 0, 1) := by decide +kernel
theorem dX10_test_99 : decode cX10_test 99 = .ok (.getfield 68, 3) := by decide +kernel
theorem dX10_test_102 : decode cX10_test 102 = .ok (.iload_n 1, 1) := by decide +kernel
theorem dX10_test_103 : decode cX10_test 103 = .ok (.iload_n 2, 1) := by decide +kernel
theorem dX10_test_104 : decode cX10_test 104 = .ok (.iastore, 1) := by decide +kernel
theorem dX10_test_105 : decode cX10_test 105 = .ok (.aload_n 0, 1) := by decide +kernel
theorem dX10_test_106 : decode cX10_test 106 = .ok (.getfield 68, 3) := by decide +kernel
theorem dX10_test_109 : decode cX10_test 109 = .ok (.iload_n 1, 1) := by decide +kernel
theorem dX10_test_110 : decode cX10_test 110 = .ok (.iconst 1, 1) := by decide +kernel
theorem dX10_test_111 : decode cX10_test 111 = .ok (.iadd, 1) := by decide +kernel
theorem dX10_test_112 : decode cX10_test 112 = .ok (.iconst 0, 1) := by decide +kernel
theorem dX10_test_113 : decode cX10_test 113 = .ok (.iastore, 1) := by decide +kernel
theorem dX10_test_114 : decode cX10_test 114 = .ok (.aload_n 0, 1) := by decide +kernel
theorem dX10_test_115 : decode cX10_test 115 = .ok (.getfield 68, 3) := by decide +kernel
theorem dX10_test_118 : decode cX10_test 118 = .ok (.iload_n 1, 1) := by decide +kernel
theorem dX10_test_119 : decode cX10_test 119 = .ok (.iconst 2, 1) := by decide +kernel
theorem dX10_test_120 : decode cX10_test 120 = .ok (.iadd, 1) := by decide +kernel
theorem dX10_test_121 : decode cX10_test 121 = .ok (.iconst 0, 1) := by decide +kernel
theorem dX10_test_122 : decode cX10_test 122 = .ok (.iastore, 1) := by decide +kernel
theorem dX10_test_123 : decode cX10_test 123 = .ok (.aload_n 0, 1) := by decide +kernel
theorem dX10_test_124 : decode cX10_test 124 = .ok (.dup, 1) := by decide +kernel
theorem dX10_test_125 : decode cX10_test 125 = .ok (.getfield 299, 3) := by decide +kernel
theorem dX10_test_128 : decode cX10_test 128 = .ok (.aload_n 0, 1) := by decide +kernel
theorem dX10_test_129 : decode cX10_test 129 = .ok (.getfield 299, 3) := by decide +kernel
theorem dX10_test_132 : decode cX10_test 132 = .ok (.iconst 4, 1) := by decide +kernel
theorem dX10_test_133 : decode cX10_test 133 = .ok (.if_icmp .ge 7, 3) := by decide +kernel
theorem dX10_test_136 : decode cX10_test 136 = .ok (.iconst 1, 1) := by decide +kernel
theorem dX10_test_137 : decode cX10_test 137 = .ok (.goto 4, 3) := by decide +kernel
theorem dX10_test_140 : decode cX10_test 140 = .ok (.iconst 0, 1) := by decide +kernel
theorem dX10_test_141 : decode cX10_test 141 = .ok (.iadd, 1) := by decide +kernel
theorem dX10_test_142 : decode cX10_test 142 = .ok (.putfield 299, 3) := by decide +kernel
theorem dX10_test_145 : decode cX10_test 145 = .ok (.aload_n 0, 1) := by decide +kernel
theorem dX10_test_146 : decode cX10_test 146 = .ok (.invokevirtual 188, 3) := by decide +kernel
theorem dX10_test_149 : decode cX10_test 149 = .ok (.iload_n 2, 1) := by decide +kernel
theorem dX10_test_150 : decode cX10_test 150 = .ok (.bipush 8, 2) := by decide +kernel
theorem dX10_test_152 : decode cX10_test 152 = .ok (.if_icmp .lt 5, 3) := by decide +kernel
theorem dX10_test_155 : decode cX10_test 155 = .ok (.iconst 1, 1) := by decide +kernel
theorem dX10_test_156 : decode cX10_test 156 = .ok (.ireturn, 1) := by decide +kernel
theorem dX10_test_157 : decode cX10_test 157 = .ok (.aload_n 0, 1) := by decide +kernel
theorem dX10_test_158 : decode cX10_test 158 = .ok (.bipush 60, 2) := by decide +kernel
theorem dX10_test_160 : decode cX10_test 160 = .ok (.invokevirtual 191, 3) := by decide +kernel
theorem dX10_test_163 : decode cX10_test 163 = .ok (.ifCond .ne 26, 3) := by decide +kernel
theorem dX10_test_166 : decode cX10_test 166 = .ok (.aload_n 0, 1) := by decide +kernel
theorem dX10_test_167 : decode cX10_test 167 = .ok (.bipush 62, 2) := by decide +kernel
theorem dX10_test_169 : decode cX10_test 169 = .ok (.invokevirtual 191, 3) := by decide +kernel
theorem dX10_test_172 : decode cX10_test 172 = .ok (.ifCond .ne 17, 3) := by decide +kernel
theorem dX10_test_175 : decode cX10_test 175 = .ok (.aload_n 0, 1) := by decide +kernel
theorem dX10_test_176 : decode cX10_test 176 = .ok (.bipush 61, 2) := by decide +kernel
theorem dX10_test_178 : decode cX10_test 178 = .ok (.invokevirtual 191, 3) := by decide +kernel
theorem dX10_test_181 : decode cX10_test 181 = .ok (.ifCond .ne 8, 3) := by decide +kernel
theorem dX10_test_184 : decode cX10_test 184 = .ok (.aload_n 0, 1) := by decide +kernel
theorem dX10_test_185 : decode cX10_test 185 = .ok (.invokevirtual 173, 3) := by decide +kernel
theorem dX10_test_188 : decode cX10_test 188 = .ok (.ireturn, 1) := by decide +kernel
theorem dX10_test_189 : decode cX10_test 189 = .ok (.aload_n 0, 1) := by decide +kernel
theorem dX10_test_190 : decode cX10_test 190 = .ok (.getfield 68, 3) := by decide +kernel
theorem dX10_test_193 : decode cX10_test 193 = .ok (.iload_n 1, 1) := by decide +kernel
theorem dX10_test_194 : decode cX10_test 194 = .ok (.iconst 1, 1) := by decide +kernel
theorem dX10_test_195 : decode cX10_test 195 = .ok (.iadd, 1) := by decide +kernel
theorem dX10_test_196 : decode cX10_test 196 = .ok (.aload_n 0, 1) := by decide +kernel
theorem dX10_test_197 : decode cX10_test 197 = .ok (.getfield 157, 3) := by decide +kernel
theorem dX10_test_200 : decode cX10_test 200 = .ok (.iastore, 1) := by decide +kernel
theorem dX10_test_201 : decode cX10_test 201 = .ok (.aload_n 0, 1) := by decide +kernel
theorem dX10_test_202 : decode cX10_test 202 = .ok (.invokevirtual 188, 3) := by decide +kernel
theorem dX10_test_205 : decode cX10_test 205 = .ok (.aload_n 0, 1) := by decide +kernel
theorem dX10_test_206 : decode cX10_test 206 = .ok (.getfield 154, 3) := by decide +kernel
theorem dX10_test_209 : decode cX10_test 209 = .ok (.iconst 3, 1) := by decide +kernel
theorem dX10_test_210 : decode cX10_test 210 = .ok (.if_icmp .eq 8, 3) := by decide +kernel
theorem dX10_test_213 : decode cX10_test 213 = .ok (.aload_n 0, 1) := by decide +kernel
theorem dX10_test_214 : decode cX10_test 214 = .ok (.invokevirtual 173, 3) := by decide +kernel
theorem dX10_test_217 : decode cX10_test 217 = .ok (.ireturn, 1) := by decide +kernel
theorem dX10_test_218 : decode cX10_test 218 = .ok (.aload_n 0, 1) := by decide +kernel
theorem dX10_test_219 : decode cX10_test 219 = .ok (.getfield 68, 3) := by decide +kernel
theorem dX10_test_222 : decode cX10_test 222 = .ok (.iload_n 1, 1) := by decide +kernel
theorem dX10_test_223 : decode cX10_test 223 = .ok (.iconst 2, 1) := by decide +kernel
theorem dX10_test_224 : decode cX10_test 224 = .ok (.iadd, 1) := by decide +kernel
theorem dX10_test_225 : decode cX10_test 225 = .ok (.aload_n 0, 1) := by decide +kernel
theorem dX10_test_226 : decode cX10_test 226 = .ok (.getfield 157, 3) := by decide +kernel
theorem dX10_test_229 : decode cX10_test 229 = .ok (.iastore, 1) := by decide +kernel
theorem dX10_test_230 : decode cX10_test 230 = .ok (.aload_n 0, 1) := by decide +kernel
theorem dX10_test_231 : decode cX10_test 231 = .ok (.invokevirtual 188, 3) := by decide +kernel
theorem dX10_test_234 : decode cX10_test 234 = .ok (.iconst 1, 1) := by decide +kernel
theorem dX10_test_235 : decode cX10_test 235 = .ok (.ireturn, 1) := by decide +kernel
theorem dX10_ruleLine_0 : decode cX10_ruleLine 0 = .ok (.aload_n 0, 1) := by decide +kernel
theorem dX10_ruleLine_1 : decode cX10_ruleLine 1 = .ok (.getfield 302, 3) := by decide +kernel
theorem dX10_ruleLine_4 : decode cX10_ruleLine 4 = .ok (.bipush 16, 2) := by decide +kernel
theorem dX10_ruleLine_6 : decode cX10_ruleLine 6 = .ok (.if_icmp .ne 12, 3) := by decide +kernel
theorem dX10_ruleLine_9 : decode cX10_ruleLine 9 = .ok (.aload_n 0, 1) := by decide +kernel
theorem dX10_ruleLine_10 : decode cX10_ruleLine 10 = .ok (.iconst 3, 1) := by decide +kernel
theorem dX10_ruleLine_11 : decode cX10_ruleLine 11 = .ok (.aload_n 0, 1) := by decide +kernel
theorem dX10_ruleLine_12 : decode cX10_ruleLine 12 = .ok (.getfield 147, 3) := by decide +kernel
theorem dX10_ruleLine_15 : decode cX10_ruleLine 15 = .ok (.invokevirtual 180, 3) := by decide +kernel
theorem dX10_ruleLine_18 : decode cX10_ruleLine 18 = .ok (.aload_n 0, 1) := by decide +kernel
theorem dX10_ruleLine_19 : decode cX10_ruleLine 19 = .ok (.iconst 0, 1) := by decide +kernel
theorem dX10_ruleLine_20 : decode cX10_ruleLine 20 = .ok (.putfield 299, 3) := by decide +kernel
theorem dX10_ruleLine_23 : decode cX10_ruleLine 23 = .ok (.aload_n 0, 1) := by decide +kernel
theorem dX10_ruleLine_24 : decode cX10_ruleLine 24 = .ok (.ldc2_w 316, 3) := by decide +kernel
theorem dX10_ruleLine_27 : decode cX10_ruleLine 27 = .ok (.invokevirtual 221, 3) := by decide +kernel
theorem dX10_ruleLine_30 : decode cX10_ruleLine 30 = .ok (.ifCond .eq 51, 3) := by decide +kernel
theorem dX10_ruleLine_33 : decode cX10_ruleLine 33 = .ok (.iconst 1, 1) := by decide +kernel
theorem dX10_ruleLine_34 : decode cX10_ruleLine 34 = .ok (.istore_n 1, 1) := by decide +kernel
theorem dX10_ruleLine_35 : decode cX10_ruleLine 35 = .ok (.iload_n 1, 1) := by decide +kernel
theorem dX10_ruleLine_36 : decode cX10_ruleLine 36 = .ok (.ifCond .eq 27, 3) := by decide +kernel
theorem dX10_ruleLine_39 : decode cX10_ruleLine 39 = .ok (.aload_n 0, 1) := by decide +kernel
theorem dX10_ruleLine_40 : decode cX10_ruleLine 40 = .ok (.invokevirtual 188, 3) := by decide +kernel
theorem dX10_ruleLine_43 : decode cX10_ruleLine 43 = .ok (.aload_n 0, 1) := by decide +kernel
theorem dX10_ruleLine_44 : decode cX10_ruleLine 44 = .ok (.invokevirtual 318, 3) := by decide +kernel
theorem dX10_ruleLine_47 : decode cX10_ruleLine 47 = .ok (.ifCond .ne 5, 3) := by decide +kernel
theorem dX10_ruleLine_50 : decode cX10_ruleLine 50 = .ok (.iconst 0, 1) := by decide +kernel
theorem dX10_ruleLine_51 : decode cX10_ruleLine 51 = .ok (.ireturn, 1) := by decide +kernel
theorem dX10_ruleLine_52 : decode cX10_ruleLine 52 = .ok (.aload_n 0, 1) := by decide +kernel
theorem dX10_ruleLine_53 : decode cX10_ruleLine 53 = .ok (.ldc2_w 321, 3) := by decide +kernel
theorem dX10_ruleLine_56 : decode cX10_ruleLine 56 = .ok (.invokevirtual 221, 3) := by decide +kernel
theorem dX10_ruleLine_59 : decode cX10_ruleLine 59 = .ok (.istore_n 1, 1) := by decide +kernel
theorem dX10_ruleLine_60 : decode cX10_ruleLine 60 = .ok (.goto (-25), 3) := by decide +kernel
theorem dX10_ruleLine_63 : decode cX10_ruleLine 63 = .ok (.aload_n 0, 1) := by decide +kernel
theorem dX10_ruleLine_64 : decode cX10_ruleLine 64 = .ok (.bipush 58, 2) := by decide +kernel
theorem dX10_ruleLine_66 : decode cX10_ruleLine 66 = .ok (.invokevirtual 191, 3) := by decide +kernel
theorem dX10_ruleLine_69 : decode cX10_ruleLine 69 = .ok (.ifCond .ne 8, 3) := by decide +kernel
theorem dX10_ruleLine_72 : decode cX10_ruleLine 72 = .ok (.aload_n 0, 1) := by decide +kernel
theorem dX10_ruleLine_73 : decode cX10_ruleLine 73 = .ok (.invokevirtual 173, 3) := by decide +kernel
theorem dX10_ruleLine_76 : decode cX10_ruleLine 76 = .ok (.ireturn, 1) := by decide +kernel
theorem dX10_ruleLine_77 : decode cX10_ruleLine 77 = .ok (.aload_n 0, 1) := by decide +kernel
theorem dX10_ruleLine_78 : decode cX10_ruleLine 78 = .ok (.invokevirtual 188, 3) := by decide +kernel
theorem dX10_ruleLine_81 : decode cX10_ruleLine 81 = .ok (.aload_n 0, 1) := by decide +kernel
theorem dX10_ruleLine_82 : decode cX10_ruleLine 82 = .ok (.invokevirtual 323, 3) := by decide +kernel
theorem dX10_ruleLine_85 : decode cX10_ruleLine 85 = .ok (.iconst (-1), 1) := by decide +kernel
theorem dX10_ruleLine_86 : decode cX10_ruleLine 86 = .ok (.if_icmp .ne 8, 3) := by decide +kernel
theorem dX10_ruleLine_89 : decode cX10_ruleLine 89 = .ok (.aload_n 0, 1) := by decide +kernel
theorem dX10_ruleLine_90 : decode cX10_ruleLine 90 = .ok (.invokevirtual 173, 3) := by decide +kernel
theorem dX10_ruleLine_93 : decode cX10_ruleLine 93 = .ok (.ireturn, 1) := by decide +kernel
theorem dX10_ruleLine_94 : decode cX10_ruleLine 94 = .ok (.aload_n 0, 1) := by decide +kernel
theorem dX10_ruleLine_95 : decode cX10_ruleLine 95 = .ok (.getfield 68, 3) := by decide +kernel
theorem dX10_ruleLine_98 : decode cX10_ruleLine 98 = .ok (.bipush 18, 2) := by decide +kernel
theorem dX10_ruleLine_100 : decode cX10_ruleLine 100 = .ok (.aload_n 0, 1) := by decide +kernel
theorem dX10_ruleLine_101 : decode cX10_ruleLine 101 = .ok (.getfield 302, 3) := by decide +kernel
theorem dX10_ruleLine_104 : decode cX10_ruleLine 104 = .ok (.imul, 1) := by decide +kernel
theorem dX10_ruleLine_105 : decode cX10_ruleLine 105 = .ok (.aload_n 0, 1) := by decide +kernel
theorem dX10_ruleLine_106 : decode cX10_ruleLine 106 = .ok (.invokevirtual 323, 3) := by decide +kernel
theorem dX10_ruleLine_109 : decode cX10_ruleLine 109 = .ok (.iastore, 1) := by decide +kernel
theorem dX10_ruleLine_110 : decode cX10_ruleLine 110 = .ok (.aload_n 0, 1) := by decide +kernel
theorem dX10_ruleLine_111 : decode cX10_ruleLine 111 = .ok (.getfield 68, 3) := by decide +kernel
theorem dX10_ruleLine_114 : decode cX10_ruleLine 114 = .ok (.bipush 18, 2) := by decide +kernel
theorem dX10_ruleLine_116 : decode cX10_ruleLine 116 = .ok (.aload_n 0, 1) := by decide +kernel
theorem dX10_ruleLine_117 : decode cX10_ruleLine 117 = .ok (.getfield 302, 3) := by decide +kernel
theorem dX10_ruleLine_120 : decode cX10_ruleLine 120 = .ok (.imul, 1) := by decide +kernel
theorem dX10_ruleLine_121 : decode cX10_ruleLine 121 = .ok (.iconst 1, 1) := by decide +kernel
theorem dX10_ruleLine_122 : decode cX10_ruleLine 122 = .ok (.iadd, 1) := by decide +kernel
theorem dX10_ruleLine_123 : decode cX10_ruleLine 123 = .ok (.aload_n 0, 1) := by decide +kernel
theorem dX10_ruleLine_124 : decode cX10_ruleLine 124 = .ok (.getfield 299, 3) := by decide +kernel
theorem dX10_ruleLine_127 : decode cX10_ruleLine 127 = .ok (.iastore, 1) := by decide +kernel
theorem dX10_ruleLine_128 : decode cX10_ruleLine 128 = .ok (.aload_n 0, 1) := by decide +kernel
theorem dX10_ruleLine_129 : decode cX10_ruleLine 129 = .ok (.dup, 1) := by decide +kernel
theorem dX10_ruleLine_130 : decode cX10_ruleLine 130 = .ok (.getfield 302, 3) := by decide +kernel
theorem dX10_ruleLine_133 : decode cX10_ruleLine 133 = .ok (.aload_n 0, 1) := by decide +kernel
theorem dX10_ruleLine_134 : decode cX10_ruleLine 134 = .ok (.getfield 302, 3) := by decide +kernel
theorem dX10_ruleLine_137 : decode cX10_ruleLine 137 = .ok (.bipush 16, 2) := by decide +kernel
theorem dX10_ruleLine_139 : decode cX10_ruleLine 139 = .ok (.if_icmp .ge 7, 3) := by decide +kernel
theorem dX10_ruleLine_142 : decode cX10_ruleLine 142 = .ok (.iconst 1, 1) := by decide +kernel
theorem dX10_ruleLine_143 : decode cX10_ruleLine 143 = .ok (.goto 4, 3) := by decide +kernel
theorem dX10_ruleLine_146 : decode cX10_ruleLine 146 = .ok (.iconst 0, 1) := by decide +kernel
theorem dX10_ruleLine_147 : decode cX10_ruleLine 147 = .ok (.iadd, 1) := by decide +kernel
theorem dX10_ruleLine_148 : decode cX10_ruleLine 148 = .ok (.putfield 302, 3) := by decide +kernel
theorem dX10_ruleLine_151 : decode cX10_ruleLine 151 = .ok (.aload_n 0, 1) := by decide +kernel
theorem dX10_ruleLine_152 : decode cX10_ruleLine 152 = .ok (.invokevirtual 188, 3) := by decide +kernel
theorem dX10_ruleLine_155 : decode cX10_ruleLine 155 = .ok (.aload_n 0, 1) := by decide +kernel
theorem dX10_ruleLine_156 : decode cX10_ruleLine 156 = .ok (.invokevirtual 262, 3) := by decide +kernel
theorem dX10_ruleLine_159 : decode cX10_ruleLine 159 = .ok (.ireturn, 1) := by decide +kernel
theorem dX10_takeTape_0 : decode cX10_takeTape 0 = .ok (.aload_n 0, 1) := by decide +kernel
theorem dX10_takeTape_1 : decode cX10_takeTape 1 = .ok (.aload_n 0, 1) := by decide +kernel
theorem dX10_takeTape_2 : decode cX10_takeTape 2 = .ok (.getfield 13, 3) := by decide +kernel
theorem dX10_takeTape_5 : decode cX10_takeTape 5 = .ok (.iconst 0, 1) := by decide +kernel
theorem dX10_takeTape_6 : decode cX10_takeTape 6 = .ok (.iaload, 1) := by decide +kernel
theorem dX10_takeTape_7 : decode cX10_takeTape 7 = .ok (.putfield 140, 3) := by decide +kernel
theorem dX10_takeTape_10 : decode cX10_takeTape 10 = .ok (.aload_n 0, 1) := by decide +kernel
theorem dX10_takeTape_11 : decode cX10_takeTape 11 = .ok (.getfield 13, 3) := by decide +kernel
theorem dX10_takeTape_14 : decode cX10_takeTape 14 = .ok (.iconst 0, 1) := by decide +kernel
theorem dX10_takeTape_15 : decode cX10_takeTape 15 = .ok (.iconst 0, 1) := by decide +kernel
theorem dX10_takeTape_16 : decode cX10_takeTape 16 = .ok (.iastore, 1) := by decide +kernel
theorem dX10_takeTape_17 : decode cX10_takeTape 17 = .ok (.aload_n 0, 1) := by decide +kernel
theorem dX10_takeTape_18 : decode cX10_takeTape 18 = .ok (.getfield 17, 3) := by decide +kernel
theorem dX10_takeTape_21 : decode cX10_takeTape 21 = .ok (.iconst 0, 1) := by decide +kernel
theorem dX10_takeTape_22 : decode cX10_takeTape 22 = .ok (.iconst 0, 1) := by decide +kernel
theorem dX10_takeTape_23 : decode cX10_takeTape 23 = .ok (.iastore, 1) := by decide +kernel
theorem dX10_takeTape_24 : decode cX10_takeTape 24 = .ok (.aload_n 0, 1) := by decide +kernel
theorem dX10_takeTape_25 : decode cX10_takeTape 25 = .ok (.getfield 20, 3) := by decide +kernel
theorem dX10_takeTape_28 : decode cX10_takeTape 28 = .ok (.iconst 0, 1) := by decide +kernel
theorem dX10_takeTape_29 : decode cX10_takeTape 29 = .ok (.iconst (-1), 1) := by decide +kernel
theorem dX10_takeTape_30 : decode cX10_takeTape 30 = .ok (.iastore, 1) := by decide +kernel
theorem dX10_takeTape_31 : decode cX10_takeTape 31 = .ok (.aload_n 0, 1) := by decide +kernel
theorem dX10_takeTape_32 : decode cX10_takeTape 32 = .ok (.iconst 0, 1) := by decide +kernel
theorem dX10_takeTape_33 : decode cX10_takeTape 33 = .ok (.putfield 137, 3) := by decide +kernel
theorem dX10_takeTape_36 : decode cX10_takeTape 36 = .ok (.aload_n 0, 1) := by decide +kernel
theorem dX10_takeTape_37 : decode cX10_takeTape 37 = .ok (.iconst 0, 1) := by decide +kernel
theorem dX10_takeTape_38 : decode cX10_takeTape 38 = .ok (.putfield 167, 3) := by decide +kernel
theorem dX10_takeTape_41 : decode cX10_takeTape 41 = .ok (.return_, 1) := by decide +kernel
theorem dX10_law_0 : decode cX10_law 0 = .ok (.aload_n 0, 1) := by decide +kernel
theorem dX10_law_1 : decode cX10_law 1 = .ok (.iconst 0, 1) := by decide +kernel
theorem dX10_law_2 : decode cX10_law 2 = .ok (.putfield 121, 3) := by decide +kernel
theorem dX10_law_5 : decode cX10_law 5 = .ok (.aload_n 0, 1) := by decide +kernel
theorem dX10_law_6 : decode cX10_law 6 = .ok (.invokevirtual 267, 3) := by decide +kernel
theorem dX10_law_9 : decode cX10_law 9 = .ok (.iload_n 1, 1) := by decide +kernel
theorem dX10_law_10 : decode cX10_law 10 = .ok (.iconst (-1), 1) := by decide +kernel
theorem dX10_law_11 : decode cX10_law 11 = .ok (.if_icmp .ne 16, 3) := by decide +kernel
theorem dX10_law_14 : decode cX10_law 14 = .ok (.aload_n 0, 1) := by decide +kernel
theorem dX10_law_15 : decode cX10_law 15 = .ok (.getfield 44, 3) := by decide +kernel
theorem dX10_law_18 : decode cX10_law 18 = .ok (.iconst 0, 1) := by decide +kernel
theorem dX10_law_19 : decode cX10_law 19 = .ok (.iaload, 1) := by decide +kernel
theorem dX10_law_20 : decode cX10_law 20 = .ok (.iconst 3, 1) := by decide +kernel
theorem dX10_law_21 : decode cX10_law 21 = .ok (.if_icmp .ne 17, 3) := by decide +kernel
theorem dX10_law_24 : decode cX10_law 24 = .ok (.goto 11, 3) := by decide +kernel
theorem dX10_law_27 : decode cX10_law 27 = .ok (.aload_n 0, 1) := by decide +kernel
theorem dX10_law_28 : decode cX10_law 28 = .ok (.iload_n 1, 1) := by decide +kernel
theorem dX10_law_29 : decode cX10_law 29 = .ok (.invokevirtual 326, 3) := by decide +kernel
theorem dX10_law_32 : decode cX10_law 32 = .ok (.ifCond .ne 6, 3) := by decide +kernel
theorem dX10_law_35 : decode cX10_law 35 = .ok (.bipush (-2), 2) := by decide +kernel
theorem dX10_law_37 : decode cX10_law 37 = .ok (.ireturn, 1) := by decide +kernel
theorem dX10_law_38 : decode cX10_law 38 = .ok (.aload_n 0, 1) := by decide +kernel
theorem dX10_law_39 : decode cX10_law 39 = .ok (.iconst 0, 1) := by decide +kernel
theorem dX10_law_40 : decode cX10_law 40 = .ok (.putfield 302, 3) := by decide +kernel
theorem dX10_law_43 : decode cX10_law 43 = .ok (.iconst 1, 1) := by decide +kernel
theorem dX10_law_44 : decode cX10_law 44 = .ok (.istore_n 2, 1) := by decide +kernel
theorem dX10_law_45 : decode cX10_law 45 = .ok (.aload_n 0, 1) := by decide +kernel
theorem dX10_law_46 : decode cX10_law 46 = .ok (.invokevirtual 188, 3) := by decide +kernel
theorem dX10_law_49 : decode cX10_law 49 = .ok (.iload_n 2, 1) := by decide +kernel
theorem dX10_law_50 : decode cX10_law 50 = .ok (.ifCond .eq 18, 3) := by decide +kernel
theorem dX10_law_53 : decode cX10_law 53 = .ok (.aload_n 0, 1) := by decide +kernel
theorem dX10_law_54 : decode cX10_law 54 = .ok (.getfield 154, 3) := by decide +kernel
theorem dX10_law_57 : decode cX10_law 57 = .ok (.ifCond .eq 11, 3) := by decide +kernel
theorem dX10_law_60 : decode cX10_law 60 = .ok (.aload_n 0, 1) := by decide +kernel
theorem dX10_law_61 : decode cX10_law 61 = .ok (.invokevirtual 329, 3) := by decide +kernel
theorem dX10_law_64 : decode cX10_law 64 = .ok (.istore_n 2, 1) := by decide +kernel
theorem dX10_law_65 : decode cX10_law 65 = .ok (.goto (-16), 3) := by decide +kernel
theorem dX10_law_68 : decode cX10_law 68 = .ok (.aload_n 0, 1) := by decide +kernel
theorem dX10_law_69 : decode cX10_law 69 = .ok (.iload_n 2, 1) := by decide +kernel
theorem dX10_law_70 : decode cX10_law 70 = .ok (.invokevirtual 279, 3) := by decide +kernel
theorem dX10_law_73 : decode cX10_law 73 = .ok (.ifCond .ne 5, 3) := by decide +kernel
theorem dX10_law_76 : decode cX10_law 76 = .ok (.iconst (-1), 1) := by decide +kernel
theorem dX10_law_77 : decode cX10_law 77 = .ok (.ireturn, 1) := by decide +kernel
theorem dX10_law_78 : decode cX10_law 78 = .ok (.iload_n 1, 1) := by decide +kernel
theorem dX10_law_79 : decode cX10_law 79 = .ok (.iconst (-1), 1) := by decide +kernel
theorem dX10_law_80 : decode cX10_law 80 = .ok (.if_icmp .ne 12, 3) := by decide +kernel
theorem dX10_law_83 : decode cX10_law 83 = .ok (.aload_n 0, 1) := by decide +kernel
theorem dX10_law_84 : decode cX10_law 84 = .ok (.getfield 44, 3) := by decide +kernel
theorem dX10_law_87 : decode cX10_law 87 = .ok (.iconst 0, 1) := by decide +kernel
theorem dX10_law_88 : decode cX10_law 88 = .ok (.iaload, 1) := by decide +kernel
theorem dX10_law_89 : decode cX10_law 89 = .ok (.goto 4, 3) := by decide +kernel
theorem dX10_law_92 : decode cX10_law 92 = .ok (.iload_n 1, 1) := by decide +kernel
theorem dX10_law_93 : decode cX10_law 93 = .ok (.istore_n 3, 1) := by decide +kernel
theorem dX10_law_94 : decode cX10_law 94 = .ok (.aload_n 0, 1) := by decide +kernel
theorem dX10_law_95 : decode cX10_law 95 = .ok (.getfield 44, 3) := by decide +kernel
theorem dX10_law_98 : decode cX10_law 98 = .ok (.iconst 0, 1) := by decide +kernel
theorem dX10_law_99 : decode cX10_law 99 = .ok (.dup2, 1) := by decide +kernel
theorem dX10_law_100 : decode cX10_law 100 = .ok (.iaload, 1) := by decide +kernel
theorem dX10_law_101 : decode cX10_law 101 = .ok (.iload_n 1, 1) := by decide +kernel
theorem dX10_law_102 : decode cX10_law 102 = .ok (.iconst (-1), 1) := by decide +kernel
theorem dX10_law_103 : decode cX10_law 103 = .ok (.if_icmp .ne 7, 3) := by decide +kernel
theorem dX10_law_106 : decode cX10_law 106 = .ok (.iconst 1, 1) := by decide +kernel
theorem dX10_law_107 : decode cX10_law 107 = .ok (.goto 4, 3) := by decide +kernel
theorem dX10_law_110 : decode cX10_law 110 = .ok (.iconst 0, 1) := by decide +kernel
theorem dX10_law_111 : decode cX10_law 111 = .ok (.iadd, 1) := by decide +kernel
theorem dX10_law_112 : decode cX10_law 112 = .ok (.iastore, 1) := by decide +kernel
theorem dX10_law_113 : decode cX10_law 113 = .ok (.aload_n 0, 1) := by decide +kernel
theorem dX10_law_114 : decode cX10_law 114 = .ok (.getfield 47, 3) := by decide +kernel
theorem dX10_law_117 : decode cX10_law 117 = .ok (.iload_n 3, 1) := by decide +kernel
theorem dX10_law_118 : decode cX10_law 118 = .ok (.aload_n 0, 1) := by decide +kernel
theorem dX10_law_119 : decode cX10_law 119 = .ok (.getfield 302, 3) := by decide +kernel
theorem dX10_law_122 : decode cX10_law 122 = .ok (.iastore, 1) := by decide +kernel
theorem dX10_law_123 : decode cX10_law 123 = .ok (.iconst 0, 1) := by decide +kernel
theorem dX10_law_124 : decode cX10_law 124 = .ok (.istore 4, 2) := by decide +kernel
theorem dX10_law_126 : decode cX10_law 126 = .ok (.iload 4, 2) := by decide +kernel
theorem dX10_law_128 : decode cX10_law 128 = .ok (.bipush 18, 2) := by decide +kernel
theorem dX10_law_130 : decode cX10_law 130 = .ok (.aload_n 0, 1) := by decide +kernel
theorem dX10_law_131 : decode cX10_law 131 = .ok (.getfield 302, 3) := by decide +kernel
theorem dX10_law_134 : decode cX10_law 134 = .ok (.imul, 1) := by decide +kernel
theorem dX10_law_135 : decode cX10_law 135 = .ok (.if_icmp .ge 29, 3) := by decide +kernel
theorem dX10_law_138 : decode cX10_law 138 = .ok (.aload_n 0, 1) := by decide +kernel
theorem dX10_law_139 : decode cX10_law 139 = .ok (.getfield 50, 3) := by decide +kernel
theorem dX10_law_142 : decode cX10_law 142 = .ok (.sipush 288, 3) := by decide +kernel
theorem dX10_law_145 : decode cX10_law 145 = .ok (.iload_n 3, 1) := by decide +kernel
theorem dX10_law_146 : decode cX10_law 146 = .ok (.imul, 1) := by decide +kernel
theorem dX10_law_147 : decode cX10_law 147 = .ok (.iload 4, 2) := by decide +kernel
theorem dX10_law_149 : decode cX10_law 149 = .ok (.iadd, 1) := by decide +kernel
theorem dX10_law_150 : decode cX10_law 150 = .ok (.aload_n 0, 1) := by decide +kernel
theorem dX10_law_151 : decode cX10_law 151 = .ok (.getfield 68, 3) := by decide +kernel
theorem dX10_law_154 : decode cX10_law 154 = .ok (.iload 4, 2) := by decide +kernel
theorem dX10_law_156 : decode cX10_law 156 = .ok (.iaload, 1) := by decide +kernel
theorem dX10_law_157 : decode cX10_law 157 = .ok (.iastore, 1) := by decide +kernel
theorem dX10_law_158 : decode cX10_law 158 = .ok (.iinc 4 1, 3) := by decide +kernel
theorem dX10_law_161 : decode cX10_law 161 = .ok (.goto (-35), 3) := by decide +kernel
theorem dX10_law_164 : decode cX10_law 164 = .ok (.iload_n 3, 1) := by decide +kernel
theorem dX10_law_165 : decode cX10_law 165 = .ok (.ireturn, 1) := by decide +kernel
theorem dX10_match_0 : decode cX10_match 0 = .ok (.aload_n 0, 1) := by decide +kernel
theorem dX10_match_1 : decode cX10_match 1 = .ok (.iconst 0, 1) := by decide +kernel
theorem dX10_match_2 : decode cX10_match 2 = .ok (.putfield 121, 3) := by decide +kernel
theorem dX10_match_5 : decode cX10_match 5 = .ok (.iload_n 1, 1) := by decide +kernel
theorem dX10_match_6 : decode cX10_match 6 = .ok (.iload_n 2, 1) := by decide +kernel
theorem dX10_match_7 : decode cX10_match 7 = .ok (.invokestatic 485, 3) := by decide +kernel
theorem dX10_match_10 : decode cX10_match 10 = .ok (.ifCond .eq 19, 3) := by decide +kernel
theorem dX10_match_13 : decode cX10_match 13 = .ok (.iload_n 3, 1) := by decide +kernel
theorem dX10_match_14 : decode cX10_match 14 = .ok (.iconst 0, 1) := by decide +kernel
theorem dX10_match_15 : decode cX10_match 15 = .ok (.aload_n 0, 1) := by decide +kernel
theorem dX10_match_16 : decode cX10_match 16 = .ok (.getfield 53, 3) := by decide +kernel
theorem dX10_match_19 : decode cX10_match 19 = .ok (.iload_n 1, 1) := by decide +kernel
theorem dX10_match_20 : decode cX10_match 20 = .ok (.iaload, 1) := by decide +kernel
theorem dX10_match_21 : decode cX10_match 21 = .ok (.iconst 1, 1) := by decide +kernel
theorem dX10_match_22 : decode cX10_match 22 = .ok (.isub, 1) := by decide +kernel
theorem dX10_match_23 : decode cX10_match 23 = .ok (.invokestatic 129, 3) := by decide +kernel
theorem dX10_match_26 : decode cX10_match 26 = .ok (.ifCond .ne 5, 3) := by decide +kernel
theorem dX10_match_29 : decode cX10_match 29 = .ok (.iconst (-1), 1) := by decide +kernel
theorem dX10_match_30 : decode cX10_match 30 = .ok (.ireturn, 1) := by decide +kernel
theorem dX10_match_31 : decode cX10_match 31 = .ok (.aload_n 0, 1) := by decide +kernel
theorem dX10_match_32 : decode cX10_match 32 = .ok (.iload_n 1, 1) := by decide +kernel
theorem dX10_match_33 : decode cX10_match 33 = .ok (.iload_n 2, 1) := by decide +kernel
theorem dX10_match_34 : decode cX10_match 34 = .ok (.invokevirtual 488, 3) := by decide +kernel
theorem dX10_match_37 : decode cX10_match 37 = .ok (.aload_n 0, 1) := by decide +kernel
theorem dX10_match_38 : decode cX10_match 38 = .ok (.getfield 110, 3) := by decide +kernel
theorem dX10_match_41 : decode cX10_match 41 = .ok (.iload_n 3, 1) := by decide +kernel
theorem dX10_match_42 : decode cX10_match 42 = .ok (.iaload, 1) := by decide +kernel
theorem dX10_match_43 : decode cX10_match 43 = .ok (.ireturn, 1) := by decide +kernel
theorem dX10_ofLine_0 : decode cX10_ofLine 0 = .ok (.aload_n 0, 1) := by decide +kernel
theorem dX10_ofLine_1 : decode cX10_ofLine 1 = .ok (.iconst 0, 1) := by decide +kernel
theorem dX10_ofLine_2 : decode cX10_ofLine 2 = .ok (.aload_n 0, 1) := by decide +kernel
theorem dX10_ofLine_3 : decode cX10_ofLine 3 = .ok (.getfield 210, 3) := by decide +kernel
theorem dX10_ofLine_6 : decode cX10_ofLine 6 = .ok (.iconst 1, 1) := by decide +kernel
theorem dX10_ofLine_7 : decode cX10_ofLine 7 = .ok (.isub, 1) := by decide +kernel
theorem dX10_ofLine_8 : decode cX10_ofLine 8 = .ok (.invokevirtual 197, 3) := by decide +kernel
theorem dX10_ofLine_11 : decode cX10_ofLine 11 = .ok (.ifCond .ne 5, 3) := by decide +kernel
theorem dX10_ofLine_14 : decode cX10_ofLine 14 = .ok (.iconst 0, 1) := by decide +kernel
theorem dX10_ofLine_15 : decode cX10_ofLine 15 = .ok (.ireturn, 1) := by decide +kernel
theorem dX10_ofLine_16 : decode cX10_ofLine 16 = .ok (.aload_n 0, 1) := by decide +kernel
theorem dX10_ofLine_17 : decode cX10_ofLine 17 = .ok (.getfield 177, 3) := by decide +kernel
theorem dX10_ofLine_20 : decode cX10_ofLine 20 = .ok (.istore 4, 2) := by decide +kernel
theorem dX10_ofLine_22 : decode cX10_ofLine 22 = .ok (.aload_n 0, 1) := by decide +kernel
theorem dX10_ofLine_23 : decode cX10_ofLine 23 = .ok (.iload_n 2, 1) := by decide +kernel
theorem dX10_ofLine_24 : decode cX10_ofLine 24 = .ok (.iload_n 3, 1) := by decide +kernel
theorem dX10_ofLine_25 : decode cX10_ofLine 25 = .ok (.invokevirtual 197, 3) := by decide +kernel
theorem dX10_ofLine_28 : decode cX10_ofLine 28 = .ok (.ifCond .ne 5, 3) := by decide +kernel
theorem dX10_ofLine_31 : decode cX10_ofLine 31 = .ok (.iconst 0, 1) := by decide +kernel
theorem dX10_ofLine_32 : decode cX10_ofLine 32 = .ok (.ireturn, 1) := by decide +kernel
theorem dX10_ofLine_33 : decode cX10_ofLine 33 = .ok (.aload_n 0, 1) := by decide +kernel
theorem dX10_ofLine_34 : decode cX10_ofLine 34 = .ok (.getfield 184, 3) := by decide +kernel
theorem dX10_ofLine_37 : decode cX10_ofLine 37 = .ok (.ifCond .eq 19, 3) := by decide +kernel
theorem dX10_ofLine_40 : decode cX10_ofLine 40 = .ok (.aload_n 0, 1) := by decide +kernel
theorem dX10_ofLine_41 : decode cX10_ofLine 41 = .ok (.getfield 65, 3) := by decide +kernel
theorem dX10_ofLine_44 : decode cX10_ofLine 44 = .ok (.bipush 8, 2) := by decide +kernel
theorem dX10_ofLine_46 : decode cX10_ofLine 46 = .ok (.iload 4, 2) := by decide +kernel
theorem dX10_ofLine_48 : decode cX10_ofLine 48 = .ok (.imul, 1) := by decide +kernel
theorem dX10_ofLine_49 : decode cX10_ofLine 49 = .ok (.iload_n 1, 1) := by decide +kernel
theorem dX10_ofLine_50 : decode cX10_ofLine 50 = .ok (.iadd, 1) := by decide +kernel
theorem dX10_ofLine_51 : decode cX10_ofLine 51 = .ok (.aload_n 0, 1) := by decide +kernel
theorem dX10_ofLine_52 : decode cX10_ofLine 52 = .ok (.getfield 177, 3) := by decide +kernel
theorem dX10_ofLine_55 : decode cX10_ofLine 55 = .ok (.iastore, 1) := by decide +kernel
theorem dX10_ofLine_56 : decode cX10_ofLine 56 = .ok (.iconst 1, 1) := by decide +kernel
theorem dX10_ofLine_57 : decode cX10_ofLine 57 = .ok (.ireturn, 1) := by decide +kernel
theorem dX10_on_0 : decode cX10_on 0 = .ok (.aload_n 0, 1) := by decide +kernel
theorem dX10_on_1 : decode cX10_on 1 = .ok (.iconst 0, 1) := by decide +kernel
theorem dX10_on_2 : decode cX10_on 2 = .ok (.putfield 121, 3) := by decide +kernel
theorem dX10_on_5 : decode cX10_on 5 = .ok (.aload_n 0, 1) := by decide +kernel
theorem dX10_on_6 : decode cX10_on 6 = .ok (.getfield 71, 3) := by decide +kernel
theorem dX10_on_9 : decode cX10_on 9 = .ok (.bipush 10, 2) := by decide +kernel
theorem dX10_on_11 : decode cX10_on 11 = .ok (.iaload, 1) := by decide +kernel
theorem dX10_on_12 : decode cX10_on 12 = .ok (.ifCond .eq 13, 3) := by decide +kernel
theorem dX10_on_15 : decode cX10_on 15 = .ok (.aload_n 0, 1) := by decide +kernel
theorem dX10_on_16 : decode cX10_on 16 = .ok (.iconst 0, 1) := by decide +kernel
theorem dX10_on_17 : decode cX10_on 17 = .ok (.iload_n 1, 1) := by decide +kernel
theorem dX10_on_18 : decode cX10_on 18 = .ok (.iload_n 2, 1) := by decide +kernel
theorem dX10_on_19 : decode cX10_on 19 = .ok (.invokevirtual 339, 3) := by decide +kernel
theorem dX10_on_22 : decode cX10_on 22 = .ok (.ifCond .ne 5, 3) := by decide +kernel
theorem dX10_on_25 : decode cX10_on 25 = .ok (.iconst (-1), 1) := by decide +kernel
theorem dX10_on_26 : decode cX10_on 26 = .ok (.ireturn, 1) := by decide +kernel
theorem dX10_on_27 : decode cX10_on 27 = .ok (.aload_n 0, 1) := by decide +kernel
theorem dX10_on_28 : decode cX10_on 28 = .ok (.iconst 0, 1) := by decide +kernel
theorem dX10_on_29 : decode cX10_on 29 = .ok (.iload_n 1, 1) := by decide +kernel
theorem dX10_on_30 : decode cX10_on 30 = .ok (.iload_n 2, 1) := by decide +kernel
theorem dX10_on_31 : decode cX10_on 31 = .ok (.invokevirtual 342, 3) := by decide +kernel
theorem dX10_on_34 : decode cX10_on 34 = .ok (.ifCond .eq 6, 3) := by decide +kernel
theorem dX10_on_37 : decode cX10_on 37 = .ok (.bipush 100, 2) := by decide +kernel
theorem dX10_on_39 : decode cX10_on 39 = .ok (.ireturn, 1) := by decide +kernel
theorem dX10_on_40 : decode cX10_on 40 = .ok (.iconst 0, 1) := by decide +kernel
theorem dX10_on_41 : decode cX10_on 41 = .ok (.istore_n 3, 1) := by decide +kernel
theorem dX10_on_42 : decode cX10_on 42 = .ok (.iload_n 3, 1) := by decide +kernel
theorem dX10_on_43 : decode cX10_on 43 = .ok (.aload_n 0, 1) := by decide +kernel
theorem dX10_on_44 : decode cX10_on 44 = .ok (.getfield 71, 3) := by decide +kernel
theorem dX10_on_47 : decode cX10_on 47 = .ok (.iconst 2, 1) := by decide +kernel
theorem dX10_on_48 : decode cX10_on 48 = .ok (.iaload, 1) := by decide +kernel
theorem dX10_on_49 : decode cX10_on 49 = .ok (.if_icmp .ge 41, 3) := by decide +kernel
theorem dX10_on_52 : decode cX10_on 52 = .ok (.aload_n 0, 1) := by decide +kernel
theorem dX10_on_53 : decode cX10_on 53 = .ok (.getfield 71, 3) := by decide +kernel
theorem dX10_on_56 : decode cX10_on 56 = .ok (.iconst 0, 1) := by decide +kernel
theorem dX10_on_57 : decode cX10_on 57 = .ok (.iload_n 3, 1) := by decide +kernel
theorem dX10_on_58 : decode cX10_on 58 = .ok (.invokestatic 332, 3) := by decide +kernel
theorem dX10_on_61 : decode cX10_on 61 = .ok (.iaload, 1) := by decide +kernel
theorem dX10_on_62 : decode cX10_on 62 = .ok (.iload_n 1, 1) := by decide +kernel
theorem dX10_on_63 : decode cX10_on 63 = .ok (.if_icmp .ne 21, 3) := by decide +kernel
theorem dX10_on_66 : decode cX10_on 66 = .ok (.aload_n 0, 1) := by decide +kernel
theorem dX10_on_67 : decode cX10_on 67 = .ok (.getfield 71, 3) := by decide +kernel
theorem dX10_on_70 : decode cX10_on 70 = .ok (.iconst 0, 1) := by decide +kernel
theorem dX10_on_71 : decode cX10_on 71 = .ok (.iload_n 3, 1) := by decide +kernel
theorem dX10_on_72 : decode cX10_on 72 = .ok (.invokestatic 332, 3) := by decide +kernel
theorem dX10_on_75 : decode cX10_on 75 = .ok (.iconst 4, 1) := by decide +kernel
theorem dX10_on_76 : decode cX10_on 76 = .ok (.iadd, 1) := by decide +kernel
theorem dX10_on_77 : decode cX10_on 77 = .ok (.iaload, 1) := by decide +kernel
theorem dX10_on_78 : decode cX10_on 78 = .ok (.iload_n 2, 1) := by decide +kernel
theorem dX10_on_79 : decode cX10_on 79 = .ok (.if_icmp .ne 5, 3) := by decide +kernel
theorem dX10_on_82 : decode cX10_on 82 = .ok (.iload_n 3, 1) := by decide +kernel
theorem dX10_on_83 : decode cX10_on 83 = .ok (.ireturn, 1) := by decide +kernel
theorem dX10_on_84 : decode cX10_on 84 = .ok (.iinc 3 1, 3) := by decide +kernel
theorem dX10_on_87 : decode cX10_on 87 = .ok (.goto (-45), 3) := by decide +kernel
theorem dX10_on_90 : decode cX10_on 90 = .ok (.iconst (-1), 1) := by decide +kernel
theorem dX10_on_91 : decode cX10_on 91 = .ok (.ireturn, 1) := by decide +kernel
theorem dX10_opened_0 : decode cX10_opened 0 = .ok (.aload_n 0, 1) := by decide +kernel
theorem dX10_opened_1 : decode cX10_opened 1 = .ok (.iconst 0, 1) := by decide +kernel
theorem dX10_opened_2 : decode cX10_opened 2 = .ok (.putfield 121, 3) := by decide +kernel
theorem dX10_opened_5 : decode cX10_opened 5 = .ok (.aload_n 0, 1) := by decide +kernel
theorem dX10_opened_6 : decode cX10_opened 6 = .ok (.iload_n 1, 1) := by decide +kernel
theorem dX10_opened_7 : decode cX10_opened 7 = .ok (.iload_n 2, 1) := by decide +kernel
theorem dX10_opened_8 : decode cX10_opened 8 = .ok (.iload 4, 2) := by decide +kernel
theorem dX10_opened_10 : decode cX10_opened 10 = .ok (.bipush 100, 2) := by decide +kernel
theorem dX10_opened_12 : decode cX10_opened 12 = .ok (.invokevirtual 447, 3) := by decide +kernel
theorem dX10_opened_15 : decode cX10_opened 15 = .ok (.ifCond .ne 5, 3) := by decide +kernel
theorem dX10_opened_18 : decode cX10_opened 18 = .ok (.iconst (-1), 1) := by decide +kernel
theorem dX10_opened_19 : decode cX10_opened 19 = .ok (.ireturn, 1) := by decide +kernel
theorem dX10_opened_20 : decode cX10_opened 20 = .ok (.aload_n 0, 1) := by decide +kernel
theorem dX10_opened_21 : decode cX10_opened 21 = .ok (.iload_n 1, 1) := by decide +kernel
theorem dX10_opened_22 : decode cX10_opened 22 = .ok (.iload_n 2, 1) := by decide +kernel
theorem dX10_opened_23 : decode cX10_opened 23 = .ok (.iload_n 3, 1) := by decide +kernel
theorem dX10_opened_24 : decode cX10_opened 24 = .ok (.iload 4, 2) := by decide +kernel
theorem dX10_opened_26 : decode cX10_opened 26 = .ok (.invokevirtual 461, 3) := by decide +kernel
theorem dX10_opened_29 : decode cX10_opened 29 = .ok (.istore 5, 2) := by decide +kernel
theorem dX10_opened_31 : decode cX10_opened 31 = .ok (.iconst (-1), 1) := by decide +kernel
theorem dX10_opened_32 : decode cX10_opened 32 = .ok (.istore 6, 2) := by decide +kernel
theorem dX10_opened_34 : decode cX10_opened 34 = .ok (.iconst 0, 1) := by decide +kernel
theorem dX10_opened_35 : decode cX10_opened 35 = .ok (.istore 7, 2) := by decide +kernel
theorem dX10_opened_37 : decode cX10_opened 37 = .ok (.iload 7, 2) := by decide +kernel
theorem dX10_opened_39 : decode cX10_opened 39 = .ok (.bipush 96, 2) := by decide +kernel
theorem dX10_opened_41 : decode cX10_opened 41 = .ok (.if_icmp .ge 95, 3) := by decide +kernel
theorem dX10_opened_44 : decode cX10_opened 44 = .ok (.aload_n 0, 1) := by decide +kernel
theorem dX10_opened_45 : decode cX10_opened 45 = .ok (.getfield 38, 3) := by decide +kernel
theorem dX10_opened_48 : decode cX10_opened 48 = .ok (.bipush 96, 2) := by decide +kernel
theorem dX10_opened_50 : decode cX10_opened 50 = .ok (.iload_n 1, 1) := by decide +kernel
theorem dX10_opened_51 : decode cX10_opened 51 = .ok (.imul, 1) := by decide +kernel
theorem dX10_opened_52 : decode cX10_opened 52 = .ok (.iload 7, 2) := by decide +kernel
theorem dX10_opened_54 : decode cX10_opened 54 = .ok (.iadd, 1) := by decide +kernel
theorem dX10_opened_55 : decode cX10_opened 55 = .ok (.iaload, 1) := by decide +kernel
theorem dX10_opened_56 : decode cX10_opened 56 = .ok (.ifCond .ne 6, 3) := by decide +kernel
theorem dX10_opened_59 : decode cX10_opened 59 = .ok (.goto 71, 3) := by decide +kernel
theorem dX10_opened_62 : decode cX10_opened 62 = .ok (.aload_n 0, 1) := by decide +kernel
theorem dX10_opened_63 : decode cX10_opened 63 = .ok (.iconst 4, 1) := by decide +kernel
theorem dX10_opened_64 : decode cX10_opened 64 = .ok (.iload_n 1, 1) := by decide +kernel
theorem dX10_opened_65 : decode cX10_opened 65 = .ok (.iload_n 2, 1) := by decide +kernel
theorem dX10_opened_66 : decode cX10_opened 66 = .ok (.iload_n 3, 1) := by decide +kernel
theorem dX10_opened_67 : decode cX10_opened 67 = .ok (.bipush 12, 2) := by decide +kernel
theorem dX10_opened_69 : decode cX10_opened 69 = .ok (.iconst (-1), 1) := by decide +kernel
theorem dX10_opened_70 : decode cX10_opened 70 = .ok (.invokevirtual 420, 3) := by decide +kernel
theorem dX10_opened_73 : decode cX10_opened 73 = .ok (.aload_n 0, 1) := by decide +kernel
theorem dX10_opened_74 : decode cX10_opened 74 = .ok (.getfield 71, 3) := by decide +kernel
theorem dX10_opened_77 : decode cX10_opened 77 = .ok (.sipush 3136, 3) := by decide +kernel
theorem dX10_opened_80 : decode cX10_opened 80 = .ok (.iload 7, 2) := by decide +kernel
theorem dX10_opened_82 : decode cX10_opened 82 = .ok (.iadd, 1) := by decide +kernel
theorem dX10_opened_83 : decode cX10_opened 83 = .ok (.iconst 0, 1) := by decide +kernel
theorem dX10_opened_84 : decode cX10_opened 84 = .ok (.iastore, 1) := by decide +kernel
theorem dX10_opened_85 : decode cX10_opened 85 = .ok (.aload_n 0, 1) := by decide +kernel
theorem dX10_opened_86 : decode cX10_opened 86 = .ok (.iload 4, 2) := by decide +kernel
theorem dX10_opened_88 : decode cX10_opened 88 = .ok (.invokevirtual 451, 3) := by decide +kernel
theorem dX10_opened_91 : decode cX10_opened 91 = .ok (.aload_n 0, 1) := by decide +kernel
theorem dX10_opened_92 : decode cX10_opened 92 = .ok (.getfield 71, 3) := by decide +kernel
theorem dX10_opened_95 : decode cX10_opened 95 = .ok (.sipush 2886, 3) := by decide +kernel
theorem dX10_opened_98 : decode cX10_opened 98 = .ok (.iaload, 1) := by decide +kernel
theorem dX10_opened_99 : decode cX10_opened 99 = .ok (.iload 5, 2) := by decide +kernel
theorem dX10_opened_101 : decode cX10_opened 101 = .ok (.if_icmp .le 29, 3) := by decide +kernel
theorem dX10_opened_104 : decode cX10_opened 104 = .ok (.aload_n 0, 1) := by decide +kernel
theorem dX10_opened_105 : decode cX10_opened 105 = .ok (.getfield 71, 3) := by decide +kernel
theorem dX10_opened_108 : decode cX10_opened 108 = .ok (.sipush 2886, 3) := by decide +kernel
theorem dX10_opened_111 : decode cX10_opened 111 = .ok (.iaload, 1) := by decide +kernel
theorem dX10_opened_112 : decode cX10_opened 112 = .ok (.istore 5, 2) := by decide +kernel
theorem dX10_opened_114 : decode cX10_opened 114 = .ok (.bipush 100, 2) := by decide +kernel
theorem dX10_opened_116 : decode cX10_opened 116 = .ok (.iload 7, 2) := by decide +kernel
theorem dX10_opened_118 : decode cX10_opened 118 = .ok (.bipush 6, 2) := by decide +kernel
theorem dX10_opened_120 : decode cX10_opened 120 = .ok (.idiv, 1) := by decide +kernel
theorem dX10_opened_121 : decode cX10_opened 121 = .ok (.imul, 1) := by decide +kernel
theorem dX10_opened_122 : decode cX10_opened 122 = .ok (.iload 7, 2) := by decide +kernel
theorem dX10_opened_124 : decode cX10_opened 124 = .ok (.bipush 6, 2) := by decide +kernel
theorem dX10_opened_126 : decode cX10_opened 126 = .ok (.irem, 1) := by decide +kernel
theorem dX10_opened_127 : decode cX10_opened 127 = .ok (.iadd, 1) := by decide +kernel
theorem dX10_opened_128 : decode cX10_opened 128 = .ok (.istore 6, 2) := by decide +kernel
theorem dX10_opened_130 : decode cX10_opened 130 = .ok (.iinc 7 1, 3) := by decide +kernel
theorem dX10_opened_133 : decode cX10_opened 133 = .ok (.goto (-96), 3) := by decide +kernel
theorem dX10_opened_136 : decode cX10_opened 136 = .ok (.iload 6, 2) := by decide +kernel
theorem dX10_opened_138 : decode cX10_opened 138 = .ok (.ireturn, 1) := by decide +kernel
theorem dX10_readSquare_0 : decode cX10_readSquare 0 = .ok (.aload_n 0, 1) := by decide +kernel
theorem dX10_readSquare_1 : decode cX10_readSquare 1 = .ok (.getfield 147, 3) := by decide +kernel
theorem dX10_readSquare_4 : decode cX10_readSquare 4 = .ok (.istore_n 1, 1) := by decide +kernel
theorem dX10_readSquare_5 : decode cX10_readSquare 5 = .ok (.aload_n 0, 1) := by decide +kernel
theorem dX10_readSquare_6 : decode cX10_readSquare 6 = .ok (.iconst 0, 1) := by decide +kernel
theorem dX10_readSquare_7 : decode cX10_readSquare 7 = .ok (.aload_n 0, 1) := by decide +kernel
theorem dX10_readSquare_8 : decode cX10_readSquare 8 = .ok (.getfield 194, 3) := by decide +kernel
theorem dX10_readSquare_11 : decode cX10_readSquare 11 = .ok (.iconst 1, 1) := by decide +kernel
theorem dX10_readSquare_12 : decode cX10_readSquare 12 = .ok (.isub, 1) := by decide +kernel
theorem dX10_readSquare_13 : decode cX10_readSquare 13 = .ok (.invokevirtual 197, 3) := by decide +kernel
theorem dX10_readSquare_16 : decode cX10_readSquare 16 = .ok (.ifCond .ne 5, 3) := by decide +kernel
theorem dX10_readSquare_19 : decode cX10_readSquare 19 = .ok (.iconst 0, 1) := by decide +kernel
theorem dX10_readSquare_20 : decode cX10_readSquare 20 = .ok (.ireturn, 1) := by decide +kernel
theorem dX10_readSquare_21 : decode cX10_readSquare 21 = .ok (.aload_n 0, 1) := by decide +kernel
theorem dX10_readSquare_22 : decode cX10_readSquare 22 = .ok (.getfield 177, 3) := by decide +kernel
theorem dX10_readSquare_25 : decode cX10_readSquare 25 = .ok (.istore_n 2, 1) := by decide +kernel
theorem dX10_readSquare_26 : decode cX10_readSquare 26 = .ok (.aload_n 0, 1) := by decide +kernel
theorem dX10_readSquare_27 : decode cX10_readSquare 27 = .ok (.iconst 0, 1) := by decide +kernel
theorem dX10_readSquare_28 : decode cX10_readSquare 28 = .ok (.aload_n 0, 1) := by decide +kernel
theorem dX10_readSquare_29 : decode cX10_readSquare 29 = .ok (.getfield 201, 3) := by decide +kernel
theorem dX10_readSquare_32 : decode cX10_readSquare 32 = .ok (.iconst 1, 1) := by decide +kernel
theorem dX10_readSquare_33 : decode cX10_readSquare 33 = .ok (.isub, 1) := by decide +kernel
theorem dX10_readSquare_34 : decode cX10_readSquare 34 = .ok (.invokevirtual 197, 3) := by decide +kernel
theorem dX10_readSquare_37 : decode cX10_readSquare 37 = .ok (.ifCond .ne 5, 3) := by decide +kernel
theorem dX10_readSquare_40 : decode cX10_readSquare 40 = .ok (.iconst 0, 1) := by decide +kernel
theorem dX10_readSquare_41 : decode cX10_readSquare 41 = .ok (.ireturn, 1) := by decide +kernel
theorem dX10_readSquare_42 : decode cX10_readSquare 42 = .ok (.aload_n 0, 1) := by decide +kernel
theorem dX10_readSquare_43 : decode cX10_readSquare 43 = .ok (.bipush 6, 2) := by decide +kernel
theorem dX10_readSquare_45 : decode cX10_readSquare 45 = .ok (.iload_n 2, 1) := by decide +kernel
theorem dX10_readSquare_46 : decode cX10_readSquare 46 = .ok (.imul, 1) := by decide +kernel
theorem dX10_readSquare_47 : decode cX10_readSquare 47 = .ok (.aload_n 0, 1) := by decide +kernel
theorem dX10_readSquare_48 : decode cX10_readSquare 48 = .ok (.getfield 177, 3) := by decide +kernel
theorem dX10_readSquare_51 : decode cX10_readSquare 51 = .ok (.iadd, 1) := by decide +kernel
theorem dX10_readSquare_52 : decode cX10_readSquare 52 = .ok (.putfield 204, 3) := by decide +kernel
theorem dX10_readSquare_55 : decode cX10_readSquare 55 = .ok (.aload_n 0, 1) := by decide +kernel
theorem dX10_readSquare_56 : decode cX10_readSquare 56 = .ok (.getfield 184, 3) := by decide +kernel
theorem dX10_readSquare_59 : decode cX10_readSquare 59 = .ok (.ifCond .eq 20, 3) := by decide +kernel
theorem dX10_readSquare_62 : decode cX10_readSquare 62 = .ok (.aload_n 0, 1) := by decide +kernel
theorem dX10_readSquare_63 : decode cX10_readSquare 63 = .ok (.aload_n 0, 1) := by decide +kernel
theorem dX10_readSquare_64 : decode cX10_readSquare 64 = .ok (.getfield 204, 3) := by decide +kernel
theorem dX10_readSquare_67 : decode cX10_readSquare 67 = .ok (.invokevirtual 207, 3) := by decide +kernel
theorem dX10_readSquare_70 : decode cX10_readSquare 70 = .ok (.ifCond .eq 9, 3) := by decide +kernel
theorem dX10_readSquare_73 : decode cX10_readSquare 73 = .ok (.aload_n 0, 1) := by decide +kernel
theorem dX10_readSquare_74 : decode cX10_readSquare 74 = .ok (.iconst 4, 1) := by decide +kernel
theorem dX10_readSquare_75 : decode cX10_readSquare 75 = .ok (.iload_n 1, 1) := by decide +kernel
theorem dX10_readSquare_76 : decode cX10_readSquare 76 = .ok (.invokevirtual 180, 3) := by decide +kernel
theorem dX10_readSquare_79 : decode cX10_readSquare 79 = .ok (.iconst 1, 1) := by decide +kernel
theorem dX10_readSquare_80 : decode cX10_readSquare 80 = .ok (.ireturn, 1) := by decide +kernel
theorem dX10_walkerLine_0 : decode cX10_walkerLine 0 = .ok (.aload_n 0, 1) := by decide +kernel
theorem dX10_walkerLine_1 : decode cX10_walkerLine 1 = .ok (.getfield 210, 3) := by decide +kernel
theorem dX10_walkerLine_4 : decode cX10_walkerLine 4 = .ok (.bipush 12, 2) := by decide +kernel
theorem dX10_walkerLine_6 : decode cX10_walkerLine 6 = .ok (.if_icmp .ne 9, 3) := by decide +kernel
theorem dX10_walkerLine_9 : decode cX10_walkerLine 9 = .ok (.aload_n 0, 1) := by decide +kernel
theorem dX10_walkerLine_10 : decode cX10_walkerLine 10 = .ok (.iconst 3, 1) := by decide +kernel
theorem dX10_walkerLine_11 : decode cX10_walkerLine 11 = .ok (.iload_n 1, 1) := by decide +kernel
theorem dX10_walkerLine_12 : decode cX10_walkerLine 12 = .ok (.invokevirtual 180, 3) := by decide +kernel
theorem dX10_walkerLine_15 : decode cX10_walkerLine 15 = .ok (.aload_n 0, 1) := by decide +kernel
theorem dX10_walkerLine_16 : decode cX10_walkerLine 16 = .ok (.invokevirtual 213, 3) := by decide +kernel
theorem dX10_walkerLine_19 : decode cX10_walkerLine 19 = .ok (.ifCond .ne 5, 3) := by decide +kernel
theorem dX10_walkerLine_22 : decode cX10_walkerLine 22 = .ok (.iconst 0, 1) := by decide +kernel
theorem dX10_walkerLine_23 : decode cX10_walkerLine 23 = .ok (.ireturn, 1) := by decide +kernel
theorem dX10_walkerLine_24 : decode cX10_walkerLine 24 = .ok (.aload_n 0, 1) := by decide +kernel
theorem dX10_walkerLine_25 : decode cX10_walkerLine 25 = .ok (.ldc2_w 219, 3) := by decide +kernel
theorem dX10_walkerLine_28 : decode cX10_walkerLine 28 = .ok (.invokevirtual 221, 3) := by decide +kernel
theorem dX10_walkerLine_31 : decode cX10_walkerLine 31 = .ok (.ifCond .ne 18, 3) := by decide +kernel
theorem dX10_walkerLine_34 : decode cX10_walkerLine 34 = .ok (.aload_n 0, 1) := by decide +kernel
theorem dX10_walkerLine_35 : decode cX10_walkerLine 35 = .ok (.ldc2_w 225, 3) := by decide +kernel
theorem dX10_walkerLine_38 : decode cX10_walkerLine 38 = .ok (.invokevirtual 221, 3) := by decide +kernel
theorem dX10_walkerLine_41 : decode cX10_walkerLine 41 = .ok (.ifCond .ne 8, 3) := by decide +kernel
theorem dX10_walkerLine_44 : decode cX10_walkerLine 44 = .ok (.aload_n 0, 1) := by decide +kernel
theorem dX10_walkerLine_45 : decode cX10_walkerLine 45 = .ok (.invokevirtual 173, 3) := by decide +kernel
theorem dX10_walkerLine_48 : decode cX10_walkerLine 48 = .ok (.ireturn, 1) := by decide +kernel
theorem dX10_walkerLine_49 : decode cX10_walkerLine 49 = .ok (.bipush 8, 2) := by decide +kernel
theorem dX10_walkerLine_51 : decode cX10_walkerLine 51 = .ok (.aload_n 0, 1) := by decide +kernel
theorem dX10_walkerLine_52 : decode cX10_walkerLine 52 = .ok (.getfield 210, 3) := by decide +kernel
theorem dX10_walkerLine_55 : decode cX10_walkerLine 55 = .ok (.imul, 1) := by decide +kernel
theorem dX10_walkerLine_56 : decode cX10_walkerLine 56 = .ok (.istore_n 2, 1) := by decide +kernel
theorem dX10_walkerLine_57 : decode cX10_walkerLine 57 = .ok (.aload_n 0, 1) := by decide +kernel
theorem dX10_walkerLine_58 : decode cX10_walkerLine 58 = .ok (.getfield 65, 3) := by decide +kernel
theorem dX10_walkerLine_61 : decode cX10_walkerLine 61 = .ok (.iload_n 2, 1) := by decide +kernel
theorem dX10_walkerLine_62 : decode cX10_walkerLine 62 = .ok (.aload_n 0, 1) := by decide +kernel
theorem dX10_walkerLine_63 : decode cX10_walkerLine 63 = .ok (.getfield 204, 3) := by decide +kernel
theorem dX10_walkerLine_66 : decode cX10_walkerLine 66 = .ok (.bipush 6, 2) := by decide +kernel
theorem dX10_walkerLine_68 : decode cX10_walkerLine 68 = .ok (.idiv, 1) := by decide +kernel
theorem dX10_walkerLine_69 : decode cX10_walkerLine 69 = .ok (.iastore, 1) := by decide +kernel
theorem dX10_walkerLine_70 : decode cX10_walkerLine 70 = .ok (.aload_n 0, 1) := by decide +kernel
theorem dX10_walkerLine_71 : decode cX10_walkerLine 71 = .ok (.getfield 65, 3) := by decide +kernel
theorem dX10_walkerLine_74 : decode cX10_walkerLine 74 = .ok (.iload_n 2, 1) := by decide +kernel
theorem dX10_walkerLine_75 : decode cX10_walkerLine 75 = .ok (.iconst 1, 1) := by decide +kernel
theorem dX10_walkerLine_76 : decode cX10_walkerLine 76 = .ok (.iadd, 1) := by decide +kernel
theorem dX10_walkerLine_77 : decode cX10_walkerLine 77 = .ok (.aload_n 0, 1) := by decide +kernel
theorem dX10_walkerLine_78 : decode cX10_walkerLine 78 = .ok (.getfield 204, 3) := by decide +kernel
theorem dX10_walkerLine_81 : decode cX10_walkerLine 81 = .ok (.bipush 6, 2) := by decide +kernel
theorem dX10_walkerLine_83 : decode cX10_walkerLine 83 = .ok (.irem, 1) := by decide +kernel
theorem dX10_walkerLine_84 : decode cX10_walkerLine 84 = .ok (.iastore, 1) := by decide +kernel
theorem dX10_walkerLine_85 : decode cX10_walkerLine 85 = .ok (.aload_n 0, 1) := by decide +kernel
theorem dX10_walkerLine_86 : decode cX10_walkerLine 86 = .ok (.getfield 65, 3) := by decide +kernel
theorem dX10_walkerLine_89 : decode cX10_walkerLine 89 = .ok (.iload_n 2, 1) := by decide +kernel
theorem dX10_walkerLine_90 : decode cX10_walkerLine 90 = .ok (.iconst 2, 1) := by decide +kernel
theorem dX10_walkerLine_91 : decode cX10_walkerLine 91 = .ok (.iadd, 1) := by decide +kernel
theorem dX10_walkerLine_92 : decode cX10_walkerLine 92 = .ok (.aload_n 0, 1) := by decide +kernel
theorem dX10_walkerLine_93 : decode cX10_walkerLine 93 = .ok (.ldc2_w 219, 3) := by decide +kernel
theorem dX10_walkerLine_96 : decode cX10_walkerLine 96 = .ok (.invokevirtual 221, 3) := by decide +kernel
theorem dX10_walkerLine_99 : decode cX10_walkerLine 99 = .ok (.ifCond .eq 7, 3) := by decide +kernel
theorem dX10_walkerLine_102 : decode cX10_walkerLine 102 = .ok (.iconst 1, 1) := by decide +kernel
theorem dX10_walkerLine_103 : decode cX10_walkerLine 103 = .ok (.goto 4, 3) := by decide +kernel
theorem dX10_walkerLine_106 : decode cX10_walkerLine 106 = .ok (.iconst 0, 1) := by decide +kernel
theorem dX10_walkerLine_107 : decode cX10_walkerLine 107 = .ok (.iastore, 1) := by decide +kernel
theorem dX10_walkerLine_108 : decode cX10_walkerLine 108 = .ok (.aload_n 0, 1) := by decide +kernel
theorem dX10_walkerLine_109 : decode cX10_walkerLine 109 = .ok (.getfield 65, 3) := by decide +kernel
theorem dX10_walkerLine_112 : decode cX10_walkerLine 112 = .ok (.iload_n 2, 1) := by decide +kernel
theorem dX10_walkerLine_113 : decode cX10_walkerLine 113 = .ok (.iconst 3, 1) := by decide +kernel
theorem dX10_walkerLine_114 : decode cX10_walkerLine 114 = .ok (.iadd, 1) := by decide +kernel
theorem dX10_walkerLine_115 : decode cX10_walkerLine 115 = .ok (.iconst 1, 1) := by decide +kernel
theorem dX10_walkerLine_116 : decode cX10_walkerLine 116 = .ok (.iastore, 1) := by decide +kernel
theorem dX10_walkerLine_117 : decode cX10_walkerLine 117 = .ok (.aload_n 0, 1) := by decide +kernel
theorem dX10_walkerLine_118 : decode cX10_walkerLine 118 = .ok (.getfield 65, 3) := by decide +kernel
theorem dX10_walkerLine_121 : decode cX10_walkerLine 121 = .ok (.iload_n 2, 1) := by decide +kernel
theorem dX10_walkerLine_122 : decode cX10_walkerLine 122 = .ok (.iconst 4, 1) := by decide +kernel
theorem dX10_walkerLine_123 : decode cX10_walkerLine 123 = .ok (.iadd, 1) := by decide +kernel
theorem dX10_walkerLine_124 : decode cX10_walkerLine 124 = .ok (.iconst 0, 1) := by decide +kernel
theorem dX10_walkerLine_125 : decode cX10_walkerLine 125 = .ok (.iastore, 1) := by decide +kernel
theorem dX10_walkerLine_126 : decode cX10_walkerLine 126 = .ok (.aload_n 0, 1) := by decide +kernel
theorem dX10_walkerLine_127 : decode cX10_walkerLine 127 = .ok (.getfield 65, 3) := by decide +kernel
theorem dX10_walkerLine_130 : decode cX10_walkerLine 130 = .ok (.iload_n 2, 1) := by decide +kernel
theorem dX10_walkerLine_131 : decode cX10_walkerLine 131 = .ok (.iconst 5, 1) := by decide +kernel
theorem dX10_walkerLine_132 : decode cX10_walkerLine 132 = .ok (.iadd, 1) := by decide +kernel
theorem dX10_walkerLine_133 : decode cX10_walkerLine 133 = .ok (.iconst 0, 1) := by decide +kernel
theorem dX10_walkerLine_134 : decode cX10_walkerLine 134 = .ok (.iastore, 1) := by decide +kernel
theorem dX10_walkerLine_135 : decode cX10_walkerLine 135 = .ok (.aload_n 0, 1) := by decide +kernel
theorem dX10_walkerLine_136 : decode cX10_walkerLine 136 = .ok (.getfield 65, 3) := by decide +kernel
theorem dX10_walkerLine_139 : decode cX10_walkerLine 139 = .ok (.iload_n 2, 1) := by decide +kernel
theorem dX10_walkerLine_140 : decode cX10_walkerLine 140 = .ok (.bipush 6, 2) := by decide +kernel
theorem dX10_walkerLine_142 : decode cX10_walkerLine 142 = .ok (.iadd, 1) := by decide +kernel
theorem dX10_walkerLine_143 : decode cX10_walkerLine 143 = .ok (.iconst 0, 1) := by decide +kernel
theorem dX10_walkerLine_144 : decode cX10_walkerLine 144 = .ok (.iastore, 1) := by decide +kernel
theorem dX10_walkerLine_145 : decode cX10_walkerLine 145 = .ok (.aload_n 0, 1) := by decide +kernel
theorem dX10_walkerLine_146 : decode cX10_walkerLine 146 = .ok (.getfield 65, 3) := by decide +kernel
theorem dX10_walkerLine_149 : decode cX10_walkerLine 149 = .ok (.iload_n 2, 1) := by decide +kernel
theorem dX10_walkerLine_150 : decode cX10_walkerLine 150 = .ok (.bipush 7, 2) := by decide +kernel
theorem dX10_walkerLine_152 : decode cX10_walkerLine 152 = .ok (.iadd, 1) := by decide +kernel
theorem dX10_walkerLine_153 : decode cX10_walkerLine 153 = .ok (.iconst (-1), 1) := by decide +kernel
theorem dX10_walkerLine_154 : decode cX10_walkerLine 154 = .ok (.iastore, 1) := by decide +kernel
theorem dX10_walkerLine_155 : decode cX10_walkerLine 155 = .ok (.aload_n 0, 1) := by decide +kernel
theorem dX10_walkerLine_156 : decode cX10_walkerLine 156 = .ok (.getfield 65, 3) := by decide +kernel
theorem dX10_walkerLine_159 : decode cX10_walkerLine 159 = .ok (.iload_n 2, 1) := by decide +kernel
theorem dX10_walkerLine_160 : decode cX10_walkerLine 160 = .ok (.aload_n 0, 1) := by decide +kernel
theorem dX10_walkerLine_161 : decode cX10_walkerLine 161 = .ok (.getfield 184, 3) := by decide +kernel
theorem dX10_walkerLine_164 : decode cX10_walkerLine 164 = .ok (.ifCond .eq 12, 3) := by decide +kernel
theorem dX10_walkerLine_167 : decode cX10_walkerLine 167 = .ok (.aload_n 0, 1) := by decide +kernel
theorem dX10_walkerLine_168 : decode cX10_walkerLine 168 = .ok (.getfield 65, 3) := by decide +kernel
theorem dX10_walkerLine_171 : decode cX10_walkerLine 171 = .ok (.iload_n 2, 1) := by decide +kernel
theorem dX10_walkerLine_172 : decode cX10_walkerLine 172 = .ok (.iaload, 1) := by decide +kernel
theorem dX10_walkerLine_173 : decode cX10_walkerLine 173 = .ok (.goto 4, 3) := by decide +kernel
theorem dX10_walkerLine_176 : decode cX10_walkerLine 176 = .ok (.iconst (-1), 1) := by decide +kernel
theorem dX10_walkerLine_177 : decode cX10_walkerLine 177 = .ok (.iastore, 1) := by decide +kernel
theorem dX10_walkerLine_178 : decode cX10_walkerLine 178 = .ok (.aload_n 0, 1) := by decide +kernel
theorem dX10_walkerLine_179 : decode cX10_walkerLine 179 = .ok (.dup, 1) := by decide +kernel
theorem dX10_walkerLine_180 : decode cX10_walkerLine 180 = .ok (.getfield 210, 3) := by decide +kernel
theorem dX10_walkerLine_183 : decode cX10_walkerLine 183 = .ok (.aload_n 0, 1) := by decide +kernel
theorem dX10_walkerLine_184 : decode cX10_walkerLine 184 = .ok (.getfield 210, 3) := by decide +kernel
theorem dX10_walkerLine_187 : decode cX10_walkerLine 187 = .ok (.bipush 12, 2) := by decide +kernel
theorem dX10_walkerLine_189 : decode cX10_walkerLine 189 = .ok (.if_icmp .ge 7, 3) := by decide +kernel
theorem dX10_walkerLine_192 : decode cX10_walkerLine 192 = .ok (.iconst 1, 1) := by decide +kernel
theorem dX10_walkerLine_193 : decode cX10_walkerLine 193 = .ok (.goto 4, 3) := by decide +kernel
theorem dX10_walkerLine_196 : decode cX10_walkerLine 196 = .ok (.iconst 0, 1) := by decide +kernel
theorem dX10_walkerLine_197 : decode cX10_walkerLine 197 = .ok (.iadd, 1) := by decide +kernel
theorem dX10_walkerLine_198 : decode cX10_walkerLine 198 = .ok (.putfield 210, 3) := by decide +kernel
theorem dX10_walkerLine_201 : decode cX10_walkerLine 201 = .ok (.aload_n 0, 1) := by decide +kernel
theorem dX10_walkerLine_202 : decode cX10_walkerLine 202 = .ok (.invokevirtual 188, 3) := by decide +kernel
theorem dX10_walkerLine_205 : decode cX10_walkerLine 205 = .ok (.iconst 1, 1) := by decide +kernel
theorem dX10_walkerLine_206 : decode cX10_walkerLine 206 = .ok (.ireturn, 1) := by decide +kernel
theorem dX10_wallLine_0 : decode cX10_wallLine 0 = .ok (.aload_n 0, 1) := by decide +kernel
theorem dX10_wallLine_1 : decode cX10_wallLine 1 = .ok (.invokevirtual 213, 3) := by decide +kernel
theorem dX10_wallLine_4 : decode cX10_wallLine 4 = .ok (.ifCond .ne 5, 3) := by decide +kernel
theorem dX10_wallLine_7 : decode cX10_wallLine 7 = .ok (.iconst 0, 1) := by decide +kernel
theorem dX10_wallLine_8 : decode cX10_wallLine 8 = .ok (.ireturn, 1) := by decide +kernel
theorem dX10_wallLine_9 : decode cX10_wallLine 9 = .ok (.aload_n 0, 1) := by decide +kernel
theorem dX10_wallLine_10 : decode cX10_wallLine 10 = .ok (.getfield 184, 3) := by decide +kernel
theorem dX10_wallLine_13 : decode cX10_wallLine 13 = .ok (.ifCond .eq 39, 3) := by decide +kernel
theorem dX10_wallLine_16 : decode cX10_wallLine 16 = .ok (.aload_n 0, 1) := by decide +kernel
theorem dX10_wallLine_17 : decode cX10_wallLine 17 = .ok (.dup, 1) := by decide +kernel
theorem dX10_wallLine_18 : decode cX10_wallLine 18 = .ok (.getfield 216, 3) := by decide +kernel
theorem dX10_wallLine_21 : decode cX10_wallLine 21 = .ok (.aload_n 0, 1) := by decide +kernel
theorem dX10_wallLine_22 : decode cX10_wallLine 22 = .ok (.getfield 62, 3) := by decide +kernel
theorem dX10_wallLine_25 : decode cX10_wallLine 25 = .ok (.aload_n 0, 1) := by decide +kernel
theorem dX10_wallLine_26 : decode cX10_wallLine 26 = .ok (.getfield 204, 3) := by decide +kernel
theorem dX10_wallLine_29 : decode cX10_wallLine 29 = .ok (.iaload, 1) := by decide +kernel
theorem dX10_wallLine_30 : decode cX10_wallLine 30 = .ok (.ifCond .ne 7, 3) := by decide +kernel
theorem dX10_wallLine_33 : decode cX10_wallLine 33 = .ok (.iconst 1, 1) := by decide +kernel
theorem dX10_wallLine_34 : decode cX10_wallLine 34 = .ok (.goto 4, 3) := by decide +kernel
theorem dX10_wallLine_37 : decode cX10_wallLine 37 = .ok (.iconst 0, 1) := by decide +kernel
theorem dX10_wallLine_38 : decode cX10_wallLine 38 = .ok (.iadd, 1) := by decide +kernel
theorem dX10_wallLine_39 : decode cX10_wallLine 39 = .ok (.putfield 216, 3) := by decide +kernel
theorem dX10_wallLine_42 : decode cX10_wallLine 42 = .ok (.aload_n 0, 1) := by decide +kernel
theorem dX10_wallLine_43 : decode cX10_wallLine 43 = .ok (.getfield 62, 3) := by decide +kernel
theorem dX10_wallLine_46 : decode cX10_wallLine 46 = .ok (.aload_n 0, 1) := by decide +kernel
theorem dX10_wallLine_47 : decode cX10_wallLine 47 = .ok (.getfield 204, 3) := by decide +kernel
theorem dX10_wallLine_50 : decode cX10_wallLine 50 = .ok (.iconst 1, 1) := by decide +kernel
theorem dX10_wallLine_51 : decode cX10_wallLine 51 = .ok (.iastore, 1) := by decide +kernel
theorem dX10_wallLine_52 : decode cX10_wallLine 52 = .ok (.iconst 1, 1) := by decide +kernel
theorem dX10_wallLine_53 : decode cX10_wallLine 53 = .ok (.ireturn, 1) := by decide +kernel
theorem dX10_passageLine_0 : decode cX10_passageLine 0 = .ok (.aload_n 0, 1) := by decide +kernel
theorem dX10_passageLine_1 : decode cX10_passageLine 1 = .ok (.getfield 147, 3) := by decide +kernel
theorem dX10_passageLine_4 : decode cX10_passageLine 4 = .ok (.istore_n 1, 1) := by decide +kernel
theorem dX10_passageLine_5 : decode cX10_passageLine 5 = .ok (.aload_n 0, 1) := by decide +kernel
theorem dX10_passageLine_6 : decode cX10_passageLine 6 = .ok (.iconst 1, 1) := by decide +kernel
theorem dX10_passageLine_7 : decode cX10_passageLine 7 = .ok (.putfield 184, 3) := by decide +kernel
theorem dX10_passageLine_10 : decode cX10_passageLine 10 = .ok (.aload_n 0, 1) := by decide +kernel
theorem dX10_passageLine_11 : decode cX10_passageLine 11 = .ok (.getfield 154, 3) := by decide +kernel
theorem dX10_passageLine_14 : decode cX10_passageLine 14 = .ok (.iconst 2, 1) := by decide +kernel
theorem dX10_passageLine_15 : decode cX10_passageLine 15 = .ok (.if_icmp .ne 10, 3) := by decide +kernel
theorem dX10_passageLine_18 : decode cX10_passageLine 18 = .ok (.aload_n 0, 1) := by decide +kernel
theorem dX10_passageLine_19 : decode cX10_passageLine 19 = .ok (.getfield 150, 3) := by decide +kernel
theorem dX10_passageLine_22 : decode cX10_passageLine 22 = .ok (.goto 4, 3) := by decide +kernel
theorem dX10_passageLine_25 : decode cX10_passageLine 25 = .ok (.lconst 0, 1) := by decide +kernel
theorem dX10_passageLine_26 : decode cX10_passageLine 26 = .ok (.lstore_n 2, 1) := by decide +kernel
theorem dX10_passageLine_27 : decode cX10_passageLine 27 = .ok (.lload_n 2, 1) := by decide +kernel
theorem dX10_passageLine_28 : decode cX10_passageLine 28 = .ok (.ldc2_w 233, 3) := by decide +kernel
theorem dX10_passageLine_31 : decode cX10_passageLine 31 = .ok (.lcmp, 1) := by decide +kernel
theorem dX10_passageLine_32 : decode cX10_passageLine 32 = .ok (.ifCond .eq 56, 3) := by decide +kernel
theorem dX10_passageLine_35 : decode cX10_passageLine 35 = .ok (.lload_n 2, 1) := by decide +kernel
theorem dX10_passageLine_36 : decode cX10_passageLine 36 = .ok (.ldc2_w 235, 3) := by decide +kernel
theorem dX10_passageLine_39 : decode cX10_passageLine 39 = .ok (.lcmp, 1) := by decide +kernel
theorem dX10_passageLine_40 : decode cX10_passageLine 40 = .ok (.ifCond .eq 48, 3) := by decide +kernel
theorem dX10_passageLine_43 : decode cX10_passageLine 43 = .ok (.lload_n 2, 1) := by decide +kernel
theorem dX10_passageLine_44 : decode cX10_passageLine 44 = .ok (.ldc2_w 237, 3) := by decide +kernel
theorem dX10_passageLine_47 : decode cX10_passageLine 47 = .ok (.lcmp, 1) := by decide +kernel
theorem dX10_passageLine_48 : decode cX10_passageLine 48 = .ok (.ifCond .eq 40, 3) := by decide +kernel
theorem dX10_passageLine_51 : decode cX10_passageLine 51 = .ok (.lload_n 2, 1) := by decide +kernel
theorem dX10_passageLine_52 : decode cX10_passageLine 52 = .ok (.ldc2_w 239, 3) := by decide +kernel
theorem dX10_passageLine_55 : decode cX10_passageLine 55 = .ok (.lcmp, 1) := by decide +kernel
theorem dX10_passageLine_56 : decode cX10_passageLine 56 = .ok (.ifCond .eq 32, 3) := by decide +kernel
theorem dX10_passageLine_59 : decode cX10_passageLine 59 = .ok (.lload_n 2, 1) := by decide +kernel
theorem dX10_passageLine_60 : decode cX10_passageLine 60 = .ok (.ldc2_w 241, 3) := by decide +kernel
theorem dX10_passageLine_63 : decode cX10_passageLine 63 = .ok (.lcmp, 1) := by decide +kernel
theorem dX10_passageLine_64 : decode cX10_passageLine 64 = .ok (.ifCond .eq 24, 3) := by decide +kernel
theorem dX10_passageLine_67 : decode cX10_passageLine 67 = .ok (.lload_n 2, 1) := by decide +kernel
theorem dX10_passageLine_68 : decode cX10_passageLine 68 = .ok (.ldc2_w 243, 3) := by decide +kernel
theorem dX10_passageLine_71 : decode cX10_passageLine 71 = .ok (.lcmp, 1) := by decide +kernel
theorem dX10_passageLine_72 : decode cX10_passageLine 72 = .ok (.ifCond .eq 16, 3) := by decide +kernel
theorem dX10_passageLine_75 : decode cX10_passageLine 75 = .ok (.lload_n 2, 1) := by decide +kernel
theorem dX10_passageLine_76 : decode cX10_passageLine 76 = .ok (.ldc2_w 245, 3) := by decide +kernel
theorem dX10_passageLine_79 : decode cX10_passageLine 79 = .ok (.lcmp, 1) := by decide +kernel
theorem dX10_passageLine_80 : decode cX10_passageLine 80 = .ok (.ifCond .eq 8, 3) := by decide +kernel
theorem dX10_passageLine_83 : decode cX10_passageLine 83 = .ok (.aload_n 0, 1) := by decide +kernel
theorem dX10_passageLine_84 : decode cX10_passageLine 84 = .ok (.invokevirtual 173, 3) := by decide +kernel
theorem dX10_passageLine_87 : decode cX10_passageLine 87 = .ok (.ireturn, 1) := by decide +kernel
theorem dX10_passageLine_88 : decode cX10_passageLine 88 = .ok (.aload_n 0, 1) := by decide +kernel
theorem dX10_passageLine_89 : decode cX10_passageLine 89 = .ok (.invokevirtual 188, 3) := by decide +kernel
theorem dX10_passageLine_92 : decode cX10_passageLine 92 = .ok (.lload_n 2, 1) := by decide +kernel
theorem dX10_passageLine_93 : decode cX10_passageLine 93 = .ok (.ldc2_w 233, 3) := by decide +kernel
theorem dX10_passageLine_96 : decode cX10_passageLine 96 = .ok (.lcmp, 1) := by decide +kernel
theorem dX10_passageLine_97 : decode cX10_passageLine 97 = .ok (.ifCond .ne 10, 3) := by decide +kernel
theorem dX10_passageLine_100 : decode cX10_passageLine 100 = .ok (.aload_n 0, 1) := by decide +kernel
theorem dX10_passageLine_101 : decode cX10_passageLine 101 = .ok (.invokevirtual 247, 3) := by decide +kernel
theorem dX10_passageLine_104 : decode cX10_passageLine 104 = .ok (.goto 93, 3) := by decide +kernel
theorem dX10_passageLine_107 : decode cX10_passageLine 107 = .ok (.lload_n 2, 1) := by decide +kernel
theorem dX10_passageLine_108 : decode cX10_passageLine 108 = .ok (.ldc2_w 235, 3) := by decide +kernel
theorem dX10_passageLine_111 : decode cX10_passageLine 111 = .ok (.lcmp, 1) := by decide +kernel
theorem dX10_passageLine_112 : decode cX10_passageLine 112 = .ok (.ifCond .ne 11, 3) := by decide +kernel
theorem dX10_passageLine_115 : decode cX10_passageLine 115 = .ok (.aload_n 0, 1) := by decide +kernel
theorem dX10_passageLine_116 : decode cX10_passageLine 116 = .ok (.iload_n 1, 1) := by decide +kernel
theorem dX10_passageLine_117 : decode cX10_passageLine 117 = .ok (.invokevirtual 250, 3) := by decide +kernel
theorem dX10_passageLine_120 : decode cX10_passageLine 120 = .ok (.goto 77, 3) := by decide +kernel
theorem dX10_passageLine_123 : decode cX10_passageLine 123 = .ok (.lload_n 2, 1) := by decide +kernel
theorem dX10_passageLine_124 : decode cX10_passageLine 124 = .ok (.ldc2_w 237, 3) := by decide +kernel
theorem dX10_passageLine_127 : decode cX10_passageLine 127 = .ok (.lcmp, 1) := by decide +kernel
theorem dX10_passageLine_128 : decode cX10_passageLine 128 = .ok (.ifCond .ne 13, 3) := by decide +kernel
theorem dX10_passageLine_131 : decode cX10_passageLine 131 = .ok (.aload_n 0, 1) := by decide +kernel
theorem dX10_passageLine_132 : decode cX10_passageLine 132 = .ok (.iconst 3, 1) := by decide +kernel
theorem dX10_passageLine_133 : decode cX10_passageLine 133 = .ok (.iconst 1, 1) := by decide +kernel
theorem dX10_passageLine_134 : decode cX10_passageLine 134 = .ok (.iconst 4, 1) := by decide +kernel
theorem dX10_passageLine_135 : decode cX10_passageLine 135 = .ok (.invokevirtual 253, 3) := by decide +kernel
theorem dX10_passageLine_138 : decode cX10_passageLine 138 = .ok (.goto 59, 3) := by decide +kernel
theorem dX10_passageLine_141 : decode cX10_passageLine 141 = .ok (.lload_n 2, 1) := by decide +kernel
theorem dX10_passageLine_142 : decode cX10_passageLine 142 = .ok (.ldc2_w 239, 3) := by decide +kernel
theorem dX10_passageLine_145 : decode cX10_passageLine 145 = .ok (.lcmp, 1) := by decide +kernel
theorem dX10_passageLine_146 : decode cX10_passageLine 146 = .ok (.ifCond .ne 13, 3) := by decide +kernel
theorem dX10_passageLine_149 : decode cX10_passageLine 149 = .ok (.aload_n 0, 1) := by decide +kernel
theorem dX10_passageLine_150 : decode cX10_passageLine 150 = .ok (.iconst 4, 1) := by decide +kernel
theorem dX10_passageLine_151 : decode cX10_passageLine 151 = .ok (.iconst 0, 1) := by decide +kernel
theorem dX10_passageLine_152 : decode cX10_passageLine 152 = .ok (.iconst 3, 1) := by decide +kernel
theorem dX10_passageLine_153 : decode cX10_passageLine 153 = .ok (.invokevirtual 253, 3) := by decide +kernel
theorem dX10_passageLine_156 : decode cX10_passageLine 156 = .ok (.goto 41, 3) := by decide +kernel
theorem dX10_passageLine_159 : decode cX10_passageLine 159 = .ok (.lload_n 2, 1) := by decide +kernel
theorem dX10_passageLine_160 : decode cX10_passageLine 160 = .ok (.ldc2_w 241, 3) := by decide +kernel
theorem dX10_passageLine_163 : decode cX10_passageLine 163 = .ok (.lcmp, 1) := by decide +kernel
theorem dX10_passageLine_164 : decode cX10_passageLine 164 = .ok (.ifCond .ne 14, 3) := by decide +kernel
theorem dX10_passageLine_167 : decode cX10_passageLine 167 = .ok (.aload_n 0, 1) := by decide +kernel
theorem dX10_passageLine_168 : decode cX10_passageLine 168 = .ok (.iconst 5, 1) := by decide +kernel
theorem dX10_passageLine_169 : decode cX10_passageLine 169 = .ok (.iconst 0, 1) := by decide +kernel
theorem dX10_passageLine_170 : decode cX10_passageLine 170 = .ok (.bipush 9, 2) := by decide +kernel
theorem dX10_passageLine_172 : decode cX10_passageLine 172 = .ok (.invokevirtual 253, 3) := by decide +kernel
theorem dX10_passageLine_175 : decode cX10_passageLine 175 = .ok (.goto 22, 3) := by decide +kernel
theorem dX10_passageLine_178 : decode cX10_passageLine 178 = .ok (.lload_n 2, 1) := by decide +kernel
theorem dX10_passageLine_179 : decode cX10_passageLine 179 = .ok (.ldc2_w 243, 3) := by decide +kernel
theorem dX10_passageLine_182 : decode cX10_passageLine 182 = .ok (.lcmp, 1) := by decide +kernel
theorem dX10_passageLine_183 : decode cX10_passageLine 183 = .ok (.ifCond .ne 10, 3) := by decide +kernel
theorem dX10_passageLine_186 : decode cX10_passageLine 186 = .ok (.aload_n 0, 1) := by decide +kernel
theorem dX10_passageLine_187 : decode cX10_passageLine 187 = .ok (.invokevirtual 256, 3) := by decide +kernel
theorem dX10_passageLine_190 : decode cX10_passageLine 190 = .ok (.goto 7, 3) := by decide +kernel
theorem dX10_passageLine_193 : decode cX10_passageLine 193 = .ok (.aload_n 0, 1) := by decide +kernel
theorem dX10_passageLine_194 : decode cX10_passageLine 194 = .ok (.invokevirtual 259, 3) := by decide +kernel
theorem dX10_passageLine_197 : decode cX10_passageLine 197 = .ok (.istore 4, 2) := by decide +kernel
theorem dX10_passageLine_199 : decode cX10_passageLine 199 = .ok (.iload 4, 2) := by decide +kernel
theorem dX10_passageLine_201 : decode cX10_passageLine 201 = .ok (.ifCond .eq 14, 3) := by decide +kernel
theorem dX10_passageLine_204 : decode cX10_passageLine 204 = .ok (.aload_n 0, 1) := by decide +kernel
theorem dX10_passageLine_205 : decode cX10_passageLine 205 = .ok (.invokevirtual 262, 3) := by decide +kernel
theorem dX10_passageLine_208 : decode cX10_passageLine 208 = .ok (.ifCond .eq 7, 3) := by decide +kernel
theorem dX10_passageLine_211 : decode cX10_passageLine 211 = .ok (.iconst 1, 1) := by decide +kernel
theorem dX10_passageLine_212 : decode cX10_passageLine 212 = .ok (.goto 4, 3) := by decide +kernel
theorem dX10_passageLine_215 : decode cX10_passageLine 215 = .ok (.iconst 0, 1) := by decide +kernel
theorem dX10_passageLine_216 : decode cX10_passageLine 216 = .ok (.ireturn, 1) := by decide +kernel
theorem dX10_sizeLine_0 : decode cX10_sizeLine 0 = .ok (.aload_n 0, 1) := by decide +kernel
theorem dX10_sizeLine_1 : decode cX10_sizeLine 1 = .ok (.ldc2_w 265, 3) := by decide +kernel
theorem dX10_sizeLine_4 : decode cX10_sizeLine 4 = .ok (.invokevirtual 221, 3) := by decide +kernel
theorem dX10_sizeLine_7 : decode cX10_sizeLine 7 = .ok (.ifCond .ne 8, 3) := by decide +kernel
theorem dX10_sizeLine_10 : decode cX10_sizeLine 10 = .ok (.aload_n 0, 1) := by decide +kernel
theorem dX10_sizeLine_11 : decode cX10_sizeLine 11 = .ok (.invokevirtual 173, 3) := by decide +kernel
theorem dX10_sizeLine_14 : decode cX10_sizeLine 14 = .ok (.ireturn, 1) := by decide +kernel
theorem dX10_sizeLine_15 : decode cX10_sizeLine 15 = .ok (.aload_n 0, 1) := by decide +kernel
theorem dX10_sizeLine_16 : decode cX10_sizeLine 16 = .ok (.invokevirtual 188, 3) := by decide +kernel
theorem dX10_sizeLine_19 : decode cX10_sizeLine 19 = .ok (.aload_n 0, 1) := by decide +kernel
theorem dX10_sizeLine_20 : decode cX10_sizeLine 20 = .ok (.iconst 1, 1) := by decide +kernel
theorem dX10_sizeLine_21 : decode cX10_sizeLine 21 = .ok (.putfield 184, 3) := by decide +kernel
theorem dX10_sizeLine_24 : decode cX10_sizeLine 24 = .ok (.aload_n 0, 1) := by decide +kernel
theorem dX10_sizeLine_25 : decode cX10_sizeLine 25 = .ok (.iconst 2, 1) := by decide +kernel
theorem dX10_sizeLine_26 : decode cX10_sizeLine 26 = .ok (.bipush 16, 2) := by decide +kernel
theorem dX10_sizeLine_28 : decode cX10_sizeLine 28 = .ok (.invokevirtual 197, 3) := by decide +kernel
theorem dX10_sizeLine_31 : decode cX10_sizeLine 31 = .ok (.ifCond .ne 5, 3) := by decide +kernel
theorem dX10_sizeLine_34 : decode cX10_sizeLine 34 = .ok (.iconst 0, 1) := by decide +kernel
theorem dX10_sizeLine_35 : decode cX10_sizeLine 35 = .ok (.ireturn, 1) := by decide +kernel
theorem dX10_sizeLine_36 : decode cX10_sizeLine 36 = .ok (.aload_n 0, 1) := by decide +kernel
theorem dX10_sizeLine_37 : decode cX10_sizeLine 37 = .ok (.aload_n 0, 1) := by decide +kernel
theorem dX10_sizeLine_38 : decode cX10_sizeLine 38 = .ok (.getfield 177, 3) := by decide +kernel
theorem dX10_sizeLine_41 : decode cX10_sizeLine 41 = .ok (.iconst 2, 1) := by decide +kernel
theorem dX10_sizeLine_42 : decode cX10_sizeLine 42 = .ok (.bipush 16, 2) := by decide +kernel
theorem dX10_sizeLine_44 : decode cX10_sizeLine 44 = .ok (.invokestatic 129, 3) := by decide +kernel
theorem dX10_sizeLine_47 : decode cX10_sizeLine 47 = .ok (.ifCond .eq 10, 3) := by decide +kernel
theorem dX10_sizeLine_50 : decode cX10_sizeLine 50 = .ok (.aload_n 0, 1) := by decide +kernel
theorem dX10_sizeLine_51 : decode cX10_sizeLine 51 = .ok (.getfield 177, 3) := by decide +kernel
theorem dX10_sizeLine_54 : decode cX10_sizeLine 54 = .ok (.goto 4, 3) := by decide +kernel
theorem dX10_sizeLine_57 : decode cX10_sizeLine 57 = .ok (.iconst 2, 1) := by decide +kernel
theorem dX10_sizeLine_58 : decode cX10_sizeLine 58 = .ok (.putfield 194, 3) := by decide +kernel
theorem dX10_sizeLine_61 : decode cX10_sizeLine 61 = .ok (.aload_n 0, 1) := by decide +kernel
theorem dX10_sizeLine_62 : decode cX10_sizeLine 62 = .ok (.iconst 1, 1) := by decide +kernel
theorem dX10_sizeLine_63 : decode cX10_sizeLine 63 = .ok (.bipush 6, 2) := by decide +kernel
theorem dX10_sizeLine_65 : decode cX10_sizeLine 65 = .ok (.invokevirtual 197, 3) := by decide +kernel
theorem dX10_sizeLine_68 : decode cX10_sizeLine 68 = .ok (.ifCond .ne 5, 3) := by decide +kernel
theorem dX10_sizeLine_71 : decode cX10_sizeLine 71 = .ok (.iconst 0, 1) := by decide +kernel
theorem dX10_sizeLine_72 : decode cX10_sizeLine 72 = .ok (.ireturn, 1) := by decide +kernel
theorem dX10_sizeLine_73 : decode cX10_sizeLine 73 = .ok (.aload_n 0, 1) := by decide +kernel
theorem dX10_sizeLine_74 : decode cX10_sizeLine 74 = .ok (.aload_n 0, 1) := by decide +kernel
theorem dX10_sizeLine_75 : decode cX10_sizeLine 75 = .ok (.getfield 177, 3) := by decide +kernel
theorem dX10_sizeLine_78 : decode cX10_sizeLine 78 = .ok (.iconst 1, 1) := by decide +kernel
theorem dX10_sizeLine_79 : decode cX10_sizeLine 79 = .ok (.bipush 6, 2) := by decide +kernel
theorem dX10_sizeLine_81 : decode cX10_sizeLine 81 = .ok (.invokestatic 129, 3) := by decide +kernel
theorem dX10_sizeLine_84 : decode cX10_sizeLine 84 = .ok (.ifCond .eq 10, 3) := by decide +kernel
theorem dX10_sizeLine_87 : decode cX10_sizeLine 87 = .ok (.aload_n 0, 1) := by decide +kernel
theorem dX10_sizeLine_88 : decode cX10_sizeLine 88 = .ok (.getfield 177, 3) := by decide +kernel
theorem dX10_sizeLine_91 : decode cX10_sizeLine 91 = .ok (.goto 4, 3) := by decide +kernel
theorem dX10_sizeLine_94 : decode cX10_sizeLine 94 = .ok (.iconst 1, 1) := by decide +kernel
theorem dX10_sizeLine_95 : decode cX10_sizeLine 95 = .ok (.putfield 201, 3) := by decide +kernel
theorem dX10_sizeLine_98 : decode cX10_sizeLine 98 = .ok (.aload_n 0, 1) := by decide +kernel
theorem dX10_sizeLine_99 : decode cX10_sizeLine 99 = .ok (.invokevirtual 262, 3) := by decide +kernel
theorem dX10_sizeLine_102 : decode cX10_sizeLine 102 = .ok (.ireturn, 1) := by decide +kernel
theorem dX10_passage_0 : decode cX10_passage 0 = .ok (.aload_n 0, 1) := by decide +kernel
theorem dX10_passage_1 : decode cX10_passage 1 = .ok (.iconst 0, 1) := by decide +kernel
theorem dX10_passage_2 : decode cX10_passage 2 = .ok (.putfield 121, 3) := by decide +kernel
theorem dX10_passage_5 : decode cX10_passage 5 = .ok (.aload_n 0, 1) := by decide +kernel
theorem dX10_passage_6 : decode cX10_passage 6 = .ok (.invokevirtual 267, 3) := by decide +kernel
theorem dX10_passage_9 : decode cX10_passage 9 = .ok (.iload_n 1, 1) := by decide +kernel
theorem dX10_passage_10 : decode cX10_passage 10 = .ok (.iconst (-1), 1) := by decide +kernel
theorem dX10_passage_11 : decode cX10_passage 11 = .ok (.if_icmp .ne 16, 3) := by decide +kernel
theorem dX10_passage_14 : decode cX10_passage 14 = .ok (.aload_n 0, 1) := by decide +kernel
theorem dX10_passage_15 : decode cX10_passage 15 = .ok (.getfield 23, 3) := by decide +kernel
theorem dX10_passage_18 : decode cX10_passage 18 = .ok (.iconst 0, 1) := by decide +kernel
theorem dX10_passage_19 : decode cX10_passage 19 = .ok (.iaload, 1) := by decide +kernel
theorem dX10_passage_20 : decode cX10_passage 20 = .ok (.iconst 3, 1) := by decide +kernel
theorem dX10_passage_21 : decode cX10_passage 21 = .ok (.if_icmp .ne 17, 3) := by decide +kernel
theorem dX10_passage_24 : decode cX10_passage 24 = .ok (.goto 11, 3) := by decide +kernel
theorem dX10_passage_27 : decode cX10_passage 27 = .ok (.aload_n 0, 1) := by decide +kernel
theorem dX10_passage_28 : decode cX10_passage 28 = .ok (.iload_n 1, 1) := by decide +kernel
theorem dX10_passage_29 : decode cX10_passage 29 = .ok (.invokevirtual 270, 3) := by decide +kernel
theorem dX10_passage_32 : decode cX10_passage 32 = .ok (.ifCond .ne 6, 3) := by decide +kernel
theorem dX10_passage_35 : decode cX10_passage 35 = .ok (.bipush (-2), 2) := by decide +kernel
theorem dX10_passage_37 : decode cX10_passage 37 = .ok (.ireturn, 1) := by decide +kernel
theorem dX10_passage_38 : decode cX10_passage 38 = .ok (.aload_n 0, 1) := by decide +kernel
theorem dX10_passage_39 : decode cX10_passage 39 = .ok (.iconst 0, 1) := by decide +kernel
theorem dX10_passage_40 : decode cX10_passage 40 = .ok (.putfield 210, 3) := by decide +kernel
theorem dX10_passage_43 : decode cX10_passage 43 = .ok (.aload_n 0, 1) := by decide +kernel
theorem dX10_passage_44 : decode cX10_passage 44 = .ok (.iconst 0, 1) := by decide +kernel
theorem dX10_passage_45 : decode cX10_passage 45 = .ok (.putfield 216, 3) := by decide +kernel
theorem dX10_passage_48 : decode cX10_passage 48 = .ok (.iconst 0, 1) := by decide +kernel
theorem dX10_passage_49 : decode cX10_passage 49 = .ok (.istore_n 2, 1) := by decide +kernel
theorem dX10_passage_50 : decode cX10_passage 50 = .ok (.iload_n 2, 1) := by decide +kernel
theorem dX10_passage_51 : decode cX10_passage 51 = .ok (.bipush 96, 2) := by decide +kernel
theorem dX10_passage_53 : decode cX10_passage 53 = .ok (.if_icmp .ge 16, 3) := by decide +kernel
theorem dX10_passage_56 : decode cX10_passage 56 = .ok (.aload_n 0, 1) := by decide +kernel
theorem dX10_passage_57 : decode cX10_passage 57 = .ok (.getfield 62, 3) := by decide +kernel
theorem dX10_passage_60 : decode cX10_passage 60 = .ok (.iload_n 2, 1) := by decide +kernel
theorem dX10_passage_61 : decode cX10_passage 61 = .ok (.iconst 0, 1) := by decide +kernel
theorem dX10_passage_62 : decode cX10_passage 62 = .ok (.iastore, 1) := by decide +kernel
theorem dX10_passage_63 : decode cX10_passage 63 = .ok (.iinc 2 1, 3) := by decide +kernel
theorem dX10_passage_66 : decode cX10_passage 66 = .ok (.goto (-16), 3) := by decide +kernel
theorem dX10_passage_69 : decode cX10_passage 69 = .ok (.aload_n 0, 1) := by decide +kernel
theorem dX10_passage_70 : decode cX10_passage 70 = .ok (.invokevirtual 188, 3) := by decide +kernel
theorem dX10_passage_73 : decode cX10_passage 73 = .ok (.aload_n 0, 1) := by decide +kernel
theorem dX10_passage_74 : decode cX10_passage 74 = .ok (.invokevirtual 273, 3) := by decide +kernel
theorem dX10_passage_77 : decode cX10_passage 77 = .ok (.istore_n 2, 1) := by decide +kernel
theorem dX10_passage_78 : decode cX10_passage 78 = .ok (.iconst 0, 1) := by decide +kernel
theorem dX10_passage_79 : decode cX10_passage 79 = .ok (.istore_n 3, 1) := by decide +kernel
theorem dX10_passage_80 : decode cX10_passage 80 = .ok (.iload_n 2, 1) := by decide +kernel
theorem dX10_passage_81 : decode cX10_passage 81 = .ok (.ifCond .eq 36, 3) := by decide +kernel
theorem dX10_passage_84 : decode cX10_passage 84 = .ok (.aload_n 0, 1) := by decide +kernel
theorem dX10_passage_85 : decode cX10_passage 85 = .ok (.getfield 154, 3) := by decide +kernel
theorem dX10_passage_88 : decode cX10_passage 88 = .ok (.ifCond .eq 29, 3) := by decide +kernel
theorem dX10_passage_91 : decode cX10_passage 91 = .ok (.iload_n 3, 1) := by decide +kernel
theorem dX10_passage_92 : decode cX10_passage 92 = .ok (.bipush 40, 2) := by decide +kernel
theorem dX10_passage_94 : decode cX10_passage 94 = .ok (.if_icmp .ne 12, 3) := by decide +kernel
theorem dX10_passage_97 : decode cX10_passage 97 = .ok (.aload_n 0, 1) := by decide +kernel
theorem dX10_passage_98 : decode cX10_passage 98 = .ok (.iconst 3, 1) := by decide +kernel
theorem dX10_passage_99 : decode cX10_passage 99 = .ok (.aload_n 0, 1) := by decide +kernel
theorem dX10_passage_100 : decode cX10_passage 100 = .ok (.getfield 147, 3) := by decide +kernel
theorem dX10_passage_103 : decode cX10_passage 103 = .ok (.invokevirtual 180, 3) := by decide +kernel
theorem dX10_passage_106 : decode cX10_passage 106 = .ok (.iinc 3 1, 3) := by decide +kernel
theorem dX10_passage_109 : decode cX10_passage 109 = .ok (.aload_n 0, 1) := by decide +kernel
theorem dX10_passage_110 : decode cX10_passage 110 = .ok (.invokevirtual 276, 3) := by decide +kernel
theorem dX10_passage_113 : decode cX10_passage 113 = .ok (.istore_n 2, 1) := by decide +kernel
theorem dX10_passage_114 : decode cX10_passage 114 = .ok (.goto (-34), 3) := by decide +kernel
theorem dX10_passage_117 : decode cX10_passage 117 = .ok (.aload_n 0, 1) := by decide +kernel
theorem dX10_passage_118 : decode cX10_passage 118 = .ok (.iload_n 2, 1) := by decide +kernel
theorem dX10_passage_119 : decode cX10_passage 119 = .ok (.invokevirtual 279, 3) := by decide +kernel
theorem dX10_passage_122 : decode cX10_passage 122 = .ok (.ifCond .ne 5, 3) := by decide +kernel
theorem dX10_passage_125 : decode cX10_passage 125 = .ok (.iconst (-1), 1) := by decide +kernel
theorem dX10_passage_126 : decode cX10_passage 126 = .ok (.ireturn, 1) := by decide +kernel
theorem dX10_passage_127 : decode cX10_passage 127 = .ok (.iload_n 1, 1) := by decide +kernel
theorem dX10_passage_128 : decode cX10_passage 128 = .ok (.iconst (-1), 1) := by decide +kernel
theorem dX10_passage_129 : decode cX10_passage 129 = .ok (.if_icmp .ne 12, 3) := by decide +kernel
theorem dX10_passage_132 : decode cX10_passage 132 = .ok (.aload_n 0, 1) := by decide +kernel
theorem dX10_passage_133 : decode cX10_passage 133 = .ok (.getfield 23, 3) := by decide +kernel
theorem dX10_passage_136 : decode cX10_passage 136 = .ok (.iconst 0, 1) := by decide +kernel
theorem dX10_passage_137 : decode cX10_passage 137 = .ok (.iaload, 1) := by decide +kernel
theorem dX10_passage_138 : decode cX10_passage 138 = .ok (.goto 4, 3) := by decide +kernel
theorem dX10_passage_141 : decode cX10_passage 141 = .ok (.iload_n 1, 1) := by decide +kernel
theorem dX10_passage_142 : decode cX10_passage 142 = .ok (.istore 4, 2) := by decide +kernel
theorem dX10_passage_144 : decode cX10_passage 144 = .ok (.aload_n 0, 1) := by decide +kernel
theorem dX10_passage_145 : decode cX10_passage 145 = .ok (.getfield 23, 3) := by decide +kernel
theorem dX10_passage_148 : decode cX10_passage 148 = .ok (.iconst 0, 1) := by decide +kernel
theorem dX10_passage_149 : decode cX10_passage 149 = .ok (.dup2, 1) := by decide +kernel
theorem dX10_passage_150 : decode cX10_passage 150 = .ok (.iaload, 1) := by decide +kernel
theorem dX10_passage_151 : decode cX10_passage 151 = .ok (.iload_n 1, 1) := by decide +kernel
theorem dX10_passage_152 : decode cX10_passage 152 = .ok (.iconst (-1), 1) := by decide +kernel
theorem dX10_passage_153 : decode cX10_passage 153 = .ok (.if_icmp .ne 7, 3) := by decide +kernel
theorem dX10_passage_156 : decode cX10_passage 156 = .ok (.iconst 1, 1) := by decide +kernel
theorem dX10_passage_157 : decode cX10_passage 157 = .ok (.goto 4, 3) := by decide +kernel
theorem dX10_passage_160 : decode cX10_passage 160 = .ok (.iconst 0, 1) := by decide +kernel
theorem dX10_passage_161 : decode cX10_passage 161 = .ok (.iadd, 1) := by decide +kernel
theorem dX10_passage_162 : decode cX10_passage 162 = .ok (.iastore, 1) := by decide +kernel
theorem dX10_passage_163 : decode cX10_passage 163 = .ok (.aload_n 0, 1) := by decide +kernel
theorem dX10_passage_164 : decode cX10_passage 164 = .ok (.getfield 26, 3) := by decide +kernel
theorem dX10_passage_167 : decode cX10_passage 167 = .ok (.iload 4, 2) := by decide +kernel
theorem dX10_passage_169 : decode cX10_passage 169 = .ok (.aload_n 0, 1) := by decide +kernel
theorem dX10_passage_170 : decode cX10_passage 170 = .ok (.getfield 194, 3) := by decide +kernel
theorem dX10_passage_173 : decode cX10_passage 173 = .ok (.iastore, 1) := by decide +kernel
theorem dX10_passage_174 : decode cX10_passage 174 = .ok (.aload_n 0, 1) := by decide +kernel
theorem dX10_passage_175 : decode cX10_passage 175 = .ok (.getfield 29, 3) := by decide +kernel
theorem dX10_passage_178 : decode cX10_passage 178 = .ok (.iload 4, 2) := by decide +kernel
theorem dX10_passage_180 : decode cX10_passage 180 = .ok (.aload_n 0, 1) := by decide +kernel
theorem dX10_passage_181 : decode cX10_passage 181 = .ok (.getfield 201, 3) := by decide +kernel
theorem dX10_passage_184 : decode cX10_passage 184 = .ok (.iastore, 1) := by decide +kernel
theorem dX10_passage_185 : decode cX10_passage 185 = .ok (.aload_n 0, 1) := by decide +kernel
theorem dX10_passage_186 : decode cX10_passage 186 = .ok (.getfield 32, 3) := by decide +kernel
theorem dX10_passage_189 : decode cX10_passage 189 = .ok (.iload 4, 2) := by decide +kernel
theorem dX10_passage_191 : decode cX10_passage 191 = .ok (.aload_n 0, 1) := by decide +kernel
theorem dX10_passage_192 : decode cX10_passage 192 = .ok (.getfield 210, 3) := by decide +kernel
theorem dX10_passage_195 : decode cX10_passage 195 = .ok (.iastore, 1) := by decide +kernel
theorem dX10_passage_196 : decode cX10_passage 196 = .ok (.aload_n 0, 1) := by decide +kernel
theorem dX10_passage_197 : decode cX10_passage 197 = .ok (.getfield 35, 3) := by decide +kernel
theorem dX10_passage_200 : decode cX10_passage 200 = .ok (.iload 4, 2) := by decide +kernel
theorem dX10_passage_202 : decode cX10_passage 202 = .ok (.aload_n 0, 1) := by decide +kernel
theorem dX10_passage_203 : decode cX10_passage 203 = .ok (.getfield 216, 3) := by decide +kernel
theorem dX10_passage_206 : decode cX10_passage 206 = .ok (.iastore, 1) := by decide +kernel
theorem dX10_passage_207 : decode cX10_passage 207 = .ok (.iconst 0, 1) := by decide +kernel
theorem dX10_passage_208 : decode cX10_passage 208 = .ok (.istore 5, 2) := by decide +kernel
theorem dX10_passage_210 : decode cX10_passage 210 = .ok (.iload 5, 2) := by decide +kernel
theorem dX10_passage_212 : decode cX10_passage 212 = .ok (.bipush 96, 2) := by decide +kernel
theorem dX10_passage_214 : decode cX10_passage 214 = .ok (.if_icmp .ge 29, 3) := by decide +kernel
theorem dX10_passage_217 : decode cX10_passage 217 = .ok (.aload_n 0, 1) := by decide +kernel
theorem dX10_passage_218 : decode cX10_passage 218 = .ok (.getfield 38, 3) := by decide +kernel
theorem dX10_passage_221 : decode cX10_passage 221 = .ok (.bipush 96, 2) := by decide +kernel
theorem dX10_passage_223 : decode cX10_passage 223 = .ok (.iload 4, 2) := by decide +kernel
theorem dX10_passage_225 : decode cX10_passage 225 = .ok (.imul, 1) := by decide +kernel
theorem dX10_passage_226 : decode cX10_passage 226 = .ok (.iload 5, 2) := by decide +kernel
theorem dX10_passage_228 : decode cX10_passage 228 = .ok (.iadd, 1) := by decide +kernel
theorem dX10_passage_229 : decode cX10_passage 229 = .ok (.aload_n 0, 1) := by decide +kernel
theorem dX10_passage_230 : decode cX10_passage 230 = .ok (.getfield 62, 3) := by decide +kernel
theorem dX10_passage_233 : decode cX10_passage 233 = .ok (.iload 5, 2) := by decide +kernel
theorem dX10_passage_235 : decode cX10_passage 235 = .ok (.iaload, 1) := by decide +kernel
theorem dX10_passage_236 : decode cX10_passage 236 = .ok (.iastore, 1) := by decide +kernel
theorem dX10_passage_237 : decode cX10_passage 237 = .ok (.iinc 5 1, 3) := by decide +kernel
theorem dX10_passage_240 : decode cX10_passage 240 = .ok (.goto (-30), 3) := by decide +kernel
theorem dX10_passage_243 : decode cX10_passage 243 = .ok (.iconst 0, 1) := by decide +kernel
theorem dX10_passage_244 : decode cX10_passage 244 = .ok (.istore 5, 2) := by decide +kernel
theorem dX10_passage_246 : decode cX10_passage 246 = .ok (.iload 5, 2) := by decide +kernel
theorem dX10_passage_248 : decode cX10_passage 248 = .ok (.bipush 8, 2) := by decide +kernel
theorem dX10_passage_250 : decode cX10_passage 250 = .ok (.aload_n 0, 1) := by decide +kernel
theorem dX10_passage_251 : decode cX10_passage 251 = .ok (.getfield 210, 3) := by decide +kernel
theorem dX10_passage_254 : decode cX10_passage 254 = .ok (.imul, 1) := by decide +kernel
theorem dX10_passage_255 : decode cX10_passage 255 = .ok (.if_icmp .ge 29, 3) := by decide +kernel
theorem dX10_passage_258 : decode cX10_passage 258 = .ok (.aload_n 0, 1) := by decide +kernel
theorem dX10_passage_259 : decode cX10_passage 259 = .ok (.getfield 41, 3) := by decide +kernel
theorem dX10_passage_262 : decode cX10_passage 262 = .ok (.bipush 96, 2) := by decide +kernel
theorem dX10_passage_264 : decode cX10_passage 264 = .ok (.iload 4, 2) := by decide +kernel
theorem dX10_passage_266 : decode cX10_passage 266 = .ok (.imul, 1) := by decide +kernel
theorem dX10_passage_267 : decode cX10_passage 267 = .ok (.iload 5, 2) := by decide +kernel
theorem dX10_passage_269 : decode cX10_passage 269 = .ok (.iadd, 1) := by decide +kernel
theorem dX10_passage_270 : decode cX10_passage 270 = .ok (.aload_n 0, 1) := by decide +kernel
theorem dX10_passage_271 : decode cX10_passage 271 = .ok (.getfield 65, 3) := by decide +kernel
theorem dX10_passage_274 : decode cX10_passage 274 = .ok (.iload 5, 2) := by decide +kernel
theorem dX10_passage_276 : decode cX10_passage 276 = .ok (.iaload, 1) := by decide +kernel
theorem dX10_passage_277 : decode cX10_passage 277 = .ok (.iastore, 1) := by decide +kernel
theorem dX10_passage_278 : decode cX10_passage 278 = .ok (.iinc 5 1, 3) := by decide +kernel
theorem dX10_passage_281 : decode cX10_passage 281 = .ok (.goto (-35), 3) := by decide +kernel
theorem dX10_passage_284 : decode cX10_passage 284 = .ok (.iload 4, 2) := by decide +kernel
theorem dX10_passage_286 : decode cX10_passage 286 = .ok (.ireturn, 1) := by decide +kernel
theorem dX10_pillar_0 : decode cX10_pillar 0 = .ok (.aload_n 0, 1) := by decide +kernel
theorem dX10_pillar_1 : decode cX10_pillar 1 = .ok (.iconst 0, 1) := by decide +kernel
theorem dX10_pillar_2 : decode cX10_pillar 2 = .ok (.putfield 121, 3) := by decide +kernel
theorem dX10_pillar_5 : decode cX10_pillar 5 = .ok (.aload_n 0, 1) := by decide +kernel
theorem dX10_pillar_6 : decode cX10_pillar 6 = .ok (.iload_n 1, 1) := by decide +kernel
theorem dX10_pillar_7 : decode cX10_pillar 7 = .ok (.iload_n 2, 1) := by decide +kernel
theorem dX10_pillar_8 : decode cX10_pillar 8 = .ok (.iload 4, 2) := by decide +kernel
theorem dX10_pillar_10 : decode cX10_pillar 10 = .ok (.bipush 100, 2) := by decide +kernel
theorem dX10_pillar_12 : decode cX10_pillar 12 = .ok (.invokevirtual 447, 3) := by decide +kernel
theorem dX10_pillar_15 : decode cX10_pillar 15 = .ok (.ifCond .ne 5, 3) := by decide +kernel
theorem dX10_pillar_18 : decode cX10_pillar 18 = .ok (.iconst (-1), 1) := by decide +kernel
theorem dX10_pillar_19 : decode cX10_pillar 19 = .ok (.ireturn, 1) := by decide +kernel
theorem dX10_pillar_20 : decode cX10_pillar 20 = .ok (.aload_n 0, 1) := by decide +kernel
theorem dX10_pillar_21 : decode cX10_pillar 21 = .ok (.iconst 4, 1) := by decide +kernel
theorem dX10_pillar_22 : decode cX10_pillar 22 = .ok (.iload_n 1, 1) := by decide +kernel
theorem dX10_pillar_23 : decode cX10_pillar 23 = .ok (.iload_n 2, 1) := by decide +kernel
theorem dX10_pillar_24 : decode cX10_pillar 24 = .ok (.iload_n 3, 1) := by decide +kernel
theorem dX10_pillar_25 : decode cX10_pillar 25 = .ok (.bipush 12, 2) := by decide +kernel
theorem dX10_pillar_27 : decode cX10_pillar 27 = .ok (.iconst (-1), 1) := by decide +kernel
theorem dX10_pillar_28 : decode cX10_pillar 28 = .ok (.invokevirtual 420, 3) := by decide +kernel
theorem dX10_pillar_31 : decode cX10_pillar 31 = .ok (.aload_n 0, 1) := by decide +kernel
theorem dX10_pillar_32 : decode cX10_pillar 32 = .ok (.iload 4, 2) := by decide +kernel
theorem dX10_pillar_34 : decode cX10_pillar 34 = .ok (.invokevirtual 451, 3) := by decide +kernel
theorem dX10_pillar_37 : decode cX10_pillar 37 = .ok (.aload_n 0, 1) := by decide +kernel
theorem dX10_pillar_38 : decode cX10_pillar 38 = .ok (.getfield 71, 3) := by decide +kernel
theorem dX10_pillar_41 : decode cX10_pillar 41 = .ok (.sipush 2886, 3) := by decide +kernel
theorem dX10_pillar_44 : decode cX10_pillar 44 = .ok (.iaload, 1) := by decide +kernel
theorem dX10_pillar_45 : decode cX10_pillar 45 = .ok (.istore 5, 2) := by decide +kernel
theorem dX10_pillar_47 : decode cX10_pillar 47 = .ok (.iconst (-1), 1) := by decide +kernel
theorem dX10_pillar_48 : decode cX10_pillar 48 = .ok (.istore 6, 2) := by decide +kernel
theorem dX10_pillar_50 : decode cX10_pillar 50 = .ok (.iconst 0, 1) := by decide +kernel
theorem dX10_pillar_51 : decode cX10_pillar 51 = .ok (.istore 7, 2) := by decide +kernel
theorem dX10_pillar_53 : decode cX10_pillar 53 = .ok (.iload 7, 2) := by decide +kernel
theorem dX10_pillar_55 : decode cX10_pillar 55 = .ok (.aload_n 0, 1) := by decide +kernel
theorem dX10_pillar_56 : decode cX10_pillar 56 = .ok (.getfield 26, 3) := by decide +kernel
theorem dX10_pillar_59 : decode cX10_pillar 59 = .ok (.iload_n 1, 1) := by decide +kernel
theorem dX10_pillar_60 : decode cX10_pillar 60 = .ok (.iaload, 1) := by decide +kernel
theorem dX10_pillar_61 : decode cX10_pillar 61 = .ok (.if_icmp .ge 112, 3) := by decide +kernel
theorem dX10_pillar_64 : decode cX10_pillar 64 = .ok (.iconst 0, 1) := by decide +kernel
theorem dX10_pillar_65 : decode cX10_pillar 65 = .ok (.istore 8, 2) := by decide +kernel
theorem dX10_pillar_67 : decode cX10_pillar 67 = .ok (.iload 8, 2) := by decide +kernel
theorem dX10_pillar_69 : decode cX10_pillar 69 = .ok (.aload_n 0, 1) := by decide +kernel
theorem dX10_pillar_70 : decode cX10_pillar 70 = .ok (.getfield 29, 3) := by decide +kernel
theorem dX10_pillar_73 : decode cX10_pillar 73 = .ok (.iload_n 1, 1) := by decide +kernel
theorem dX10_pillar_74 : decode cX10_pillar 74 = .ok (.iaload, 1) := by decide +kernel
theorem dX10_pillar_75 : decode cX10_pillar 75 = .ok (.if_icmp .ge 92, 3) := by decide +kernel
theorem dX10_pillar_78 : decode cX10_pillar 78 = .ok (.aload_n 0, 1) := by decide +kernel
theorem dX10_pillar_79 : decode cX10_pillar 79 = .ok (.iload_n 1, 1) := by decide +kernel
theorem dX10_pillar_80 : decode cX10_pillar 80 = .ok (.iload 7, 2) := by decide +kernel
theorem dX10_pillar_82 : decode cX10_pillar 82 = .ok (.iload 8, 2) := by decide +kernel
theorem dX10_pillar_84 : decode cX10_pillar 84 = .ok (.invokevirtual 454, 3) := by decide +kernel
theorem dX10_pillar_87 : decode cX10_pillar 87 = .ok (.ifCond .ne 6, 3) := by decide +kernel
theorem dX10_pillar_90 : decode cX10_pillar 90 = .ok (.goto 71, 3) := by decide +kernel
theorem dX10_pillar_93 : decode cX10_pillar 93 = .ok (.aload_n 0, 1) := by decide +kernel
theorem dX10_pillar_94 : decode cX10_pillar 94 = .ok (.iconst 4, 1) := by decide +kernel
theorem dX10_pillar_95 : decode cX10_pillar 95 = .ok (.iload_n 1, 1) := by decide +kernel
theorem dX10_pillar_96 : decode cX10_pillar 96 = .ok (.iload_n 2, 1) := by decide +kernel
theorem dX10_pillar_97 : decode cX10_pillar 97 = .ok (.iload_n 3, 1) := by decide +kernel
theorem dX10_pillar_98 : decode cX10_pillar 98 = .ok (.bipush 12, 2) := by decide +kernel
theorem dX10_pillar_100 : decode cX10_pillar 100 = .ok (.iconst (-1), 1) := by decide +kernel
theorem dX10_pillar_101 : decode cX10_pillar 101 = .ok (.invokevirtual 420, 3) := by decide +kernel
theorem dX10_pillar_104 : decode cX10_pillar 104 = .ok (.aload_n 0, 1) := by decide +kernel
theorem dX10_pillar_105 : decode cX10_pillar 105 = .ok (.getfield 71, 3) := by decide +kernel
theorem dX10_pillar_108 : decode cX10_pillar 108 = .ok (.sipush 3136, 3) := by decide +kernel
theorem dX10_pillar_111 : decode cX10_pillar 111 = .ok (.bipush 6, 2) := by decide +kernel
theorem dX10_pillar_113 : decode cX10_pillar 113 = .ok (.iload 7, 2) := by decide +kernel
theorem dX10_pillar_115 : decode cX10_pillar 115 = .ok (.imul, 1) := by decide +kernel
theorem dX10_pillar_116 : decode cX10_pillar 116 = .ok (.iadd, 1) := by decide +kernel
theorem dX10_pillar_117 : decode cX10_pillar 117 = .ok (.iload 8, 2) := by decide +kernel
theorem dX10_pillar_119 : decode cX10_pillar 119 = .ok (.iadd, 1) := by decide +kernel
theorem dX10_pillar_120 : decode cX10_pillar 120 = .ok (.iconst 1, 1) := by decide +kernel
theorem dX10_pillar_121 : decode cX10_pillar 121 = .ok (.iastore, 1) := by decide +kernel
theorem dX10_pillar_122 : decode cX10_pillar 122 = .ok (.aload_n 0, 1) := by decide +kernel
theorem dX10_pillar_123 : decode cX10_pillar 123 = .ok (.iload 4, 2) := by decide +kernel
theorem dX10_pillar_125 : decode cX10_pillar 125 = .ok (.invokevirtual 451, 3) := by decide +kernel
theorem dX10_pillar_128 : decode cX10_pillar 128 = .ok (.aload_n 0, 1) := by decide +kernel
theorem dX10_pillar_129 : decode cX10_pillar 129 = .ok (.getfield 71, 3) := by decide +kernel
theorem dX10_pillar_132 : decode cX10_pillar 132 = .ok (.sipush 2886, 3) := by decide +kernel
theorem dX10_pillar_135 : decode cX10_pillar 135 = .ok (.iaload, 1) := by decide +kernel
theorem dX10_pillar_136 : decode cX10_pillar 136 = .ok (.iload 5, 2) := by decide +kernel
theorem dX10_pillar_138 : decode cX10_pillar 138 = .ok (.if_icmp .le 23, 3) := by decide +kernel
theorem dX10_pillar_141 : decode cX10_pillar 141 = .ok (.aload_n 0, 1) := by decide +kernel
theorem dX10_pillar_142 : decode cX10_pillar 142 = .ok (.getfield 71, 3) := by decide +kernel
theorem dX10_pillar_145 : decode cX10_pillar 145 = .ok (.sipush 2886, 3) := by decide +kernel
theorem dX10_pillar_148 : decode cX10_pillar 148 = .ok (.iaload, 1) := by decide +kernel
theorem dX10_pillar_149 : decode cX10_pillar 149 = .ok (.istore 5, 2) := by decide +kernel
theorem dX10_pillar_151 : decode cX10_pillar 151 = .ok (.bipush 100, 2) := by decide +kernel
theorem dX10_pillar_153 : decode cX10_pillar 153 = .ok (.iload 7, 2) := by decide +kernel
theorem dX10_pillar_155 : decode cX10_pillar 155 = .ok (.imul, 1) := by decide +kernel
theorem dX10_pillar_156 : decode cX10_pillar 156 = .ok (.iload 8, 2) := by decide +kernel
theorem dX10_pillar_158 : decode cX10_pillar 158 = .ok (.iadd, 1) := by decide +kernel
theorem dX10_pillar_159 : decode cX10_pillar 159 = .ok (.istore 6, 2) := by decide +kernel
theorem dX10_pillar_161 : decode cX10_pillar 161 = .ok (.iinc 8 1, 3) := by decide +kernel
theorem dX10_pillar_164 : decode cX10_pillar 164 = .ok (.goto (-97), 3) := by decide +kernel
theorem dX10_pillar_167 : decode cX10_pillar 167 = .ok (.iinc 7 1, 3) := by decide +kernel
theorem dX10_pillar_170 : decode cX10_pillar 170 = .ok (.goto (-117), 3) := by decide +kernel
theorem dX10_pillar_173 : decode cX10_pillar 173 = .ok (.iload 6, 2) := by decide +kernel
theorem dX10_pillar_175 : decode cX10_pillar 175 = .ok (.ireturn, 1) := by decide +kernel
theorem dX10_ran_0 : decode cX10_ran 0 = .ok (.aload_n 0, 1) := by decide +kernel
theorem dX10_ran_1 : decode cX10_ran 1 = .ok (.iconst 0, 1) := by decide +kernel
theorem dX10_ran_2 : decode cX10_ran 2 = .ok (.putfield 121, 3) := by decide +kernel
theorem dX10_ran_5 : decode cX10_ran 5 = .ok (.aload_n 0, 1) := by decide +kernel
theorem dX10_ran_6 : decode cX10_ran 6 = .ok (.iload_n 1, 1) := by decide +kernel
theorem dX10_ran_7 : decode cX10_ran 7 = .ok (.invokevirtual 428, 3) := by decide +kernel
theorem dX10_ran_10 : decode cX10_ran 10 = .ok (.ifCond .ne 6, 3) := by decide +kernel
theorem dX10_ran_13 : decode cX10_ran 13 = .ok (.bipush (-2), 2) := by decide +kernel
theorem dX10_ran_15 : decode cX10_ran 15 = .ok (.ireturn, 1) := by decide +kernel
theorem dX10_ran_16 : decode cX10_ran 16 = .ok (.iconst 0, 1) := by decide +kernel
theorem dX10_ran_17 : decode cX10_ran 17 = .ok (.iload_n 1, 1) := by decide +kernel
theorem dX10_ran_18 : decode cX10_ran 18 = .ok (.invokestatic 332, 3) := by decide +kernel
theorem dX10_ran_21 : decode cX10_ran 21 = .ok (.istore_n 3, 1) := by decide +kernel
theorem dX10_ran_22 : decode cX10_ran 22 = .ok (.iload_n 2, 1) := by decide +kernel
theorem dX10_ran_23 : decode cX10_ran 23 = .ok (.tableswitch 107 0 6 #[41, 48, 57, 67, 77, 87, 97], 41) := by decide +kernel
theorem dX10_ran_64 : decode cX10_ran 64 = .ok (.aload_n 0, 1) := by decide +kernel
theorem dX10_ran_65 : decode cX10_ran 65 = .ok (.getfield 71, 3) := by decide +kernel
theorem dX10_ran_68 : decode cX10_ran 68 = .ok (.iload_n 3, 1) := by decide +kernel
theorem dX10_ran_69 : decode cX10_ran 69 = .ok (.iaload, 1) := by decide +kernel
theorem dX10_ran_70 : decode cX10_ran 70 = .ok (.ireturn, 1) := by decide +kernel
theorem dX10_ran_71 : decode cX10_ran 71 = .ok (.aload_n 0, 1) := by decide +kernel
theorem dX10_ran_72 : decode cX10_ran 72 = .ok (.getfield 71, 3) := by decide +kernel
theorem dX10_ran_75 : decode cX10_ran 75 = .ok (.iload_n 3, 1) := by decide +kernel
theorem dX10_ran_76 : decode cX10_ran 76 = .ok (.iconst 4, 1) := by decide +kernel
theorem dX10_ran_77 : decode cX10_ran 77 = .ok (.iadd, 1) := by decide +kernel
theorem dX10_ran_78 : decode cX10_ran 78 = .ok (.iaload, 1) := by decide +kernel
theorem dX10_ran_79 : decode cX10_ran 79 = .ok (.ireturn, 1) := by decide +kernel
theorem dX10_ran_80 : decode cX10_ran 80 = .ok (.aload_n 0, 1) := by decide +kernel
theorem dX10_ran_81 : decode cX10_ran 81 = .ok (.getfield 71, 3) := by decide +kernel
theorem dX10_ran_84 : decode cX10_ran 84 = .ok (.iload_n 3, 1) := by decide +kernel
theorem dX10_ran_85 : decode cX10_ran 85 = .ok (.bipush 14, 2) := by decide +kernel
theorem dX10_ran_87 : decode cX10_ran 87 = .ok (.iadd, 1) := by decide +kernel
theorem dX10_ran_88 : decode cX10_ran 88 = .ok (.iaload, 1) := by decide +kernel
theorem dX10_ran_89 : decode cX10_ran 89 = .ok (.ireturn, 1) := by decide +kernel
theorem dX10_ran_90 : decode cX10_ran 90 = .ok (.aload_n 0, 1) := by decide +kernel
theorem dX10_ran_91 : decode cX10_ran 91 = .ok (.getfield 71, 3) := by decide +kernel
theorem dX10_ran_94 : decode cX10_ran 94 = .ok (.iload_n 3, 1) := by decide +kernel
theorem dX10_ran_95 : decode cX10_ran 95 = .ok (.bipush 15, 2) := by decide +kernel
theorem dX10_ran_97 : decode cX10_ran 97 = .ok (.iadd, 1) := by decide +kernel
theorem dX10_ran_98 : decode cX10_ran 98 = .ok (.iaload, 1) := by decide +kernel
theorem dX10_ran_99 : decode cX10_ran 99 = .ok (.ireturn, 1) := by decide +kernel
theorem dX10_ran_100 : decode cX10_ran 100 = .ok (.aload_n 0, 1) := by decide +kernel
theorem dX10_ran_101 : decode cX10_ran 101 = .ok (.getfield 71, 3) := by decide +kernel
theorem dX10_ran_104 : decode cX10_ran 104 = .ok (.iload_n 3, 1) := by decide +kernel
theorem dX10_ran_105 : decode cX10_ran 105 = .ok (.bipush 16, 2) := by decide +kernel
theorem dX10_ran_107 : decode cX10_ran 107 = .ok (.iadd, 1) := by decide +kernel
theorem dX10_ran_108 : decode cX10_ran 108 = .ok (.iaload, 1) := by decide +kernel
theorem dX10_ran_109 : decode cX10_ran 109 = .ok (.ireturn, 1) := by decide +kernel
theorem dX10_ran_110 : decode cX10_ran 110 = .ok (.aload_n 0, 1) := by decide +kernel
theorem dX10_ran_111 : decode cX10_ran 111 = .ok (.getfield 71, 3) := by decide +kernel
theorem dX10_ran_114 : decode cX10_ran 114 = .ok (.iload_n 3, 1) := by decide +kernel
theorem dX10_ran_115 : decode cX10_ran 115 = .ok (.bipush 17, 2) := by decide +kernel
theorem dX10_ran_117 : decode cX10_ran 117 = .ok (.iadd, 1) := by decide +kernel
theorem dX10_ran_118 : decode cX10_ran 118 = .ok (.iaload, 1) := by decide +kernel
theorem dX10_ran_119 : decode cX10_ran 119 = .ok (.ireturn, 1) := by decide +kernel
theorem dX10_ran_120 : decode cX10_ran 120 = .ok (.aload_n 0, 1) := by decide +kernel
theorem dX10_ran_121 : decode cX10_ran 121 = .ok (.getfield 71, 3) := by decide +kernel
theorem dX10_ran_124 : decode cX10_ran 124 = .ok (.iload_n 3, 1) := by decide +kernel
theorem dX10_ran_125 : decode cX10_ran 125 = .ok (.bipush 18, 2) := by decide +kernel
theorem dX10_ran_127 : decode cX10_ran 127 = .ok (.iadd, 1) := by decide +kernel
theorem dX10_ran_128 : decode cX10_ran 128 = .ok (.iaload, 1) := by decide +kernel
theorem dX10_ran_129 : decode cX10_ran 129 = .ok (.ireturn, 1) := by decide +kernel
theorem dX10_ran_130 : decode cX10_ran 130 = .ok (.bipush (-2), 2) := by decide +kernel
theorem dX10_ran_132 : decode cX10_ran 132 = .ok (.ireturn, 1) := by decide +kernel
theorem dX10_rules_0 : decode cX10_rules 0 = .ok (.aload_n 0, 1) := by decide +kernel
theorem dX10_rules_1 : decode cX10_rules 1 = .ok (.iconst 0, 1) := by decide +kernel
theorem dX10_rules_2 : decode cX10_rules 2 = .ok (.putfield 121, 3) := by decide +kernel
theorem dX10_rules_5 : decode cX10_rules 5 = .ok (.aload_n 0, 1) := by decide +kernel
theorem dX10_rules_6 : decode cX10_rules 6 = .ok (.iload_n 1, 1) := by decide +kernel
theorem dX10_rules_7 : decode cX10_rules 7 = .ok (.invokevirtual 326, 3) := by decide +kernel
theorem dX10_rules_10 : decode cX10_rules 10 = .ok (.ifCond .eq 12, 3) := by decide +kernel
theorem dX10_rules_13 : decode cX10_rules 13 = .ok (.aload_n 0, 1) := by decide +kernel
theorem dX10_rules_14 : decode cX10_rules 14 = .ok (.getfield 47, 3) := by decide +kernel
theorem dX10_rules_17 : decode cX10_rules 17 = .ok (.iload_n 1, 1) := by decide +kernel
theorem dX10_rules_18 : decode cX10_rules 18 = .ok (.iaload, 1) := by decide +kernel
theorem dX10_rules_19 : decode cX10_rules 19 = .ok (.goto 4, 3) := by decide +kernel
theorem dX10_rules_22 : decode cX10_rules 22 = .ok (.iconst (-1), 1) := by decide +kernel
theorem dX10_rules_23 : decode cX10_rules 23 = .ok (.ireturn, 1) := by decide +kernel
theorem dX10_run_0 : decode cX10_run 0 = .ok (.aload_n 0, 1) := by decide +kernel
theorem dX10_run_1 : decode cX10_run 1 = .ok (.iconst 0, 1) := by decide +kernel
theorem dX10_run_2 : decode cX10_run 2 = .ok (.putfield 121, 3) := by decide +kernel
theorem dX10_run_5 : decode cX10_run 5 = .ok (.aload_n 0, 1) := by decide +kernel
theorem dX10_run_6 : decode cX10_run 6 = .ok (.iload_n 1, 1) := by decide +kernel
theorem dX10_run_7 : decode cX10_run 7 = .ok (.invokevirtual 270, 3) := by decide +kernel
theorem dX10_run_10 : decode cX10_run 10 = .ok (.ifCond .eq 11, 3) := by decide +kernel
theorem dX10_run_13 : decode cX10_run 13 = .ok (.aload_n 0, 1) := by decide +kernel
theorem dX10_run_14 : decode cX10_run 14 = .ok (.iload_n 2, 1) := by decide +kernel
theorem dX10_run_15 : decode cX10_run 15 = .ok (.invokevirtual 326, 3) := by decide +kernel
theorem dX10_run_18 : decode cX10_run 18 = .ok (.ifCond .ne 5, 3) := by decide +kernel
theorem dX10_run_21 : decode cX10_run 21 = .ok (.iconst 0, 1) := by decide +kernel
theorem dX10_run_22 : decode cX10_run 22 = .ok (.ireturn, 1) := by decide +kernel
theorem dX10_run_23 : decode cX10_run 23 = .ok (.aload_n 0, 1) := by decide +kernel
theorem dX10_run_24 : decode cX10_run 24 = .ok (.iconst 0, 1) := by decide +kernel
theorem dX10_run_25 : decode cX10_run 25 = .ok (.iload_n 1, 1) := by decide +kernel
theorem dX10_run_26 : decode cX10_run 26 = .ok (.iload_n 2, 1) := by decide +kernel
theorem dX10_run_27 : decode cX10_run 27 = .ok (.iload_n 3, 1) := by decide +kernel
theorem dX10_run_28 : decode cX10_run 28 = .ok (.bipush 12, 2) := by decide +kernel
theorem dX10_run_30 : decode cX10_run 30 = .ok (.iconst (-1), 1) := by decide +kernel
theorem dX10_run_31 : decode cX10_run 31 = .ok (.invokevirtual 420, 3) := by decide +kernel
theorem dX10_run_34 : decode cX10_run 34 = .ok (.iconst 1, 1) := by decide +kernel
theorem dX10_run_35 : decode cX10_run 35 = .ok (.ireturn, 1) := by decide +kernel
theorem dX10_slack_0 : decode cX10_slack 0 = .ok (.aload_n 0, 1) := by decide +kernel
theorem dX10_slack_1 : decode cX10_slack 1 = .ok (.iconst 0, 1) := by decide +kernel
theorem dX10_slack_2 : decode cX10_slack 2 = .ok (.putfield 121, 3) := by decide +kernel
theorem dX10_slack_5 : decode cX10_slack 5 = .ok (.aload_n 0, 1) := by decide +kernel
theorem dX10_slack_6 : decode cX10_slack 6 = .ok (.iload_n 1, 1) := by decide +kernel
theorem dX10_slack_7 : decode cX10_slack 7 = .ok (.iload_n 2, 1) := by decide +kernel
theorem dX10_slack_8 : decode cX10_slack 8 = .ok (.iload 4, 2) := by decide +kernel
theorem dX10_slack_10 : decode cX10_slack 10 = .ok (.sipush 200, 3) := by decide +kernel
theorem dX10_slack_13 : decode cX10_slack 13 = .ok (.invokevirtual 447, 3) := by decide +kernel
theorem dX10_slack_16 : decode cX10_slack 16 = .ok (.ifCond .eq 20, 3) := by decide +kernel
theorem dX10_slack_19 : decode cX10_slack 19 = .ok (.iload 5, 2) := by decide +kernel
theorem dX10_slack_21 : decode cX10_slack 21 = .ok (.iconst 0, 1) := by decide +kernel
theorem dX10_slack_22 : decode cX10_slack 22 = .ok (.aload_n 0, 1) := by decide +kernel
theorem dX10_slack_23 : decode cX10_slack 23 = .ok (.getfield 32, 3) := by decide +kernel
theorem dX10_slack_26 : decode cX10_slack 26 = .ok (.iload_n 1, 1) := by decide +kernel
theorem dX10_slack_27 : decode cX10_slack 27 = .ok (.iaload, 1) := by decide +kernel
theorem dX10_slack_28 : decode cX10_slack 28 = .ok (.iconst 1, 1) := by decide +kernel
theorem dX10_slack_29 : decode cX10_slack 29 = .ok (.isub, 1) := by decide +kernel
theorem dX10_slack_30 : decode cX10_slack 30 = .ok (.invokestatic 129, 3) := by decide +kernel
theorem dX10_slack_33 : decode cX10_slack 33 = .ok (.ifCond .ne 5, 3) := by decide +kernel
theorem dX10_slack_36 : decode cX10_slack 36 = .ok (.iconst (-1), 1) := by decide +kernel
theorem dX10_slack_37 : decode cX10_slack 37 = .ok (.ireturn, 1) := by decide +kernel
theorem dX10_slack_38 : decode cX10_slack 38 = .ok (.iconst 3, 1) := by decide +kernel
theorem dX10_slack_39 : decode cX10_slack 39 = .ok (.istore 6, 2) := by decide +kernel
theorem dX10_slack_41 : decode cX10_slack 41 = .ok (.iload 6, 2) := by decide +kernel
theorem dX10_slack_43 : decode cX10_slack 43 = .ok (.ifCond .lt 62, 3) := by decide +kernel
theorem dX10_slack_46 : decode cX10_slack 46 = .ok (.aload_n 0, 1) := by decide +kernel
theorem dX10_slack_47 : decode cX10_slack 47 = .ok (.iconst 4, 1) := by decide +kernel
theorem dX10_slack_48 : decode cX10_slack 48 = .ok (.iload_n 1, 1) := by decide +kernel
theorem dX10_slack_49 : decode cX10_slack 49 = .ok (.iload_n 2, 1) := by decide +kernel
theorem dX10_slack_50 : decode cX10_slack 50 = .ok (.iload_n 3, 1) := by decide +kernel
theorem dX10_slack_51 : decode cX10_slack 51 = .ok (.bipush 12, 2) := by decide +kernel
theorem dX10_slack_53 : decode cX10_slack 53 = .ok (.iconst (-1), 1) := by decide +kernel
theorem dX10_slack_54 : decode cX10_slack 54 = .ok (.invokevirtual 420, 3) := by decide +kernel
theorem dX10_slack_57 : decode cX10_slack 57 = .ok (.aload_n 0, 1) := by decide +kernel
theorem dX10_slack_58 : decode cX10_slack 58 = .ok (.getfield 71, 3) := by decide +kernel
theorem dX10_slack_61 : decode cX10_slack 61 = .ok (.iconst 4, 1) := by decide +kernel
theorem dX10_slack_62 : decode cX10_slack 62 = .ok (.iload 5, 2) := by decide +kernel
theorem dX10_slack_64 : decode cX10_slack 64 = .ok (.invokestatic 332, 3) := by decide +kernel
theorem dX10_slack_67 : decode cX10_slack 67 = .ok (.bipush 10, 2) := by decide +kernel
theorem dX10_slack_69 : decode cX10_slack 69 = .ok (.iadd, 1) := by decide +kernel
theorem dX10_slack_70 : decode cX10_slack 70 = .ok (.iload 6, 2) := by decide +kernel
theorem dX10_slack_72 : decode cX10_slack 72 = .ok (.iastore, 1) := by decide +kernel
theorem dX10_slack_73 : decode cX10_slack 73 = .ok (.aload_n 0, 1) := by decide +kernel
theorem dX10_slack_74 : decode cX10_slack 74 = .ok (.iload 4, 2) := by decide +kernel
theorem dX10_slack_76 : decode cX10_slack 76 = .ok (.invokevirtual 451, 3) := by decide +kernel
theorem dX10_slack_79 : decode cX10_slack 79 = .ok (.aload_n 0, 1) := by decide +kernel
theorem dX10_slack_80 : decode cX10_slack 80 = .ok (.getfield 71, 3) := by decide +kernel
theorem dX10_slack_83 : decode cX10_slack 83 = .ok (.sipush 2886, 3) := by decide +kernel
theorem dX10_slack_86 : decode cX10_slack 86 = .ok (.iaload, 1) := by decide +kernel
theorem dX10_slack_87 : decode cX10_slack 87 = .ok (.aload_n 0, 1) := by decide +kernel
theorem dX10_slack_88 : decode cX10_slack 88 = .ok (.getfield 32, 3) := by decide +kernel
theorem dX10_slack_91 : decode cX10_slack 91 = .ok (.iload_n 1, 1) := by decide +kernel
theorem dX10_slack_92 : decode cX10_slack 92 = .ok (.iaload, 1) := by decide +kernel
theorem dX10_slack_93 : decode cX10_slack 93 = .ok (.if_icmp .ne 6, 3) := by decide +kernel
theorem dX10_slack_96 : decode cX10_slack 96 = .ok (.iload 6, 2) := by decide +kernel
theorem dX10_slack_98 : decode cX10_slack 98 = .ok (.ireturn, 1) := by decide +kernel
theorem dX10_slack_99 : decode cX10_slack 99 = .ok (.iinc 6 (-1), 3) := by decide +kernel
theorem dX10_slack_102 : decode cX10_slack 102 = .ok (.goto (-61), 3) := by decide +kernel
theorem dX10_slack_105 : decode cX10_slack 105 = .ok (.iconst (-1), 1) := by decide +kernel
theorem dX10_slack_106 : decode cX10_slack 106 = .ok (.ireturn, 1) := by decide +kernel
theorem dX10_state_0 : decode cX10_state 0 = .ok (.aload_n 0, 1) := by decide +kernel
theorem dX10_state_1 : decode cX10_state 1 = .ok (.iconst 0, 1) := by decide +kernel
theorem dX10_state_2 : decode cX10_state 2 = .ok (.putfield 121, 3) := by decide +kernel
theorem dX10_state_5 : decode cX10_state 5 = .ok (.aload_n 0, 1) := by decide +kernel
theorem dX10_state_6 : decode cX10_state 6 = .ok (.getfield 71, 3) := by decide +kernel
theorem dX10_state_9 : decode cX10_state 9 = .ok (.bipush 10, 2) := by decide +kernel
theorem dX10_state_11 : decode cX10_state 11 = .ok (.iaload, 1) := by decide +kernel
theorem dX10_state_12 : decode cX10_state 12 = .ok (.ifCond .ne 5, 3) := by decide +kernel
theorem dX10_state_15 : decode cX10_state 15 = .ok (.iconst (-1), 1) := by decide +kernel
theorem dX10_state_16 : decode cX10_state 16 = .ok (.ireturn, 1) := by decide +kernel
theorem dX10_state_17 : decode cX10_state 17 = .ok (.iload_n 1, 1) := by decide +kernel
theorem dX10_state_18 : decode cX10_state 18 = .ok (.tableswitch 102 0 6 #[42, 49, 57, 75, 83, 89, 95], 42) := by decide +kernel
theorem dX10_state_60 : decode cX10_state 60 = .ok (.aload_n 0, 1) := by decide +kernel
theorem dX10_state_61 : decode cX10_state 61 = .ok (.getfield 71, 3) := by decide +kernel
theorem dX10_state_64 : decode cX10_state 64 = .ok (.iconst 3, 1) := by decide +kernel
theorem dX10_state_65 : decode cX10_state 65 = .ok (.iaload, 1) := by decide +kernel
theorem dX10_state_66 : decode cX10_state 66 = .ok (.ireturn, 1) := by decide +kernel
theorem dX10_state_67 : decode cX10_state 67 = .ok (.aload_n 0, 1) := by decide +kernel
theorem dX10_state_68 : decode cX10_state 68 = .ok (.getfield 71, 3) := by decide +kernel
theorem dX10_state_71 : decode cX10_state 71 = .ok (.bipush 6, 2) := by decide +kernel
theorem dX10_state_73 : decode cX10_state 73 = .ok (.iaload, 1) := by decide +kernel
theorem dX10_state_74 : decode cX10_state 74 = .ok (.ireturn, 1) := by decide +kernel
theorem dX10_state_75 : decode cX10_state 75 = .ok (.aload_n 0, 1) := by decide +kernel
theorem dX10_state_76 : decode cX10_state 76 = .ok (.getfield 71, 3) := by decide +kernel
theorem dX10_state_79 : decode cX10_state 79 = .ok (.bipush 7, 2) := by decide +kernel
theorem dX10_state_81 : decode cX10_state 81 = .ok (.iaload, 1) := by decide +kernel
theorem dX10_state_82 : decode cX10_state 82 = .ok (.bipush 10, 2) := by decide +kernel
theorem dX10_state_84 : decode cX10_state 84 = .ok (.if_icmp .lt 7, 3) := by decide +kernel
theorem dX10_state_87 : decode cX10_state 87 = .ok (.iconst 1, 1) := by decide +kernel
theorem dX10_state_88 : decode cX10_state 88 = .ok (.goto 4, 3) := by decide +kernel
theorem dX10_state_91 : decode cX10_state 91 = .ok (.iconst 0, 1) := by decide +kernel
theorem dX10_state_92 : decode cX10_state 92 = .ok (.ireturn, 1) := by decide +kernel
theorem dX10_state_93 : decode cX10_state 93 = .ok (.aload_n 0, 1) := by decide +kernel
theorem dX10_state_94 : decode cX10_state 94 = .ok (.getfield 71, 3) := by decide +kernel
theorem dX10_state_97 : decode cX10_state 97 = .ok (.bipush 8, 2) := by decide +kernel
theorem dX10_state_99 : decode cX10_state 99 = .ok (.iaload, 1) := by decide +kernel
theorem dX10_state_100 : decode cX10_state 100 = .ok (.ireturn, 1) := by decide +kernel
theorem dX10_state_101 : decode cX10_state 101 = .ok (.aload_n 0, 1) := by decide +kernel
theorem dX10_state_102 : decode cX10_state 102 = .ok (.iconst 0, 1) := by decide +kernel
theorem dX10_state_103 : decode cX10_state 103 = .ok (.invokevirtual 434, 3) := by decide +kernel
theorem dX10_state_106 : decode cX10_state 106 = .ok (.ireturn, 1) := by decide +kernel
theorem dX10_state_107 : decode cX10_state 107 = .ok (.aload_n 0, 1) := by decide +kernel
theorem dX10_state_108 : decode cX10_state 108 = .ok (.iconst 1, 1) := by decide +kernel
theorem dX10_state_109 : decode cX10_state 109 = .ok (.invokevirtual 434, 3) := by decide +kernel
theorem dX10_state_112 : decode cX10_state 112 = .ok (.ireturn, 1) := by decide +kernel
theorem dX10_state_113 : decode cX10_state 113 = .ok (.aload_n 0, 1) := by decide +kernel
theorem dX10_state_114 : decode cX10_state 114 = .ok (.getfield 71, 3) := by decide +kernel
theorem dX10_state_117 : decode cX10_state 117 = .ok (.iconst 5, 1) := by decide +kernel
theorem dX10_state_118 : decode cX10_state 118 = .ok (.iaload, 1) := by decide +kernel
theorem dX10_state_119 : decode cX10_state 119 = .ok (.ireturn, 1) := by decide +kernel
theorem dX10_state_120 : decode cX10_state 120 = .ok (.iconst (-1), 1) := by decide +kernel
theorem dX10_state_121 : decode cX10_state 121 = .ok (.ireturn, 1) := by decide +kernel
theorem dX10_touch_0 : decode cX10_touch 0 = .ok (.aload_n 0, 1) := by decide +kernel
theorem dX10_touch_1 : decode cX10_touch 1 = .ok (.iconst 0, 1) := by decide +kernel
theorem dX10_touch_2 : decode cX10_touch 2 = .ok (.putfield 121, 3) := by decide +kernel
theorem dX10_touch_5 : decode cX10_touch 5 = .ok (.aload_n 0, 1) := by decide +kernel
theorem dX10_touch_6 : decode cX10_touch 6 = .ok (.iload_n 1, 1) := by decide +kernel
theorem dX10_touch_7 : decode cX10_touch 7 = .ok (.iload_n 2, 1) := by decide +kernel
theorem dX10_touch_8 : decode cX10_touch 8 = .ok (.iload 4, 2) := by decide +kernel
theorem dX10_touch_10 : decode cX10_touch 10 = .ok (.sipush 200, 3) := by decide +kernel
theorem dX10_touch_13 : decode cX10_touch 13 = .ok (.invokevirtual 447, 3) := by decide +kernel
theorem dX10_touch_16 : decode cX10_touch 16 = .ok (.ifCond .eq 44, 3) := by decide +kernel
theorem dX10_touch_19 : decode cX10_touch 19 = .ok (.iload 5, 2) := by decide +kernel
theorem dX10_touch_21 : decode cX10_touch 21 = .ok (.iconst 0, 1) := by decide +kernel
theorem dX10_touch_22 : decode cX10_touch 22 = .ok (.aload_n 0, 1) := by decide +kernel
theorem dX10_touch_23 : decode cX10_touch 23 = .ok (.getfield 32, 3) := by decide +kernel
theorem dX10_touch_26 : decode cX10_touch 26 = .ok (.iload_n 1, 1) := by decide +kernel
theorem dX10_touch_27 : decode cX10_touch 27 = .ok (.iaload, 1) := by decide +kernel
theorem dX10_touch_28 : decode cX10_touch 28 = .ok (.iconst 1, 1) := by decide +kernel
theorem dX10_touch_29 : decode cX10_touch 29 = .ok (.isub, 1) := by decide +kernel
theorem dX10_touch_30 : decode cX10_touch 30 = .ok (.invokestatic 129, 3) := by decide +kernel
theorem dX10_touch_33 : decode cX10_touch 33 = .ok (.ifCond .eq 27, 3) := by decide +kernel
theorem dX10_touch_36 : decode cX10_touch 36 = .ok (.iload 6, 2) := by decide +kernel
theorem dX10_touch_38 : decode cX10_touch 38 = .ok (.iconst 0, 1) := by decide +kernel
theorem dX10_touch_39 : decode cX10_touch 39 = .ok (.aload_n 0, 1) := by decide +kernel
theorem dX10_touch_40 : decode cX10_touch 40 = .ok (.getfield 32, 3) := by decide +kernel
theorem dX10_touch_43 : decode cX10_touch 43 = .ok (.iload_n 1, 1) := by decide +kernel
theorem dX10_touch_44 : decode cX10_touch 44 = .ok (.iaload, 1) := by decide +kernel
theorem dX10_touch_45 : decode cX10_touch 45 = .ok (.iconst 1, 1) := by decide +kernel
theorem dX10_touch_46 : decode cX10_touch 46 = .ok (.isub, 1) := by decide +kernel
theorem dX10_touch_47 : decode cX10_touch 47 = .ok (.invokestatic 129, 3) := by decide +kernel
theorem dX10_touch_50 : decode cX10_touch 50 = .ok (.ifCond .eq 10, 3) := by decide +kernel
theorem dX10_touch_53 : decode cX10_touch 53 = .ok (.iload 5, 2) := by decide +kernel
theorem dX10_touch_55 : decode cX10_touch 55 = .ok (.iload 6, 2) := by decide +kernel
theorem dX10_touch_57 : decode cX10_touch 57 = .ok (.if_icmp .ne 5, 3) := by decide +kernel
theorem dX10_touch_60 : decode cX10_touch 60 = .ok (.iconst (-1), 1) := by decide +kernel
theorem dX10_touch_61 : decode cX10_touch 61 = .ok (.ireturn, 1) := by decide +kernel
theorem dX10_touch_62 : decode cX10_touch 62 = .ok (.aload_n 0, 1) := by decide +kernel
theorem dX10_touch_63 : decode cX10_touch 63 = .ok (.iconst 4, 1) := by decide +kernel
theorem dX10_touch_64 : decode cX10_touch 64 = .ok (.iload_n 1, 1) := by decide +kernel
theorem dX10_touch_65 : decode cX10_touch 65 = .ok (.iload_n 2, 1) := by decide +kernel
theorem dX10_touch_66 : decode cX10_touch 66 = .ok (.iload_n 3, 1) := by decide +kernel
theorem dX10_touch_67 : decode cX10_touch 67 = .ok (.bipush 12, 2) := by decide +kernel
theorem dX10_touch_69 : decode cX10_touch 69 = .ok (.iconst (-1), 1) := by decide +kernel
theorem dX10_touch_70 : decode cX10_touch 70 = .ok (.invokevirtual 420, 3) := by decide +kernel
theorem dX10_touch_73 : decode cX10_touch 73 = .ok (.iconst 0, 1) := by decide +kernel
theorem dX10_touch_74 : decode cX10_touch 74 = .ok (.istore 7, 2) := by decide +kernel
theorem dX10_touch_76 : decode cX10_touch 76 = .ok (.iload 7, 2) := by decide +kernel
theorem dX10_touch_78 : decode cX10_touch 78 = .ok (.iload 4, 2) := by decide +kernel
theorem dX10_touch_80 : decode cX10_touch 80 = .ok (.if_icmp .ge 28, 3) := by decide +kernel
theorem dX10_touch_83 : decode cX10_touch 83 = .ok (.aload_n 0, 1) := by decide +kernel
theorem dX10_touch_84 : decode cX10_touch 84 = .ok (.iload 5, 2) := by decide +kernel
theorem dX10_touch_86 : decode cX10_touch 86 = .ok (.iload 6, 2) := by decide +kernel
theorem dX10_touch_88 : decode cX10_touch 88 = .ok (.invokevirtual 464, 3) := by decide +kernel
theorem dX10_touch_91 : decode cX10_touch 91 = .ok (.ifCond .eq 6, 3) := by decide +kernel
theorem dX10_touch_94 : decode cX10_touch 94 = .ok (.iload 7, 2) := by decide +kernel
theorem dX10_touch_96 : decode cX10_touch 96 = .ok (.ireturn, 1) := by decide +kernel
theorem dX10_touch_97 : decode cX10_touch 97 = .ok (.aload_n 0, 1) := by decide +kernel
theorem dX10_touch_98 : decode cX10_touch 98 = .ok (.iconst 1, 1) := by decide +kernel
theorem dX10_touch_99 : decode cX10_touch 99 = .ok (.invokevirtual 451, 3) := by decide +kernel
theorem dX10_touch_102 : decode cX10_touch 102 = .ok (.iinc 7 1, 3) := by decide +kernel
theorem dX10_touch_105 : decode cX10_touch 105 = .ok (.goto (-29), 3) := by decide +kernel
theorem dX10_touch_108 : decode cX10_touch 108 = .ok (.iconst (-1), 1) := by decide +kernel
theorem dX10_touch_109 : decode cX10_touch 109 = .ok (.ireturn, 1) := by decide +kernel
theorem dX10_track_0 : decode cX10_track 0 = .ok (.aload_n 0, 1) := by decide +kernel
theorem dX10_track_1 : decode cX10_track 1 = .ok (.iconst 0, 1) := by decide +kernel
theorem dX10_track_2 : decode cX10_track 2 = .ok (.putfield 121, 3) := by decide +kernel
theorem dX10_track_5 : decode cX10_track 5 = .ok (.iload_n 1, 1) := by decide +kernel
theorem dX10_track_6 : decode cX10_track 6 = .ok (.iconst 0, 1) := by decide +kernel
theorem dX10_track_7 : decode cX10_track 7 = .ok (.bipush 7, 2) := by decide +kernel
theorem dX10_track_9 : decode cX10_track 9 = .ok (.invokestatic 129, 3) := by decide +kernel
theorem dX10_track_12 : decode cX10_track 12 = .ok (.ifCond .eq 40, 3) := by decide +kernel
theorem dX10_track_15 : decode cX10_track 15 = .ok (.iload 4, 2) := by decide +kernel
theorem dX10_track_17 : decode cX10_track 17 = .ok (.iload_n 1, 1) := by decide +kernel
theorem dX10_track_18 : decode cX10_track 18 = .ok (.bipush 7, 2) := by decide +kernel
theorem dX10_track_20 : decode cX10_track 20 = .ok (.invokestatic 129, 3) := by decide +kernel
theorem dX10_track_23 : decode cX10_track 23 = .ok (.ifCond .eq 29, 3) := by decide +kernel
theorem dX10_track_26 : decode cX10_track 26 = .ok (.iload_n 3, 1) := by decide +kernel
theorem dX10_track_27 : decode cX10_track 27 = .ok (.iconst 0, 1) := by decide +kernel
theorem dX10_track_28 : decode cX10_track 28 = .ok (.bipush 99, 2) := by decide +kernel
theorem dX10_track_30 : decode cX10_track 30 = .ok (.invokestatic 129, 3) := by decide +kernel
theorem dX10_track_33 : decode cX10_track 33 = .ok (.ifCond .eq 19, 3) := by decide +kernel
theorem dX10_track_36 : decode cX10_track 36 = .ok (.iload_n 2, 1) := by decide +kernel
theorem dX10_track_37 : decode cX10_track 37 = .ok (.iconst 0, 1) := by decide +kernel
theorem dX10_track_38 : decode cX10_track 38 = .ok (.aload_n 0, 1) := by decide +kernel
theorem dX10_track_39 : decode cX10_track 39 = .ok (.getfield 53, 3) := by decide +kernel
theorem dX10_track_42 : decode cX10_track 42 = .ok (.iload_n 1, 1) := by decide +kernel
theorem dX10_track_43 : decode cX10_track 43 = .ok (.iaload, 1) := by decide +kernel
theorem dX10_track_44 : decode cX10_track 44 = .ok (.iconst 1, 1) := by decide +kernel
theorem dX10_track_45 : decode cX10_track 45 = .ok (.isub, 1) := by decide +kernel
theorem dX10_track_46 : decode cX10_track 46 = .ok (.invokestatic 129, 3) := by decide +kernel
theorem dX10_track_49 : decode cX10_track 49 = .ok (.ifCond .ne 5, 3) := by decide +kernel
theorem dX10_track_52 : decode cX10_track 52 = .ok (.iconst (-1), 1) := by decide +kernel
theorem dX10_track_53 : decode cX10_track 53 = .ok (.ireturn, 1) := by decide +kernel
theorem dX10_track_54 : decode cX10_track 54 = .ok (.iload_n 2, 1) := by decide +kernel
theorem dX10_track_55 : decode cX10_track 55 = .ok (.istore 5, 2) := by decide +kernel
theorem dX10_track_57 : decode cX10_track 57 = .ok (.iload_n 1, 1) := by decide +kernel
theorem dX10_track_58 : decode cX10_track 58 = .ok (.istore 6, 2) := by decide +kernel
theorem dX10_track_60 : decode cX10_track 60 = .ok (.iload 6, 2) := by decide +kernel
theorem dX10_track_62 : decode cX10_track 62 = .ok (.iload 4, 2) := by decide +kernel
theorem dX10_track_64 : decode cX10_track 64 = .ok (.if_icmp .ge 31, 3) := by decide +kernel
theorem dX10_track_67 : decode cX10_track 67 = .ok (.iload 5, 2) := by decide +kernel
theorem dX10_track_69 : decode cX10_track 69 = .ok (.iconst (-1), 1) := by decide +kernel
theorem dX10_track_70 : decode cX10_track 70 = .ok (.if_icmp .eq 25, 3) := by decide +kernel
theorem dX10_track_73 : decode cX10_track 73 = .ok (.aload_n 0, 1) := by decide +kernel
theorem dX10_track_74 : decode cX10_track 74 = .ok (.iload 6, 2) := by decide +kernel
theorem dX10_track_76 : decode cX10_track 76 = .ok (.iload_n 3, 1) := by decide +kernel
theorem dX10_track_77 : decode cX10_track 77 = .ok (.invokevirtual 488, 3) := by decide +kernel
theorem dX10_track_80 : decode cX10_track 80 = .ok (.aload_n 0, 1) := by decide +kernel
theorem dX10_track_81 : decode cX10_track 81 = .ok (.getfield 110, 3) := by decide +kernel
theorem dX10_track_84 : decode cX10_track 84 = .ok (.iload 5, 2) := by decide +kernel
theorem dX10_track_86 : decode cX10_track 86 = .ok (.iaload, 1) := by decide +kernel
theorem dX10_track_87 : decode cX10_track 87 = .ok (.istore 5, 2) := by decide +kernel
theorem dX10_track_89 : decode cX10_track 89 = .ok (.iinc 6 1, 3) := by decide +kernel
theorem dX10_track_92 : decode cX10_track 92 = .ok (.goto (-32), 3) := by decide +kernel
theorem dX10_track_95 : decode cX10_track 95 = .ok (.iload 5, 2) := by decide +kernel
theorem dX10_track_97 : decode cX10_track 97 = .ok (.ireturn, 1) := by decide +kernel
theorem dX10_two_0 : decode cX10_two 0 = .ok (.aload_n 0, 1) := by decide +kernel
theorem dX10_two_1 : decode cX10_two 1 = .ok (.iconst 0, 1) := by decide +kernel
theorem dX10_two_2 : decode cX10_two 2 = .ok (.putfield 121, 3) := by decide +kernel
theorem dX10_two_5 : decode cX10_two 5 = .ok (.aload_n 0, 1) := by decide +kernel
theorem dX10_two_6 : decode cX10_two 6 = .ok (.iload_n 1, 1) := by decide +kernel
theorem dX10_two_7 : decode cX10_two 7 = .ok (.invokevirtual 270, 3) := by decide +kernel
theorem dX10_two_10 : decode cX10_two 10 = .ok (.ifCond .eq 48, 3) := by decide +kernel
theorem dX10_two_13 : decode cX10_two 13 = .ok (.aload_n 0, 1) := by decide +kernel
theorem dX10_two_14 : decode cX10_two 14 = .ok (.iload_n 2, 1) := by decide +kernel
theorem dX10_two_15 : decode cX10_two 15 = .ok (.invokevirtual 326, 3) := by decide +kernel
theorem dX10_two_18 : decode cX10_two 18 = .ok (.ifCond .eq 40, 3) := by decide +kernel
theorem dX10_two_21 : decode cX10_two 21 = .ok (.aload_n 0, 1) := by decide +kernel
theorem dX10_two_22 : decode cX10_two 22 = .ok (.getfield 32, 3) := by decide +kernel
theorem dX10_two_25 : decode cX10_two 25 = .ok (.iload_n 1, 1) := by decide +kernel
theorem dX10_two_26 : decode cX10_two 26 = .ok (.iaload, 1) := by decide +kernel
theorem dX10_two_27 : decode cX10_two 27 = .ok (.iconst 2, 1) := by decide +kernel
theorem dX10_two_28 : decode cX10_two 28 = .ok (.if_icmp .ne 30, 3) := by decide +kernel
theorem dX10_two_31 : decode cX10_two 31 = .ok (.iload_n 3, 1) := by decide +kernel
theorem dX10_two_32 : decode cX10_two 32 = .ok (.iconst 0, 1) := by decide +kernel
theorem dX10_two_33 : decode cX10_two 33 = .ok (.bipush 8, 2) := by decide +kernel
theorem dX10_two_35 : decode cX10_two 35 = .ok (.invokestatic 129, 3) := by decide +kernel
theorem dX10_two_38 : decode cX10_two 38 = .ok (.ifCond .eq 20, 3) := by decide +kernel
theorem dX10_two_41 : decode cX10_two 41 = .ok (.iload 4, 2) := by decide +kernel
theorem dX10_two_43 : decode cX10_two 43 = .ok (.ifCond .eq 17, 3) := by decide +kernel
theorem dX10_two_46 : decode cX10_two 46 = .ok (.iload 4, 2) := by decide +kernel
theorem dX10_two_48 : decode cX10_two 48 = .ok (.bipush 10, 2) := by decide +kernel
theorem dX10_two_50 : decode cX10_two 50 = .ok (.bipush 18, 2) := by decide +kernel
theorem dX10_two_52 : decode cX10_two 52 = .ok (.invokestatic 129, 3) := by decide +kernel
theorem dX10_two_55 : decode cX10_two 55 = .ok (.ifCond .ne 5, 3) := by decide +kernel
theorem dX10_two_58 : decode cX10_two 58 = .ok (.iconst (-1), 1) := by decide +kernel
theorem dX10_two_59 : decode cX10_two 59 = .ok (.ireturn, 1) := by decide +kernel
theorem dX10_two_60 : decode cX10_two 60 = .ok (.aload_n 0, 1) := by decide +kernel
theorem dX10_two_61 : decode cX10_two 61 = .ok (.iconst 5, 1) := by decide +kernel
theorem dX10_two_62 : decode cX10_two 62 = .ok (.iload_n 1, 1) := by decide +kernel
theorem dX10_two_63 : decode cX10_two 63 = .ok (.iload_n 2, 1) := by decide +kernel
theorem dX10_two_64 : decode cX10_two 64 = .ok (.iconst 0, 1) := by decide +kernel
theorem dX10_two_65 : decode cX10_two 65 = .ok (.bipush 12, 2) := by decide +kernel
theorem dX10_two_67 : decode cX10_two 67 = .ok (.iconst (-1), 1) := by decide +kernel
theorem dX10_two_68 : decode cX10_two 68 = .ok (.invokevirtual 420, 3) := by decide +kernel
theorem dX10_two_71 : decode cX10_two 71 = .ok (.aload_n 0, 1) := by decide +kernel
theorem dX10_two_72 : decode cX10_two 72 = .ok (.iload_n 3, 1) := by decide +kernel
theorem dX10_two_73 : decode cX10_two 73 = .ok (.invokevirtual 444, 3) := by decide +kernel
theorem dX10_two_76 : decode cX10_two 76 = .ok (.iload 4, 2) := by decide +kernel
theorem dX10_two_78 : decode cX10_two 78 = .ok (.ifCond .ne 10, 3) := by decide +kernel
theorem dX10_two_81 : decode cX10_two 81 = .ok (.aload_n 0, 1) := by decide +kernel
theorem dX10_two_82 : decode cX10_two 82 = .ok (.getfield 438, 3) := by decide +kernel
theorem dX10_two_85 : decode cX10_two 85 = .ok (.goto 13, 3) := by decide +kernel
theorem dX10_two_88 : decode cX10_two 88 = .ok (.aload_n 0, 1) := by decide +kernel
theorem dX10_two_89 : decode cX10_two 89 = .ok (.getfield 101, 3) := by decide +kernel
theorem dX10_two_92 : decode cX10_two 92 = .ok (.iload 4, 2) := by decide +kernel
theorem dX10_two_94 : decode cX10_two 94 = .ok (.bipush 10, 2) := by decide +kernel
theorem dX10_two_96 : decode cX10_two 96 = .ok (.isub, 1) := by decide +kernel
theorem dX10_two_97 : decode cX10_two 97 = .ok (.iaload, 1) := by decide +kernel
theorem dX10_two_98 : decode cX10_two 98 = .ok (.ireturn, 1) := by decide +kernel
theorem dX10_walker_0 : decode cX10_walker 0 = .ok (.aload_n 0, 1) := by decide +kernel
theorem dX10_walker_1 : decode cX10_walker 1 = .ok (.iconst 0, 1) := by decide +kernel
theorem dX10_walker_2 : decode cX10_walker 2 = .ok (.putfield 121, 3) := by decide +kernel
theorem dX10_walker_5 : decode cX10_walker 5 = .ok (.aload_n 0, 1) := by decide +kernel
theorem dX10_walker_6 : decode cX10_walker 6 = .ok (.iload_n 1, 1) := by decide +kernel
theorem dX10_walker_7 : decode cX10_walker 7 = .ok (.invokevirtual 270, 3) := by decide +kernel
theorem dX10_walker_10 : decode cX10_walker 10 = .ok (.ifCond .eq 48, 3) := by decide +kernel
theorem dX10_walker_13 : decode cX10_walker 13 = .ok (.iload_n 2, 1) := by decide +kernel
theorem dX10_walker_14 : decode cX10_walker 14 = .ok (.iconst 0, 1) := by decide +kernel
theorem dX10_walker_15 : decode cX10_walker 15 = .ok (.aload_n 0, 1) := by decide +kernel
theorem dX10_walker_16 : decode cX10_walker 16 = .ok (.getfield 32, 3) := by decide +kernel
theorem dX10_walker_19 : decode cX10_walker 19 = .ok (.iload_n 1, 1) := by decide +kernel
theorem dX10_walker_20 : decode cX10_walker 20 = .ok (.iaload, 1) := by decide +kernel
theorem dX10_walker_21 : decode cX10_walker 21 = .ok (.iconst 1, 1) := by decide +kernel
theorem dX10_walker_22 : decode cX10_walker 22 = .ok (.isub, 1) := by decide +kernel
theorem dX10_walker_23 : decode cX10_walker 23 = .ok (.invokestatic 129, 3) := by decide +kernel
theorem dX10_walker_26 : decode cX10_walker 26 = .ok (.ifCond .eq 32, 3) := by decide +kernel
theorem dX10_walker_29 : decode cX10_walker 29 = .ok (.iload_n 3, 1) := by decide +kernel
theorem dX10_walker_30 : decode cX10_walker 30 = .ok (.iconst 0, 1) := by decide +kernel
theorem dX10_walker_31 : decode cX10_walker 31 = .ok (.bipush 7, 2) := by decide +kernel
theorem dX10_walker_33 : decode cX10_walker 33 = .ok (.invokestatic 129, 3) := by decide +kernel
theorem dX10_walker_36 : decode cX10_walker 36 = .ok (.ifCond .eq 22, 3) := by decide +kernel
theorem dX10_walker_39 : decode cX10_walker 39 = .ok (.aload_n 0, 1) := by decide +kernel
theorem dX10_walker_40 : decode cX10_walker 40 = .ok (.getfield 41, 3) := by decide +kernel
theorem dX10_walker_43 : decode cX10_walker 43 = .ok (.bipush 8, 2) := by decide +kernel
theorem dX10_walker_45 : decode cX10_walker 45 = .ok (.bipush 12, 2) := by decide +kernel
theorem dX10_walker_47 : decode cX10_walker 47 = .ok (.iload_n 1, 1) := by decide +kernel
theorem dX10_walker_48 : decode cX10_walker 48 = .ok (.imul, 1) := by decide +kernel
theorem dX10_walker_49 : decode cX10_walker 49 = .ok (.iload_n 2, 1) := by decide +kernel
theorem dX10_walker_50 : decode cX10_walker 50 = .ok (.iadd, 1) := by decide +kernel
theorem dX10_walker_51 : decode cX10_walker 51 = .ok (.imul, 1) := by decide +kernel
theorem dX10_walker_52 : decode cX10_walker 52 = .ok (.iload_n 3, 1) := by decide +kernel
theorem dX10_walker_53 : decode cX10_walker 53 = .ok (.iadd, 1) := by decide +kernel
theorem dX10_walker_54 : decode cX10_walker 54 = .ok (.iaload, 1) := by decide +kernel
theorem dX10_walker_55 : decode cX10_walker 55 = .ok (.goto 5, 3) := by decide +kernel
theorem dX10_walker_58 : decode cX10_walker 58 = .ok (.bipush (-2), 2) := by decide +kernel
theorem dX10_walker_60 : decode cX10_walker 60 = .ok (.ireturn, 1) := by decide +kernel
theorem dX10_worth_0 : decode cX10_worth 0 = .ok (.aload_n 0, 1) := by decide +kernel
theorem dX10_worth_1 : decode cX10_worth 1 = .ok (.iconst 0, 1) := by decide +kernel
theorem dX10_worth_2 : decode cX10_worth 2 = .ok (.putfield 121, 3) := by decide +kernel
theorem dX10_worth_5 : decode cX10_worth 5 = .ok (.iload_n 1, 1) := by decide +kernel
theorem dX10_worth_6 : decode cX10_worth 6 = .ok (.iload_n 2, 1) := by decide +kernel
theorem dX10_worth_7 : decode cX10_worth 7 = .ok (.invokestatic 485, 3) := by decide +kernel
theorem dX10_worth_10 : decode cX10_worth 10 = .ok (.ifCond .ne 5, 3) := by decide +kernel
theorem dX10_worth_13 : decode cX10_worth 13 = .ok (.iconst (-1), 1) := by decide +kernel
theorem dX10_worth_14 : decode cX10_worth 14 = .ok (.ireturn, 1) := by decide +kernel
theorem dX10_worth_15 : decode cX10_worth 15 = .ok (.aload_n 0, 1) := by decide +kernel
theorem dX10_worth_16 : decode cX10_worth 16 = .ok (.iload_n 1, 1) := by decide +kernel
theorem dX10_worth_17 : decode cX10_worth 17 = .ok (.iload_n 2, 1) := by decide +kernel
theorem dX10_worth_18 : decode cX10_worth 18 = .ok (.invokevirtual 488, 3) := by decide +kernel
theorem dX10_worth_21 : decode cX10_worth 21 = .ok (.aload_n 0, 1) := by decide +kernel
theorem dX10_worth_22 : decode cX10_worth 22 = .ok (.getfield 482, 3) := by decide +kernel
theorem dX10_worth_25 : decode cX10_worth 25 = .ok (.ireturn, 1) := by decide +kernel
section P_X10_flow
variable {p : Program} {l : Launch} {e : Env} {s : State} {m : MethodId} {args : Array Value} {below : List Frame} {meth : Method} {c : Code} {G : GG} {A : Nat → Prop} {ad : Nat → Nat} {S : ST} {N : Nat} {r : Int32} {dy' : DY}
set_option maxHeartbeats 4000000 in
set_option maxRecDepth 100000 in
theorem B_X10_flow_99 (C : CX p s m args c cX10_flow 8 RX10 G A) (HR : meth.sig.returnType = (Option.some Jvm.ClassFile.FieldType.int)) (HL : meth.locks = false) (hG : Good S) {K45 : Nat → Int32 → Int32 → Int32 → DY → Option (Int32 × DY)} (hK45 : ∀ (x0 : Nat) (x4 : Int32) (x5 : Int32) (x6 : Int32) (dy : DY), gs S x0 = (0, 10) → K45 x0 x4 x5 x6 dy = some (r, dy') → WJ p l e (rmD (11)) s m args below meth c 8 G A 0 0 (MQ below (QI G ad A S r dy') args s 0 0 A) ad 45 [(0, .ref (ad x0)), (4, .int x4), (5, .int x5), (6, .int x6)] [] S dy) : ∀ (x0 : Nat) (x4 : Int32) (x5 : Int32) (x6 : Int32) (y0 : Int32) (y1 : Nat) (y2 : Int32) (dy : DY), gs S x0 = (0, 10) → gs S y1 = (1, 201) → F_X10_flow_99 S N K45 x0 x4 x5 x6 y0 y1 y2 dy = some (r, dy') → WJ p l e (rmD (11)) s m args below meth c 8 G A 0 0 (MQ below (QI G ad A S r dy') args s 0 0 A) ad 99 [(0, .ref (ad x0)), (4, .int x4), (5, .int x5), (6, .int x6)] [.int y2, .ref (ad y1), .int y0] S dy := by
  intro x0 x4 x5 x6 y0 y1 y2 dy Tx0 Ty1 E
  rw [F_X10_flow_99_s] at E
  refine ww_iald C dX10_flow_99 Ty1 E (fun _ E => ?_)
  refine ww_isub C dX10_flow_100 ?_
  refine ww_istore (lv' := [(7, .int (y0 - (gi dy y1 y2.toNatClampNeg))), (0, .ref (ad x0)), (4, .int x4), (5, .int x5), (6, .int x6)]) C dX10_flow_101 (by decide) rfl ?_
  refine ww_iload C dX10_flow_103 0 rfl ?_
  refine ww_iload C dX10_flow_105 3 rfl ?_
  refine ww_icmp_le (tgt := 115) C dX10_flow_107 (by decide) E (fun _ E => ?_) (fun _ E => ?_)
  · refine ww_iload C dX10_flow_115 3 rfl ?_
    refine ww_istore (lv' := [(5, .int x5), (7, .int (y0 - (gi dy y1 y2.toNatClampNeg))), (0, .ref (ad x0)), (4, .int x4), (6, .int x6)]) C dX10_flow_117 (by decide) rfl ?_
    refine ww_iinc (v := (x6 + (1 : Int32))) (lv' := [(6, .int (x6 + (1 : Int32))), (5, .int x5), (7, .int (y0 - (gi dy y1 y2.toNatClampNeg))), (0, .ref (ad x0)), (4, .int x4)]) C dX10_flow_119 4 rfl rfl (by decide) rfl ?_
    refine ww_goto (tgt := 45) C dX10_flow_122 (by decide) ?_
    refine ww_sub (lv' := [(0, .ref (ad x0)), (4, .int x4), (5, .int x5), (6, .int (x6 + (1 : Int32)))]) [3, 4, 1, 0] rfl ?_
    exact hK45 x0 x4 x5 (x6 + (1 : Int32)) dy Tx0 E
  · refine ww_iload C dX10_flow_110 0 rfl ?_
    refine ww_goto (tgt := 117) C dX10_flow_112 (by decide) ?_
    refine ww_istore (lv' := [(5, .int (y0 - (gi dy y1 y2.toNatClampNeg))), (7, .int (y0 - (gi dy y1 y2.toNatClampNeg))), (0, .ref (ad x0)), (4, .int x4), (6, .int x6)]) C dX10_flow_117 (by decide) rfl ?_
    refine ww_iinc (v := (x6 + (1 : Int32))) (lv' := [(6, .int (x6 + (1 : Int32))), (5, .int (y0 - (gi dy y1 y2.toNatClampNeg))), (7, .int (y0 - (gi dy y1 y2.toNatClampNeg))), (0, .ref (ad x0)), (4, .int x4)]) C dX10_flow_119 4 rfl rfl (by decide) rfl ?_
    refine ww_goto (tgt := 45) C dX10_flow_122 (by decide) ?_
    refine ww_sub (lv' := [(0, .ref (ad x0)), (4, .int x4), (5, .int (y0 - (gi dy y1 y2.toNatClampNeg))), (6, .int (x6 + (1 : Int32)))]) [3, 4, 1, 0] rfl ?_
    exact hK45 x0 x4 (y0 - (gi dy y1 y2.toNatClampNeg)) (x6 + (1 : Int32)) dy Tx0 E
set_option maxHeartbeats 4000000 in
set_option maxRecDepth 100000 in
theorem B_X10_flow_45 (C : CX p s m args c cX10_flow 8 RX10 G A) (HR : meth.sig.returnType = (Option.some Jvm.ClassFile.FieldType.int)) (HL : meth.locks = false) (hG : Good S) : ∀ k : Nat, ∀ (x0 : Nat) (x4 : Int32) (x5 : Int32) (x6 : Int32) (dy : DY), gs S x0 = (0, 10) → (F_X10_flow_45 S N k) x0 x4 x5 x6 dy = some (r, dy') → WJ p l e (rmD (11)) s m args below meth c 8 G A 0 0 (MQ below (QI G ad A S r dy') args s 0 0 A) ad 45 [(0, .ref (ad x0)), (4, .int x4), (5, .int x5), (6, .int x6)] [] S dy := by
  intro k
  induction k with
  | zero => exact fun _ _ _ _ _ _ E => nomatch (show none = some (r, dy') from E)
  | succ k ih =>
    intro x0 x4 x5 x6 dy Tx0 E
    rw [F_X10_flow_45_s] at E
    refine ww_iload C dX10_flow_45 3 rfl ?_
    refine ww_iload C dX10_flow_47 1 rfl ?_
    refine ww_icmp_gt (tgt := 125) C dX10_flow_49 (by decide) E (fun _ E => ?_) (fun _ E => ?_)
    · refine ww_iload C dX10_flow_125 2 rfl ?_
      exact ww_iret C HR HL dX10_flow_127 E
    · refine ww_aload_n C dX10_flow_52 rfl 0 rfl ?_
      refine ww_iconst (v := 1) C dX10_flow_53 (by decide) ?_
      obtain ⟨u1, e_2, E⟩ := bind_of E
      refine ww_callV C (runs_V (n := 1) (st := []) C [.int (1 : Int32)] (M_X10_tryOn l G ad N hG x0 (1 : Int32) dy Tx0 e_2) ⟨q1801, q118, by decide⟩ q1798 q1800 q96 (ci := 10) rfl Tx0 rfl (Nat.le_of_ble_eq_true rfl) ⟨Nat.le_of_ble_eq_true rfl, Nat.le_of_ble_eq_true rfl⟩ ⟨Nat.zero_le _, Nat.zero_le _⟩ dX10_flow_54 rfl) ?_
      refine ww_aload_n C dX10_flow_57 rfl 0 rfl ?_
      have T_3 : gs S (gr S x0 55) = (1, 201) := hG.1 _ 10 Tx0 55 (by decide)
      refine ww_getr (ci := 10) (k0 := 55) C dX10_flow_58 rfl rfl inm10 (by decide) Tx0 q1333 rfl T_3 (by decide) ?_
      refine ww_iload C dX10_flow_61 3 rfl ?_
      refine ww_aload_n C dX10_flow_63 rfl 0 rfl ?_
      have T_4 : gs S (gr S x0 39) = (1, 10080) := hG.1 _ 10 Tx0 39 (by decide)
      refine ww_getr (ci := 10) (k0 := 39) C dX10_flow_64 rfl rfl inm10 (by decide) Tx0 q1317 rfl T_4 (by decide) ?_
      refine ww_sipush (v := 2886) C dX10_flow_67 (by decide) ?_
      refine ww_iald C dX10_flow_70 T_4 E (fun _ E => ?_)
      refine ww_iast C dX10_flow_71 T_3 E (fun _ E => ?_)
      refine ww_bd E (fun dy5 E => ?_)
      refine ww_aload_n C dX10_flow_72 rfl 0 rfl ?_
      have T_6 : gs S (gr S x0 55) = (1, 201) := hG.1 _ 10 Tx0 55 (by decide)
      refine ww_getr (ci := 10) (k0 := 55) C dX10_flow_73 rfl rfl inm10 (by decide) Tx0 q1333 rfl T_6 (by decide) ?_
      refine ww_iload C dX10_flow_76 3 rfl ?_
      refine ww_iald C dX10_flow_78 T_6 E (fun _ E => ?_)
      refine ww_aload_n C dX10_flow_79 rfl 0 rfl ?_
      have T_7 : gs S (gr S x0 55) = (1, 201) := hG.1 _ 10 Tx0 55 (by decide)
      refine ww_getr (ci := 10) (k0 := 55) C dX10_flow_80 rfl rfl inm10 (by decide) Tx0 q1333 rfl T_7 (by decide) ?_
      refine ww_iload C dX10_flow_83 3 rfl ?_
      refine ww_bipush (v := 10) C dX10_flow_85 (by decide) ?_
      refine ww_icmp_le (tgt := 98) C dX10_flow_87 (by decide) E (fun _ E => ?_) (fun _ E => ?_)
      · refine ww_iconst (v := 0) C dX10_flow_98 (by decide) ?_
        refine ww_sub (lv' := [(0, .ref (ad x0)), (4, .int x4), (5, .int x5), (6, .int x6)]) [0, 1, 2, 3] rfl ?_
        exact (B_X10_flow_99 C HR HL hG ih) x0 x4 x5 x6 (gi dy5 (gr S x0 55) x6.toNatClampNeg) (gr S x0 55) (0 : Int32) dy5 Tx0 T_7 E
      · refine ww_iload C dX10_flow_90 3 rfl ?_
        refine ww_bipush (v := 10) C dX10_flow_92 (by decide) ?_
        refine ww_isub C dX10_flow_94 ?_
        refine ww_goto (tgt := 99) C dX10_flow_95 (by decide) ?_
        refine ww_sub (lv' := [(0, .ref (ad x0)), (4, .int x4), (5, .int x5), (6, .int x6)]) [0, 1, 2, 3] rfl ?_
        exact (B_X10_flow_99 C HR HL hG ih) x0 x4 x5 x6 (gi dy5 (gr S x0 55) x6.toNatClampNeg) (gr S x0 55) (x6 - (10 : Int32)) dy5 Tx0 T_7 E
end P_X10_flow
set_option maxHeartbeats 4000000 in
set_option maxRecDepth 100000 in
theorem M_X10_flow (l : Launch) (G : GG) (ad : Nat → Nat) {S : ST} (N : Nat) (hG : Good S) (a0 : Nat) (a1 : Int32) (a2 : Int32) (a3 : Int32) (a4 : Int32) (dy : DY) (T0 : gs S a0 = (0, 10)) {r : Int32} {dy' : DY} (E : F_X10_flow S N a0 a1 a2 a3 a4 dy = some (r, dy')) : MC l yX10_flow cX10_flow 8 (Option.some Jvm.ClassFile.FieldType.int) (11) G ad [.ref (ad a0), .int a1, .int a2, .int a3, .int a4] S dy (fun A => QI G ad A S r dy') := by
  rw [F_X10_flow_s] at E
  refine mc_of RX10 (by decide) rfl (Nat.le_of_ble_eq_true rfl) (fun p e s m args below meth c A C HR HL => ?_)
  refine ww_sub (lv' := [(0, .ref (ad a0)), (1, .int a1), (2, .int a2), (3, .int a3), (4, .int a4)]) [0, 1, 2, 3, 4] rfl ?_
  refine ww_aload_n C dX10_flow_0 rfl 0 rfl ?_
  refine ww_iconst (v := 0) C dX10_flow_1 (by decide) ?_
  refine ww_puti (ci := 10) (k0 := 0) C dX10_flow_2 rfl rfl inm10 tyX10_ok nmX10 (by decide) T0 q1278 rfl rfl rfl ?_
  refine ww_bd E (fun dy1 E => ?_)
  refine ww_aload_n C dX10_flow_5 rfl 0 rfl ?_
  refine ww_iload_n C dX10_flow_6 rfl 1 rfl ?_
  refine ww_iload_n C dX10_flow_7 rfl 2 rfl ?_
  refine ww_iload C dX10_flow_8 4 rfl ?_
  refine ww_sipush (v := 200) C dX10_flow_10 (by decide) ?_
  obtain ⟨u2, e_3, E⟩ := bind_of E
  refine ww_callI C (runs_V (n := 4) (st := []) C [.int a1, .int a2, .int a4, .int (200 : Int32)] (M_X10_isTried l G ad N hG a0 a1 a2 a4 (200 : Int32) dy1 T0 e_3) ⟨q1797, q118, by decide⟩ q1794 q1796 q95 (ci := 10) rfl T0 rfl (Nat.le_of_ble_eq_true rfl) ⟨Nat.le_of_ble_eq_true rfl, Nat.le_of_ble_eq_true rfl⟩ ⟨Nat.zero_le _, Nat.zero_le _⟩ dX10_flow_13 rfl) ?_
  refine ww_if_ne (tgt := 21) C dX10_flow_16 (by decide) E (fun _ E => ?_) (fun _ E => ?_)
  · refine ww_aload_n C dX10_flow_21 rfl 0 rfl ?_
    refine ww_iconst (v := 4) C dX10_flow_22 (by decide) ?_
    refine ww_iload_n C dX10_flow_23 rfl 1 rfl ?_
    refine ww_iload_n C dX10_flow_24 rfl 2 rfl ?_
    refine ww_iload_n C dX10_flow_25 rfl 3 rfl ?_
    refine ww_bipush (v := 12) C dX10_flow_26 (by decide) ?_
    refine ww_iconst (v := (-1)) C dX10_flow_28 (by decide) ?_
    obtain ⟨u4, e_5, E⟩ := bind_of E
    refine ww_callV C (runs_V (n := 6) (st := []) C [.int (4 : Int32), .int a1, .int a2, .int a3, .int (12 : Int32), .int (-1 : Int32)] (M_X10_lay l G ad N hG a0 (4 : Int32) a1 a2 a3 (12 : Int32) (-1 : Int32) u2.2 T0 e_5) ⟨q1641, q118, by decide⟩ q1638 q1640 q66 (ci := 10) rfl T0 rfl (Nat.le_of_ble_eq_true rfl) ⟨Nat.le_of_ble_eq_true rfl, Nat.le_of_ble_eq_true rfl⟩ ⟨Nat.zero_le _, Nat.zero_le _⟩ dX10_flow_29 rfl) ?_
    refine ww_iconst (v := 0) C dX10_flow_32 (by decide) ?_
    refine ww_istore (lv' := [(5, .int (0 : Int32)), (0, .ref (ad a0)), (1, .int a1), (2, .int a2), (3, .int a3), (4, .int a4)]) C dX10_flow_33 (by decide) rfl ?_
    refine ww_aload_n C dX10_flow_35 rfl 1 rfl ?_
    have T_6 : gs S (gr S a0 55) = (1, 201) := hG.1 _ 10 T0 55 (by decide)
    refine ww_getr (ci := 10) (k0 := 55) C dX10_flow_36 rfl rfl inm10 (by decide) T0 q1333 rfl T_6 (by decide) ?_
    refine ww_iconst (v := 0) C dX10_flow_39 (by decide) ?_
    refine ww_iconst (v := 0) C dX10_flow_40 (by decide) ?_
    refine ww_iast C dX10_flow_41 T_6 E (fun _ E => ?_)
    refine ww_bd E (fun dy7 E => ?_)
    refine ww_iconst (v := 1) C dX10_flow_42 (by decide) ?_
    refine ww_istore (lv' := [(6, .int (1 : Int32)), (5, .int (0 : Int32)), (0, .ref (ad a0)), (1, .int a1), (2, .int a2), (3, .int a3), (4, .int a4)]) C dX10_flow_43 (by decide) rfl ?_
    refine ww_sub (lv' := [(0, .ref (ad a0)), (4, .int a4), (5, .int (0 : Int32)), (6, .int (1 : Int32))]) [2, 6, 1, 0] rfl ?_
    exact (B_X10_flow_45 C HR HL hG N) a0 a4 (0 : Int32) (1 : Int32) dy7 T0 E
  · refine ww_iconst (v := (-1)) C dX10_flow_19 (by decide) ?_
    exact ww_iret C HR HL dX10_flow_20 E
section P_X10_later
variable {p : Program} {l : Launch} {e : Env} {s : State} {m : MethodId} {args : Array Value} {below : List Frame} {meth : Method} {c : Code} {G : GG} {A : Nat → Prop} {ad : Nat → Nat} {S : ST} {N : Nat} {dy' : DY}
set_option maxHeartbeats 4000000 in
set_option maxRecDepth 100000 in
theorem B_X10_later_31 (C : CX p s m args c cX10_later 3 RX10 G A) (HR : meth.sig.returnType = (Option.none : Option Jvm.ClassFile.FieldType)) (HL : meth.locks = false) (hG : Good S) : ∀ (x0 : Nat) (x1 : Int32) (x2 : Int32) (dy : DY), gs S x0 = (0, 10) → F_X10_later_31 S N x0 x1 x2 dy = some dy' → WJ p l e (rmD (1)) s m args below meth c 3 G A 0 0 (MQ below (QV G ad A S dy') args s 0 0 A) ad 31 [(0, .ref (ad x0)), (1, .int x1), (2, .int x2)] [] S dy := by
  intro x0 x1 x2 dy Tx0 E
  rw [F_X10_later_31_s] at E
  refine ww_aload_n C dX10_later_31 rfl 0 rfl ?_
  refine ww_iload_n C dX10_later_32 rfl 1 rfl ?_
  refine ww_puti (ci := 10) (k0 := 25) C dX10_later_33 rfl rfl inm10 tyX10_ok nmX10 (by decide) Tx0 q1303 rfl rfl rfl ?_
  refine ww_bd E (fun dy1 E => ?_)
  refine ww_aload_n C dX10_later_36 rfl 0 rfl ?_
  refine ww_iload_n C dX10_later_37 rfl 2 rfl ?_
  refine ww_puti (ci := 10) (k0 := 26) C dX10_later_38 rfl rfl inm10 tyX10_ok nmX10 (by decide) Tx0 q1304 rfl rfl rfl ?_
  refine ww_bd E (fun dy2 E => ?_)
  exact ww_vret C HR HL dX10_later_41 E
end P_X10_later
set_option maxHeartbeats 4000000 in
set_option maxRecDepth 100000 in
theorem M_X10_later (l : Launch) (G : GG) (ad : Nat → Nat) {S : ST} (N : Nat) (hG : Good S) (a0 : Nat) (a1 : Int32) (a2 : Int32) (dy : DY) (T0 : gs S a0 = (0, 10)) {dy' : DY} (E : F_X10_later S N a0 a1 a2 dy = some dy') : MC l yX10_later cX10_later 3 (Option.none : Option Jvm.ClassFile.FieldType) (1) G ad [.ref (ad a0), .int a1, .int a2] S dy (fun A => QV G ad A S dy') := by
  rw [F_X10_later_s] at E
  refine mc_of RX10 (by decide) rfl (Nat.le_of_ble_eq_true rfl) (fun p e s m args below meth c A C HR HL => ?_)
  refine ww_sub (lv' := [(0, .ref (ad a0)), (1, .int a1), (2, .int a2)]) [0, 1, 2] rfl ?_
  refine ww_aload_n C dX10_later_0 rfl 0 rfl ?_
  refine ww_geti (ci := 10) (k0 := 25) C dX10_later_1 rfl rfl inm10 (by decide) T0 q1303 rfl ?_
  refine ww_if_eq (tgt := 31) C dX10_later_4 (by decide) E (fun _ E => ?_) (fun _ E => ?_)
  · refine ww_sub (lv' := [(0, .ref (ad a0)), (1, .int a1), (2, .int a2)]) [0, 1, 2] rfl ?_
    exact (B_X10_later_31 C HR HL hG) a0 a1 a2 dy T0 E
  · refine ww_iload_n C dX10_later_7 rfl 2 rfl ?_
    refine ww_aload_n C dX10_later_8 rfl 0 rfl ?_
    refine ww_geti (ci := 10) (k0 := 26) C dX10_later_9 rfl rfl inm10 (by decide) T0 q1304 rfl ?_
    refine ww_icmp_lt (tgt := 31) C dX10_later_12 (by decide) E (fun _ E => ?_) (fun _ E => ?_)
    · refine ww_sub (lv' := [(0, .ref (ad a0)), (1, .int a1), (2, .int a2)]) [0, 1, 2] rfl ?_
      exact (B_X10_later_31 C HR HL hG) a0 a1 a2 dy T0 E
    · refine ww_iload_n C dX10_later_15 rfl 2 rfl ?_
      refine ww_aload_n C dX10_later_16 rfl 0 rfl ?_
      refine ww_geti (ci := 10) (k0 := 26) C dX10_later_17 rfl rfl inm10 (by decide) T0 q1304 rfl ?_
      refine ww_icmp_ne (tgt := 41) C dX10_later_20 (by decide) E (fun _ E => ?_) (fun _ E => ?_)
      · exact ww_vret C HR HL dX10_later_41 E
      · refine ww_iload_n C dX10_later_23 rfl 1 rfl ?_
        refine ww_aload_n C dX10_later_24 rfl 0 rfl ?_
        refine ww_geti (ci := 10) (k0 := 25) C dX10_later_25 rfl rfl inm10 (by decide) T0 q1303 rfl ?_
        refine ww_icmp_ge (tgt := 41) C dX10_later_28 (by decide) E (fun _ E => ?_) (fun _ E => ?_)
        · exact ww_vret C HR HL dX10_later_41 E
        · refine ww_sub (lv' := [(0, .ref (ad a0)), (1, .int a1), (2, .int a2)]) [0, 1, 2] rfl ?_
          exact (B_X10_later_31 C HR HL hG) a0 a1 a2 dy T0 E
section P_X10_stops
variable {p : Program} {l : Launch} {e : Env} {s : State} {m : MethodId} {args : Array Value} {below : List Frame} {meth : Method} {c : Code} {G : GG} {A : Nat → Prop} {ad : Nat → Nat} {S : ST} {N : Nat} {r : Int32} {dy' : DY}
end P_X10_stops
set_option maxHeartbeats 4000000 in
set_option maxRecDepth 100000 in
theorem M_X10_stops (l : Launch) (G : GG) (ad : Nat → Nat) {S : ST} (N : Nat) (hG : Good S) (a0 : Nat) (dy : DY) (T0 : gs S a0 = (0, 10)) {r : Int32} {dy' : DY} (E : F_X10_stops S N a0 dy = some (r, dy')) : MC l yX10_stops cX10_stops 1 (Option.some Jvm.ClassFile.FieldType.boolean) (1) G ad [.ref (ad a0)] S dy (fun A => QI G ad A S r dy') := by
  rw [F_X10_stops_s] at E
  refine mc_of RX10 (by decide) rfl (Nat.le_of_ble_eq_true rfl) (fun p e s m args below meth c A C HR HL => ?_)
  refine ww_sub (lv' := [(0, .ref (ad a0))]) [0] rfl ?_
  refine ww_aload_n C dX10_stops_0 rfl 0 rfl ?_
  refine ww_aload_n C dX10_stops_1 rfl 0 rfl ?_
  refine ww_geti (ci := 10) (k0 := 20) C dX10_stops_2 rfl rfl inm10 (by decide) T0 q1298 rfl ?_
  refine ww_puti (ci := 10) (k0 := 24) C dX10_stops_5 rfl rfl inm10 tyX10_ok nmX10 (by decide) T0 q1302 rfl rfl rfl ?_
  refine ww_bd E (fun dy1 E => ?_)
  refine ww_iconst (v := 0) C dX10_stops_8 (by decide) ?_
  exact ww_zret C HR HL dX10_stops_9 (Or.inl rfl) E
section P_X10_isSign
variable {p : Program} {l : Launch} {e : Env} {s : State} {m : MethodId} {args : Array Value} {below : List Frame} {meth : Method} {c : Code} {G : GG} {A : Nat → Prop} {ad : Nat → Nat} {S : ST} {N : Nat} {r : Int32} {dy' : DY}
end P_X10_isSign
set_option maxHeartbeats 4000000 in
set_option maxRecDepth 100000 in
theorem M_X10_isSign (l : Launch) (G : GG) (ad : Nat → Nat) {S : ST} (N : Nat) (hG : Good S) (a0 : Int32) (dy : DY) {r : Int32} {dy' : DY} (E : F_X10_isSign S N a0 dy = some (r, dy')) : MC l yX10_isSign cX10_isSign 1 (Option.some Jvm.ClassFile.FieldType.boolean) (1) G ad [.int a0] S dy (fun A => QI G ad A S r dy') := by
  rw [F_X10_isSign_s] at E
  refine mc_of RX10 (by decide) rfl (Nat.le_of_ble_eq_true rfl) (fun p e s m args below meth c A C HR HL => ?_)
  refine ww_sub (lv' := [(0, .int a0)]) [0] rfl ?_
  refine ww_iload_n C dX10_isSign_0 rfl 0 rfl ?_
  refine ww_bipush (v := 58) C dX10_isSign_1 (by decide) ?_
  refine ww_icmp_eq (tgt := 30) C dX10_isSign_3 (by decide) E (fun _ E => ?_) (fun _ E => ?_)
  · refine ww_iconst (v := 1) C dX10_isSign_30 (by decide) ?_
    refine ww_goto (tgt := 35) C dX10_isSign_31 (by decide) ?_
    exact ww_zret C HR HL dX10_isSign_35 (Or.inr rfl) E
  · refine ww_iload_n C dX10_isSign_6 rfl 0 rfl ?_
    refine ww_bipush (v := 59) C dX10_isSign_7 (by decide) ?_
    refine ww_icmp_eq (tgt := 30) C dX10_isSign_9 (by decide) E (fun _ E => ?_) (fun _ E => ?_)
    · refine ww_iconst (v := 1) C dX10_isSign_30 (by decide) ?_
      refine ww_goto (tgt := 35) C dX10_isSign_31 (by decide) ?_
      exact ww_zret C HR HL dX10_isSign_35 (Or.inr rfl) E
    · refine ww_iload_n C dX10_isSign_12 rfl 0 rfl ?_
      refine ww_bipush (v := 60) C dX10_isSign_13 (by decide) ?_
      refine ww_icmp_eq (tgt := 30) C dX10_isSign_15 (by decide) E (fun _ E => ?_) (fun _ E => ?_)
      · refine ww_iconst (v := 1) C dX10_isSign_30 (by decide) ?_
        refine ww_goto (tgt := 35) C dX10_isSign_31 (by decide) ?_
        exact ww_zret C HR HL dX10_isSign_35 (Or.inr rfl) E
      · refine ww_iload_n C dX10_isSign_18 rfl 0 rfl ?_
        refine ww_bipush (v := 62) C dX10_isSign_19 (by decide) ?_
        refine ww_icmp_eq (tgt := 30) C dX10_isSign_21 (by decide) E (fun _ E => ?_) (fun _ E => ?_)
        · refine ww_iconst (v := 1) C dX10_isSign_30 (by decide) ?_
          refine ww_goto (tgt := 35) C dX10_isSign_31 (by decide) ?_
          exact ww_zret C HR HL dX10_isSign_35 (Or.inr rfl) E
        · refine ww_iload_n C dX10_isSign_24 rfl 0 rfl ?_
          refine ww_bipush (v := 61) C dX10_isSign_25 (by decide) ?_
          refine ww_icmp_ne (tgt := 34) C dX10_isSign_27 (by decide) E (fun _ E => ?_) (fun _ E => ?_)
          · refine ww_iconst (v := 0) C dX10_isSign_34 (by decide) ?_
            exact ww_zret C HR HL dX10_isSign_35 (Or.inl rfl) E
          · refine ww_iconst (v := 1) C dX10_isSign_30 (by decide) ?_
            refine ww_goto (tgt := 35) C dX10_isSign_31 (by decide) ?_
            exact ww_zret C HR HL dX10_isSign_35 (Or.inr rfl) E
section P_X10_see
variable {p : Program} {l : Launch} {e : Env} {s : State} {m : MethodId} {args : Array Value} {below : List Frame} {meth : Method} {c : Code} {G : GG} {A : Nat → Prop} {ad : Nat → Nat} {S : ST} {N : Nat} {r : Int32} {dy' : DY}
end P_X10_see
set_option maxHeartbeats 4000000 in
set_option maxRecDepth 100000 in
theorem M_X10_see (l : Launch) (G : GG) (ad : Nat → Nat) {S : ST} (N : Nat) (hG : Good S) (a0 : Nat) (dy : DY) (T0 : gs S a0 = (0, 10)) {r : Int32} {dy' : DY} (E : F_X10_see S N a0 dy = some (r, dy')) : MC l yX10_see cX10_see 1 (Option.some Jvm.ClassFile.FieldType.int) (1) G ad [.ref (ad a0)] S dy (fun A => QI G ad A S r dy') := by
  rw [F_X10_see_s] at E
  refine mc_of RX10 (by decide) rfl (Nat.le_of_ble_eq_true rfl) (fun p e s m args below meth c A C HR HL => ?_)
  refine ww_sub (lv' := [(0, .ref (ad a0))]) [0] rfl ?_
  refine ww_aload_n C dX10_see_0 rfl 0 rfl ?_
  refine ww_geti (ci := 10) (k0 := 18) C dX10_see_1 rfl rfl inm10 (by decide) T0 q1296 rfl ?_
  refine ww_aload_n C dX10_see_4 rfl 0 rfl ?_
  refine ww_geti (ci := 10) (k0 := 19) C dX10_see_5 rfl rfl inm10 (by decide) T0 q1297 rfl ?_
  refine ww_icmp_ge (tgt := 27) C dX10_see_8 (by decide) E (fun _ E => ?_) (fun _ E => ?_)
  · refine ww_iconst (v := (-1)) C dX10_see_27 (by decide) ?_
    exact ww_iret C HR HL dX10_see_28 E
  · refine ww_aload_n C dX10_see_11 rfl 0 rfl ?_
    have T_1 : gs S (gr S a0 1) = (2, 2000) := hG.1 _ 10 T0 1 (by decide)
    refine ww_getr (ci := 10) (k0 := 1) C dX10_see_12 rfl rfl inm10 (by decide) T0 q1279 rfl T_1 (by decide) ?_
    refine ww_aload_n C dX10_see_15 rfl 0 rfl ?_
    refine ww_geti (ci := 10) (k0 := 18) C dX10_see_16 rfl rfl inm10 (by decide) T0 q1296 rfl ?_
    refine ww_bald C dX10_see_19 T_1 E (fun _ E => ?_)
    refine ww_sipush (v := 255) C dX10_see_20 (by decide) ?_
    refine ww_iand C dX10_see_23 ?_
    refine ww_goto (tgt := 28) C dX10_see_24 (by decide) ?_
    exact ww_iret C HR HL dX10_see_28 E
section P_X10_token
variable {p : Program} {l : Launch} {e : Env} {s : State} {m : MethodId} {args : Array Value} {below : List Frame} {meth : Method} {c : Code} {G : GG} {A : Nat → Prop} {ad : Nat → Nat} {S : ST} {N : Nat} {dy' : DY}
set_option maxHeartbeats 4000000 in
set_option maxRecDepth 100000 in
theorem B_X10_token_18 (C : CX p s m args c cX10_token 3 RX10 G A) (HR : meth.sig.returnType = (Option.none : Option Jvm.ClassFile.FieldType)) (HL : meth.locks = false) (hG : Good S) {K0 : Nat → DY → Option DY} (hK0 : ∀ (x0 : Nat) (dy : DY), gs S x0 = (0, 10) → K0 x0 dy = some dy' → WJ p l e (rmD (2)) s m args below meth c 3 G A 0 0 (MQ below (QV G ad A S dy') args s 0 0 A) ad 0 [(0, .ref (ad x0))] [] S dy) : ∀ (x0 : Nat) (dy : DY), gs S x0 = (0, 10) → F_X10_token_18 S N K0 x0 dy = some dy' → WJ p l e (rmD (2)) s m args below meth c 3 G A 0 0 (MQ below (QV G ad A S dy') args s 0 0 A) ad 18 [(0, .ref (ad x0))] [] S dy := by
  intro x0 dy Tx0 E
  rw [F_X10_token_18_s] at E
  refine ww_aload_n C dX10_token_18 rfl 0 rfl ?_
  refine ww_dup C dX10_token_19 rfl ?_
  refine ww_geti (ci := 10) (k0 := 18) C dX10_token_20 rfl rfl inm10 (by decide) Tx0 q1296 rfl ?_
  refine ww_iconst (v := 1) C dX10_token_23 (by decide) ?_
  refine ww_iadd C dX10_token_24 ?_
  refine ww_puti (ci := 10) (k0 := 18) C dX10_token_25 rfl rfl inm10 tyX10_ok nmX10 (by decide) Tx0 q1296 rfl rfl rfl ?_
  refine ww_bd E (fun dy1 E => ?_)
  refine ww_goto (tgt := 0) C dX10_token_28 (by decide) ?_
  refine ww_sub (lv' := [(0, .ref (ad x0))]) [0] rfl ?_
  exact hK0 x0 dy1 Tx0 E
set_option maxHeartbeats 4000000 in
set_option maxRecDepth 100000 in
theorem B_X10_token_136 (C : CX p s m args c cX10_token 3 RX10 G A) (HR : meth.sig.returnType = (Option.none : Option Jvm.ClassFile.FieldType)) (HL : meth.locks = false) (hG : Good S) : ∀ (x0 : Nat) (y0 : Nat) (y1 : Int64) (dy : DY), gs S x0 = (0, 10) → gs S y0 = (0, 10) → F_X10_token_136 S N x0 y0 y1 dy = some dy' → WJ p l e (rmD (2)) s m args below meth c 3 G A 0 0 (MQ below (QV G ad A S dy') args s 0 0 A) ad 136 [(0, .ref (ad x0))] [.long y1, .ref (ad y0)] S dy := by
  intro x0 y0 y1 dy Tx0 Ty0 E
  rw [F_X10_token_136_s] at E
  refine ww_putl (ci := 10) (k0 := 23) C dX10_token_136 rfl rfl inm10 tyX10_ok nmX10 (by decide) Ty0 q1301 rfl rfl rfl ?_
  refine ww_bd E (fun dy1 E => ?_)
  refine ww_aload_n C dX10_token_139 rfl 0 rfl ?_
  refine ww_iconst (v := 2) C dX10_token_140 (by decide) ?_
  refine ww_puti (ci := 10) (k0 := 21) C dX10_token_141 rfl rfl inm10 tyX10_ok nmX10 (by decide) Tx0 q1299 rfl rfl rfl ?_
  refine ww_bd E (fun dy2 E => ?_)
  refine ww_goto (tgt := 272) C dX10_token_144 (by decide) ?_
  exact ww_vret C HR HL dX10_token_272 E
set_option maxHeartbeats 4000000 in
set_option maxRecDepth 100000 in
theorem B_X10_token_74 (C : CX p s m args c cX10_token 3 RX10 G A) (HR : meth.sig.returnType = (Option.none : Option Jvm.ClassFile.FieldType)) (HL : meth.locks = false) (hG : Good S) : ∀ k : Nat, ∀ (x0 : Nat) (x2 : Int32) (dy : DY), gs S x0 = (0, 10) → (F_X10_token_74 S N k) x0 x2 dy = some dy' → WJ p l e (rmD (2)) s m args below meth c 3 G A 0 0 (MQ below (QV G ad A S dy') args s 0 0 A) ad 74 [(0, .ref (ad x0)), (2, .int x2)] [] S dy := by
  intro k
  induction k with
  | zero => exact fun _ _ _ _ E => nomatch (show none = some dy' from E)
  | succ k ih =>
    intro x0 x2 dy Tx0 E
    rw [F_X10_token_74_s] at E
    refine ww_aload_n C dX10_token_74 rfl 0 rfl ?_
    obtain ⟨u1, e_2, E⟩ := bind_of E
    refine ww_callI C (runs_V (n := 0) (st := []) C [] (M_X10_see l G ad N hG x0 dy Tx0 e_2) ⟨q1496, q118, by decide⟩ q1493 q1495 q43 (ci := 10) rfl Tx0 rfl (Nat.le_of_ble_eq_true rfl) ⟨Nat.le_of_ble_eq_true rfl, Nat.le_of_ble_eq_true rfl⟩ ⟨Nat.zero_le _, Nat.zero_le _⟩ dX10_token_75 rfl) ?_
    refine ww_bipush (v := 97) C dX10_token_78 (by decide) ?_
    refine ww_bipush (v := 122) C dX10_token_80 (by decide) ?_
    obtain ⟨u3, e_4, E⟩ := bind_of E
    refine ww_callI C (runs_S (n := 3) (st := []) C [.int u1.1, .int (97 : Int32), .int (122 : Int32)] (M_X10_in l G ad N hG u1.1 (97 : Int32) (122 : Int32) u1.2 e_4) ⟨q1476, q118, by decide⟩ q1474 q1475 rfl (Nat.le_of_ble_eq_true rfl) ⟨Nat.le_of_ble_eq_true rfl, Nat.le_of_ble_eq_true rfl⟩ ⟨Nat.zero_le _, Nat.zero_le _⟩ dX10_token_82 rfl) ?_
    refine ww_if_eq (tgt := 121) C dX10_token_85 (by decide) E (fun _ E => ?_) (fun _ E => ?_)
    · refine ww_aload_n C dX10_token_121 rfl 0 rfl ?_
      refine ww_iload_n C dX10_token_122 rfl 1 rfl ?_
      refine ww_bipush (v := 8) C dX10_token_123 (by decide) ?_
      refine ww_icmp_le (tgt := 132) C dX10_token_125 (by decide) E (fun _ E => ?_) (fun _ E => ?_)
      · refine ww_aload_n C dX10_token_132 rfl 0 rfl ?_
        refine ww_getl (ci := 10) (k0 := 23) C dX10_token_133 rfl rfl inm10 (by decide) Tx0 q1301 rfl ?_
        refine ww_sub (lv' := [(0, .ref (ad x0))]) [0] rfl ?_
        exact (B_X10_token_136 C HR HL hG) x0 x0 (gl u3.2 x0 23) u3.2 Tx0 Tx0 E
      · refine ww_lconst (v := 0) C dX10_token_128 (by decide) ?_
        refine ww_goto (tgt := 136) C dX10_token_129 (by decide) ?_
        refine ww_sub (lv' := [(0, .ref (ad x0))]) [0] rfl ?_
        exact (B_X10_token_136 C HR HL hG) x0 x0 (0 : Int64) u3.2 Tx0 Tx0 E
    · refine ww_aload_n C dX10_token_88 rfl 0 rfl ?_
      refine ww_aload_n C dX10_token_89 rfl 0 rfl ?_
      refine ww_getl (ci := 10) (k0 := 23) C dX10_token_90 rfl rfl inm10 (by decide) Tx0 q1301 rfl ?_
      refine ww_bipush (v := 8) C dX10_token_93 (by decide) ?_
      refine ww_lshl C dX10_token_95 ?_
      refine ww_aload_n C dX10_token_96 rfl 0 rfl ?_
      obtain ⟨u5, e_6, E⟩ := bind_of E
      refine ww_callI C (runs_V (n := 0) (st := [.long ((gl u3.2 x0 23) <<< (((8 : Int32)).toInt64 &&& 63)), .ref (ad x0)]) C [] (M_X10_see l G ad N hG x0 u3.2 Tx0 e_6) ⟨q1496, q118, by decide⟩ q1493 q1495 q43 (ci := 10) rfl Tx0 rfl (Nat.le_of_ble_eq_true rfl) ⟨Nat.le_of_ble_eq_true rfl, Nat.le_of_ble_eq_true rfl⟩ ⟨Nat.zero_le _, Nat.zero_le _⟩ dX10_token_97 rfl) ?_
      refine ww_i2l C dX10_token_100 ?_
      refine ww_lor C dX10_token_101 ?_
      refine ww_putl (ci := 10) (k0 := 23) C dX10_token_102 rfl rfl inm10 tyX10_ok nmX10 (by decide) Tx0 q1301 rfl rfl rfl ?_
      refine ww_bd E (fun dy7 E => ?_)
      refine ww_aload_n C dX10_token_105 rfl 0 rfl ?_
      refine ww_dup C dX10_token_106 rfl ?_
      refine ww_geti (ci := 10) (k0 := 18) C dX10_token_107 rfl rfl inm10 (by decide) Tx0 q1296 rfl ?_
      refine ww_iconst (v := 1) C dX10_token_110 (by decide) ?_
      refine ww_iadd C dX10_token_111 ?_
      refine ww_puti (ci := 10) (k0 := 18) C dX10_token_112 rfl rfl inm10 tyX10_ok nmX10 (by decide) Tx0 q1296 rfl rfl rfl ?_
      refine ww_bd E (fun dy8 E => ?_)
      refine ww_iinc (v := (x2 + (1 : Int32))) (lv' := [(2, .int (x2 + (1 : Int32))), (0, .ref (ad x0))]) C dX10_token_115 1 rfl rfl (by decide) rfl ?_
      refine ww_goto (tgt := 74) C dX10_token_118 (by decide) ?_
      refine ww_sub (lv' := [(0, .ref (ad x0)), (2, .int (x2 + (1 : Int32)))]) [1, 0] rfl ?_
      exact ih x0 (x2 + (1 : Int32)) dy8 Tx0 E
set_option maxHeartbeats 4000000 in
set_option maxRecDepth 100000 in
theorem B_X10_token_205 (C : CX p s m args c cX10_token 3 RX10 G A) (HR : meth.sig.returnType = (Option.none : Option Jvm.ClassFile.FieldType)) (HL : meth.locks = false) (hG : Good S) {K163 : Nat → Int32 → DY → Option DY} (hK163 : ∀ (x0 : Nat) (x2 : Int32) (dy : DY), gs S x0 = (0, 10) → K163 x0 x2 dy = some dy' → WJ p l e (rmD (2)) s m args below meth c 3 G A 0 0 (MQ below (QV G ad A S dy') args s 0 0 A) ad 163 [(0, .ref (ad x0)), (2, .int x2)] [] S dy) : ∀ (x0 : Nat) (x2 : Int32) (y0 : Nat) (y1 : Int32) (dy : DY), gs S x0 = (0, 10) → gs S y0 = (0, 10) → F_X10_token_205 S N K163 x0 x2 y0 y1 dy = some dy' → WJ p l e (rmD (2)) s m args below meth c 3 G A 0 0 (MQ below (QV G ad A S dy') args s 0 0 A) ad 205 [(0, .ref (ad x0)), (2, .int x2)] [.int y1, .ref (ad y0)] S dy := by
  intro x0 x2 y0 y1 dy Tx0 Ty0 E
  rw [F_X10_token_205_s] at E
  refine ww_puti (ci := 10) (k0 := 22) C dX10_token_205 rfl rfl inm10 tyX10_ok nmX10 (by decide) Ty0 q1300 rfl rfl rfl ?_
  refine ww_bd E (fun dy1 E => ?_)
  refine ww_aload_n C dX10_token_208 rfl 0 rfl ?_
  refine ww_dup C dX10_token_209 rfl ?_
  refine ww_geti (ci := 10) (k0 := 18) C dX10_token_210 rfl rfl inm10 (by decide) Tx0 q1296 rfl ?_
  refine ww_iconst (v := 1) C dX10_token_213 (by decide) ?_
  refine ww_iadd C dX10_token_214 ?_
  refine ww_puti (ci := 10) (k0 := 18) C dX10_token_215 rfl rfl inm10 tyX10_ok nmX10 (by decide) Tx0 q1296 rfl rfl rfl ?_
  refine ww_bd E (fun dy2 E => ?_)
  refine ww_iinc (v := (x2 + (1 : Int32))) (lv' := [(2, .int (x2 + (1 : Int32))), (0, .ref (ad x0))]) C dX10_token_218 1 rfl rfl (by decide) rfl ?_
  refine ww_goto (tgt := 163) C dX10_token_221 (by decide) ?_
  refine ww_sub (lv' := [(0, .ref (ad x0)), (2, .int (x2 + (1 : Int32)))]) [1, 0] rfl ?_
  exact hK163 x0 (x2 + (1 : Int32)) dy2 Tx0 E
set_option maxHeartbeats 4000000 in
set_option maxRecDepth 100000 in
theorem B_X10_token_235 (C : CX p s m args c cX10_token 3 RX10 G A) (HR : meth.sig.returnType = (Option.none : Option Jvm.ClassFile.FieldType)) (HL : meth.locks = false) (hG : Good S) : ∀ (y0 : Nat) (y1 : Int32) (dy : DY), gs S y0 = (0, 10) → F_X10_token_235 S N y0 y1 dy = some dy' → WJ p l e (rmD (2)) s m args below meth c 3 G A 0 0 (MQ below (QV G ad A S dy') args s 0 0 A) ad 235 [] [.int y1, .ref (ad y0)] S dy := by
  intro y0 y1 dy Ty0 E
  rw [F_X10_token_235_s] at E
  refine ww_puti (ci := 10) (k0 := 21) C dX10_token_235 rfl rfl inm10 tyX10_ok nmX10 (by decide) Ty0 q1299 rfl rfl rfl ?_
  refine ww_bd E (fun dy1 E => ?_)
  refine ww_goto (tgt := 272) C dX10_token_238 (by decide) ?_
  exact ww_vret C HR HL dX10_token_272 E
set_option maxHeartbeats 4000000 in
set_option maxRecDepth 100000 in
theorem B_X10_token_163 (C : CX p s m args c cX10_token 3 RX10 G A) (HR : meth.sig.returnType = (Option.none : Option Jvm.ClassFile.FieldType)) (HL : meth.locks = false) (hG : Good S) : ∀ k : Nat, ∀ (x0 : Nat) (x2 : Int32) (dy : DY), gs S x0 = (0, 10) → (F_X10_token_163 S N k) x0 x2 dy = some dy' → WJ p l e (rmD (2)) s m args below meth c 3 G A 0 0 (MQ below (QV G ad A S dy') args s 0 0 A) ad 163 [(0, .ref (ad x0)), (2, .int x2)] [] S dy := by
  intro k
  induction k with
  | zero => exact fun _ _ _ _ E => nomatch (show none = some dy' from E)
  | succ k ih =>
    intro x0 x2 dy Tx0 E
    rw [F_X10_token_163_s] at E
    refine ww_aload_n C dX10_token_163 rfl 0 rfl ?_
    obtain ⟨u1, e_2, E⟩ := bind_of E
    refine ww_callI C (runs_V (n := 0) (st := []) C [] (M_X10_see l G ad N hG x0 dy Tx0 e_2) ⟨q1496, q118, by decide⟩ q1493 q1495 q43 (ci := 10) rfl Tx0 rfl (Nat.le_of_ble_eq_true rfl) ⟨Nat.le_of_ble_eq_true rfl, Nat.le_of_ble_eq_true rfl⟩ ⟨Nat.zero_le _, Nat.zero_le _⟩ dX10_token_164 rfl) ?_
    refine ww_bipush (v := 48) C dX10_token_167 (by decide) ?_
    refine ww_bipush (v := 57) C dX10_token_169 (by decide) ?_
    obtain ⟨u3, e_4, E⟩ := bind_of E
    refine ww_callI C (runs_S (n := 3) (st := []) C [.int u1.1, .int (48 : Int32), .int (57 : Int32)] (M_X10_in l G ad N hG u1.1 (48 : Int32) (57 : Int32) u1.2 e_4) ⟨q1476, q118, by decide⟩ q1474 q1475 rfl (Nat.le_of_ble_eq_true rfl) ⟨Nat.le_of_ble_eq_true rfl, Nat.le_of_ble_eq_true rfl⟩ ⟨Nat.zero_le _, Nat.zero_le _⟩ dX10_token_171 rfl) ?_
    refine ww_if_eq (tgt := 224) C dX10_token_174 (by decide) E (fun _ E => ?_) (fun _ E => ?_)
    · refine ww_aload_n C dX10_token_224 rfl 0 rfl ?_
      refine ww_iload_n C dX10_token_225 rfl 1 rfl ?_
      refine ww_iconst (v := 3) C dX10_token_226 (by decide) ?_
      refine ww_icmp_le (tgt := 234) C dX10_token_227 (by decide) E (fun _ E => ?_) (fun _ E => ?_)
      · refine ww_iconst (v := 3) C dX10_token_234 (by decide) ?_
        refine ww_sub (lv' := []) [] rfl ?_
        exact (B_X10_token_235 C HR HL hG) x0 (3 : Int32) u3.2 Tx0 E
      · refine ww_iconst (v := 1) C dX10_token_230 (by decide) ?_
        refine ww_goto (tgt := 235) C dX10_token_231 (by decide) ?_
        refine ww_sub (lv' := []) [] rfl ?_
        exact (B_X10_token_235 C HR HL hG) x0 (1 : Int32) u3.2 Tx0 E
    · refine ww_aload_n C dX10_token_177 rfl 0 rfl ?_
      refine ww_iload_n C dX10_token_178 rfl 1 rfl ?_
      refine ww_iconst (v := 3) C dX10_token_179 (by decide) ?_
      refine ww_icmp_ge (tgt := 201) C dX10_token_180 (by decide) E (fun _ E => ?_) (fun _ E => ?_)
      · refine ww_aload_n C dX10_token_201 rfl 0 rfl ?_
        refine ww_geti (ci := 10) (k0 := 22) C dX10_token_202 rfl rfl inm10 (by decide) Tx0 q1300 rfl ?_
        refine ww_sub (lv' := [(0, .ref (ad x0)), (2, .int x2)]) [0, 1] rfl ?_
        exact (B_X10_token_205 C HR HL hG ih) x0 x2 x0 (gi u3.2 x0 22) u3.2 Tx0 Tx0 E
      · refine ww_bipush (v := 10) C dX10_token_183 (by decide) ?_
        refine ww_aload_n C dX10_token_185 rfl 0 rfl ?_
        refine ww_geti (ci := 10) (k0 := 22) C dX10_token_186 rfl rfl inm10 (by decide) Tx0 q1300 rfl ?_
        refine ww_imul C dX10_token_189 ?_
        refine ww_aload_n C dX10_token_190 rfl 0 rfl ?_
        obtain ⟨u5, e_6, E⟩ := bind_of E
        refine ww_callI C (runs_V (n := 0) (st := [.int ((10 : Int32) * (gi u3.2 x0 22)), .ref (ad x0)]) C [] (M_X10_see l G ad N hG x0 u3.2 Tx0 e_6) ⟨q1496, q118, by decide⟩ q1493 q1495 q43 (ci := 10) rfl Tx0 rfl (Nat.le_of_ble_eq_true rfl) ⟨Nat.le_of_ble_eq_true rfl, Nat.le_of_ble_eq_true rfl⟩ ⟨Nat.zero_le _, Nat.zero_le _⟩ dX10_token_191 rfl) ?_
        refine ww_iadd C dX10_token_194 ?_
        refine ww_bipush (v := 48) C dX10_token_195 (by decide) ?_
        refine ww_isub C dX10_token_197 ?_
        refine ww_goto (tgt := 205) C dX10_token_198 (by decide) ?_
        refine ww_sub (lv' := [(0, .ref (ad x0)), (2, .int x2)]) [0, 1] rfl ?_
        exact (B_X10_token_205 C HR HL hG ih) x0 x2 x0 ((((10 : Int32) * (gi u3.2 x0 22)) + u5.1) - (48 : Int32)) u5.2 Tx0 Tx0 E
set_option maxHeartbeats 4000000 in
set_option maxRecDepth 100000 in
theorem B_X10_token_269 (C : CX p s m args c cX10_token 3 RX10 G A) (HR : meth.sig.returnType = (Option.none : Option Jvm.ClassFile.FieldType)) (HL : meth.locks = false) (hG : Good S) : ∀ (y0 : Nat) (y1 : Int32) (dy : DY), gs S y0 = (0, 10) → F_X10_token_269 S N y0 y1 dy = some dy' → WJ p l e (rmD (2)) s m args below meth c 3 G A 0 0 (MQ below (QV G ad A S dy') args s 0 0 A) ad 269 [] [.int y1, .ref (ad y0)] S dy := by
  intro y0 y1 dy Ty0 E
  rw [F_X10_token_269_s] at E
  refine ww_puti (ci := 10) (k0 := 21) C dX10_token_269 rfl rfl inm10 tyX10_ok nmX10 (by decide) Ty0 q1299 rfl rfl rfl ?_
  refine ww_bd E (fun dy1 E => ?_)
  exact ww_vret C HR HL dX10_token_272 E
set_option maxHeartbeats 4000000 in
set_option maxRecDepth 100000 in
theorem B_X10_token_0 (C : CX p s m args c cX10_token 3 RX10 G A) (HR : meth.sig.returnType = (Option.none : Option Jvm.ClassFile.FieldType)) (HL : meth.locks = false) (hG : Good S) : ∀ k : Nat, ∀ (x0 : Nat) (dy : DY), gs S x0 = (0, 10) → (F_X10_token_0 S N k) x0 dy = some dy' → WJ p l e (rmD (2)) s m args below meth c 3 G A 0 0 (MQ below (QV G ad A S dy') args s 0 0 A) ad 0 [(0, .ref (ad x0))] [] S dy := by
  intro k
  induction k with
  | zero => exact fun _ _ _ E => nomatch (show none = some dy' from E)
  | succ k ih =>
    intro x0 dy Tx0 E
    rw [F_X10_token_0_s] at E
    refine ww_aload_n C dX10_token_0 rfl 0 rfl ?_
    obtain ⟨u1, e_2, E⟩ := bind_of E
    refine ww_callI C (runs_V (n := 0) (st := []) C [] (M_X10_see l G ad N hG x0 dy Tx0 e_2) ⟨q1496, q118, by decide⟩ q1493 q1495 q43 (ci := 10) rfl Tx0 rfl (Nat.le_of_ble_eq_true rfl) ⟨Nat.le_of_ble_eq_true rfl, Nat.le_of_ble_eq_true rfl⟩ ⟨Nat.zero_le _, Nat.zero_le _⟩ dX10_token_1 rfl) ?_
    refine ww_bipush (v := 10) C dX10_token_4 (by decide) ?_
    refine ww_icmp_eq (tgt := 18) C dX10_token_6 (by decide) E (fun _ E => ?_) (fun _ E => ?_)
    · refine ww_sub (lv' := [(0, .ref (ad x0))]) [0] rfl ?_
      exact (B_X10_token_18 C HR HL hG ih) x0 u1.2 Tx0 E
    · refine ww_aload_n C dX10_token_9 rfl 0 rfl ?_
      obtain ⟨u3, e_4, E⟩ := bind_of E
      refine ww_callI C (runs_V (n := 0) (st := []) C [] (M_X10_see l G ad N hG x0 u1.2 Tx0 e_4) ⟨q1496, q118, by decide⟩ q1493 q1495 q43 (ci := 10) rfl Tx0 rfl (Nat.le_of_ble_eq_true rfl) ⟨Nat.le_of_ble_eq_true rfl, Nat.le_of_ble_eq_true rfl⟩ ⟨Nat.zero_le _, Nat.zero_le _⟩ dX10_token_10 rfl) ?_
      refine ww_bipush (v := 32) C dX10_token_13 (by decide) ?_
      refine ww_icmp_ne (tgt := 31) C dX10_token_15 (by decide) E (fun _ E => ?_) (fun _ E => ?_)
      · refine ww_aload_n C dX10_token_31 rfl 0 rfl ?_
        refine ww_aload_n C dX10_token_32 rfl 0 rfl ?_
        refine ww_geti (ci := 10) (k0 := 18) C dX10_token_33 rfl rfl inm10 (by decide) Tx0 q1296 rfl ?_
        refine ww_puti (ci := 10) (k0 := 20) C dX10_token_36 rfl rfl inm10 tyX10_ok nmX10 (by decide) Tx0 q1298 rfl rfl rfl ?_
        refine ww_bd E (fun dy5 E => ?_)
        refine ww_aload_n C dX10_token_39 rfl 0 rfl ?_
        obtain ⟨u6, e_7, E⟩ := bind_of E
        refine ww_callI C (runs_V (n := 0) (st := []) C [] (M_X10_see l G ad N hG x0 dy5 Tx0 e_7) ⟨q1496, q118, by decide⟩ q1493 q1495 q43 (ci := 10) rfl Tx0 rfl (Nat.le_of_ble_eq_true rfl) ⟨Nat.le_of_ble_eq_true rfl, Nat.le_of_ble_eq_true rfl⟩ ⟨Nat.zero_le _, Nat.zero_le _⟩ dX10_token_40 rfl) ?_
        refine ww_istore_n (lv' := [(1, .int u6.1), (0, .ref (ad x0))]) C dX10_token_43 rfl (by decide) rfl ?_
        refine ww_aload_n C dX10_token_44 rfl 1 rfl ?_
        refine ww_lconst (v := 0) C dX10_token_45 (by decide) ?_
        refine ww_putl (ci := 10) (k0 := 23) C dX10_token_46 rfl rfl inm10 tyX10_ok nmX10 (by decide) Tx0 q1301 rfl rfl rfl ?_
        refine ww_bd E (fun dy8 E => ?_)
        refine ww_iconst (v := 0) C dX10_token_49 (by decide) ?_
        refine ww_istore_n (lv' := [(2, .int (0 : Int32)), (1, .int u6.1), (0, .ref (ad x0))]) C dX10_token_50 rfl (by decide) rfl ?_
        refine ww_iload_n C dX10_token_51 rfl 1 rfl ?_
        refine ww_if_ge (tgt := 63) C dX10_token_52 (by decide) E (fun _ E => ?_) (fun _ E => ?_)
        · refine ww_iload_n C dX10_token_63 rfl 1 rfl ?_
          refine ww_bipush (v := 97) C dX10_token_64 (by decide) ?_
          refine ww_bipush (v := 122) C dX10_token_66 (by decide) ?_
          obtain ⟨u9, e_10, E⟩ := bind_of E
          refine ww_callI C (runs_S (n := 3) (st := []) C [.int u6.1, .int (97 : Int32), .int (122 : Int32)] (M_X10_in l G ad N hG u6.1 (97 : Int32) (122 : Int32) dy8 e_10) ⟨q1476, q118, by decide⟩ q1474 q1475 rfl (Nat.le_of_ble_eq_true rfl) ⟨Nat.le_of_ble_eq_true rfl, Nat.le_of_ble_eq_true rfl⟩ ⟨Nat.zero_le _, Nat.zero_le _⟩ dX10_token_68 rfl) ?_
          refine ww_if_eq (tgt := 147) C dX10_token_71 (by decide) E (fun _ E => ?_) (fun _ E => ?_)
          · refine ww_iload_n C dX10_token_147 rfl 1 rfl ?_
            refine ww_bipush (v := 48) C dX10_token_148 (by decide) ?_
            refine ww_bipush (v := 57) C dX10_token_150 (by decide) ?_
            obtain ⟨u11, e_12, E⟩ := bind_of E
            refine ww_callI C (runs_S (n := 3) (st := []) C [.int u6.1, .int (48 : Int32), .int (57 : Int32)] (M_X10_in l G ad N hG u6.1 (48 : Int32) (57 : Int32) u9.2 e_12) ⟨q1476, q118, by decide⟩ q1474 q1475 rfl (Nat.le_of_ble_eq_true rfl) ⟨Nat.le_of_ble_eq_true rfl, Nat.le_of_ble_eq_true rfl⟩ ⟨Nat.zero_le _, Nat.zero_le _⟩ dX10_token_152 rfl) ?_
            refine ww_if_eq (tgt := 241) C dX10_token_155 (by decide) E (fun _ E => ?_) (fun _ E => ?_)
            · refine ww_aload_n C dX10_token_241 rfl 2 rfl ?_
              refine ww_dup C dX10_token_242 rfl ?_
              refine ww_geti (ci := 10) (k0 := 18) C dX10_token_243 rfl rfl inm10 (by decide) Tx0 q1296 rfl ?_
              refine ww_iconst (v := 1) C dX10_token_246 (by decide) ?_
              refine ww_iadd C dX10_token_247 ?_
              refine ww_puti (ci := 10) (k0 := 18) C dX10_token_248 rfl rfl inm10 tyX10_ok nmX10 (by decide) Tx0 q1296 rfl rfl rfl ?_
              refine ww_bd E (fun dy13 E => ?_)
              refine ww_aload_n C dX10_token_251 rfl 2 rfl ?_
              refine ww_iload_n C dX10_token_252 rfl 1 rfl ?_
              refine ww_puti (ci := 10) (k0 := 22) C dX10_token_253 rfl rfl inm10 tyX10_ok nmX10 (by decide) Tx0 q1300 rfl rfl rfl ?_
              refine ww_bd E (fun dy14 E => ?_)
              refine ww_aload_n C dX10_token_256 rfl 2 rfl ?_
              refine ww_iload_n C dX10_token_257 rfl 1 rfl ?_
              obtain ⟨u15, e_16, E⟩ := bind_of E
              refine ww_callI C (runs_S (n := 1) (st := [.ref (ad x0)]) C [.int u6.1] (M_X10_isSign l G ad N hG u6.1 dy14 e_16) ⟨q1499, q118, by decide⟩ q1497 q1498 rfl (Nat.le_of_ble_eq_true rfl) ⟨Nat.le_of_ble_eq_true rfl, Nat.le_of_ble_eq_true rfl⟩ ⟨Nat.zero_le _, Nat.zero_le _⟩ dX10_token_258 rfl) ?_
              refine ww_if_eq (tgt := 268) C dX10_token_261 (by decide) E (fun _ E => ?_) (fun _ E => ?_)
              · refine ww_iconst (v := 1) C dX10_token_268 (by decide) ?_
                refine ww_sub (lv' := []) [] rfl ?_
                exact (B_X10_token_269 C HR HL hG) x0 (1 : Int32) u15.2 Tx0 E
              · refine ww_iconst (v := 4) C dX10_token_264 (by decide) ?_
                refine ww_goto (tgt := 269) C dX10_token_265 (by decide) ?_
                refine ww_sub (lv' := []) [] rfl ?_
                exact (B_X10_token_269 C HR HL hG) x0 (4 : Int32) u15.2 Tx0 E
            · refine ww_aload_n C dX10_token_158 rfl 2 rfl ?_
              refine ww_iconst (v := 0) C dX10_token_159 (by decide) ?_
              refine ww_puti (ci := 10) (k0 := 22) C dX10_token_160 rfl rfl inm10 tyX10_ok nmX10 (by decide) Tx0 q1300 rfl rfl rfl ?_
              refine ww_bd E (fun dy17 E => ?_)
              refine ww_sub (lv' := [(0, .ref (ad x0)), (2, .int (0 : Int32))]) [2, 0] rfl ?_
              exact (B_X10_token_163 C HR HL hG N) x0 (0 : Int32) dy17 Tx0 E
          · refine ww_sub (lv' := [(0, .ref (ad x0)), (2, .int (0 : Int32))]) [2, 0] rfl ?_
            exact (B_X10_token_74 C HR HL hG N) x0 (0 : Int32) u9.2 Tx0 E
        · refine ww_aload_n C dX10_token_55 rfl 2 rfl ?_
          refine ww_iconst (v := 0) C dX10_token_56 (by decide) ?_
          refine ww_puti (ci := 10) (k0 := 21) C dX10_token_57 rfl rfl inm10 tyX10_ok nmX10 (by decide) Tx0 q1299 rfl rfl rfl ?_
          refine ww_bd E (fun dy18 E => ?_)
          refine ww_goto (tgt := 272) C dX10_token_60 (by decide) ?_
          exact ww_vret C HR HL dX10_token_272 E
      · refine ww_sub (lv' := [(0, .ref (ad x0))]) [0] rfl ?_
        exact (B_X10_token_18 C HR HL hG ih) x0 u3.2 Tx0 E
end P_X10_token
set_option maxHeartbeats 4000000 in
set_option maxRecDepth 100000 in
theorem M_X10_token (l : Launch) (G : GG) (ad : Nat → Nat) {S : ST} (N : Nat) (hG : Good S) (a0 : Nat) (dy : DY) (T0 : gs S a0 = (0, 10)) {dy' : DY} (E : F_X10_token S N a0 dy = some dy') : MC l yX10_token cX10_token 3 (Option.none : Option Jvm.ClassFile.FieldType) (2) G ad [.ref (ad a0)] S dy (fun A => QV G ad A S dy') := by
  rw [F_X10_token_s] at E
  refine mc_of RX10 (by decide) rfl (Nat.le_of_ble_eq_true rfl) (fun p e s m args below meth c A C HR HL => ?_)
  refine ww_sub (lv' := [(0, .ref (ad a0))]) [0] rfl ?_
  refine ww_sub (lv' := [(0, .ref (ad a0))]) [0] rfl ?_
  exact (B_X10_token_0 C HR HL hG N) a0 dy T0 E
section P_X10_number
variable {p : Program} {l : Launch} {e : Env} {s : State} {m : MethodId} {args : Array Value} {below : List Frame} {meth : Method} {c : Code} {G : GG} {A : Nat → Prop} {ad : Nat → Nat} {S : ST} {N : Nat} {r : Int32} {dy' : DY}
set_option maxHeartbeats 4000000 in
set_option maxRecDepth 100000 in
theorem B_X10_number_47 (C : CX p s m args c cX10_number 3 RX10 G A) (HR : meth.sig.returnType = (Option.some Jvm.ClassFile.FieldType.boolean)) (HL : meth.locks = false) (hG : Good S) : ∀ (x0 : Nat) (dy : DY), gs S x0 = (0, 10) → F_X10_number_47 S N x0 dy = some (r, dy') → WJ p l e (rmD (3)) s m args below meth c 3 G A 0 0 (MQ below (QI G ad A S r dy') args s 0 0 A) ad 47 [(0, .ref (ad x0))] [] S dy := by
  intro x0 dy Tx0 E
  rw [F_X10_number_47_s] at E
  refine ww_aload_n C dX10_number_47 rfl 0 rfl ?_
  obtain ⟨u1, e_2, E⟩ := bind_of E
  refine ww_callV C (runs_V (n := 0) (st := []) C [] (M_X10_token l G ad N hG x0 dy Tx0 e_2) ⟨q1492, q118, by decide⟩ q1489 q1491 q42 (ci := 10) rfl Tx0 rfl (Nat.le_of_ble_eq_true rfl) ⟨Nat.le_of_ble_eq_true rfl, Nat.le_of_ble_eq_true rfl⟩ ⟨Nat.zero_le _, Nat.zero_le _⟩ dX10_number_48 rfl) ?_
  refine ww_iconst (v := 1) C dX10_number_51 (by decide) ?_
  exact ww_zret C HR HL dX10_number_52 (Or.inr rfl) E
end P_X10_number
set_option maxHeartbeats 4000000 in
set_option maxRecDepth 100000 in
theorem M_X10_number (l : Launch) (G : GG) (ad : Nat → Nat) {S : ST} (N : Nat) (hG : Good S) (a0 : Nat) (a1 : Int32) (a2 : Int32) (dy : DY) (T0 : gs S a0 = (0, 10)) {r : Int32} {dy' : DY} (E : F_X10_number S N a0 a1 a2 dy = some (r, dy')) : MC l yX10_number cX10_number 3 (Option.some Jvm.ClassFile.FieldType.boolean) (3) G ad [.ref (ad a0), .int a1, .int a2] S dy (fun A => QI G ad A S r dy') := by
  rw [F_X10_number_s] at E
  refine mc_of RX10 (by decide) rfl (Nat.le_of_ble_eq_true rfl) (fun p e s m args below meth c A C HR HL => ?_)
  refine ww_sub (lv' := [(0, .ref (ad a0)), (1, .int a1), (2, .int a2)]) [0, 1, 2] rfl ?_
  refine ww_aload_n C dX10_number_0 rfl 0 rfl ?_
  refine ww_geti (ci := 10) (k0 := 21) C dX10_number_1 rfl rfl inm10 (by decide) T0 q1299 rfl ?_
  refine ww_iconst (v := 3) C dX10_number_4 (by decide) ?_
  refine ww_icmp_eq (tgt := 13) C dX10_number_5 (by decide) E (fun _ E => ?_) (fun _ E => ?_)
  · refine ww_aload_n C dX10_number_13 rfl 0 rfl ?_
    refine ww_aload_n C dX10_number_14 rfl 0 rfl ?_
    refine ww_geti (ci := 10) (k0 := 22) C dX10_number_15 rfl rfl inm10 (by decide) T0 q1300 rfl ?_
    refine ww_puti (ci := 10) (k0 := 27) C dX10_number_18 rfl rfl inm10 tyX10_ok nmX10 (by decide) T0 q1305 rfl rfl rfl ?_
    refine ww_bd E (fun dy1 E => ?_)
    refine ww_aload_n C dX10_number_21 rfl 0 rfl ?_
    refine ww_geti (ci := 10) (k0 := 22) C dX10_number_22 rfl rfl inm10 (by decide) T0 q1300 rfl ?_
    refine ww_iload_n C dX10_number_25 rfl 1 rfl ?_
    refine ww_iload_n C dX10_number_26 rfl 2 rfl ?_
    obtain ⟨u2, e_3, E⟩ := bind_of E
    refine ww_callI C (runs_S (n := 3) (st := []) C [.int (gi dy1 a0 22), .int a1, .int a2] (M_X10_in l G ad N hG (gi dy1 a0 22) a1 a2 dy1 e_3) ⟨q1476, q118, by decide⟩ q1474 q1475 rfl (Nat.le_of_ble_eq_true rfl) ⟨Nat.le_of_ble_eq_true rfl, Nat.le_of_ble_eq_true rfl⟩ ⟨Nat.zero_le _, Nat.zero_le _⟩ dX10_number_27 rfl) ?_
    refine ww_if_ne (tgt := 47) C dX10_number_30 (by decide) E (fun _ E => ?_) (fun _ E => ?_)
    · refine ww_sub (lv' := [(0, .ref (ad a0))]) [0] rfl ?_
      exact (B_X10_number_47 C HR HL hG) a0 u2.2 T0 E
    · refine ww_aload_n C dX10_number_33 rfl 0 rfl ?_
      refine ww_iconst (v := 2) C dX10_number_34 (by decide) ?_
      refine ww_aload_n C dX10_number_35 rfl 0 rfl ?_
      refine ww_geti (ci := 10) (k0 := 20) C dX10_number_36 rfl rfl inm10 (by decide) T0 q1298 rfl ?_
      obtain ⟨u4, e_5, E⟩ := bind_of E
      refine ww_callV C (runs_V (n := 2) (st := []) C [.int (2 : Int32), .int (gi u2.2 a0 20)] (M_X10_later l G ad N hG a0 (2 : Int32) (gi u2.2 a0 20) u2.2 T0 e_5) ⟨q1520, q118, by decide⟩ q1517 q1519 q48 (ci := 10) rfl T0 rfl (Nat.le_of_ble_eq_true rfl) ⟨Nat.le_of_ble_eq_true rfl, Nat.le_of_ble_eq_true rfl⟩ ⟨Nat.zero_le _, Nat.zero_le _⟩ dX10_number_39 rfl) ?_
      refine ww_aload_n C dX10_number_42 rfl 0 rfl ?_
      refine ww_iconst (v := 0) C dX10_number_43 (by decide) ?_
      refine ww_putz (ci := 10) (k0 := 28) C dX10_number_44 rfl rfl inm10 tyX10_ok nmX10 (by decide) T0 q1306 rfl rfl rfl (Or.inl rfl) ?_
      refine ww_bd E (fun dy6 E => ?_)
      refine ww_sub (lv' := [(0, .ref (ad a0))]) [0] rfl ?_
      exact (B_X10_number_47 C HR HL hG) a0 dy6 T0 E
  · refine ww_aload_n C dX10_number_8 rfl 0 rfl ?_
    obtain ⟨u7, e_8, E⟩ := bind_of E
    refine ww_callI C (runs_V (n := 0) (st := []) C [] (M_X10_stops l G ad N hG a0 dy T0 e_8) ⟨q1512, q118, by decide⟩ q1509 q1511 q46 (ci := 10) rfl T0 rfl (Nat.le_of_ble_eq_true rfl) ⟨Nat.le_of_ble_eq_true rfl, Nat.le_of_ble_eq_true rfl⟩ ⟨Nat.zero_le _, Nat.zero_le _⟩ dX10_number_9 rfl) ?_
    obtain ⟨z_, E⟩ := gd_of E
    exact ww_zret C HR HL dX10_number_12 z_ E
section P_X10_part
variable {p : Program} {l : Launch} {e : Env} {s : State} {m : MethodId} {args : Array Value} {below : List Frame} {meth : Method} {c : Code} {G : GG} {A : Nat → Prop} {ad : Nat → Nat} {S : ST} {N : Nat} {dy' : DY}
end P_X10_part
set_option maxHeartbeats 4000000 in
set_option maxRecDepth 100000 in
theorem M_X10_part (l : Launch) (G : GG) (ad : Nat → Nat) {S : ST} (N : Nat) (hG : Good S) (a0 : Nat) (a1 : Int32) (dy : DY) (T0 : gs S a0 = (0, 10)) {dy' : DY} (E : F_X10_part S N a0 a1 dy = some dy') : MC l yX10_part cX10_part 3 (Option.none : Option Jvm.ClassFile.FieldType) (1) G ad [.ref (ad a0), .int a1] S dy (fun A => QV G ad A S dy') := by
  rw [F_X10_part_s] at E
  refine mc_of RX10 (by decide) rfl (Nat.le_of_ble_eq_true rfl) (fun p e s m args below meth c A C HR HL => ?_)
  refine ww_sub (lv' := [(0, .ref (ad a0)), (1, .int a1)]) [0, 1] rfl ?_
  refine ww_aload_n C dX10_part_0 rfl 0 rfl ?_
  have T_1 : gs S (gr S a0 34) = (1, 104) := hG.1 _ 10 T0 34 (by decide)
  refine ww_getr (ci := 10) (k0 := 34) C dX10_part_1 rfl rfl inm10 (by decide) T0 q1312 rfl T_1 (by decide) ?_
  refine ww_bipush (v := 8) C dX10_part_4 (by decide) ?_
  refine ww_iload_n C dX10_part_6 rfl 1 rfl ?_
  refine ww_imul C dX10_part_7 ?_
  refine ww_bipush (v := 7) C dX10_part_8 (by decide) ?_
  refine ww_iadd C dX10_part_10 ?_
  refine ww_iald C dX10_part_11 T_1 E (fun _ E => ?_)
  refine ww_istore_n (lv' := [(2, .int (gi dy (gr S a0 34) (((8 : Int32) * a1) + (7 : Int32)).toNatClampNeg)), (0, .ref (ad a0)), (1, .int a1)]) C dX10_part_12 rfl (by decide) rfl ?_
  refine ww_iload_n C dX10_part_13 rfl 0 rfl ?_
  refine ww_iconst (v := (-1)) C dX10_part_14 (by decide) ?_
  refine ww_icmp_eq (tgt := 44) C dX10_part_15 (by decide) E (fun _ E => ?_) (fun _ E => ?_)
  · exact ww_vret C HR HL dX10_part_44 E
  · refine ww_aload_n C dX10_part_18 rfl 1 rfl ?_
    have T_2 : gs S (gr S a0 34) = (1, 104) := hG.1 _ 10 T0 34 (by decide)
    refine ww_getr (ci := 10) (k0 := 34) C dX10_part_19 rfl rfl inm10 (by decide) T0 q1312 rfl T_2 (by decide) ?_
    refine ww_bipush (v := 8) C dX10_part_22 (by decide) ?_
    refine ww_iload_n C dX10_part_24 rfl 0 rfl ?_
    refine ww_imul C dX10_part_25 ?_
    refine ww_bipush (v := 7) C dX10_part_26 (by decide) ?_
    refine ww_iadd C dX10_part_28 ?_
    refine ww_iconst (v := (-1)) C dX10_part_29 (by decide) ?_
    refine ww_iast C dX10_part_30 T_2 E (fun _ E => ?_)
    refine ww_bd E (fun dy3 E => ?_)
    refine ww_aload_n C dX10_part_31 rfl 1 rfl ?_
    have T_4 : gs S (gr S a0 34) = (1, 104) := hG.1 _ 10 T0 34 (by decide)
    refine ww_getr (ci := 10) (k0 := 34) C dX10_part_32 rfl rfl inm10 (by decide) T0 q1312 rfl T_4 (by decide) ?_
    refine ww_bipush (v := 8) C dX10_part_35 (by decide) ?_
    refine ww_iload_n C dX10_part_37 rfl 2 rfl ?_
    refine ww_imul C dX10_part_38 ?_
    refine ww_bipush (v := 7) C dX10_part_39 (by decide) ?_
    refine ww_iadd C dX10_part_41 ?_
    refine ww_iconst (v := (-1)) C dX10_part_42 (by decide) ?_
    refine ww_iast C dX10_part_43 T_4 E (fun _ E => ?_)
    refine ww_bd E (fun dy5 E => ?_)
    exact ww_vret C HR HL dX10_part_44 E
section P_X10_friendsLine
variable {p : Program} {l : Launch} {e : Env} {s : State} {m : MethodId} {args : Array Value} {below : List Frame} {meth : Method} {c : Code} {G : GG} {A : Nat → Prop} {ad : Nat → Nat} {S : ST} {N : Nat} {r : Int32} {dy' : DY}
set_option maxHeartbeats 4000000 in
set_option maxRecDepth 100000 in
theorem B_X10_friendsLine_68 (C : CX p s m args c cX10_friendsLine 3 RX10 G A) (HR : meth.sig.returnType = (Option.some Jvm.ClassFile.FieldType.boolean)) (HL : meth.locks = false) (hG : Good S) : ∀ (x0 : Nat) (x1 : Int32) (dy : DY), gs S x0 = (0, 10) → F_X10_friendsLine_68 S N x0 x1 dy = some (r, dy') → WJ p l e (rmD (4)) s m args below meth c 3 G A 0 0 (MQ below (QI G ad A S r dy') args s 0 0 A) ad 68 [(0, .ref (ad x0)), (1, .int x1)] [] S dy := by
  intro x0 x1 dy Tx0 E
  rw [F_X10_friendsLine_68_s] at E
  refine ww_aload_n C dX10_friendsLine_68 rfl 0 rfl ?_
  refine ww_getz (ci := 10) (k0 := 28) C dX10_friendsLine_69 rfl rfl inm10 (by decide) Tx0 q1306 rfl ?_
  refine ww_if_eq (tgt := 120) C dX10_friendsLine_72 (by decide) E (fun _ E => ?_) (fun _ E => ?_)
  · refine ww_iconst (v := 1) C dX10_friendsLine_120 (by decide) ?_
    exact ww_zret C HR HL dX10_friendsLine_121 (Or.inr rfl) E
  · refine ww_aload_n C dX10_friendsLine_75 rfl 0 rfl ?_
    refine ww_iload_n C dX10_friendsLine_76 rfl 1 rfl ?_
    obtain ⟨u1, e_2, E⟩ := bind_of E
    refine ww_callV C (runs_V (n := 1) (st := []) C [.int x1] (M_X10_part l G ad N hG x0 x1 dy Tx0 e_2) ⟨q1575, q118, by decide⟩ q1572 q1574 q59 (ci := 10) rfl Tx0 rfl (Nat.le_of_ble_eq_true rfl) ⟨Nat.le_of_ble_eq_true rfl, Nat.le_of_ble_eq_true rfl⟩ ⟨Nat.zero_le _, Nat.zero_le _⟩ dX10_friendsLine_77 rfl) ?_
    refine ww_aload_n C dX10_friendsLine_80 rfl 0 rfl ?_
    refine ww_aload_n C dX10_friendsLine_81 rfl 0 rfl ?_
    refine ww_geti (ci := 10) (k0 := 27) C dX10_friendsLine_82 rfl rfl inm10 (by decide) Tx0 q1305 rfl ?_
    obtain ⟨u3, e_4, E⟩ := bind_of E
    refine ww_callV C (runs_V (n := 1) (st := []) C [.int (gi u1 x0 27)] (M_X10_part l G ad N hG x0 (gi u1 x0 27) u1 Tx0 e_4) ⟨q1575, q118, by decide⟩ q1572 q1574 q59 (ci := 10) rfl Tx0 rfl (Nat.le_of_ble_eq_true rfl) ⟨Nat.le_of_ble_eq_true rfl, Nat.le_of_ble_eq_true rfl⟩ ⟨Nat.zero_le _, Nat.zero_le _⟩ dX10_friendsLine_85 rfl) ?_
    refine ww_aload_n C dX10_friendsLine_88 rfl 0 rfl ?_
    have T_5 : gs S (gr S x0 34) = (1, 104) := hG.1 _ 10 Tx0 34 (by decide)
    refine ww_getr (ci := 10) (k0 := 34) C dX10_friendsLine_89 rfl rfl inm10 (by decide) Tx0 q1312 rfl T_5 (by decide) ?_
    refine ww_bipush (v := 8) C dX10_friendsLine_92 (by decide) ?_
    refine ww_iload_n C dX10_friendsLine_94 rfl 1 rfl ?_
    refine ww_imul C dX10_friendsLine_95 ?_
    refine ww_bipush (v := 7) C dX10_friendsLine_96 (by decide) ?_
    refine ww_iadd C dX10_friendsLine_98 ?_
    refine ww_aload_n C dX10_friendsLine_99 rfl 0 rfl ?_
    refine ww_geti (ci := 10) (k0 := 27) C dX10_friendsLine_100 rfl rfl inm10 (by decide) Tx0 q1305 rfl ?_
    refine ww_iast C dX10_friendsLine_103 T_5 E (fun _ E => ?_)
    refine ww_bd E (fun dy6 E => ?_)
    refine ww_aload_n C dX10_friendsLine_104 rfl 0 rfl ?_
    have T_7 : gs S (gr S x0 34) = (1, 104) := hG.1 _ 10 Tx0 34 (by decide)
    refine ww_getr (ci := 10) (k0 := 34) C dX10_friendsLine_105 rfl rfl inm10 (by decide) Tx0 q1312 rfl T_7 (by decide) ?_
    refine ww_bipush (v := 8) C dX10_friendsLine_108 (by decide) ?_
    refine ww_aload_n C dX10_friendsLine_110 rfl 0 rfl ?_
    refine ww_geti (ci := 10) (k0 := 27) C dX10_friendsLine_111 rfl rfl inm10 (by decide) Tx0 q1305 rfl ?_
    refine ww_imul C dX10_friendsLine_114 ?_
    refine ww_bipush (v := 7) C dX10_friendsLine_115 (by decide) ?_
    refine ww_iadd C dX10_friendsLine_117 ?_
    refine ww_iload_n C dX10_friendsLine_118 rfl 1 rfl ?_
    refine ww_iast C dX10_friendsLine_119 T_7 E (fun _ E => ?_)
    refine ww_bd E (fun dy8 E => ?_)
    refine ww_iconst (v := 1) C dX10_friendsLine_120 (by decide) ?_
    exact ww_zret C HR HL dX10_friendsLine_121 (Or.inr rfl) E
end P_X10_friendsLine
set_option maxHeartbeats 4000000 in
set_option maxRecDepth 100000 in
theorem M_X10_friendsLine (l : Launch) (G : GG) (ad : Nat → Nat) {S : ST} (N : Nat) (hG : Good S) (a0 : Nat) (dy : DY) (T0 : gs S a0 = (0, 10)) {r : Int32} {dy' : DY} (E : F_X10_friendsLine S N a0 dy = some (r, dy')) : MC l yX10_friendsLine cX10_friendsLine 3 (Option.some Jvm.ClassFile.FieldType.boolean) (4) G ad [.ref (ad a0)] S dy (fun A => QI G ad A S r dy') := by
  rw [F_X10_friendsLine_s] at E
  refine mc_of RX10 (by decide) rfl (Nat.le_of_ble_eq_true rfl) (fun p e s m args below meth c A C HR HL => ?_)
  refine ww_sub (lv' := [(0, .ref (ad a0))]) [0] rfl ?_
  refine ww_aload_n C dX10_friendsLine_0 rfl 0 rfl ?_
  refine ww_iconst (v := 0) C dX10_friendsLine_1 (by decide) ?_
  refine ww_aload_n C dX10_friendsLine_2 rfl 0 rfl ?_
  refine ww_geti (ci := 10) (k0 := 31) C dX10_friendsLine_3 rfl rfl inm10 (by decide) T0 q1309 rfl ?_
  refine ww_iconst (v := 1) C dX10_friendsLine_6 (by decide) ?_
  refine ww_isub C dX10_friendsLine_7 ?_
  obtain ⟨u1, e_2, E⟩ := bind_of E
  refine ww_callI C (runs_V (n := 2) (st := []) C [.int (0 : Int32), .int ((gi dy a0 31) - (1 : Int32))] (M_X10_number l G ad N hG a0 (0 : Int32) ((gi dy a0 31) - (1 : Int32)) dy T0 e_2) ⟨q1516, q118, by decide⟩ q1513 q1515 q47 (ci := 10) rfl T0 rfl (Nat.le_of_ble_eq_true rfl) ⟨Nat.le_of_ble_eq_true rfl, Nat.le_of_ble_eq_true rfl⟩ ⟨Nat.zero_le _, Nat.zero_le _⟩ dX10_friendsLine_8 rfl) ?_
  refine ww_if_ne (tgt := 16) C dX10_friendsLine_11 (by decide) E (fun _ E => ?_) (fun _ E => ?_)
  · refine ww_aload_n C dX10_friendsLine_16 rfl 0 rfl ?_
    refine ww_geti (ci := 10) (k0 := 27) C dX10_friendsLine_17 rfl rfl inm10 (by decide) T0 q1305 rfl ?_
    refine ww_istore_n (lv' := [(1, .int (gi u1.2 a0 27)), (0, .ref (ad a0))]) C dX10_friendsLine_20 rfl (by decide) rfl ?_
    refine ww_aload_n C dX10_friendsLine_21 rfl 1 rfl ?_
    refine ww_geti (ci := 10) (k0 := 20) C dX10_friendsLine_22 rfl rfl inm10 (by decide) T0 q1298 rfl ?_
    refine ww_istore_n (lv' := [(2, .int (gi u1.2 a0 20)), (1, .int (gi u1.2 a0 27)), (0, .ref (ad a0))]) C dX10_friendsLine_25 rfl (by decide) rfl ?_
    refine ww_aload_n C dX10_friendsLine_26 rfl 2 rfl ?_
    refine ww_iconst (v := 0) C dX10_friendsLine_27 (by decide) ?_
    refine ww_aload_n C dX10_friendsLine_28 rfl 2 rfl ?_
    refine ww_geti (ci := 10) (k0 := 31) C dX10_friendsLine_29 rfl rfl inm10 (by decide) T0 q1309 rfl ?_
    refine ww_iconst (v := 1) C dX10_friendsLine_32 (by decide) ?_
    refine ww_isub C dX10_friendsLine_33 ?_
    obtain ⟨u3, e_4, E⟩ := bind_of E
    refine ww_callI C (runs_V (n := 2) (st := []) C [.int (0 : Int32), .int ((gi u1.2 a0 31) - (1 : Int32))] (M_X10_number l G ad N hG a0 (0 : Int32) ((gi u1.2 a0 31) - (1 : Int32)) u1.2 T0 e_4) ⟨q1516, q118, by decide⟩ q1513 q1515 q47 (ci := 10) rfl T0 rfl (Nat.le_of_ble_eq_true rfl) ⟨Nat.le_of_ble_eq_true rfl, Nat.le_of_ble_eq_true rfl⟩ ⟨Nat.zero_le _, Nat.zero_le _⟩ dX10_friendsLine_34 rfl) ?_
    refine ww_if_ne (tgt := 42) C dX10_friendsLine_37 (by decide) E (fun _ E => ?_) (fun _ E => ?_)
    · refine ww_aload_n C dX10_friendsLine_42 rfl 2 rfl ?_
      refine ww_getz (ci := 10) (k0 := 28) C dX10_friendsLine_43 rfl rfl inm10 (by decide) T0 q1306 rfl ?_
      refine ww_if_eq (tgt := 68) C dX10_friendsLine_46 (by decide) E (fun _ E => ?_) (fun _ E => ?_)
      · refine ww_sub (lv' := [(0, .ref (ad a0)), (1, .int (gi u1.2 a0 27))]) [2, 1] rfl ?_
        exact (B_X10_friendsLine_68 C HR HL hG) a0 (gi u1.2 a0 27) u3.2 T0 E
      · refine ww_aload_n C dX10_friendsLine_49 rfl 2 rfl ?_
        refine ww_geti (ci := 10) (k0 := 27) C dX10_friendsLine_50 rfl rfl inm10 (by decide) T0 q1305 rfl ?_
        refine ww_iload_n C dX10_friendsLine_53 rfl 1 rfl ?_
        refine ww_icmp_ne (tgt := 68) C dX10_friendsLine_54 (by decide) E (fun _ E => ?_) (fun _ E => ?_)
        · refine ww_sub (lv' := [(0, .ref (ad a0)), (1, .int (gi u1.2 a0 27))]) [2, 1] rfl ?_
          exact (B_X10_friendsLine_68 C HR HL hG) a0 (gi u1.2 a0 27) u3.2 T0 E
        · refine ww_aload_n C dX10_friendsLine_57 rfl 2 rfl ?_
          refine ww_iconst (v := 2) C dX10_friendsLine_58 (by decide) ?_
          refine ww_iload_n C dX10_friendsLine_59 rfl 0 rfl ?_
          obtain ⟨u5, e_6, E⟩ := bind_of E
          refine ww_callV C (runs_V (n := 2) (st := []) C [.int (2 : Int32), .int (gi u1.2 a0 20)] (M_X10_later l G ad N hG a0 (2 : Int32) (gi u1.2 a0 20) u3.2 T0 e_6) ⟨q1520, q118, by decide⟩ q1517 q1519 q48 (ci := 10) rfl T0 rfl (Nat.le_of_ble_eq_true rfl) ⟨Nat.le_of_ble_eq_true rfl, Nat.le_of_ble_eq_true rfl⟩ ⟨Nat.zero_le _, Nat.zero_le _⟩ dX10_friendsLine_60 rfl) ?_
          refine ww_aload_n C dX10_friendsLine_63 rfl 2 rfl ?_
          refine ww_iconst (v := 0) C dX10_friendsLine_64 (by decide) ?_
          refine ww_putz (ci := 10) (k0 := 28) C dX10_friendsLine_65 rfl rfl inm10 tyX10_ok nmX10 (by decide) T0 q1306 rfl rfl rfl (Or.inl rfl) ?_
          refine ww_bd E (fun dy7 E => ?_)
          refine ww_sub (lv' := [(0, .ref (ad a0)), (1, .int (gi u1.2 a0 27))]) [2, 1] rfl ?_
          exact (B_X10_friendsLine_68 C HR HL hG) a0 (gi u1.2 a0 27) dy7 T0 E
    · refine ww_iconst (v := 0) C dX10_friendsLine_40 (by decide) ?_
      exact ww_zret C HR HL dX10_friendsLine_41 (Or.inl rfl) E
  · refine ww_iconst (v := 0) C dX10_friendsLine_14 (by decide) ?_
    exact ww_zret C HR HL dX10_friendsLine_15 (Or.inl rfl) E
section P_X10_fullest
variable {p : Program} {l : Launch} {e : Env} {s : State} {m : MethodId} {args : Array Value} {below : List Frame} {meth : Method} {c : Code} {G : GG} {A : Nat → Prop} {ad : Nat → Nat} {S : ST} {N : Nat} {r : Int32} {dy' : DY}
set_option maxHeartbeats 4000000 in
set_option maxRecDepth 100000 in
theorem B_X10_fullest_24 (C : CX p s m args c cX10_fullest 6 RX10 G A) (HR : meth.sig.returnType = (Option.some Jvm.ClassFile.FieldType.int)) (HL : meth.locks = false) (hG : Good S) : ∀ k : Nat, ∀ (x0 : Nat) (x1 : Int32) (x2 : Int32) (x3 : Int32) (x4 : Int32) (x5 : Int32) (dy : DY), gs S x0 = (0, 10) → (F_X10_fullest_24 S N k) x0 x1 x2 x3 x4 x5 dy = some (r, dy') → WJ p l e (rmD (11)) s m args below meth c 6 G A 0 0 (MQ below (QI G ad A S r dy') args s 0 0 A) ad 24 [(0, .ref (ad x0)), (1, .int x1), (2, .int x2), (3, .int x3), (4, .int x4), (5, .int x5)] [] S dy := by
  intro k
  induction k with
  | zero => exact fun _ _ _ _ _ _ _ _ E => nomatch (show none = some (r, dy') from E)
  | succ k ih =>
    intro x0 x1 x2 x3 x4 x5 dy Tx0 E
    rw [F_X10_fullest_24_s] at E
    refine ww_iload C dX10_fullest_24 5 rfl ?_
    refine ww_aload_n C dX10_fullest_26 rfl 0 rfl ?_
    have T_1 : gs S (gr S x0 8) = (1, 12) := hG.1 _ 10 Tx0 8 (by decide)
    refine ww_getr (ci := 10) (k0 := 8) C dX10_fullest_27 rfl rfl inm10 (by decide) Tx0 q1286 rfl T_1 (by decide) ?_
    refine ww_iload_n C dX10_fullest_30 rfl 1 rfl ?_
    refine ww_iald C dX10_fullest_31 T_1 E (fun _ E => ?_)
    refine ww_icmp_gt (tgt := 74) C dX10_fullest_32 (by decide) E (fun _ E => ?_) (fun _ E => ?_)
    · refine ww_iconst (v := (-1)) C dX10_fullest_74 (by decide) ?_
      exact ww_iret C HR HL dX10_fullest_75 E
    · refine ww_aload_n C dX10_fullest_35 rfl 0 rfl ?_
      refine ww_iconst (v := 4) C dX10_fullest_36 (by decide) ?_
      refine ww_iload_n C dX10_fullest_37 rfl 1 rfl ?_
      refine ww_iload_n C dX10_fullest_38 rfl 2 rfl ?_
      refine ww_iload_n C dX10_fullest_39 rfl 3 rfl ?_
      refine ww_iload C dX10_fullest_40 5 rfl ?_
      refine ww_iconst (v := (-1)) C dX10_fullest_42 (by decide) ?_
      obtain ⟨u2, e_3, E⟩ := bind_of E
      refine ww_callV C (runs_V (n := 6) (st := []) C [.int (4 : Int32), .int x1, .int x2, .int x3, .int x5, .int (-1 : Int32)] (M_X10_lay l G ad N hG x0 (4 : Int32) x1 x2 x3 x5 (-1 : Int32) dy Tx0 e_3) ⟨q1641, q118, by decide⟩ q1638 q1640 q66 (ci := 10) rfl Tx0 rfl (Nat.le_of_ble_eq_true rfl) ⟨Nat.le_of_ble_eq_true rfl, Nat.le_of_ble_eq_true rfl⟩ ⟨Nat.zero_le _, Nat.zero_le _⟩ dX10_fullest_43 rfl) ?_
      refine ww_aload_n C dX10_fullest_46 rfl 0 rfl ?_
      refine ww_iload C dX10_fullest_47 4 rfl ?_
      obtain ⟨u4, e_5, E⟩ := bind_of E
      refine ww_callV C (runs_V (n := 1) (st := []) C [.int x4] (M_X10_tryOn l G ad N hG x0 x4 u2 Tx0 e_5) ⟨q1801, q118, by decide⟩ q1798 q1800 q96 (ci := 10) rfl Tx0 rfl (Nat.le_of_ble_eq_true rfl) ⟨Nat.le_of_ble_eq_true rfl, Nat.le_of_ble_eq_true rfl⟩ ⟨Nat.zero_le _, Nat.zero_le _⟩ dX10_fullest_49 rfl) ?_
      refine ww_aload_n C dX10_fullest_52 rfl 0 rfl ?_
      have T_6 : gs S (gr S x0 39) = (1, 10080) := hG.1 _ 10 Tx0 39 (by decide)
      refine ww_getr (ci := 10) (k0 := 39) C dX10_fullest_53 rfl rfl inm10 (by decide) Tx0 q1317 rfl T_6 (by decide) ?_
      refine ww_sipush (v := 2886) C dX10_fullest_56 (by decide) ?_
      refine ww_iald C dX10_fullest_59 T_6 E (fun _ E => ?_)
      refine ww_iload C dX10_fullest_60 5 rfl ?_
      refine ww_icmp_ge (tgt := 68) C dX10_fullest_62 (by decide) E (fun _ E => ?_) (fun _ E => ?_)
      · refine ww_iinc (v := (x5 + (1 : Int32))) (lv' := [(5, .int (x5 + (1 : Int32))), (0, .ref (ad x0)), (1, .int x1), (2, .int x2), (3, .int x3), (4, .int x4)]) C dX10_fullest_68 5 rfl rfl (by decide) rfl ?_
        refine ww_goto (tgt := 24) C dX10_fullest_71 (by decide) ?_
        refine ww_sub (lv' := [(0, .ref (ad x0)), (1, .int x1), (2, .int x2), (3, .int x3), (4, .int x4), (5, .int (x5 + (1 : Int32)))]) [1, 2, 3, 4, 5, 0] rfl ?_
        exact ih x0 x1 x2 x3 x4 (x5 + (1 : Int32)) u4 Tx0 E
      · refine ww_iload C dX10_fullest_65 5 rfl ?_
        exact ww_iret C HR HL dX10_fullest_67 E
end P_X10_fullest
set_option maxHeartbeats 4000000 in
set_option maxRecDepth 100000 in
theorem M_X10_fullest (l : Launch) (G : GG) (ad : Nat → Nat) {S : ST} (N : Nat) (hG : Good S) (a0 : Nat) (a1 : Int32) (a2 : Int32) (a3 : Int32) (a4 : Int32) (dy : DY) (T0 : gs S a0 = (0, 10)) {r : Int32} {dy' : DY} (E : F_X10_fullest S N a0 a1 a2 a3 a4 dy = some (r, dy')) : MC l yX10_fullest cX10_fullest 6 (Option.some Jvm.ClassFile.FieldType.int) (11) G ad [.ref (ad a0), .int a1, .int a2, .int a3, .int a4] S dy (fun A => QI G ad A S r dy') := by
  rw [F_X10_fullest_s] at E
  refine mc_of RX10 (by decide) rfl (Nat.le_of_ble_eq_true rfl) (fun p e s m args below meth c A C HR HL => ?_)
  refine ww_sub (lv' := [(0, .ref (ad a0)), (1, .int a1), (2, .int a2), (3, .int a3), (4, .int a4)]) [0, 1, 2, 3, 4] rfl ?_
  refine ww_aload_n C dX10_fullest_0 rfl 0 rfl ?_
  refine ww_iconst (v := 0) C dX10_fullest_1 (by decide) ?_
  refine ww_puti (ci := 10) (k0 := 0) C dX10_fullest_2 rfl rfl inm10 tyX10_ok nmX10 (by decide) T0 q1278 rfl rfl rfl ?_
  refine ww_bd E (fun dy1 E => ?_)
  refine ww_aload_n C dX10_fullest_5 rfl 0 rfl ?_
  refine ww_iload_n C dX10_fullest_6 rfl 1 rfl ?_
  refine ww_iload_n C dX10_fullest_7 rfl 2 rfl ?_
  refine ww_iload C dX10_fullest_8 4 rfl ?_
  refine ww_sipush (v := 200) C dX10_fullest_10 (by decide) ?_
  obtain ⟨u2, e_3, E⟩ := bind_of E
  refine ww_callI C (runs_V (n := 4) (st := []) C [.int a1, .int a2, .int a4, .int (200 : Int32)] (M_X10_isTried l G ad N hG a0 a1 a2 a4 (200 : Int32) dy1 T0 e_3) ⟨q1797, q118, by decide⟩ q1794 q1796 q95 (ci := 10) rfl T0 rfl (Nat.le_of_ble_eq_true rfl) ⟨Nat.le_of_ble_eq_true rfl, Nat.le_of_ble_eq_true rfl⟩ ⟨Nat.zero_le _, Nat.zero_le _⟩ dX10_fullest_13 rfl) ?_
  refine ww_if_ne (tgt := 21) C dX10_fullest_16 (by decide) E (fun _ E => ?_) (fun _ E => ?_)
  · refine ww_iconst (v := 1) C dX10_fullest_21 (by decide) ?_
    refine ww_istore (lv' := [(5, .int (1 : Int32)), (0, .ref (ad a0)), (1, .int a1), (2, .int a2), (3, .int a3), (4, .int a4)]) C dX10_fullest_22 (by decide) rfl ?_
    refine ww_sub (lv' := [(0, .ref (ad a0)), (1, .int a1), (2, .int a2), (3, .int a3), (4, .int a4), (5, .int (1 : Int32))]) [1, 2, 3, 4, 5, 0] rfl ?_
    exact (B_X10_fullest_24 C HR HL hG N) a0 a1 a2 a3 a4 (1 : Int32) u2.2 T0 E
  · refine ww_iconst (v := (-1)) C dX10_fullest_19 (by decide) ?_
    exact ww_iret C HR HL dX10_fullest_20 E
section P_X10_go
variable {p : Program} {l : Launch} {e : Env} {s : State} {m : MethodId} {args : Array Value} {below : List Frame} {meth : Method} {c : Code} {G : GG} {A : Nat → Prop} {ad : Nat → Nat} {S : ST} {N : Nat} {r : Int32} {dy' : DY}
set_option maxHeartbeats 4000000 in
set_option maxRecDepth 100000 in
theorem B_X10_go_37 (C : CX p s m args c cX10_go 4 RX10 G A) (HR : meth.sig.returnType = (Option.some Jvm.ClassFile.FieldType.int)) (HL : meth.locks = false) (hG : Good S) : ∀ k : Nat, ∀ (x0 : Nat) (x1 : Int32) (x2 : Int32) (x3 : Int32) (dy : DY), gs S x0 = (0, 10) → (F_X10_go_37 S N k) x0 x1 x2 x3 dy = some (r, dy') → WJ p l e (rmD (10)) s m args below meth c 4 G A 0 0 (MQ below (QI G ad A S r dy') args s 0 0 A) ad 37 [(0, .ref (ad x0)), (1, .int x1), (2, .int x2), (3, .int x3)] [] S dy := by
  intro k
  induction k with
  | zero => exact fun _ _ _ _ _ _ E => nomatch (show none = some (r, dy') from E)
  | succ k ih =>
    intro x0 x1 x2 x3 dy Tx0 E
    rw [F_X10_go_37_s] at E
    refine ww_iload_n C dX10_go_37 rfl 3 rfl ?_
    refine ww_iload_n C dX10_go_38 rfl 1 rfl ?_
    refine ww_icmp_ge (tgt := 56) C dX10_go_39 (by decide) E (fun _ E => ?_) (fun _ E => ?_)
    · refine ww_iload_n C dX10_go_56 rfl 2 rfl ?_
      exact ww_iret C HR HL dX10_go_57 E
    · refine ww_iload_n C dX10_go_42 rfl 2 rfl ?_
      refine ww_aload_n C dX10_go_43 rfl 0 rfl ?_
      refine ww_iconst (v := 0) C dX10_go_44 (by decide) ?_
      obtain ⟨u1, e_2, E⟩ := bind_of E
      refine ww_callI C (runs_V (n := 1) (st := [.int x2]) C [.int (0 : Int32)] (M_X10_step l G ad N hG x0 (0 : Int32) dy Tx0 e_2) ⟨q1652, q118, by decide⟩ q1649 q1651 q67 (ci := 10) rfl Tx0 rfl (Nat.le_of_ble_eq_true rfl) ⟨Nat.le_of_ble_eq_true rfl, Nat.le_of_ble_eq_true rfl⟩ ⟨Nat.zero_le _, Nat.zero_le _⟩ dX10_go_45 rfl) ?_
      refine ww_iadd C dX10_go_48 ?_
      refine ww_istore_n (lv' := [(2, .int (x2 + u1.1)), (0, .ref (ad x0)), (1, .int x1), (3, .int x3)]) C dX10_go_49 rfl (by decide) rfl ?_
      refine ww_iinc (v := (x3 + (1 : Int32))) (lv' := [(3, .int (x3 + (1 : Int32))), (2, .int (x2 + u1.1)), (0, .ref (ad x0)), (1, .int x1)]) C dX10_go_50 3 rfl rfl (by decide) rfl ?_
      refine ww_goto (tgt := 37) C dX10_go_53 (by decide) ?_
      refine ww_sub (lv' := [(0, .ref (ad x0)), (1, .int x1), (2, .int (x2 + u1.1)), (3, .int (x3 + (1 : Int32)))]) [2, 3, 1, 0] rfl ?_
      exact ih x0 x1 (x2 + u1.1) (x3 + (1 : Int32)) u1.2 Tx0 E
end P_X10_go
set_option maxHeartbeats 4000000 in
set_option maxRecDepth 100000 in
theorem M_X10_go (l : Launch) (G : GG) (ad : Nat → Nat) {S : ST} (N : Nat) (hG : Good S) (a0 : Nat) (a1 : Int32) (dy : DY) (T0 : gs S a0 = (0, 10)) {r : Int32} {dy' : DY} (E : F_X10_go S N a0 a1 dy = some (r, dy')) : MC l yX10_go cX10_go 4 (Option.some Jvm.ClassFile.FieldType.int) (10) G ad [.ref (ad a0), .int a1] S dy (fun A => QI G ad A S r dy') := by
  rw [F_X10_go_s] at E
  refine mc_of RX10 (by decide) rfl (Nat.le_of_ble_eq_true rfl) (fun p e s m args below meth c A C HR HL => ?_)
  refine ww_sub (lv' := [(0, .ref (ad a0)), (1, .int a1)]) [0, 1] rfl ?_
  refine ww_aload_n C dX10_go_0 rfl 0 rfl ?_
  refine ww_iconst (v := 0) C dX10_go_1 (by decide) ?_
  refine ww_puti (ci := 10) (k0 := 0) C dX10_go_2 rfl rfl inm10 tyX10_ok nmX10 (by decide) T0 q1278 rfl rfl rfl ?_
  refine ww_bd E (fun dy1 E => ?_)
  refine ww_aload_n C dX10_go_5 rfl 0 rfl ?_
  have T_2 : gs S (gr S a0 39) = (1, 10080) := hG.1 _ 10 T0 39 (by decide)
  refine ww_getr (ci := 10) (k0 := 39) C dX10_go_6 rfl rfl inm10 (by decide) T0 q1317 rfl T_2 (by decide) ?_
  refine ww_bipush (v := 10) C dX10_go_9 (by decide) ?_
  refine ww_iald C dX10_go_11 T_2 E (fun _ E => ?_)
  refine ww_if_eq (tgt := 26) C dX10_go_12 (by decide) E (fun _ E => ?_) (fun _ E => ?_)
  · refine ww_iconst (v := (-1)) C dX10_go_26 (by decide) ?_
    exact ww_iret C HR HL dX10_go_27 E
  · refine ww_iload_n C dX10_go_15 rfl 1 rfl ?_
    refine ww_iconst (v := 0) C dX10_go_16 (by decide) ?_
    refine ww_sipush (v := 200) C dX10_go_17 (by decide) ?_
    obtain ⟨u3, e_4, E⟩ := bind_of E
    refine ww_callI C (runs_S (n := 3) (st := []) C [.int a1, .int (0 : Int32), .int (200 : Int32)] (M_X10_in l G ad N hG a1 (0 : Int32) (200 : Int32) dy1 e_4) ⟨q1476, q118, by decide⟩ q1474 q1475 rfl (Nat.le_of_ble_eq_true rfl) ⟨Nat.le_of_ble_eq_true rfl, Nat.le_of_ble_eq_true rfl⟩ ⟨Nat.zero_le _, Nat.zero_le _⟩ dX10_go_20 rfl) ?_
    refine ww_if_ne (tgt := 28) C dX10_go_23 (by decide) E (fun _ E => ?_) (fun _ E => ?_)
    · refine ww_aload_n C dX10_go_28 rfl 0 rfl ?_
      refine ww_iconst (v := 0) C dX10_go_29 (by decide) ?_
      refine ww_putz (ci := 10) (k0 := 45) C dX10_go_30 rfl rfl inm10 tyX10_ok nmX10 (by decide) T0 q1323 rfl rfl rfl (Or.inl rfl) ?_
      refine ww_bd E (fun dy5 E => ?_)
      refine ww_iconst (v := 0) C dX10_go_33 (by decide) ?_
      refine ww_istore_n (lv' := [(2, .int (0 : Int32)), (0, .ref (ad a0)), (1, .int a1)]) C dX10_go_34 rfl (by decide) rfl ?_
      refine ww_iconst (v := 0) C dX10_go_35 (by decide) ?_
      refine ww_istore_n (lv' := [(3, .int (0 : Int32)), (2, .int (0 : Int32)), (0, .ref (ad a0)), (1, .int a1)]) C dX10_go_36 rfl (by decide) rfl ?_
      refine ww_sub (lv' := [(0, .ref (ad a0)), (1, .int a1), (2, .int (0 : Int32)), (3, .int (0 : Int32))]) [2, 3, 1, 0] rfl ?_
      exact (B_X10_go_37 C HR HL hG N) a0 a1 (0 : Int32) (0 : Int32) dy5 T0 E
    · refine ww_iconst (v := (-1)) C dX10_go_26 (by decide) ?_
      exact ww_iret C HR HL dX10_go_27 E
section P_X10_habit
variable {p : Program} {l : Launch} {e : Env} {s : State} {m : MethodId} {args : Array Value} {below : List Frame} {meth : Method} {c : Code} {G : GG} {A : Nat → Prop} {ad : Nat → Nat} {S : ST} {N : Nat} {r : Int64} {dy' : DY}
set_option maxHeartbeats 4000000 in
set_option maxRecDepth 100000 in
theorem B_X10_habit_98 (C : CX p s m args c cX10_habit 13 RX10 G A) (HR : meth.sig.returnType = (Option.some Jvm.ClassFile.FieldType.long)) (HL : meth.locks = false) (hG : Good S) {K75 : Nat → Int32 → Int32 → Int32 → Int32 → Int32 → Int32 → Int32 → DY → Option (Int64 × DY)} (hK75 : ∀ (x0 : Nat) (x1 : Int32) (x2 : Int32) (x3 : Int32) (x4 : Int32) (x5 : Int32) (x6 : Int32) (x7 : Int32) (dy : DY), gs S x0 = (0, 10) → K75 x0 x1 x2 x3 x4 x5 x6 x7 dy = some (r, dy') → WJ p l e (rmD (2)) s m args below meth c 13 G A 0 0 (MQ below (QL G ad A S r dy') args s 0 0 A) ad 75 [(0, .ref (ad x0)), (1, .int x1), (2, .int x2), (3, .int x3), (4, .int x4), (5, .int x5), (6, .int x6), (7, .int x7)] [] S dy) : ∀ (x0 : Nat) (x1 : Int32) (x2 : Int32) (x3 : Int32) (x4 : Int32) (x5 : Int32) (x6 : Int32) (x7 : Int32) (y0 : Nat) (y1 : Int32) (y2 : Int64) (dy : DY), gs S x0 = (0, 10) → gs S y0 = (4, 18) → F_X10_habit_98 S N K75 x0 x1 x2 x3 x4 x5 x6 x7 y0 y1 y2 dy = some (r, dy') → WJ p l e (rmD (2)) s m args below meth c 13 G A 0 0 (MQ below (QL G ad A S r dy') args s 0 0 A) ad 98 [(0, .ref (ad x0)), (1, .int x1), (2, .int x2), (3, .int x3), (4, .int x4), (5, .int x5), (6, .int x6), (7, .int x7)] [.long y2, .int y1, .ref (ad y0)] S dy := by
  intro x0 x1 x2 x3 x4 x5 x6 x7 y0 y1 y2 dy Tx0 Ty0 E
  rw [F_X10_habit_98_s] at E
  refine ww_last C dX10_habit_98 Ty0 E (fun _ E => ?_)
  refine ww_bd E (fun dy1 E => ?_)
  refine ww_iinc (v := (x7 + (1 : Int32))) (lv' := [(7, .int (x7 + (1 : Int32))), (0, .ref (ad x0)), (1, .int x1), (2, .int x2), (3, .int x3), (4, .int x4), (5, .int x5), (6, .int x6)]) C dX10_habit_99 7 rfl rfl (by decide) rfl ?_
  refine ww_goto (tgt := 75) C dX10_habit_102 (by decide) ?_
  refine ww_sub (lv' := [(0, .ref (ad x0)), (1, .int x1), (2, .int x2), (3, .int x3), (4, .int x4), (5, .int x5), (6, .int x6), (7, .int (x7 + (1 : Int32)))]) [1, 2, 3, 4, 5, 6, 7, 0] rfl ?_
  exact hK75 x0 x1 x2 x3 x4 x5 x6 (x7 + (1 : Int32)) dy1 Tx0 E
set_option maxHeartbeats 4000000 in
set_option maxRecDepth 100000 in
theorem B_X10_habit_275 (C : CX p s m args c cX10_habit 13 RX10 G A) (HR : meth.sig.returnType = (Option.some Jvm.ClassFile.FieldType.long)) (HL : meth.locks = false) (hG : Good S) {K118 : Nat → Int32 → Int32 → Int32 → Int32 → Int32 → Int64 → Int32 → DY → Option (Int64 × DY)} (hK118 : ∀ (x0 : Nat) (x1 : Int32) (x3 : Int32) (x4 : Int32) (x5 : Int32) (x6 : Int32) (x7 : Int64) (x9 : Int32) (dy : DY), gs S x0 = (0, 10) → K118 x0 x1 x3 x4 x5 x6 x7 x9 dy = some (r, dy') → WJ p l e (rmD (2)) s m args below meth c 13 G A 0 0 (MQ below (QL G ad A S r dy') args s 0 0 A) ad 118 [(0, .ref (ad x0)), (1, .int x1), (3, .int x3), (4, .int x4), (5, .int x5), (6, .int x6), (7, .long x7), (9, .int x9)] [] S dy) : ∀ k : Nat, ∀ (x0 : Nat) (x1 : Int32) (x3 : Int32) (x4 : Int32) (x5 : Int32) (x6 : Int32) (x7 : Int64) (x9 : Int32) (x10 : Int32) (dy : DY), gs S x0 = (0, 10) → (F_X10_habit_275 S N K118 k) x0 x1 x3 x4 x5 x6 x7 x9 x10 dy = some (r, dy') → WJ p l e (rmD (2)) s m args below meth c 13 G A 0 0 (MQ below (QL G ad A S r dy') args s 0 0 A) ad 275 [(0, .ref (ad x0)), (1, .int x1), (3, .int x3), (4, .int x4), (5, .int x5), (6, .int x6), (7, .long x7), (9, .int x9), (10, .int x10)] [] S dy := by
  intro k
  induction k with
  | zero => exact fun _ _ _ _ _ _ _ _ _ _ _ E => nomatch (show none = some (r, dy') from E)
  | succ k ih =>
    intro x0 x1 x3 x4 x5 x6 x7 x9 x10 dy Tx0 E
    rw [F_X10_habit_275_s] at E
    refine ww_iload C dX10_habit_275 8 rfl ?_
    refine ww_iload_n C dX10_habit_277 rfl 1 rfl ?_
    refine ww_icmp_gt (tgt := 304) C dX10_habit_278 (by decide) E (fun _ E => ?_) (fun _ E => ?_)
    · refine ww_iinc (v := (x9 + (1 : Int32))) (lv' := [(9, .int (x9 + (1 : Int32))), (0, .ref (ad x0)), (1, .int x1), (3, .int x3), (4, .int x4), (5, .int x5), (6, .int x6), (7, .long x7), (10, .int x10)]) C dX10_habit_304 7 rfl rfl (by decide) rfl ?_
      refine ww_goto (tgt := 118) C dX10_habit_307 (by decide) ?_
      refine ww_sub (lv' := [(0, .ref (ad x0)), (1, .int x1), (3, .int x3), (4, .int x4), (5, .int x5), (6, .int x6), (7, .long x7), (9, .int (x9 + (1 : Int32)))]) [1, 2, 3, 4, 5, 6, 7, 0] rfl ?_
      exact hK118 x0 x1 x3 x4 x5 x6 x7 (x9 + (1 : Int32)) dy Tx0 E
    · refine ww_aload_n C dX10_habit_281 rfl 0 rfl ?_
      have T_1 : gs S (gr S x0 59) = (4, 18) := hG.1 _ 10 Tx0 59 (by decide)
      refine ww_getr (ci := 10) (k0 := 59) C dX10_habit_282 rfl rfl inm10 (by decide) Tx0 q1337 rfl T_1 (by decide) ?_
      refine ww_iload C dX10_habit_285 8 rfl ?_
      refine ww_aload_n C dX10_habit_287 rfl 0 rfl ?_
      have T_2 : gs S (gr S x0 59) = (4, 18) := hG.1 _ 10 Tx0 59 (by decide)
      refine ww_getr (ci := 10) (k0 := 59) C dX10_habit_288 rfl rfl inm10 (by decide) Tx0 q1337 rfl T_2 (by decide) ?_
      refine ww_bipush (v := 9) C dX10_habit_291 (by decide) ?_
      refine ww_iload C dX10_habit_293 8 rfl ?_
      refine ww_iadd C dX10_habit_295 ?_
      refine ww_lald C dX10_habit_296 T_2 E (fun _ E => ?_)
      refine ww_last C dX10_habit_297 T_1 E (fun _ E => ?_)
      refine ww_bd E (fun dy3 E => ?_)
      refine ww_iinc (v := (x10 + (1 : Int32))) (lv' := [(10, .int (x10 + (1 : Int32))), (0, .ref (ad x0)), (1, .int x1), (3, .int x3), (4, .int x4), (5, .int x5), (6, .int x6), (7, .long x7), (9, .int x9)]) C dX10_habit_298 8 rfl rfl (by decide) rfl ?_
      refine ww_goto (tgt := 275) C dX10_habit_301 (by decide) ?_
      refine ww_sub (lv' := [(0, .ref (ad x0)), (1, .int x1), (3, .int x3), (4, .int x4), (5, .int x5), (6, .int x6), (7, .long x7), (9, .int x9), (10, .int (x10 + (1 : Int32)))]) [1, 2, 3, 4, 5, 6, 7, 8, 0] rfl ?_
      exact ih x0 x1 x3 x4 x5 x6 x7 x9 (x10 + (1 : Int32)) dy3 Tx0 E
set_option maxHeartbeats 4000000 in
set_option maxRecDepth 100000 in
theorem B_X10_habit_154 (C : CX p s m args c cX10_habit 13 RX10 G A) (HR : meth.sig.returnType = (Option.some Jvm.ClassFile.FieldType.long)) (HL : meth.locks = false) (hG : Good S) {K118 : Nat → Int32 → Int32 → Int32 → Int32 → Int32 → Int64 → Int32 → DY → Option (Int64 × DY)} (hK118 : ∀ (x0 : Nat) (x1 : Int32) (x3 : Int32) (x4 : Int32) (x5 : Int32) (x6 : Int32) (x7 : Int64) (x9 : Int32) (dy : DY), gs S x0 = (0, 10) → K118 x0 x1 x3 x4 x5 x6 x7 x9 dy = some (r, dy') → WJ p l e (rmD (2)) s m args below meth c 13 G A 0 0 (MQ below (QL G ad A S r dy') args s 0 0 A) ad 118 [(0, .ref (ad x0)), (1, .int x1), (3, .int x3), (4, .int x4), (5, .int x5), (6, .int x6), (7, .long x7), (9, .int x9)] [] S dy) : ∀ k : Nat, ∀ (x0 : Nat) (x1 : Int32) (x3 : Int32) (x4 : Int32) (x5 : Int32) (x6 : Int32) (x7 : Int64) (x9 : Int32) (x10 : Int32) (dy : DY), gs S x0 = (0, 10) → (F_X10_habit_154 S N K118 k) x0 x1 x3 x4 x5 x6 x7 x9 x10 dy = some (r, dy') → WJ p l e (rmD (2)) s m args below meth c 13 G A 0 0 (MQ below (QL G ad A S r dy') args s 0 0 A) ad 154 [(0, .ref (ad x0)), (1, .int x1), (3, .int x3), (4, .int x4), (5, .int x5), (6, .int x6), (7, .long x7), (9, .int x9), (10, .int x10)] [] S dy := by
  intro k
  induction k with
  | zero => exact fun _ _ _ _ _ _ _ _ _ _ _ E => nomatch (show none = some (r, dy') from E)
  | succ k ih =>
    intro x0 x1 x3 x4 x5 x6 x7 x9 x10 dy Tx0 E
    rw [F_X10_habit_154_s] at E
    refine ww_iload C dX10_habit_154 8 rfl ?_
    refine ww_iload_n C dX10_habit_156 rfl 1 rfl ?_
    refine ww_icmp_gt (tgt := 272) C dX10_habit_157 (by decide) E (fun _ E => ?_) (fun _ E => ?_)
    · refine ww_iconst (v := 0) C dX10_habit_272 (by decide) ?_
      refine ww_istore (lv' := [(10, .int (0 : Int32)), (0, .ref (ad x0)), (1, .int x1), (3, .int x3), (4, .int x4), (5, .int x5), (6, .int x6), (7, .long x7), (9, .int x9)]) C dX10_habit_273 (by decide) rfl ?_
      refine ww_sub (lv' := [(0, .ref (ad x0)), (1, .int x1), (3, .int x3), (4, .int x4), (5, .int x5), (6, .int x6), (7, .long x7), (9, .int x9), (10, .int (0 : Int32))]) [1, 2, 3, 4, 5, 6, 7, 8, 0] rfl ?_
      exact (B_X10_habit_275 C HR HL hG hK118 N) x0 x1 x3 x4 x5 x6 x7 x9 (0 : Int32) dy Tx0 E
    · refine ww_iload C dX10_habit_160 8 rfl ?_
      refine ww_iload_n C dX10_habit_162 rfl 1 rfl ?_
      refine ww_iload C dX10_habit_163 8 rfl ?_
      refine ww_isub C dX10_habit_165 ?_
      refine ww_imul C dX10_habit_166 ?_
      refine ww_i2l C dX10_habit_167 ?_
      refine ww_lstore (lv' := [(11, .long ((x10 * (x1 - x10))).toInt64), (0, .ref (ad x0)), (1, .int x1), (3, .int x3), (4, .int x4), (5, .int x5), (6, .int x6), (7, .long x7), (9, .int x9), (10, .int x10)]) C dX10_habit_168 (by decide) rfl ?_
      refine ww_aload_n C dX10_habit_170 rfl 1 rfl ?_
      have T_1 : gs S (gr S x0 59) = (4, 18) := hG.1 _ 10 Tx0 59 (by decide)
      refine ww_getr (ci := 10) (k0 := 59) C dX10_habit_171 rfl rfl inm10 (by decide) Tx0 q1337 rfl T_1 (by decide) ?_
      refine ww_bipush (v := 9) C dX10_habit_174 (by decide) ?_
      refine ww_iload C dX10_habit_176 9 rfl ?_
      refine ww_iadd C dX10_habit_178 ?_
      refine ww_dup2 C dX10_habit_179 rfl rfl ?_
      refine ww_lald C dX10_habit_180 T_1 E (fun _ E => ?_)
      refine ww_aload_n C dX10_habit_181 rfl 1 rfl ?_
      have T_2 : gs S (gr S x0 59) = (4, 18) := hG.1 _ 10 Tx0 59 (by decide)
      refine ww_getr (ci := 10) (k0 := 59) C dX10_habit_182 rfl rfl inm10 (by decide) Tx0 q1337 rfl T_2 (by decide) ?_
      refine ww_iload C dX10_habit_185 9 rfl ?_
      refine ww_lald C dX10_habit_187 T_2 E (fun _ E => ?_)
      refine ww_ldc2 (v := (12)) C dX10_habit_188 q1902 ?_
      refine ww_lload C dX10_habit_191 7 rfl ?_
      refine ww_lmul C dX10_habit_193 ?_
      refine ww_lload C dX10_habit_194 0 rfl ?_
      refine ww_iload_n C dX10_habit_196 rfl 3 rfl ?_
      refine ww_iload C dX10_habit_197 4 rfl ?_
      refine ww_iadd C dX10_habit_199 ?_
      refine ww_i2l C dX10_habit_200 ?_
      refine ww_lmul C dX10_habit_201 ?_
      refine ww_lsub C dX10_habit_202 ?_
      refine ww_lmul C dX10_habit_203 ?_
      refine ww_ladd C dX10_habit_204 ?_
      refine ww_last C dX10_habit_205 T_1 E (fun _ E => ?_)
      refine ww_bd E (fun dy3 E => ?_)
      refine ww_lload C dX10_habit_206 0 rfl ?_
      refine ww_lconst (v := 0) C dX10_habit_208 (by decide) ?_
      refine ww_lcmp C dX10_habit_209 ?_
      refine ww_if_le (tgt := 266) C dX10_habit_210 (by decide) E (fun _ E => ?_) (fun _ E => ?_)
      · refine ww_iinc (v := (x10 + (1 : Int32))) (lv' := [(10, .int (x10 + (1 : Int32))), (11, .long ((x10 * (x1 - x10))).toInt64), (0, .ref (ad x0)), (1, .int x1), (3, .int x3), (4, .int x4), (5, .int x5), (6, .int x6), (7, .long x7), (9, .int x9)]) C dX10_habit_266 9 rfl rfl (by decide) rfl ?_
        refine ww_goto (tgt := 154) C dX10_habit_269 (by decide) ?_
        refine ww_sub (lv' := [(0, .ref (ad x0)), (1, .int x1), (3, .int x3), (4, .int x4), (5, .int x5), (6, .int x6), (7, .long x7), (9, .int x9), (10, .int (x10 + (1 : Int32)))]) [2, 3, 4, 5, 6, 7, 8, 9, 0] rfl ?_
        exact ih x0 x1 x3 x4 x5 x6 x7 x9 (x10 + (1 : Int32)) dy3 Tx0 E
      · refine ww_aload_n C dX10_habit_213 rfl 1 rfl ?_
        have T_4 : gs S (gr S x0 59) = (4, 18) := hG.1 _ 10 Tx0 59 (by decide)
        refine ww_getr (ci := 10) (k0 := 59) C dX10_habit_214 rfl rfl inm10 (by decide) Tx0 q1337 rfl T_4 (by decide) ?_
        refine ww_bipush (v := 10) C dX10_habit_217 (by decide) ?_
        refine ww_iload C dX10_habit_219 9 rfl ?_
        refine ww_iadd C dX10_habit_221 ?_
        refine ww_dup2 C dX10_habit_222 rfl rfl ?_
        refine ww_lald C dX10_habit_223 T_4 E (fun _ E => ?_)
        refine ww_aload_n C dX10_habit_224 rfl 1 rfl ?_
        have T_5 : gs S (gr S x0 59) = (4, 18) := hG.1 _ 10 Tx0 59 (by decide)
        refine ww_getr (ci := 10) (k0 := 59) C dX10_habit_225 rfl rfl inm10 (by decide) Tx0 q1337 rfl T_5 (by decide) ?_
        refine ww_iload C dX10_habit_228 9 rfl ?_
        refine ww_lald C dX10_habit_230 T_5 E (fun _ E => ?_)
        refine ww_lload C dX10_habit_231 0 rfl ?_
        refine ww_lmul C dX10_habit_233 ?_
        refine ww_iload_n C dX10_habit_234 rfl 3 rfl ?_
        refine ww_i2l C dX10_habit_235 ?_
        refine ww_lmul C dX10_habit_236 ?_
        refine ww_ladd C dX10_habit_237 ?_
        refine ww_last C dX10_habit_238 T_4 E (fun _ E => ?_)
        refine ww_bd E (fun dy6 E => ?_)
        refine ww_aload_n C dX10_habit_239 rfl 1 rfl ?_
        have T_7 : gs S (gr S x0 59) = (4, 18) := hG.1 _ 10 Tx0 59 (by decide)
        refine ww_getr (ci := 10) (k0 := 59) C dX10_habit_240 rfl rfl inm10 (by decide) Tx0 q1337 rfl T_7 (by decide) ?_
        refine ww_bipush (v := 8) C dX10_habit_243 (by decide) ?_
        refine ww_iload C dX10_habit_245 9 rfl ?_
        refine ww_iadd C dX10_habit_247 ?_
        refine ww_dup2 C dX10_habit_248 rfl rfl ?_
        refine ww_lald C dX10_habit_249 T_7 E (fun _ E => ?_)
        refine ww_aload_n C dX10_habit_250 rfl 1 rfl ?_
        have T_8 : gs S (gr S x0 59) = (4, 18) := hG.1 _ 10 Tx0 59 (by decide)
        refine ww_getr (ci := 10) (k0 := 59) C dX10_habit_251 rfl rfl inm10 (by decide) Tx0 q1337 rfl T_8 (by decide) ?_
        refine ww_iload C dX10_habit_254 9 rfl ?_
        refine ww_lald C dX10_habit_256 T_8 E (fun _ E => ?_)
        refine ww_lload C dX10_habit_257 0 rfl ?_
        refine ww_lmul C dX10_habit_259 ?_
        refine ww_iload C dX10_habit_260 4 rfl ?_
        refine ww_i2l C dX10_habit_262 ?_
        refine ww_lmul C dX10_habit_263 ?_
        refine ww_ladd C dX10_habit_264 ?_
        refine ww_last C dX10_habit_265 T_7 E (fun _ E => ?_)
        refine ww_bd E (fun dy9 E => ?_)
        refine ww_iinc (v := (x10 + (1 : Int32))) (lv' := [(10, .int (x10 + (1 : Int32))), (11, .long ((x10 * (x1 - x10))).toInt64), (0, .ref (ad x0)), (1, .int x1), (3, .int x3), (4, .int x4), (5, .int x5), (6, .int x6), (7, .long x7), (9, .int x9)]) C dX10_habit_266 9 rfl rfl (by decide) rfl ?_
        refine ww_goto (tgt := 154) C dX10_habit_269 (by decide) ?_
        refine ww_sub (lv' := [(0, .ref (ad x0)), (1, .int x1), (3, .int x3), (4, .int x4), (5, .int x5), (6, .int x6), (7, .long x7), (9, .int x9), (10, .int (x10 + (1 : Int32)))]) [2, 3, 4, 5, 6, 7, 8, 9, 0] rfl ?_
        exact ih x0 x1 x3 x4 x5 x6 x7 x9 (x10 + (1 : Int32)) dy9 Tx0 E
set_option maxHeartbeats 4000000 in
set_option maxRecDepth 100000 in
theorem B_X10_habit_128 (C : CX p s m args c cX10_habit 13 RX10 G A) (HR : meth.sig.returnType = (Option.some Jvm.ClassFile.FieldType.long)) (HL : meth.locks = false) (hG : Good S) {K118 : Nat → Int32 → Int32 → Int32 → Int32 → Int32 → Int64 → Int32 → DY → Option (Int64 × DY)} (hK118 : ∀ (x0 : Nat) (x1 : Int32) (x3 : Int32) (x4 : Int32) (x5 : Int32) (x6 : Int32) (x7 : Int64) (x9 : Int32) (dy : DY), gs S x0 = (0, 10) → K118 x0 x1 x3 x4 x5 x6 x7 x9 dy = some (r, dy') → WJ p l e (rmD (2)) s m args below meth c 13 G A 0 0 (MQ below (QL G ad A S r dy') args s 0 0 A) ad 118 [(0, .ref (ad x0)), (1, .int x1), (3, .int x3), (4, .int x4), (5, .int x5), (6, .int x6), (7, .long x7), (9, .int x9)] [] S dy) : ∀ k : Nat, ∀ (x0 : Nat) (x1 : Int32) (x3 : Int32) (x4 : Int32) (x5 : Int32) (x6 : Int32) (x7 : Int64) (x9 : Int32) (x10 : Int32) (dy : DY), gs S x0 = (0, 10) → (F_X10_habit_128 S N K118 k) x0 x1 x3 x4 x5 x6 x7 x9 x10 dy = some (r, dy') → WJ p l e (rmD (2)) s m args below meth c 13 G A 0 0 (MQ below (QL G ad A S r dy') args s 0 0 A) ad 128 [(0, .ref (ad x0)), (1, .int x1), (3, .int x3), (4, .int x4), (5, .int x5), (6, .int x6), (7, .long x7), (9, .int x9), (10, .int x10)] [] S dy := by
  intro k
  induction k with
  | zero => exact fun _ _ _ _ _ _ _ _ _ _ _ E => nomatch (show none = some (r, dy') from E)
  | succ k ih =>
    intro x0 x1 x3 x4 x5 x6 x7 x9 x10 dy Tx0 E
    rw [F_X10_habit_128_s] at E
    refine ww_iload C dX10_habit_128 8 rfl ?_
    refine ww_iload_n C dX10_habit_130 rfl 1 rfl ?_
    refine ww_icmp_gt (tgt := 151) C dX10_habit_131 (by decide) E (fun _ E => ?_) (fun _ E => ?_)
    · refine ww_iconst (v := 0) C dX10_habit_151 (by decide) ?_
      refine ww_istore (lv' := [(10, .int (0 : Int32)), (0, .ref (ad x0)), (1, .int x1), (3, .int x3), (4, .int x4), (5, .int x5), (6, .int x6), (7, .long x7), (9, .int x9)]) C dX10_habit_152 (by decide) rfl ?_
      refine ww_sub (lv' := [(0, .ref (ad x0)), (1, .int x1), (3, .int x3), (4, .int x4), (5, .int x5), (6, .int x6), (7, .long x7), (9, .int x9), (10, .int (0 : Int32))]) [1, 2, 3, 4, 5, 6, 7, 8, 0] rfl ?_
      exact (B_X10_habit_154 C HR HL hG hK118 N) x0 x1 x3 x4 x5 x6 x7 x9 (0 : Int32) dy Tx0 E
    · refine ww_aload_n C dX10_habit_134 rfl 0 rfl ?_
      have T_1 : gs S (gr S x0 59) = (4, 18) := hG.1 _ 10 Tx0 59 (by decide)
      refine ww_getr (ci := 10) (k0 := 59) C dX10_habit_135 rfl rfl inm10 (by decide) Tx0 q1337 rfl T_1 (by decide) ?_
      refine ww_bipush (v := 9) C dX10_habit_138 (by decide) ?_
      refine ww_iload C dX10_habit_140 8 rfl ?_
      refine ww_iadd C dX10_habit_142 ?_
      refine ww_lconst (v := 0) C dX10_habit_143 (by decide) ?_
      refine ww_last C dX10_habit_144 T_1 E (fun _ E => ?_)
      refine ww_bd E (fun dy2 E => ?_)
      refine ww_iinc (v := (x10 + (1 : Int32))) (lv' := [(10, .int (x10 + (1 : Int32))), (0, .ref (ad x0)), (1, .int x1), (3, .int x3), (4, .int x4), (5, .int x5), (6, .int x6), (7, .long x7), (9, .int x9)]) C dX10_habit_145 8 rfl rfl (by decide) rfl ?_
      refine ww_goto (tgt := 128) C dX10_habit_148 (by decide) ?_
      refine ww_sub (lv' := [(0, .ref (ad x0)), (1, .int x1), (3, .int x3), (4, .int x4), (5, .int x5), (6, .int x6), (7, .long x7), (9, .int x9), (10, .int (x10 + (1 : Int32)))]) [1, 2, 3, 4, 5, 6, 7, 8, 0] rfl ?_
      exact ih x0 x1 x3 x4 x5 x6 x7 x9 (x10 + (1 : Int32)) dy2 Tx0 E
set_option maxHeartbeats 4000000 in
set_option maxRecDepth 100000 in
theorem B_X10_habit_118 (C : CX p s m args c cX10_habit 13 RX10 G A) (HR : meth.sig.returnType = (Option.some Jvm.ClassFile.FieldType.long)) (HL : meth.locks = false) (hG : Good S) : ∀ k : Nat, ∀ (x0 : Nat) (x1 : Int32) (x3 : Int32) (x4 : Int32) (x5 : Int32) (x6 : Int32) (x7 : Int64) (x9 : Int32) (dy : DY), gs S x0 = (0, 10) → (F_X10_habit_118 S N k) x0 x1 x3 x4 x5 x6 x7 x9 dy = some (r, dy') → WJ p l e (rmD (2)) s m args below meth c 13 G A 0 0 (MQ below (QL G ad A S r dy') args s 0 0 A) ad 118 [(0, .ref (ad x0)), (1, .int x1), (3, .int x3), (4, .int x4), (5, .int x5), (6, .int x6), (7, .long x7), (9, .int x9)] [] S dy := by
  intro k
  induction k with
  | zero => exact fun _ _ _ _ _ _ _ _ _ _ E => nomatch (show none = some (r, dy') from E)
  | succ k ih =>
    intro x0 x1 x3 x4 x5 x6 x7 x9 dy Tx0 E
    rw [F_X10_habit_118_s] at E
    refine ww_iload C dX10_habit_118 7 rfl ?_
    refine ww_iload C dX10_habit_120 4 rfl ?_
    refine ww_icmp_ge (tgt := 310) C dX10_habit_122 (by decide) E (fun _ E => ?_) (fun _ E => ?_)
    · refine ww_aload_n C dX10_habit_310 rfl 0 rfl ?_
      have T_1 : gs S (gr S x0 59) = (4, 18) := hG.1 _ 10 Tx0 59 (by decide)
      refine ww_getr (ci := 10) (k0 := 59) C dX10_habit_311 rfl rfl inm10 (by decide) Tx0 q1337 rfl T_1 (by decide) ?_
      refine ww_iload C dX10_habit_314 5 rfl ?_
      refine ww_lald C dX10_habit_316 T_1 E (fun _ E => ?_)
      exact ww_lret C HR HL dX10_habit_317 E
    · refine ww_iconst (v := 0) C dX10_habit_125 (by decide) ?_
      refine ww_istore (lv' := [(10, .int (0 : Int32)), (0, .ref (ad x0)), (1, .int x1), (3, .int x3), (4, .int x4), (5, .int x5), (6, .int x6), (7, .long x7), (9, .int x9)]) C dX10_habit_126 (by decide) rfl ?_
      refine ww_sub (lv' := [(0, .ref (ad x0)), (1, .int x1), (3, .int x3), (4, .int x4), (5, .int x5), (6, .int x6), (7, .long x7), (9, .int x9), (10, .int (0 : Int32))]) [1, 2, 3, 4, 5, 6, 7, 8, 0] rfl ?_
      exact (B_X10_habit_128 C HR HL hG ih N) x0 x1 x3 x4 x5 x6 x7 x9 (0 : Int32) dy Tx0 E
set_option maxHeartbeats 4000000 in
set_option maxRecDepth 100000 in
theorem B_X10_habit_75 (C : CX p s m args c cX10_habit 13 RX10 G A) (HR : meth.sig.returnType = (Option.some Jvm.ClassFile.FieldType.long)) (HL : meth.locks = false) (hG : Good S) : ∀ k : Nat, ∀ (x0 : Nat) (x1 : Int32) (x2 : Int32) (x3 : Int32) (x4 : Int32) (x5 : Int32) (x6 : Int32) (x7 : Int32) (dy : DY), gs S x0 = (0, 10) → (F_X10_habit_75 S N k) x0 x1 x2 x3 x4 x5 x6 x7 dy = some (r, dy') → WJ p l e (rmD (2)) s m args below meth c 13 G A 0 0 (MQ below (QL G ad A S r dy') args s 0 0 A) ad 75 [(0, .ref (ad x0)), (1, .int x1), (2, .int x2), (3, .int x3), (4, .int x4), (5, .int x5), (6, .int x6), (7, .int x7)] [] S dy := by
  intro k
  induction k with
  | zero => exact fun _ _ _ _ _ _ _ _ _ _ E => nomatch (show none = some (r, dy') from E)
  | succ k ih =>
    intro x0 x1 x2 x3 x4 x5 x6 x7 dy Tx0 E
    rw [F_X10_habit_75_s] at E
    refine ww_iload C dX10_habit_75 7 rfl ?_
    refine ww_iload_n C dX10_habit_77 rfl 1 rfl ?_
    refine ww_icmp_gt (tgt := 105) C dX10_habit_78 (by decide) E (fun _ E => ?_) (fun _ E => ?_)
    · refine ww_iload_n C dX10_habit_105 rfl 1 rfl ?_
      refine ww_iload_n C dX10_habit_106 rfl 1 rfl ?_
      refine ww_iconst (v := 1) C dX10_habit_107 (by decide) ?_
      refine ww_isub C dX10_habit_108 ?_
      refine ww_imul C dX10_habit_109 ?_
      refine ww_iconst (v := 2) C dX10_habit_110 (by decide) ?_
      refine ww_idiv C dX10_habit_111 E (fun _ E => ?_)
      refine ww_i2l C dX10_habit_112 ?_
      refine ww_lstore (lv' := [(7, .long (((x1 * (x1 - (1 : Int32))) / (2 : Int32))).toInt64), (0, .ref (ad x0)), (1, .int x1), (2, .int x2), (3, .int x3), (4, .int x4), (5, .int x5), (6, .int x6)]) C dX10_habit_113 (by decide) rfl ?_
      refine ww_iconst (v := 0) C dX10_habit_115 (by decide) ?_
      refine ww_istore (lv' := [(9, .int (0 : Int32)), (7, .long (((x1 * (x1 - (1 : Int32))) / (2 : Int32))).toInt64), (0, .ref (ad x0)), (1, .int x1), (2, .int x2), (3, .int x3), (4, .int x4), (5, .int x5), (6, .int x6)]) C dX10_habit_116 (by decide) rfl ?_
      refine ww_sub (lv' := [(0, .ref (ad x0)), (1, .int x1), (3, .int x3), (4, .int x4), (5, .int x5), (6, .int x6), (7, .long (((x1 * (x1 - (1 : Int32))) / (2 : Int32))).toInt64), (9, .int (0 : Int32))]) [2, 3, 5, 6, 7, 8, 1, 0] rfl ?_
      exact (B_X10_habit_118 C HR HL hG N) x0 x1 x3 x4 x5 x6 ((((x1 * (x1 - (1 : Int32))) / (2 : Int32))).toInt64) (0 : Int32) dy Tx0 E
    · refine ww_aload_n C dX10_habit_81 rfl 0 rfl ?_
      have T_1 : gs S (gr S x0 59) = (4, 18) := hG.1 _ 10 Tx0 59 (by decide)
      refine ww_getr (ci := 10) (k0 := 59) C dX10_habit_82 rfl rfl inm10 (by decide) Tx0 q1337 rfl T_1 (by decide) ?_
      refine ww_iload C dX10_habit_85 7 rfl ?_
      refine ww_iload C dX10_habit_87 7 rfl ?_
      refine ww_iload_n C dX10_habit_89 rfl 2 rfl ?_
      refine ww_icmp_ne (tgt := 97) C dX10_habit_90 (by decide) E (fun _ E => ?_) (fun _ E => ?_)
      · refine ww_lconst (v := 0) C dX10_habit_97 (by decide) ?_
        refine ww_sub (lv' := [(0, .ref (ad x0)), (1, .int x1), (2, .int x2), (3, .int x3), (4, .int x4), (5, .int x5), (6, .int x6), (7, .int x7)]) [0, 1, 2, 3, 4, 5, 6, 7] rfl ?_
        exact (B_X10_habit_98 C HR HL hG ih) x0 x1 x2 x3 x4 x5 x6 x7 (gr S x0 59) x7 (0 : Int64) dy Tx0 T_1 E
      · refine ww_lconst (v := 1) C dX10_habit_93 (by decide) ?_
        refine ww_goto (tgt := 98) C dX10_habit_94 (by decide) ?_
        refine ww_sub (lv' := [(0, .ref (ad x0)), (1, .int x1), (2, .int x2), (3, .int x3), (4, .int x4), (5, .int x5), (6, .int x6), (7, .int x7)]) [0, 1, 2, 3, 4, 5, 6, 7] rfl ?_
        exact (B_X10_habit_98 C HR HL hG ih) x0 x1 x2 x3 x4 x5 x6 x7 (gr S x0 59) x7 (1 : Int64) dy Tx0 T_1 E
end P_X10_habit
set_option maxHeartbeats 4000000 in
set_option maxRecDepth 100000 in
theorem M_X10_habit (l : Launch) (G : GG) (ad : Nat → Nat) {S : ST} (N : Nat) (hG : Good S) (a0 : Nat) (a1 : Int32) (a2 : Int32) (a3 : Int32) (a4 : Int32) (a5 : Int32) (a6 : Int32) (dy : DY) (T0 : gs S a0 = (0, 10)) {r : Int64} {dy' : DY} (E : F_X10_habit S N a0 a1 a2 a3 a4 a5 a6 dy = some (r, dy')) : MC l yX10_habit cX10_habit 13 (Option.some Jvm.ClassFile.FieldType.long) (2) G ad [.ref (ad a0), .int a1, .int a2, .int a3, .int a4, .int a5, .int a6] S dy (fun A => QL G ad A S r dy') := by
  rw [F_X10_habit_s] at E
  refine mc_of RX10 (by decide) rfl (Nat.le_of_ble_eq_true rfl) (fun p e s m args below meth c A C HR HL => ?_)
  refine ww_sub (lv' := [(0, .ref (ad a0)), (1, .int a1), (2, .int a2), (3, .int a3), (4, .int a4), (5, .int a5), (6, .int a6)]) [0, 1, 2, 3, 4, 5, 6] rfl ?_
  refine ww_aload_n C dX10_habit_0 rfl 0 rfl ?_
  refine ww_iconst (v := 0) C dX10_habit_1 (by decide) ?_
  refine ww_puti (ci := 10) (k0 := 0) C dX10_habit_2 rfl rfl inm10 tyX10_ok nmX10 (by decide) T0 q1278 rfl rfl rfl ?_
  refine ww_bd E (fun dy1 E => ?_)
  refine ww_iload_n C dX10_habit_5 rfl 1 rfl ?_
  refine ww_iconst (v := 2) C dX10_habit_6 (by decide) ?_
  refine ww_bipush (v := 8) C dX10_habit_7 (by decide) ?_
  obtain ⟨u2, e_3, E⟩ := bind_of E
  refine ww_callI C (runs_S (n := 3) (st := []) C [.int a1, .int (2 : Int32), .int (8 : Int32)] (M_X10_in l G ad N hG a1 (2 : Int32) (8 : Int32) dy1 e_3) ⟨q1476, q118, by decide⟩ q1474 q1475 rfl (Nat.le_of_ble_eq_true rfl) ⟨Nat.le_of_ble_eq_true rfl, Nat.le_of_ble_eq_true rfl⟩ ⟨Nat.zero_le _, Nat.zero_le _⟩ dX10_habit_9 rfl) ?_
  refine ww_if_eq (tgt := 68) C dX10_habit_12 (by decide) E (fun _ E => ?_) (fun _ E => ?_)
  · refine ww_ldc2 (v := (-1)) C dX10_habit_68 q1901 ?_
    exact ww_lret C HR HL dX10_habit_71 E
  · refine ww_iload_n C dX10_habit_15 rfl 2 rfl ?_
    refine ww_iconst (v := 0) C dX10_habit_16 (by decide) ?_
    refine ww_iload_n C dX10_habit_17 rfl 1 rfl ?_
    obtain ⟨u4, e_5, E⟩ := bind_of E
    refine ww_callI C (runs_S (n := 3) (st := []) C [.int a2, .int (0 : Int32), .int a1] (M_X10_in l G ad N hG a2 (0 : Int32) a1 u2.2 e_5) ⟨q1476, q118, by decide⟩ q1474 q1475 rfl (Nat.le_of_ble_eq_true rfl) ⟨Nat.le_of_ble_eq_true rfl, Nat.le_of_ble_eq_true rfl⟩ ⟨Nat.zero_le _, Nat.zero_le _⟩ dX10_habit_18 rfl) ?_
    refine ww_if_eq (tgt := 68) C dX10_habit_21 (by decide) E (fun _ E => ?_) (fun _ E => ?_)
    · refine ww_ldc2 (v := (-1)) C dX10_habit_68 q1901 ?_
      exact ww_lret C HR HL dX10_habit_71 E
    · refine ww_iload_n C dX10_habit_24 rfl 3 rfl ?_
      refine ww_iconst (v := 0) C dX10_habit_25 (by decide) ?_
      refine ww_bipush (v := 12) C dX10_habit_26 (by decide) ?_
      obtain ⟨u6, e_7, E⟩ := bind_of E
      refine ww_callI C (runs_S (n := 3) (st := []) C [.int a3, .int (0 : Int32), .int (12 : Int32)] (M_X10_in l G ad N hG a3 (0 : Int32) (12 : Int32) u4.2 e_7) ⟨q1476, q118, by decide⟩ q1474 q1475 rfl (Nat.le_of_ble_eq_true rfl) ⟨Nat.le_of_ble_eq_true rfl, Nat.le_of_ble_eq_true rfl⟩ ⟨Nat.zero_le _, Nat.zero_le _⟩ dX10_habit_28 rfl) ?_
      refine ww_if_eq (tgt := 68) C dX10_habit_31 (by decide) E (fun _ E => ?_) (fun _ E => ?_)
      · refine ww_ldc2 (v := (-1)) C dX10_habit_68 q1901 ?_
        exact ww_lret C HR HL dX10_habit_71 E
      · refine ww_iload C dX10_habit_34 4 rfl ?_
        refine ww_iconst (v := 0) C dX10_habit_36 (by decide) ?_
        refine ww_bipush (v := 12) C dX10_habit_37 (by decide) ?_
        refine ww_iload_n C dX10_habit_39 rfl 3 rfl ?_
        refine ww_isub C dX10_habit_40 ?_
        obtain ⟨u8, e_9, E⟩ := bind_of E
        refine ww_callI C (runs_S (n := 3) (st := []) C [.int a4, .int (0 : Int32), .int ((12 : Int32) - a3)] (M_X10_in l G ad N hG a4 (0 : Int32) ((12 : Int32) - a3) u6.2 e_9) ⟨q1476, q118, by decide⟩ q1474 q1475 rfl (Nat.le_of_ble_eq_true rfl) ⟨Nat.le_of_ble_eq_true rfl, Nat.le_of_ble_eq_true rfl⟩ ⟨Nat.zero_le _, Nat.zero_le _⟩ dX10_habit_41 rfl) ?_
        refine ww_if_eq (tgt := 68) C dX10_habit_44 (by decide) E (fun _ E => ?_) (fun _ E => ?_)
        · refine ww_ldc2 (v := (-1)) C dX10_habit_68 q1901 ?_
          exact ww_lret C HR HL dX10_habit_71 E
        · refine ww_iload C dX10_habit_47 5 rfl ?_
          refine ww_iconst (v := 0) C dX10_habit_49 (by decide) ?_
          refine ww_bipush (v := 6) C dX10_habit_50 (by decide) ?_
          obtain ⟨u10, e_11, E⟩ := bind_of E
          refine ww_callI C (runs_S (n := 3) (st := []) C [.int a5, .int (0 : Int32), .int (6 : Int32)] (M_X10_in l G ad N hG a5 (0 : Int32) (6 : Int32) u8.2 e_11) ⟨q1476, q118, by decide⟩ q1474 q1475 rfl (Nat.le_of_ble_eq_true rfl) ⟨Nat.le_of_ble_eq_true rfl, Nat.le_of_ble_eq_true rfl⟩ ⟨Nat.zero_le _, Nat.zero_le _⟩ dX10_habit_52 rfl) ?_
          refine ww_if_eq (tgt := 68) C dX10_habit_55 (by decide) E (fun _ E => ?_) (fun _ E => ?_)
          · refine ww_ldc2 (v := (-1)) C dX10_habit_68 q1901 ?_
            exact ww_lret C HR HL dX10_habit_71 E
          · refine ww_iload C dX10_habit_58 6 rfl ?_
            refine ww_iconst (v := 0) C dX10_habit_60 (by decide) ?_
            refine ww_iload_n C dX10_habit_61 rfl 1 rfl ?_
            obtain ⟨u12, e_13, E⟩ := bind_of E
            refine ww_callI C (runs_S (n := 3) (st := []) C [.int a6, .int (0 : Int32), .int a1] (M_X10_in l G ad N hG a6 (0 : Int32) a1 u10.2 e_13) ⟨q1476, q118, by decide⟩ q1474 q1475 rfl (Nat.le_of_ble_eq_true rfl) ⟨Nat.le_of_ble_eq_true rfl, Nat.le_of_ble_eq_true rfl⟩ ⟨Nat.zero_le _, Nat.zero_le _⟩ dX10_habit_62 rfl) ?_
            refine ww_if_ne (tgt := 72) C dX10_habit_65 (by decide) E (fun _ E => ?_) (fun _ E => ?_)
            · refine ww_iconst (v := 0) C dX10_habit_72 (by decide) ?_
              refine ww_istore (lv' := [(7, .int (0 : Int32)), (0, .ref (ad a0)), (1, .int a1), (2, .int a2), (3, .int a3), (4, .int a4), (5, .int a5), (6, .int a6)]) C dX10_habit_73 (by decide) rfl ?_
              refine ww_sub (lv' := [(0, .ref (ad a0)), (1, .int a1), (2, .int a2), (3, .int a3), (4, .int a4), (5, .int a5), (6, .int a6), (7, .int (0 : Int32))]) [1, 2, 3, 4, 5, 6, 7, 0] rfl ?_
              exact (B_X10_habit_75 C HR HL hG N) a0 a1 a2 a3 a4 a5 a6 (0 : Int32) u12.2 T0 E
            · refine ww_ldc2 (v := (-1)) C dX10_habit_68 q1901 ?_
              exact ww_lret C HR HL dX10_habit_71 E
section P_X10_handLine
variable {p : Program} {l : Launch} {e : Env} {s : State} {m : MethodId} {args : Array Value} {below : List Frame} {meth : Method} {c : Code} {G : GG} {A : Nat → Prop} {ad : Nat → Nat} {S : ST} {N : Nat} {r : Int32} {dy' : DY}
set_option maxHeartbeats 4000000 in
set_option maxRecDepth 100000 in
theorem B_X10_handLine_77 (C : CX p s m args c cX10_handLine 1 RX10 G A) (HR : meth.sig.returnType = (Option.some Jvm.ClassFile.FieldType.boolean)) (HL : meth.locks = false) (hG : Good S) {K78 : Nat → DY → Option (Int32 × DY)} (hK78 : ∀ (x0 : Nat) (dy : DY), gs S x0 = (0, 10) → K78 x0 dy = some (r, dy') → WJ p l e (rmD (4)) s m args below meth c 1 G A 0 0 (MQ below (QI G ad A S r dy') args s 0 0 A) ad 78 [(0, .ref (ad x0))] [] S dy) : ∀ (x0 : Nat) (y0 : Nat) (y1 : Int32) (y2 : Int32) (dy : DY), gs S x0 = (0, 10) → gs S y0 = (1, 104) → F_X10_handLine_77 S N K78 x0 y0 y1 y2 dy = some (r, dy') → WJ p l e (rmD (4)) s m args below meth c 1 G A 0 0 (MQ below (QI G ad A S r dy') args s 0 0 A) ad 77 [(0, .ref (ad x0))] [.int y2, .int y1, .ref (ad y0)] S dy := by
  intro x0 y0 y1 y2 dy Tx0 Ty0 E
  rw [F_X10_handLine_77_s] at E
  refine ww_iast C dX10_handLine_77 Ty0 E (fun _ E => ?_)
  refine ww_bd E (fun dy1 E => ?_)
  refine ww_sub (lv' := [(0, .ref (ad x0))]) [0] rfl ?_
  exact hK78 x0 dy1 Tx0 E
set_option maxHeartbeats 4000000 in
set_option maxRecDepth 100000 in
theorem B_X10_handLine_78 (C : CX p s m args c cX10_handLine 1 RX10 G A) (HR : meth.sig.returnType = (Option.some Jvm.ClassFile.FieldType.boolean)) (HL : meth.locks = false) (hG : Good S) : ∀ (x0 : Nat) (dy : DY), gs S x0 = (0, 10) → F_X10_handLine_78 S N x0 dy = some (r, dy') → WJ p l e (rmD (4)) s m args below meth c 1 G A 0 0 (MQ below (QI G ad A S r dy') args s 0 0 A) ad 78 [(0, .ref (ad x0))] [] S dy := by
  intro x0 dy Tx0 E
  rw [F_X10_handLine_78_s] at E
  refine ww_aload_n C dX10_handLine_78 rfl 0 rfl ?_
  obtain ⟨u1, e_2, E⟩ := bind_of E
  refine ww_callV C (runs_V (n := 0) (st := []) C [] (M_X10_token l G ad N hG x0 dy Tx0 e_2) ⟨q1492, q118, by decide⟩ q1489 q1491 q42 (ci := 10) rfl Tx0 rfl (Nat.le_of_ble_eq_true rfl) ⟨Nat.le_of_ble_eq_true rfl, Nat.le_of_ble_eq_true rfl⟩ ⟨Nat.zero_le _, Nat.zero_le _⟩ dX10_handLine_79 rfl) ?_
  refine ww_iconst (v := 1) C dX10_handLine_82 (by decide) ?_
  exact ww_zret C HR HL dX10_handLine_83 (Or.inr rfl) E
set_option maxHeartbeats 4000000 in
set_option maxRecDepth 100000 in
theorem B_X10_handLine_41 (C : CX p s m args c cX10_handLine 1 RX10 G A) (HR : meth.sig.returnType = (Option.some Jvm.ClassFile.FieldType.boolean)) (HL : meth.locks = false) (hG : Good S) : ∀ (x0 : Nat) (dy : DY), gs S x0 = (0, 10) → F_X10_handLine_41 S N x0 dy = some (r, dy') → WJ p l e (rmD (4)) s m args below meth c 1 G A 0 0 (MQ below (QI G ad A S r dy') args s 0 0 A) ad 41 [(0, .ref (ad x0))] [] S dy := by
  intro x0 dy Tx0 E
  rw [F_X10_handLine_41_s] at E
  refine ww_aload_n C dX10_handLine_41 rfl 0 rfl ?_
  refine ww_getz (ci := 10) (k0 := 28) C dX10_handLine_42 rfl rfl inm10 (by decide) Tx0 q1306 rfl ?_
  refine ww_if_eq (tgt := 78) C dX10_handLine_45 (by decide) E (fun _ E => ?_) (fun _ E => ?_)
  · refine ww_sub (lv' := [(0, .ref (ad x0))]) [0] rfl ?_
    exact (B_X10_handLine_78 C HR HL hG) x0 dy Tx0 E
  · refine ww_aload_n C dX10_handLine_48 rfl 0 rfl ?_
    have T_1 : gs S (gr S x0 34) = (1, 104) := hG.1 _ 10 Tx0 34 (by decide)
    refine ww_getr (ci := 10) (k0 := 34) C dX10_handLine_49 rfl rfl inm10 (by decide) Tx0 q1312 rfl T_1 (by decide) ?_
    refine ww_bipush (v := 8) C dX10_handLine_52 (by decide) ?_
    refine ww_aload_n C dX10_handLine_54 rfl 0 rfl ?_
    refine ww_geti (ci := 10) (k0 := 27) C dX10_handLine_55 rfl rfl inm10 (by decide) Tx0 q1305 rfl ?_
    refine ww_imul C dX10_handLine_58 ?_
    refine ww_bipush (v := 6) C dX10_handLine_59 (by decide) ?_
    refine ww_iadd C dX10_handLine_61 ?_
    refine ww_aload_n C dX10_handLine_62 rfl 0 rfl ?_
    refine ww_ldc2 (v := (491394656372)) C dX10_handLine_63 q1566 ?_
    obtain ⟨u2, e_3, E⟩ := bind_of E
    refine ww_callI C (runs_V (n := 1) (st := [.int (((8 : Int32) * (gi dy x0 27)) + (6 : Int32)), .ref (ad (gr S x0 34))]) C [.long (491394656372 : Int64)] (M_X10_isWord l G ad N hG x0 (491394656372 : Int64) dy Tx0 e_3) ⟨q1508, q118, by decide⟩ q1505 q1507 q45 (ci := 10) rfl Tx0 rfl (Nat.le_of_ble_eq_true rfl) ⟨Nat.le_of_ble_eq_true rfl, Nat.le_of_ble_eq_true rfl⟩ ⟨Nat.zero_le _, Nat.zero_le _⟩ dX10_handLine_66 rfl) ?_
    refine ww_if_eq (tgt := 76) C dX10_handLine_69 (by decide) E (fun _ E => ?_) (fun _ E => ?_)
    · refine ww_iconst (v := 2) C dX10_handLine_76 (by decide) ?_
      refine ww_sub (lv' := [(0, .ref (ad x0))]) [0] rfl ?_
      exact (B_X10_handLine_77 C HR HL hG (B_X10_handLine_78 C HR HL hG)) x0 (gr S x0 34) (((8 : Int32) * (gi dy x0 27)) + (6 : Int32)) (2 : Int32) u2.2 Tx0 T_1 E
    · refine ww_iconst (v := 1) C dX10_handLine_72 (by decide) ?_
      refine ww_goto (tgt := 77) C dX10_handLine_73 (by decide) ?_
      refine ww_sub (lv' := [(0, .ref (ad x0))]) [0] rfl ?_
      exact (B_X10_handLine_77 C HR HL hG (B_X10_handLine_78 C HR HL hG)) x0 (gr S x0 34) (((8 : Int32) * (gi dy x0 27)) + (6 : Int32)) (1 : Int32) u2.2 Tx0 T_1 E
end P_X10_handLine
set_option maxHeartbeats 4000000 in
set_option maxRecDepth 100000 in
theorem M_X10_handLine (l : Launch) (G : GG) (ad : Nat → Nat) {S : ST} (N : Nat) (hG : Good S) (a0 : Nat) (dy : DY) (T0 : gs S a0 = (0, 10)) {r : Int32} {dy' : DY} (E : F_X10_handLine S N a0 dy = some (r, dy')) : MC l yX10_handLine cX10_handLine 1 (Option.some Jvm.ClassFile.FieldType.boolean) (4) G ad [.ref (ad a0)] S dy (fun A => QI G ad A S r dy') := by
  rw [F_X10_handLine_s] at E
  refine mc_of RX10 (by decide) rfl (Nat.le_of_ble_eq_true rfl) (fun p e s m args below meth c A C HR HL => ?_)
  refine ww_sub (lv' := [(0, .ref (ad a0))]) [0] rfl ?_
  refine ww_aload_n C dX10_handLine_0 rfl 0 rfl ?_
  refine ww_iconst (v := 0) C dX10_handLine_1 (by decide) ?_
  refine ww_aload_n C dX10_handLine_2 rfl 0 rfl ?_
  refine ww_geti (ci := 10) (k0 := 31) C dX10_handLine_3 rfl rfl inm10 (by decide) T0 q1309 rfl ?_
  refine ww_iconst (v := 1) C dX10_handLine_6 (by decide) ?_
  refine ww_isub C dX10_handLine_7 ?_
  obtain ⟨u1, e_2, E⟩ := bind_of E
  refine ww_callI C (runs_V (n := 2) (st := []) C [.int (0 : Int32), .int ((gi dy a0 31) - (1 : Int32))] (M_X10_number l G ad N hG a0 (0 : Int32) ((gi dy a0 31) - (1 : Int32)) dy T0 e_2) ⟨q1516, q118, by decide⟩ q1513 q1515 q47 (ci := 10) rfl T0 rfl (Nat.le_of_ble_eq_true rfl) ⟨Nat.le_of_ble_eq_true rfl, Nat.le_of_ble_eq_true rfl⟩ ⟨Nat.zero_le _, Nat.zero_le _⟩ dX10_handLine_8 rfl) ?_
  refine ww_if_ne (tgt := 16) C dX10_handLine_11 (by decide) E (fun _ E => ?_) (fun _ E => ?_)
  · refine ww_aload_n C dX10_handLine_16 rfl 0 rfl ?_
    refine ww_ldc2 (v := (491394656372)) C dX10_handLine_17 q1566 ?_
    obtain ⟨u3, e_4, E⟩ := bind_of E
    refine ww_callI C (runs_V (n := 1) (st := []) C [.long (491394656372 : Int64)] (M_X10_isWord l G ad N hG a0 (491394656372 : Int64) u1.2 T0 e_4) ⟨q1508, q118, by decide⟩ q1505 q1507 q45 (ci := 10) rfl T0 rfl (Nat.le_of_ble_eq_true rfl) ⟨Nat.le_of_ble_eq_true rfl, Nat.le_of_ble_eq_true rfl⟩ ⟨Nat.zero_le _, Nat.zero_le _⟩ dX10_handLine_20 rfl) ?_
    refine ww_if_ne (tgt := 41) C dX10_handLine_23 (by decide) E (fun _ E => ?_) (fun _ E => ?_)
    · refine ww_sub (lv' := [(0, .ref (ad a0))]) [0] rfl ?_
      exact (B_X10_handLine_41 C HR HL hG) a0 u3.2 T0 E
    · refine ww_aload_n C dX10_handLine_26 rfl 0 rfl ?_
      refine ww_ldc2 (v := (1818584692)) C dX10_handLine_27 q1567 ?_
      obtain ⟨u5, e_6, E⟩ := bind_of E
      refine ww_callI C (runs_V (n := 1) (st := []) C [.long (1818584692 : Int64)] (M_X10_isWord l G ad N hG a0 (1818584692 : Int64) u3.2 T0 e_6) ⟨q1508, q118, by decide⟩ q1505 q1507 q45 (ci := 10) rfl T0 rfl (Nat.le_of_ble_eq_true rfl) ⟨Nat.le_of_ble_eq_true rfl, Nat.le_of_ble_eq_true rfl⟩ ⟨Nat.zero_le _, Nat.zero_le _⟩ dX10_handLine_30 rfl) ?_
      refine ww_if_ne (tgt := 41) C dX10_handLine_33 (by decide) E (fun _ E => ?_) (fun _ E => ?_)
      · refine ww_sub (lv' := [(0, .ref (ad a0))]) [0] rfl ?_
        exact (B_X10_handLine_41 C HR HL hG) a0 u5.2 T0 E
      · refine ww_aload_n C dX10_handLine_36 rfl 0 rfl ?_
        obtain ⟨u7, e_8, E⟩ := bind_of E
        refine ww_callI C (runs_V (n := 0) (st := []) C [] (M_X10_stops l G ad N hG a0 u5.2 T0 e_8) ⟨q1512, q118, by decide⟩ q1509 q1511 q46 (ci := 10) rfl T0 rfl (Nat.le_of_ble_eq_true rfl) ⟨Nat.le_of_ble_eq_true rfl, Nat.le_of_ble_eq_true rfl⟩ ⟨Nat.zero_le _, Nat.zero_le _⟩ dX10_handLine_37 rfl) ?_
        obtain ⟨z_, E⟩ := gd_of E
        exact ww_zret C HR HL dX10_handLine_40 z_ E
  · refine ww_iconst (v := 0) C dX10_handLine_14 (by decide) ?_
    exact ww_zret C HR HL dX10_handLine_15 (Or.inl rfl) E
section P_X10_hat
variable {p : Program} {l : Launch} {e : Env} {s : State} {m : MethodId} {args : Array Value} {below : List Frame} {meth : Method} {c : Code} {G : GG} {A : Nat → Prop} {ad : Nat → Nat} {S : ST} {N : Nat} {r : Int32} {dy' : DY}
end P_X10_hat
set_option maxHeartbeats 4000000 in
set_option maxRecDepth 100000 in
theorem M_X10_hat (l : Launch) (G : GG) (ad : Nat → Nat) {S : ST} (N : Nat) (hG : Good S) (a0 : Nat) (a1 : Int32) (a2 : Int32) (a3 : Int32) (dy : DY) (T0 : gs S a0 = (0, 10)) {r : Int32} {dy' : DY} (E : F_X10_hat S N a0 a1 a2 a3 dy = some (r, dy')) : MC l yX10_hat cX10_hat 5 (Option.some Jvm.ClassFile.FieldType.int) (2) G ad [.ref (ad a0), .int a1, .int a2, .int a3] S dy (fun A => QI G ad A S r dy') := by
  rw [F_X10_hat_s] at E
  refine mc_of RX10 (by decide) rfl (Nat.le_of_ble_eq_true rfl) (fun p e s m args below meth c A C HR HL => ?_)
  refine ww_sub (lv' := [(0, .ref (ad a0)), (1, .int a1), (2, .int a2), (3, .int a3)]) [0, 1, 2, 3] rfl ?_
  refine ww_aload_n C dX10_hat_0 rfl 0 rfl ?_
  refine ww_iconst (v := 0) C dX10_hat_1 (by decide) ?_
  refine ww_puti (ci := 10) (k0 := 0) C dX10_hat_2 rfl rfl inm10 tyX10_ok nmX10 (by decide) T0 q1278 rfl rfl rfl ?_
  refine ww_bd E (fun dy1 E => ?_)
  refine ww_iload_n C dX10_hat_5 rfl 1 rfl ?_
  refine ww_iconst (v := 0) C dX10_hat_6 (by decide) ?_
  refine ww_bipush (v := 7) C dX10_hat_7 (by decide) ?_
  obtain ⟨u2, e_3, E⟩ := bind_of E
  refine ww_callI C (runs_S (n := 3) (st := []) C [.int a1, .int (0 : Int32), .int (7 : Int32)] (M_X10_in l G ad N hG a1 (0 : Int32) (7 : Int32) dy1 e_3) ⟨q1476, q118, by decide⟩ q1474 q1475 rfl (Nat.le_of_ble_eq_true rfl) ⟨Nat.le_of_ble_eq_true rfl, Nat.le_of_ble_eq_true rfl⟩ ⟨Nat.zero_le _, Nat.zero_le _⟩ dX10_hat_9 rfl) ?_
  refine ww_if_eq (tgt := 46) C dX10_hat_12 (by decide) E (fun _ E => ?_) (fun _ E => ?_)
  · refine ww_iconst (v := (-1)) C dX10_hat_46 (by decide) ?_
    exact ww_iret C HR HL dX10_hat_47 E
  · refine ww_iload_n C dX10_hat_15 rfl 2 rfl ?_
    refine ww_iconst (v := 0) C dX10_hat_16 (by decide) ?_
    refine ww_bipush (v := 99) C dX10_hat_17 (by decide) ?_
    obtain ⟨u4, e_5, E⟩ := bind_of E
    refine ww_callI C (runs_S (n := 3) (st := []) C [.int a2, .int (0 : Int32), .int (99 : Int32)] (M_X10_in l G ad N hG a2 (0 : Int32) (99 : Int32) u2.2 e_5) ⟨q1476, q118, by decide⟩ q1474 q1475 rfl (Nat.le_of_ble_eq_true rfl) ⟨Nat.le_of_ble_eq_true rfl, Nat.le_of_ble_eq_true rfl⟩ ⟨Nat.zero_le _, Nat.zero_le _⟩ dX10_hat_19 rfl) ?_
    refine ww_if_eq (tgt := 46) C dX10_hat_22 (by decide) E (fun _ E => ?_) (fun _ E => ?_)
    · refine ww_iconst (v := (-1)) C dX10_hat_46 (by decide) ?_
      exact ww_iret C HR HL dX10_hat_47 E
    · refine ww_iload_n C dX10_hat_25 rfl 3 rfl ?_
      refine ww_iconst (v := 0) C dX10_hat_26 (by decide) ?_
      refine ww_bipush (v := 99) C dX10_hat_27 (by decide) ?_
      obtain ⟨u6, e_7, E⟩ := bind_of E
      refine ww_callI C (runs_S (n := 3) (st := []) C [.int a3, .int (0 : Int32), .int (99 : Int32)] (M_X10_in l G ad N hG a3 (0 : Int32) (99 : Int32) u4.2 e_7) ⟨q1476, q118, by decide⟩ q1474 q1475 rfl (Nat.le_of_ble_eq_true rfl) ⟨Nat.le_of_ble_eq_true rfl, Nat.le_of_ble_eq_true rfl⟩ ⟨Nat.zero_le _, Nat.zero_le _⟩ dX10_hat_29 rfl) ?_
      refine ww_if_eq (tgt := 46) C dX10_hat_32 (by decide) E (fun _ E => ?_) (fun _ E => ?_)
      · refine ww_iconst (v := (-1)) C dX10_hat_46 (by decide) ?_
        exact ww_iret C HR HL dX10_hat_47 E
      · refine ww_aload_n C dX10_hat_35 rfl 0 rfl ?_
        have T_8 : gs S (gr S a0 15) = (1, 32) := hG.1 _ 10 T0 15 (by decide)
        refine ww_getr (ci := 10) (k0 := 15) C dX10_hat_36 rfl rfl inm10 (by decide) T0 q1293 rfl T_8 (by decide) ?_
        refine ww_iload_n C dX10_hat_39 rfl 1 rfl ?_
        refine ww_iald C dX10_hat_40 T_8 E (fun _ E => ?_)
        refine ww_bipush (v := 6) C dX10_hat_41 (by decide) ?_
        refine ww_icmp_ne (tgt := 48) C dX10_hat_43 (by decide) E (fun _ E => ?_) (fun _ E => ?_)
        · refine ww_bipush (v := 6) C dX10_hat_48 (by decide) ?_
          refine ww_iload_n C dX10_hat_50 rfl 1 rfl ?_
          refine ww_imul C dX10_hat_51 ?_
          refine ww_aload_n C dX10_hat_52 rfl 0 rfl ?_
          have T_9 : gs S (gr S a0 15) = (1, 32) := hG.1 _ 10 T0 15 (by decide)
          refine ww_getr (ci := 10) (k0 := 15) C dX10_hat_53 rfl rfl inm10 (by decide) T0 q1293 rfl T_9 (by decide) ?_
          refine ww_iload_n C dX10_hat_56 rfl 1 rfl ?_
          refine ww_iald C dX10_hat_57 T_9 E (fun _ E => ?_)
          refine ww_iadd C dX10_hat_58 ?_
          refine ww_istore (lv' := [(4, .int (((6 : Int32) * a1) + (gi u6.2 (gr S a0 15) a1.toNatClampNeg))), (0, .ref (ad a0)), (1, .int a1), (2, .int a2), (3, .int a3)]) C dX10_hat_59 (by decide) rfl ?_
          refine ww_aload_n C dX10_hat_61 rfl 1 rfl ?_
          have T_10 : gs S (gr S a0 16) = (1, 192) := hG.1 _ 10 T0 16 (by decide)
          refine ww_getr (ci := 10) (k0 := 16) C dX10_hat_62 rfl rfl inm10 (by decide) T0 q1294 rfl T_10 (by decide) ?_
          refine ww_iload C dX10_hat_65 0 rfl ?_
          refine ww_iload_n C dX10_hat_67 rfl 3 rfl ?_
          refine ww_iast C dX10_hat_68 T_10 E (fun _ E => ?_)
          refine ww_bd E (fun dy11 E => ?_)
          refine ww_aload_n C dX10_hat_69 rfl 1 rfl ?_
          have T_12 : gs S (gr S a0 17) = (1, 192) := hG.1 _ 10 T0 17 (by decide)
          refine ww_getr (ci := 10) (k0 := 17) C dX10_hat_70 rfl rfl inm10 (by decide) T0 q1295 rfl T_12 (by decide) ?_
          refine ww_iload C dX10_hat_73 0 rfl ?_
          refine ww_iload_n C dX10_hat_75 rfl 4 rfl ?_
          refine ww_iast C dX10_hat_76 T_12 E (fun _ E => ?_)
          refine ww_bd E (fun dy13 E => ?_)
          refine ww_aload_n C dX10_hat_77 rfl 1 rfl ?_
          have T_14 : gs S (gr S a0 15) = (1, 32) := hG.1 _ 10 T0 15 (by decide)
          refine ww_getr (ci := 10) (k0 := 15) C dX10_hat_78 rfl rfl inm10 (by decide) T0 q1293 rfl T_14 (by decide) ?_
          refine ww_iload_n C dX10_hat_81 rfl 2 rfl ?_
          refine ww_dup2 C dX10_hat_82 rfl rfl ?_
          refine ww_iald C dX10_hat_83 T_14 E (fun _ E => ?_)
          refine ww_iconst (v := 1) C dX10_hat_84 (by decide) ?_
          refine ww_iadd C dX10_hat_85 ?_
          refine ww_iast C dX10_hat_86 T_14 E (fun _ E => ?_)
          refine ww_bd E (fun dy15 E => ?_)
          refine ww_aload_n C dX10_hat_87 rfl 1 rfl ?_
          have T_16 : gs S (gr S a0 15) = (1, 32) := hG.1 _ 10 T0 15 (by decide)
          refine ww_getr (ci := 10) (k0 := 15) C dX10_hat_88 rfl rfl inm10 (by decide) T0 q1293 rfl T_16 (by decide) ?_
          refine ww_iload_n C dX10_hat_91 rfl 2 rfl ?_
          refine ww_iald C dX10_hat_92 T_16 E (fun _ E => ?_)
          refine ww_iconst (v := 1) C dX10_hat_93 (by decide) ?_
          refine ww_isub C dX10_hat_94 ?_
          exact ww_iret C HR HL dX10_hat_95 E
        · refine ww_iconst (v := (-1)) C dX10_hat_46 (by decide) ?_
          exact ww_iret C HR HL dX10_hat_47 E
section P_X10_image
variable {p : Program} {l : Launch} {e : Env} {s : State} {m : MethodId} {args : Array Value} {below : List Frame} {meth : Method} {c : Code} {G : GG} {A : Nat → Prop} {ad : Nat → Nat} {S : ST} {N : Nat} {r : Int32} {dy' : DY}
end P_X10_image
set_option maxHeartbeats 4000000 in
set_option maxRecDepth 100000 in
theorem M_X10_image (l : Launch) (G : GG) (ad : Nat → Nat) {S : ST} (N : Nat) (hG : Good S) (a0 : Nat) (a1 : Int32) (dy : DY) (T0 : gs S a0 = (0, 10)) {r : Int32} {dy' : DY} (E : F_X10_image S N a0 a1 dy = some (r, dy')) : MC l yX10_image cX10_image 2 (Option.some Jvm.ClassFile.FieldType.boolean) (3) G ad [.ref (ad a0), .int a1] S dy (fun A => QI G ad A S r dy') := by
  rw [F_X10_image_s] at E
  refine mc_of RX10 (by decide) rfl (Nat.le_of_ble_eq_true rfl) (fun p e s m args below meth c A C HR HL => ?_)
  refine ww_sub (lv' := [(0, .ref (ad a0)), (1, .int a1)]) [0, 1] rfl ?_
  refine ww_aload_n C dX10_image_0 rfl 0 rfl ?_
  refine ww_iconst (v := 0) C dX10_image_1 (by decide) ?_
  refine ww_puti (ci := 10) (k0 := 0) C dX10_image_2 rfl rfl inm10 tyX10_ok nmX10 (by decide) T0 q1278 rfl rfl rfl ?_
  refine ww_bd E (fun dy1 E => ?_)
  refine ww_iload_n C dX10_image_5 rfl 1 rfl ?_
  refine ww_iconst (v := 0) C dX10_image_6 (by decide) ?_
  refine ww_iconst (v := 2) C dX10_image_7 (by decide) ?_
  obtain ⟨u2, e_3, E⟩ := bind_of E
  refine ww_callI C (runs_S (n := 3) (st := []) C [.int a1, .int (0 : Int32), .int (2 : Int32)] (M_X10_in l G ad N hG a1 (0 : Int32) (2 : Int32) dy1 e_3) ⟨q1476, q118, by decide⟩ q1474 q1475 rfl (Nat.le_of_ble_eq_true rfl) ⟨Nat.le_of_ble_eq_true rfl, Nat.le_of_ble_eq_true rfl⟩ ⟨Nat.zero_le _, Nat.zero_le _⟩ dX10_image_8 rfl) ?_
  refine ww_if_ne (tgt := 16) C dX10_image_11 (by decide) E (fun _ E => ?_) (fun _ E => ?_)
  · refine ww_aload_n C dX10_image_16 rfl 0 rfl ?_
    refine ww_iconst (v := 0) C dX10_image_17 (by decide) ?_
    refine ww_iload_n C dX10_image_18 rfl 1 rfl ?_
    refine ww_iconst (v := 1) C dX10_image_19 (by decide) ?_
    refine ww_iadd C dX10_image_20 ?_
    obtain ⟨u4, e_5, E⟩ := bind_of E
    refine ww_callV C (runs_V (n := 2) (st := []) C [.int (0 : Int32), .int (a1 + (1 : Int32))] (M_X10_copy l G ad N hG a0 (0 : Int32) (a1 + (1 : Int32)) u2.2 T0 e_5) ⟨q1914, q118, by decide⟩ q1911 q1913 q106 (ci := 10) rfl T0 rfl (Nat.le_of_ble_eq_true rfl) ⟨Nat.le_of_ble_eq_true rfl, Nat.le_of_ble_eq_true rfl⟩ ⟨Nat.zero_le _, Nat.zero_le _⟩ dX10_image_21 rfl) ?_
    refine ww_aload_n C dX10_image_24 rfl 0 rfl ?_
    have T_6 : gs S (gr S a0 60) = (3, 3) := hG.1 _ 10 T0 60 (by decide)
    refine ww_getr (ci := 10) (k0 := 60) C dX10_image_25 rfl rfl inm10 (by decide) T0 q1338 rfl T_6 (by decide) ?_
    refine ww_iload_n C dX10_image_28 rfl 1 rfl ?_
    refine ww_iconst (v := 1) C dX10_image_29 (by decide) ?_
    refine ww_zast C dX10_image_30 T_6 E (fun _ E => ?_)
    refine ww_bd E (fun dy7 E => ?_)
    refine ww_iconst (v := 1) C dX10_image_31 (by decide) ?_
    exact ww_zret C HR HL dX10_image_32 (Or.inr rfl) E
  · refine ww_iconst (v := 0) C dX10_image_14 (by decide) ?_
    exact ww_zret C HR HL dX10_image_15 (Or.inl rfl) E
section P_X10_isFreeAtFirst
variable {p : Program} {l : Launch} {e : Env} {s : State} {m : MethodId} {args : Array Value} {below : List Frame} {meth : Method} {c : Code} {G : GG} {A : Nat → Prop} {ad : Nat → Nat} {S : ST} {N : Nat} {r : Int32} {dy' : DY}
set_option maxHeartbeats 4000000 in
set_option maxRecDepth 100000 in
theorem B_X10_isFreeAtFirst_29 (C : CX p s m args c cX10_isFreeAtFirst 7 RX10 G A) (HR : meth.sig.returnType = (Option.some Jvm.ClassFile.FieldType.boolean)) (HL : meth.locks = false) (hG : Good S) : ∀ k : Nat, ∀ (x0 : Nat) (x1 : Int32) (x2 : Int32) (x3 : Int32) (x4 : Int32) (x5 : Int32) (dy : DY), gs S x0 = (0, 10) → (F_X10_isFreeAtFirst_29 S N k) x0 x1 x2 x3 x4 x5 dy = some (r, dy') → WJ p l e (rmD (1)) s m args below meth c 7 G A 0 0 (MQ below (QI G ad A S r dy') args s 0 0 A) ad 29 [(0, .ref (ad x0)), (1, .int x1), (2, .int x2), (3, .int x3), (4, .int x4), (5, .int x5)] [] S dy := by
  intro k
  induction k with
  | zero => exact fun _ _ _ _ _ _ _ _ E => nomatch (show none = some (r, dy') from E)
  | succ k ih =>
    intro x0 x1 x2 x3 x4 x5 dy Tx0 E
    rw [F_X10_isFreeAtFirst_29_s] at E
    refine ww_iload C dX10_isFreeAtFirst_29 5 rfl ?_
    refine ww_aload_n C dX10_isFreeAtFirst_31 rfl 0 rfl ?_
    have T_1 : gs S (gr S x0 8) = (1, 12) := hG.1 _ 10 Tx0 8 (by decide)
    refine ww_getr (ci := 10) (k0 := 8) C dX10_isFreeAtFirst_32 rfl rfl inm10 (by decide) Tx0 q1286 rfl T_1 (by decide) ?_
    refine ww_iload_n C dX10_isFreeAtFirst_35 rfl 1 rfl ?_
    refine ww_iald C dX10_isFreeAtFirst_36 T_1 E (fun _ E => ?_)
    refine ww_icmp_ge (tgt := 94) C dX10_isFreeAtFirst_37 (by decide) E (fun _ E => ?_) (fun _ E => ?_)
    · refine ww_iload C dX10_isFreeAtFirst_94 4 rfl ?_
      obtain ⟨z_, E⟩ := gd_of E
      exact ww_zret C HR HL dX10_isFreeAtFirst_96 z_ E
    · refine ww_bipush (v := 8) C dX10_isFreeAtFirst_40 (by decide) ?_
      refine ww_bipush (v := 12) C dX10_isFreeAtFirst_42 (by decide) ?_
      refine ww_iload_n C dX10_isFreeAtFirst_44 rfl 1 rfl ?_
      refine ww_imul C dX10_isFreeAtFirst_45 ?_
      refine ww_iload C dX10_isFreeAtFirst_46 5 rfl ?_
      refine ww_iadd C dX10_isFreeAtFirst_48 ?_
      refine ww_imul C dX10_isFreeAtFirst_49 ?_
      refine ww_istore (lv' := [(6, .int ((8 : Int32) * (((12 : Int32) * x1) + x5))), (0, .ref (ad x0)), (1, .int x1), (2, .int x2), (3, .int x3), (4, .int x4), (5, .int x5)]) C dX10_isFreeAtFirst_50 (by decide) rfl ?_
      refine ww_iload C dX10_isFreeAtFirst_52 5 rfl ?_
      refine ww_if_eq (tgt := 85) C dX10_isFreeAtFirst_54 (by decide) E (fun _ E => ?_) (fun _ E => ?_)
      · refine ww_iconst (v := 0) C dX10_isFreeAtFirst_85 (by decide) ?_
        refine ww_istore (lv' := [(4, .int (0 : Int32)), (6, .int ((8 : Int32) * (((12 : Int32) * x1) + x5))), (0, .ref (ad x0)), (1, .int x1), (2, .int x2), (3, .int x3), (5, .int x5)]) C dX10_isFreeAtFirst_86 (by decide) rfl ?_
        refine ww_iinc (v := (x5 + (1 : Int32))) (lv' := [(5, .int (x5 + (1 : Int32))), (4, .int (0 : Int32)), (6, .int ((8 : Int32) * (((12 : Int32) * x1) + x5))), (0, .ref (ad x0)), (1, .int x1), (2, .int x2), (3, .int x3)]) C dX10_isFreeAtFirst_88 6 rfl rfl (by decide) rfl ?_
        refine ww_goto (tgt := 29) C dX10_isFreeAtFirst_91 (by decide) ?_
        refine ww_sub (lv' := [(0, .ref (ad x0)), (1, .int x1), (2, .int x2), (3, .int x3), (4, .int (0 : Int32)), (5, .int (x5 + (1 : Int32)))]) [3, 4, 5, 6, 1, 0] rfl ?_
        exact ih x0 x1 x2 x3 (0 : Int32) (x5 + (1 : Int32)) dy Tx0 E
      · refine ww_aload_n C dX10_isFreeAtFirst_57 rfl 1 rfl ?_
        have T_2 : gs S (gr S x0 11) = (1, 1152) := hG.1 _ 10 Tx0 11 (by decide)
        refine ww_getr (ci := 10) (k0 := 11) C dX10_isFreeAtFirst_58 rfl rfl inm10 (by decide) Tx0 q1289 rfl T_2 (by decide) ?_
        refine ww_iload C dX10_isFreeAtFirst_61 0 rfl ?_
        refine ww_iald C dX10_isFreeAtFirst_63 T_2 E (fun _ E => ?_)
        refine ww_iload_n C dX10_isFreeAtFirst_64 rfl 3 rfl ?_
        refine ww_icmp_ne (tgt := 81) C dX10_isFreeAtFirst_65 (by decide) E (fun _ E => ?_) (fun _ E => ?_)
        · refine ww_iconst (v := 1) C dX10_isFreeAtFirst_81 (by decide) ?_
          refine ww_goto (tgt := 86) C dX10_isFreeAtFirst_82 (by decide) ?_
          refine ww_istore (lv' := [(4, .int (1 : Int32)), (6, .int ((8 : Int32) * (((12 : Int32) * x1) + x5))), (0, .ref (ad x0)), (1, .int x1), (2, .int x2), (3, .int x3), (5, .int x5)]) C dX10_isFreeAtFirst_86 (by decide) rfl ?_
          refine ww_iinc (v := (x5 + (1 : Int32))) (lv' := [(5, .int (x5 + (1 : Int32))), (4, .int (1 : Int32)), (6, .int ((8 : Int32) * (((12 : Int32) * x1) + x5))), (0, .ref (ad x0)), (1, .int x1), (2, .int x2), (3, .int x3)]) C dX10_isFreeAtFirst_88 6 rfl rfl (by decide) rfl ?_
          refine ww_goto (tgt := 29) C dX10_isFreeAtFirst_91 (by decide) ?_
          refine ww_sub (lv' := [(0, .ref (ad x0)), (1, .int x1), (2, .int x2), (3, .int x3), (4, .int (1 : Int32)), (5, .int (x5 + (1 : Int32)))]) [3, 4, 5, 6, 1, 0] rfl ?_
          exact ih x0 x1 x2 x3 (1 : Int32) (x5 + (1 : Int32)) dy Tx0 E
        · refine ww_aload_n C dX10_isFreeAtFirst_68 rfl 1 rfl ?_
          have T_3 : gs S (gr S x0 11) = (1, 1152) := hG.1 _ 10 Tx0 11 (by decide)
          refine ww_getr (ci := 10) (k0 := 11) C dX10_isFreeAtFirst_69 rfl rfl inm10 (by decide) Tx0 q1289 rfl T_3 (by decide) ?_
          refine ww_iload C dX10_isFreeAtFirst_72 0 rfl ?_
          refine ww_iconst (v := 1) C dX10_isFreeAtFirst_74 (by decide) ?_
          refine ww_iadd C dX10_isFreeAtFirst_75 ?_
          refine ww_iald C dX10_isFreeAtFirst_76 T_3 E (fun _ E => ?_)
          refine ww_iload_n C dX10_isFreeAtFirst_77 rfl 4 rfl ?_
          refine ww_icmp_eq (tgt := 85) C dX10_isFreeAtFirst_78 (by decide) E (fun _ E => ?_) (fun _ E => ?_)
          · refine ww_iconst (v := 0) C dX10_isFreeAtFirst_85 (by decide) ?_
            refine ww_istore (lv' := [(4, .int (0 : Int32)), (6, .int ((8 : Int32) * (((12 : Int32) * x1) + x5))), (0, .ref (ad x0)), (1, .int x1), (2, .int x2), (3, .int x3), (5, .int x5)]) C dX10_isFreeAtFirst_86 (by decide) rfl ?_
            refine ww_iinc (v := (x5 + (1 : Int32))) (lv' := [(5, .int (x5 + (1 : Int32))), (4, .int (0 : Int32)), (6, .int ((8 : Int32) * (((12 : Int32) * x1) + x5))), (0, .ref (ad x0)), (1, .int x1), (2, .int x2), (3, .int x3)]) C dX10_isFreeAtFirst_88 6 rfl rfl (by decide) rfl ?_
            refine ww_goto (tgt := 29) C dX10_isFreeAtFirst_91 (by decide) ?_
            refine ww_sub (lv' := [(0, .ref (ad x0)), (1, .int x1), (2, .int x2), (3, .int x3), (4, .int (0 : Int32)), (5, .int (x5 + (1 : Int32)))]) [3, 4, 5, 6, 1, 0] rfl ?_
            exact ih x0 x1 x2 x3 (0 : Int32) (x5 + (1 : Int32)) dy Tx0 E
          · refine ww_iconst (v := 1) C dX10_isFreeAtFirst_81 (by decide) ?_
            refine ww_goto (tgt := 86) C dX10_isFreeAtFirst_82 (by decide) ?_
            refine ww_istore (lv' := [(4, .int (1 : Int32)), (6, .int ((8 : Int32) * (((12 : Int32) * x1) + x5))), (0, .ref (ad x0)), (1, .int x1), (2, .int x2), (3, .int x3), (5, .int x5)]) C dX10_isFreeAtFirst_86 (by decide) rfl ?_
            refine ww_iinc (v := (x5 + (1 : Int32))) (lv' := [(5, .int (x5 + (1 : Int32))), (4, .int (1 : Int32)), (6, .int ((8 : Int32) * (((12 : Int32) * x1) + x5))), (0, .ref (ad x0)), (1, .int x1), (2, .int x2), (3, .int x3)]) C dX10_isFreeAtFirst_88 6 rfl rfl (by decide) rfl ?_
            refine ww_goto (tgt := 29) C dX10_isFreeAtFirst_91 (by decide) ?_
            refine ww_sub (lv' := [(0, .ref (ad x0)), (1, .int x1), (2, .int x2), (3, .int x3), (4, .int (1 : Int32)), (5, .int (x5 + (1 : Int32)))]) [3, 4, 5, 6, 1, 0] rfl ?_
            exact ih x0 x1 x2 x3 (1 : Int32) (x5 + (1 : Int32)) dy Tx0 E
end P_X10_isFreeAtFirst
set_option maxHeartbeats 4000000 in
set_option maxRecDepth 100000 in
theorem M_X10_isFreeAtFirst (l : Launch) (G : GG) (ad : Nat → Nat) {S : ST} (N : Nat) (hG : Good S) (a0 : Nat) (a1 : Int32) (a2 : Int32) (a3 : Int32) (dy : DY) (T0 : gs S a0 = (0, 10)) {r : Int32} {dy' : DY} (E : F_X10_isFreeAtFirst S N a0 a1 a2 a3 dy = some (r, dy')) : MC l yX10_isFreeAtFirst cX10_isFreeAtFirst 7 (Option.some Jvm.ClassFile.FieldType.boolean) (1) G ad [.ref (ad a0), .int a1, .int a2, .int a3] S dy (fun A => QI G ad A S r dy') := by
  rw [F_X10_isFreeAtFirst_s] at E
  refine mc_of RX10 (by decide) rfl (Nat.le_of_ble_eq_true rfl) (fun p e s m args below meth c A C HR HL => ?_)
  refine ww_sub (lv' := [(0, .ref (ad a0)), (1, .int a1), (2, .int a2), (3, .int a3)]) [0, 1, 2, 3] rfl ?_
  refine ww_aload_n C dX10_isFreeAtFirst_0 rfl 0 rfl ?_
  have T_1 : gs S (gr S a0 10) = (1, 1152) := hG.1 _ 10 T0 10 (by decide)
  refine ww_getr (ci := 10) (k0 := 10) C dX10_isFreeAtFirst_1 rfl rfl inm10 (by decide) T0 q1288 rfl T_1 (by decide) ?_
  refine ww_bipush (v := 96) C dX10_isFreeAtFirst_4 (by decide) ?_
  refine ww_iload_n C dX10_isFreeAtFirst_6 rfl 1 rfl ?_
  refine ww_imul C dX10_isFreeAtFirst_7 ?_
  refine ww_bipush (v := 6) C dX10_isFreeAtFirst_8 (by decide) ?_
  refine ww_iload_n C dX10_isFreeAtFirst_10 rfl 2 rfl ?_
  refine ww_imul C dX10_isFreeAtFirst_11 ?_
  refine ww_iadd C dX10_isFreeAtFirst_12 ?_
  refine ww_iload_n C dX10_isFreeAtFirst_13 rfl 3 rfl ?_
  refine ww_iadd C dX10_isFreeAtFirst_14 ?_
  refine ww_iald C dX10_isFreeAtFirst_15 T_1 E (fun _ E => ?_)
  refine ww_if_ne (tgt := 23) C dX10_isFreeAtFirst_16 (by decide) E (fun _ E => ?_) (fun _ E => ?_)
  · refine ww_iconst (v := 0) C dX10_isFreeAtFirst_23 (by decide) ?_
    refine ww_istore (lv' := [(4, .int (0 : Int32)), (0, .ref (ad a0)), (1, .int a1), (2, .int a2), (3, .int a3)]) C dX10_isFreeAtFirst_24 (by decide) rfl ?_
    refine ww_iconst (v := 0) C dX10_isFreeAtFirst_26 (by decide) ?_
    refine ww_istore (lv' := [(5, .int (0 : Int32)), (4, .int (0 : Int32)), (0, .ref (ad a0)), (1, .int a1), (2, .int a2), (3, .int a3)]) C dX10_isFreeAtFirst_27 (by decide) rfl ?_
    refine ww_sub (lv' := [(0, .ref (ad a0)), (1, .int a1), (2, .int a2), (3, .int a3), (4, .int (0 : Int32)), (5, .int (0 : Int32))]) [2, 3, 4, 5, 1, 0] rfl ?_
    exact (B_X10_isFreeAtFirst_29 C HR HL hG N) a0 a1 a2 a3 (0 : Int32) (0 : Int32) dy T0 E
  · refine ww_iconst (v := 1) C dX10_isFreeAtFirst_19 (by decide) ?_
    refine ww_goto (tgt := 24) C dX10_isFreeAtFirst_20 (by decide) ?_
    refine ww_istore (lv' := [(4, .int (1 : Int32)), (0, .ref (ad a0)), (1, .int a1), (2, .int a2), (3, .int a3)]) C dX10_isFreeAtFirst_24 (by decide) rfl ?_
    refine ww_iconst (v := 0) C dX10_isFreeAtFirst_26 (by decide) ?_
    refine ww_istore (lv' := [(5, .int (0 : Int32)), (4, .int (1 : Int32)), (0, .ref (ad a0)), (1, .int a1), (2, .int a2), (3, .int a3)]) C dX10_isFreeAtFirst_27 (by decide) rfl ?_
    refine ww_sub (lv' := [(0, .ref (ad a0)), (1, .int a1), (2, .int a2), (3, .int a3), (4, .int (1 : Int32)), (5, .int (0 : Int32))]) [2, 3, 4, 5, 1, 0] rfl ?_
    exact (B_X10_isFreeAtFirst_29 C HR HL hG N) a0 a1 a2 a3 (1 : Int32) (0 : Int32) dy T0 E
section P_X10_isGood
variable {p : Program} {l : Launch} {e : Env} {s : State} {m : MethodId} {args : Array Value} {below : List Frame} {meth : Method} {c : Code} {G : GG} {A : Nat → Prop} {ad : Nat → Nat} {S : ST} {N : Nat} {r : Int32} {dy' : DY}
set_option maxHeartbeats 4000000 in
set_option maxRecDepth 100000 in
theorem B_X10_isGood_49 (C : CX p s m args c cX10_isGood 2 RX10 G A) (HR : meth.sig.returnType = (Option.some Jvm.ClassFile.FieldType.boolean)) (HL : meth.locks = false) (hG : Good S) : ∀ (x0 : Nat) (y0 : Nat) (y1 : Int32) (y2 : Int32) (dy : DY), gs S x0 = (0, 10) → gs S y0 = (1, 4) → F_X10_isGood_49 S N x0 y0 y1 y2 dy = some (r, dy') → WJ p l e (rmD (1)) s m args below meth c 2 G A 0 0 (MQ below (QI G ad A S r dy') args s 0 0 A) ad 49 [(0, .ref (ad x0))] [.int y2, .int y1, .ref (ad y0)] S dy := by
  intro x0 y0 y1 y2 dy Tx0 Ty0 E
  rw [F_X10_isGood_49_s] at E
  refine ww_iast C dX10_isGood_49 Ty0 E (fun _ E => ?_)
  refine ww_bd E (fun dy1 E => ?_)
  refine ww_aload_n C dX10_isGood_50 rfl 0 rfl ?_
  have T_2 : gs S (gr S x0 3) = (1, 4) := hG.1 _ 10 Tx0 3 (by decide)
  refine ww_getr (ci := 10) (k0 := 3) C dX10_isGood_51 rfl rfl inm10 (by decide) Tx0 q1281 rfl T_2 (by decide) ?_
  refine ww_iconst (v := 0) C dX10_isGood_54 (by decide) ?_
  refine ww_iald C dX10_isGood_55 T_2 E (fun _ E => ?_)
  refine ww_if_ne (tgt := 63) C dX10_isGood_56 (by decide) E (fun _ E => ?_) (fun _ E => ?_)
  · refine ww_iconst (v := 0) C dX10_isGood_63 (by decide) ?_
    exact ww_zret C HR HL dX10_isGood_64 (Or.inl rfl) E
  · refine ww_iconst (v := 1) C dX10_isGood_59 (by decide) ?_
    refine ww_goto (tgt := 64) C dX10_isGood_60 (by decide) ?_
    exact ww_zret C HR HL dX10_isGood_64 (Or.inr rfl) E
set_option maxHeartbeats 4000000 in
set_option maxRecDepth 100000 in
theorem B_X10_isGood_17 (C : CX p s m args c cX10_isGood 2 RX10 G A) (HR : meth.sig.returnType = (Option.some Jvm.ClassFile.FieldType.boolean)) (HL : meth.locks = false) (hG : Good S) : ∀ (x0 : Nat) (x1 : Int32) (y0 : Nat) (y1 : Int32) (y2 : Int32) (dy : DY), gs S x0 = (0, 10) → gs S y0 = (1, 4) → F_X10_isGood_17 S N x0 x1 y0 y1 y2 dy = some (r, dy') → WJ p l e (rmD (1)) s m args below meth c 2 G A 0 0 (MQ below (QI G ad A S r dy') args s 0 0 A) ad 17 [(0, .ref (ad x0)), (1, .int x1)] [.int y2, .int y1, .ref (ad y0)] S dy := by
  intro x0 x1 y0 y1 y2 dy Tx0 Ty0 E
  rw [F_X10_isGood_17_s] at E
  refine ww_iast C dX10_isGood_17 Ty0 E (fun _ E => ?_)
  refine ww_bd E (fun dy1 E => ?_)
  refine ww_aload_n C dX10_isGood_18 rfl 0 rfl ?_
  have T_2 : gs S (gr S x0 4) = (1, 4) := hG.1 _ 10 Tx0 4 (by decide)
  refine ww_getr (ci := 10) (k0 := 4) C dX10_isGood_19 rfl rfl inm10 (by decide) Tx0 q1282 rfl T_2 (by decide) ?_
  refine ww_iconst (v := 0) C dX10_isGood_22 (by decide) ?_
  refine ww_iload_n C dX10_isGood_23 rfl 1 rfl ?_
  refine ww_if_ne (tgt := 34) C dX10_isGood_24 (by decide) E (fun _ E => ?_) (fun _ E => ?_)
  · refine ww_aload_n C dX10_isGood_34 rfl 0 rfl ?_
    refine ww_geti (ci := 10) (k0 := 25) C dX10_isGood_35 rfl rfl inm10 (by decide) Tx0 q1303 rfl ?_
    refine ww_if_le (tgt := 48) C dX10_isGood_38 (by decide) E (fun _ E => ?_) (fun _ E => ?_)
    · refine ww_iconst (v := (-1)) C dX10_isGood_48 (by decide) ?_
      refine ww_sub (lv' := [(0, .ref (ad x0))]) [0] rfl ?_
      exact (B_X10_isGood_49 C HR HL hG) x0 (gr S x0 4) (0 : Int32) (-1 : Int32) dy1 Tx0 T_2 E
    · refine ww_aload_n C dX10_isGood_41 rfl 0 rfl ?_
      refine ww_geti (ci := 10) (k0 := 26) C dX10_isGood_42 rfl rfl inm10 (by decide) Tx0 q1304 rfl ?_
      refine ww_goto (tgt := 49) C dX10_isGood_45 (by decide) ?_
      refine ww_sub (lv' := [(0, .ref (ad x0))]) [0] rfl ?_
      exact (B_X10_isGood_49 C HR HL hG) x0 (gr S x0 4) (0 : Int32) (gi dy1 x0 26) dy1 Tx0 T_2 E
  · refine ww_aload_n C dX10_isGood_27 rfl 0 rfl ?_
    refine ww_geti (ci := 10) (k0 := 24) C dX10_isGood_28 rfl rfl inm10 (by decide) Tx0 q1302 rfl ?_
    refine ww_goto (tgt := 49) C dX10_isGood_31 (by decide) ?_
    refine ww_sub (lv' := [(0, .ref (ad x0))]) [0] rfl ?_
    exact (B_X10_isGood_49 C HR HL hG) x0 (gr S x0 4) (0 : Int32) (gi dy1 x0 24) dy1 Tx0 T_2 E
end P_X10_isGood
set_option maxHeartbeats 4000000 in
set_option maxRecDepth 100000 in
theorem M_X10_isGood (l : Launch) (G : GG) (ad : Nat → Nat) {S : ST} (N : Nat) (hG : Good S) (a0 : Nat) (a1 : Int32) (dy : DY) (T0 : gs S a0 = (0, 10)) {r : Int32} {dy' : DY} (E : F_X10_isGood S N a0 a1 dy = some (r, dy')) : MC l yX10_isGood cX10_isGood 2 (Option.some Jvm.ClassFile.FieldType.boolean) (1) G ad [.ref (ad a0), .int a1] S dy (fun A => QI G ad A S r dy') := by
  rw [F_X10_isGood_s] at E
  refine mc_of RX10 (by decide) rfl (Nat.le_of_ble_eq_true rfl) (fun p e s m args below meth c A C HR HL => ?_)
  refine ww_sub (lv' := [(0, .ref (ad a0)), (1, .int a1)]) [0, 1] rfl ?_
  refine ww_aload_n C dX10_isGood_0 rfl 0 rfl ?_
  have T_1 : gs S (gr S a0 3) = (1, 4) := hG.1 _ 10 T0 3 (by decide)
  refine ww_getr (ci := 10) (k0 := 3) C dX10_isGood_1 rfl rfl inm10 (by decide) T0 q1281 rfl T_1 (by decide) ?_
  refine ww_iconst (v := 0) C dX10_isGood_4 (by decide) ?_
  refine ww_iload_n C dX10_isGood_5 rfl 1 rfl ?_
  refine ww_if_eq (tgt := 16) C dX10_isGood_6 (by decide) E (fun _ E => ?_) (fun _ E => ?_)
  · refine ww_iconst (v := 1) C dX10_isGood_16 (by decide) ?_
    refine ww_sub (lv' := [(0, .ref (ad a0)), (1, .int a1)]) [0, 1] rfl ?_
    exact (B_X10_isGood_17 C HR HL hG) a0 a1 (gr S a0 3) (0 : Int32) (1 : Int32) dy T0 T_1 E
  · refine ww_aload_n C dX10_isGood_9 rfl 0 rfl ?_
    refine ww_geti (ci := 10) (k0 := 25) C dX10_isGood_10 rfl rfl inm10 (by decide) T0 q1303 rfl ?_
    refine ww_goto (tgt := 17) C dX10_isGood_13 (by decide) ?_
    refine ww_sub (lv' := [(0, .ref (ad a0)), (1, .int a1)]) [0, 1] rfl ?_
    exact (B_X10_isGood_17 C HR HL hG) a0 a1 (gr S a0 3) (0 : Int32) (gi dy a0 25) dy T0 T_1 E
section P_X10_isMatch
variable {p : Program} {l : Launch} {e : Env} {s : State} {m : MethodId} {args : Array Value} {below : List Frame} {meth : Method} {c : Code} {G : GG} {A : Nat → Prop} {ad : Nat → Nat} {S : ST} {N : Nat} {r : Int32} {dy' : DY}
end P_X10_isMatch
set_option maxHeartbeats 4000000 in
set_option maxRecDepth 100000 in
theorem M_X10_isMatch (l : Launch) (G : GG) (ad : Nat → Nat) {S : ST} (N : Nat) (hG : Good S) (a0 : Int32) (a1 : Int32) (dy : DY) {r : Int32} {dy' : DY} (E : F_X10_isMatch S N a0 a1 dy = some (r, dy')) : MC l yX10_isMatch cX10_isMatch 2 (Option.some Jvm.ClassFile.FieldType.boolean) (2) G ad [.int a0, .int a1] S dy (fun A => QI G ad A S r dy') := by
  rw [F_X10_isMatch_s] at E
  refine mc_of RX10 (by decide) rfl (Nat.le_of_ble_eq_true rfl) (fun p e s m args below meth c A C HR HL => ?_)
  refine ww_sub (lv' := [(0, .int a0), (1, .int a1)]) [0, 1] rfl ?_
  refine ww_iload_n C dX10_isMatch_0 rfl 0 rfl ?_
  refine ww_iconst (v := 0) C dX10_isMatch_1 (by decide) ?_
  refine ww_bipush (v := 6) C dX10_isMatch_2 (by decide) ?_
  obtain ⟨u1, e_2, E⟩ := bind_of E
  refine ww_callI C (runs_S (n := 3) (st := []) C [.int a0, .int (0 : Int32), .int (6 : Int32)] (M_X10_in l G ad N hG a0 (0 : Int32) (6 : Int32) dy e_2) ⟨q1476, q118, by decide⟩ q1474 q1475 rfl (Nat.le_of_ble_eq_true rfl) ⟨Nat.le_of_ble_eq_true rfl, Nat.le_of_ble_eq_true rfl⟩ ⟨Nat.zero_le _, Nat.zero_le _⟩ dX10_isMatch_4 rfl) ?_
  refine ww_if_eq (tgt := 24) C dX10_isMatch_7 (by decide) E (fun _ E => ?_) (fun _ E => ?_)
  · refine ww_iconst (v := 0) C dX10_isMatch_24 (by decide) ?_
    exact ww_zret C HR HL dX10_isMatch_25 (Or.inl rfl) E
  · refine ww_iload_n C dX10_isMatch_10 rfl 1 rfl ?_
    refine ww_iconst (v := 0) C dX10_isMatch_11 (by decide) ?_
    refine ww_bipush (v := 99) C dX10_isMatch_12 (by decide) ?_
    obtain ⟨u3, e_4, E⟩ := bind_of E
    refine ww_callI C (runs_S (n := 3) (st := []) C [.int a1, .int (0 : Int32), .int (99 : Int32)] (M_X10_in l G ad N hG a1 (0 : Int32) (99 : Int32) u1.2 e_4) ⟨q1476, q118, by decide⟩ q1474 q1475 rfl (Nat.le_of_ble_eq_true rfl) ⟨Nat.le_of_ble_eq_true rfl, Nat.le_of_ble_eq_true rfl⟩ ⟨Nat.zero_le _, Nat.zero_le _⟩ dX10_isMatch_14 rfl) ?_
    refine ww_if_eq (tgt := 24) C dX10_isMatch_17 (by decide) E (fun _ E => ?_) (fun _ E => ?_)
    · refine ww_iconst (v := 0) C dX10_isMatch_24 (by decide) ?_
      exact ww_zret C HR HL dX10_isMatch_25 (Or.inl rfl) E
    · refine ww_iconst (v := 1) C dX10_isMatch_20 (by decide) ?_
      refine ww_goto (tgt := 25) C dX10_isMatch_21 (by decide) ?_
      exact ww_zret C HR HL dX10_isMatch_25 (Or.inr rfl) E
section P_X10_isSignOf
variable {p : Program} {l : Launch} {e : Env} {s : State} {m : MethodId} {args : Array Value} {below : List Frame} {meth : Method} {c : Code} {G : GG} {A : Nat → Prop} {ad : Nat → Nat} {S : ST} {N : Nat} {r : Int32} {dy' : DY}
end P_X10_isSignOf
set_option maxHeartbeats 4000000 in
set_option maxRecDepth 100000 in
theorem M_X10_isSignOf (l : Launch) (G : GG) (ad : Nat → Nat) {S : ST} (N : Nat) (hG : Good S) (a0 : Nat) (a1 : Int32) (dy : DY) (T0 : gs S a0 = (0, 10)) {r : Int32} {dy' : DY} (E : F_X10_isSignOf S N a0 a1 dy = some (r, dy')) : MC l yX10_isSignOf cX10_isSignOf 2 (Option.some Jvm.ClassFile.FieldType.boolean) (1) G ad [.ref (ad a0), .int a1] S dy (fun A => QI G ad A S r dy') := by
  rw [F_X10_isSignOf_s] at E
  refine mc_of RX10 (by decide) rfl (Nat.le_of_ble_eq_true rfl) (fun p e s m args below meth c A C HR HL => ?_)
  refine ww_sub (lv' := [(0, .ref (ad a0)), (1, .int a1)]) [0, 1] rfl ?_
  refine ww_aload_n C dX10_isSignOf_0 rfl 0 rfl ?_
  refine ww_geti (ci := 10) (k0 := 21) C dX10_isSignOf_1 rfl rfl inm10 (by decide) T0 q1299 rfl ?_
  refine ww_iconst (v := 4) C dX10_isSignOf_4 (by decide) ?_
  refine ww_icmp_ne (tgt := 20) C dX10_isSignOf_5 (by decide) E (fun _ E => ?_) (fun _ E => ?_)
  · refine ww_iconst (v := 0) C dX10_isSignOf_20 (by decide) ?_
    exact ww_zret C HR HL dX10_isSignOf_21 (Or.inl rfl) E
  · refine ww_aload_n C dX10_isSignOf_8 rfl 0 rfl ?_
    refine ww_geti (ci := 10) (k0 := 22) C dX10_isSignOf_9 rfl rfl inm10 (by decide) T0 q1300 rfl ?_
    refine ww_iload_n C dX10_isSignOf_12 rfl 1 rfl ?_
    refine ww_icmp_ne (tgt := 20) C dX10_isSignOf_13 (by decide) E (fun _ E => ?_) (fun _ E => ?_)
    · refine ww_iconst (v := 0) C dX10_isSignOf_20 (by decide) ?_
      exact ww_zret C HR HL dX10_isSignOf_21 (Or.inl rfl) E
    · refine ww_iconst (v := 1) C dX10_isSignOf_16 (by decide) ?_
      refine ww_goto (tgt := 21) C dX10_isSignOf_17 (by decide) ?_
      exact ww_zret C HR HL dX10_isSignOf_21 (Or.inr rfl) E
section P_X10_isTaken
variable {p : Program} {l : Launch} {e : Env} {s : State} {m : MethodId} {args : Array Value} {below : List Frame} {meth : Method} {c : Code} {G : GG} {A : Nat → Prop} {ad : Nat → Nat} {S : ST} {N : Nat} {r : Int32} {dy' : DY}
set_option maxHeartbeats 4000000 in
set_option maxRecDepth 100000 in
theorem B_X10_isTaken_2 (C : CX p s m args c cX10_isTaken 3 RX10 G A) (HR : meth.sig.returnType = (Option.some Jvm.ClassFile.FieldType.boolean)) (HL : meth.locks = false) (hG : Good S) : ∀ k : Nat, ∀ (x0 : Nat) (x1 : Int32) (x2 : Int32) (dy : DY), gs S x0 = (0, 10) → (F_X10_isTaken_2 S N k) x0 x1 x2 dy = some (r, dy') → WJ p l e (rmD (1)) s m args below meth c 3 G A 0 0 (MQ below (QI G ad A S r dy') args s 0 0 A) ad 2 [(0, .ref (ad x0)), (1, .int x1), (2, .int x2)] [] S dy := by
  intro k
  induction k with
  | zero => exact fun _ _ _ _ _ E => nomatch (show none = some (r, dy') from E)
  | succ k ih =>
    intro x0 x1 x2 dy Tx0 E
    rw [F_X10_isTaken_2_s] at E
    refine ww_iload_n C dX10_isTaken_2 rfl 2 rfl ?_
    refine ww_aload_n C dX10_isTaken_3 rfl 0 rfl ?_
    refine ww_geti (ci := 10) (k0 := 31) C dX10_isTaken_4 rfl rfl inm10 (by decide) Tx0 q1309 rfl ?_
    refine ww_icmp_ge (tgt := 46) C dX10_isTaken_7 (by decide) E (fun _ E => ?_) (fun _ E => ?_)
    · refine ww_aload_n C dX10_isTaken_46 rfl 0 rfl ?_
      have T_1 : gs S (gr S x0 33) = (1, 96) := hG.1 _ 10 Tx0 33 (by decide)
      refine ww_getr (ci := 10) (k0 := 33) C dX10_isTaken_47 rfl rfl inm10 (by decide) Tx0 q1311 rfl T_1 (by decide) ?_
      refine ww_iload_n C dX10_isTaken_50 rfl 1 rfl ?_
      refine ww_iald C dX10_isTaken_51 T_1 E (fun _ E => ?_)
      refine ww_iconst (v := 1) C dX10_isTaken_52 (by decide) ?_
      refine ww_icmp_ne (tgt := 60) C dX10_isTaken_53 (by decide) E (fun _ E => ?_) (fun _ E => ?_)
      · refine ww_iconst (v := 0) C dX10_isTaken_60 (by decide) ?_
        exact ww_zret C HR HL dX10_isTaken_61 (Or.inl rfl) E
      · refine ww_iconst (v := 1) C dX10_isTaken_56 (by decide) ?_
        refine ww_goto (tgt := 61) C dX10_isTaken_57 (by decide) ?_
        exact ww_zret C HR HL dX10_isTaken_61 (Or.inr rfl) E
    · refine ww_bipush (v := 6) C dX10_isTaken_10 (by decide) ?_
      refine ww_aload_n C dX10_isTaken_12 rfl 0 rfl ?_
      have T_2 : gs S (gr S x0 34) = (1, 104) := hG.1 _ 10 Tx0 34 (by decide)
      refine ww_getr (ci := 10) (k0 := 34) C dX10_isTaken_13 rfl rfl inm10 (by decide) Tx0 q1312 rfl T_2 (by decide) ?_
      refine ww_bipush (v := 8) C dX10_isTaken_16 (by decide) ?_
      refine ww_iload_n C dX10_isTaken_18 rfl 2 rfl ?_
      refine ww_imul C dX10_isTaken_19 ?_
      refine ww_iald C dX10_isTaken_20 T_2 E (fun _ E => ?_)
      refine ww_imul C dX10_isTaken_21 ?_
      refine ww_aload_n C dX10_isTaken_22 rfl 0 rfl ?_
      have T_3 : gs S (gr S x0 34) = (1, 104) := hG.1 _ 10 Tx0 34 (by decide)
      refine ww_getr (ci := 10) (k0 := 34) C dX10_isTaken_23 rfl rfl inm10 (by decide) Tx0 q1312 rfl T_3 (by decide) ?_
      refine ww_bipush (v := 8) C dX10_isTaken_26 (by decide) ?_
      refine ww_iload_n C dX10_isTaken_28 rfl 2 rfl ?_
      refine ww_imul C dX10_isTaken_29 ?_
      refine ww_iconst (v := 1) C dX10_isTaken_30 (by decide) ?_
      refine ww_iadd C dX10_isTaken_31 ?_
      refine ww_iald C dX10_isTaken_32 T_3 E (fun _ E => ?_)
      refine ww_iadd C dX10_isTaken_33 ?_
      refine ww_iload_n C dX10_isTaken_34 rfl 1 rfl ?_
      refine ww_icmp_ne (tgt := 40) C dX10_isTaken_35 (by decide) E (fun _ E => ?_) (fun _ E => ?_)
      · refine ww_iinc (v := (x2 + (1 : Int32))) (lv' := [(2, .int (x2 + (1 : Int32))), (0, .ref (ad x0)), (1, .int x1)]) C dX10_isTaken_40 2 rfl rfl (by decide) rfl ?_
        refine ww_goto (tgt := 2) C dX10_isTaken_43 (by decide) ?_
        refine ww_sub (lv' := [(0, .ref (ad x0)), (1, .int x1), (2, .int (x2 + (1 : Int32)))]) [1, 2, 0] rfl ?_
        exact ih x0 x1 (x2 + (1 : Int32)) dy Tx0 E
      · refine ww_iconst (v := 1) C dX10_isTaken_38 (by decide) ?_
        exact ww_zret C HR HL dX10_isTaken_39 (Or.inr rfl) E
end P_X10_isTaken
set_option maxHeartbeats 4000000 in
set_option maxRecDepth 100000 in
theorem M_X10_isTaken (l : Launch) (G : GG) (ad : Nat → Nat) {S : ST} (N : Nat) (hG : Good S) (a0 : Nat) (a1 : Int32) (dy : DY) (T0 : gs S a0 = (0, 10)) {r : Int32} {dy' : DY} (E : F_X10_isTaken S N a0 a1 dy = some (r, dy')) : MC l yX10_isTaken cX10_isTaken 3 (Option.some Jvm.ClassFile.FieldType.boolean) (1) G ad [.ref (ad a0), .int a1] S dy (fun A => QI G ad A S r dy') := by
  rw [F_X10_isTaken_s] at E
  refine mc_of RX10 (by decide) rfl (Nat.le_of_ble_eq_true rfl) (fun p e s m args below meth c A C HR HL => ?_)
  refine ww_sub (lv' := [(0, .ref (ad a0)), (1, .int a1)]) [0, 1] rfl ?_
  refine ww_iconst (v := 0) C dX10_isTaken_0 (by decide) ?_
  refine ww_istore_n (lv' := [(2, .int (0 : Int32)), (0, .ref (ad a0)), (1, .int a1)]) C dX10_isTaken_1 rfl (by decide) rfl ?_
  refine ww_sub (lv' := [(0, .ref (ad a0)), (1, .int a1), (2, .int (0 : Int32))]) [1, 2, 0] rfl ?_
  exact (B_X10_isTaken_2 C HR HL hG N) a0 a1 (0 : Int32) dy T0 E
section P_X10_waysOn
variable {p : Program} {l : Launch} {e : Env} {s : State} {m : MethodId} {args : Array Value} {below : List Frame} {meth : Method} {c : Code} {G : GG} {A : Nat → Prop} {ad : Nat → Nat} {S : ST} {N : Nat} {r : Int32} {dy' : DY}
set_option maxHeartbeats 4000000 in
set_option maxRecDepth 100000 in
theorem B_X10_waysOn_4 (C : CX p s m args c cX10_waysOn 5 RX10 G A) (HR : meth.sig.returnType = (Option.some Jvm.ClassFile.FieldType.int)) (HL : meth.locks = false) (hG : Good S) : ∀ k : Nat, ∀ (x0 : Nat) (x1 : Int32) (x2 : Int32) (x3 : Int32) (dy : DY), gs S x0 = (0, 10) → (F_X10_waysOn_4 S N k) x0 x1 x2 x3 dy = some (r, dy') → WJ p l e (rmD (2)) s m args below meth c 5 G A 0 0 (MQ below (QI G ad A S r dy') args s 0 0 A) ad 4 [(0, .ref (ad x0)), (1, .int x1), (2, .int x2), (3, .int x3)] [] S dy := by
  intro k
  induction k with
  | zero => exact fun _ _ _ _ _ _ E => nomatch (show none = some (r, dy') from E)
  | succ k ih =>
    intro x0 x1 x2 x3 dy Tx0 E
    rw [F_X10_waysOn_4_s] at E
    refine ww_iload_n C dX10_waysOn_4 rfl 3 rfl ?_
    refine ww_aload_n C dX10_waysOn_5 rfl 0 rfl ?_
    have T_1 : gs S (gr S x0 39) = (1, 10080) := hG.1 _ 10 Tx0 39 (by decide)
    refine ww_getr (ci := 10) (k0 := 39) C dX10_waysOn_6 rfl rfl inm10 (by decide) Tx0 q1317 rfl T_1 (by decide) ?_
    refine ww_iconst (v := 2) C dX10_waysOn_9 (by decide) ?_
    refine ww_iald C dX10_waysOn_10 T_1 E (fun _ E => ?_)
    refine ww_icmp_ge (tgt := 77) C dX10_waysOn_11 (by decide) E (fun _ E => ?_) (fun _ E => ?_)
    · refine ww_iload_n C dX10_waysOn_77 rfl 2 rfl ?_
      exact ww_iret C HR HL dX10_waysOn_78 E
    · refine ww_iconst (v := 0) C dX10_waysOn_14 (by decide) ?_
      refine ww_iload_n C dX10_waysOn_15 rfl 3 rfl ?_
      obtain ⟨u2, e_3, E⟩ := bind_of E
      refine ww_callI C (runs_S (n := 2) (st := []) C [.int (0 : Int32), .int x3] (M_X10_at l G ad N hG (0 : Int32) x3 dy e_3) ⟨q1644, q118, by decide⟩ q1642 q1643 rfl (Nat.le_of_ble_eq_true rfl) ⟨Nat.le_of_ble_eq_true rfl, Nat.le_of_ble_eq_true rfl⟩ ⟨Nat.zero_le _, Nat.zero_le _⟩ dX10_waysOn_16 rfl) ?_
      refine ww_istore (lv' := [(4, .int u2.1), (0, .ref (ad x0)), (1, .int x1), (2, .int x2), (3, .int x3)]) C dX10_waysOn_19 (by decide) rfl ?_
      refine ww_iload_n C dX10_waysOn_21 rfl 3 rfl ?_
      refine ww_aload_n C dX10_waysOn_22 rfl 1 rfl ?_
      have T_4 : gs S (gr S x0 39) = (1, 10080) := hG.1 _ 10 Tx0 39 (by decide)
      refine ww_getr (ci := 10) (k0 := 39) C dX10_waysOn_23 rfl rfl inm10 (by decide) Tx0 q1317 rfl T_4 (by decide) ?_
      refine ww_iload C dX10_waysOn_26 0 rfl ?_
      refine ww_iald C dX10_waysOn_28 T_4 E (fun _ E => ?_)
      refine ww_iconst (v := (-1)) C dX10_waysOn_29 (by decide) ?_
      refine ww_icmp_eq (tgt := 68) C dX10_waysOn_30 (by decide) E (fun _ E => ?_) (fun _ E => ?_)
      · refine ww_iconst (v := 0) C dX10_waysOn_68 (by decide) ?_
        refine ww_ior C dX10_waysOn_69 ?_
        refine ww_istore_n (lv' := [(2, .int (x2 ||| (0 : Int32))), (4, .int u2.1), (0, .ref (ad x0)), (1, .int x1), (3, .int x3)]) C dX10_waysOn_70 rfl (by decide) rfl ?_
        refine ww_iinc (v := (x3 + (1 : Int32))) (lv' := [(3, .int (x3 + (1 : Int32))), (2, .int (x2 ||| (0 : Int32))), (4, .int u2.1), (0, .ref (ad x0)), (1, .int x1)]) C dX10_waysOn_71 4 rfl rfl (by decide) rfl ?_
        refine ww_goto (tgt := 4) C dX10_waysOn_74 (by decide) ?_
        refine ww_sub (lv' := [(0, .ref (ad x0)), (1, .int x1), (2, .int (x2 ||| (0 : Int32))), (3, .int (x3 + (1 : Int32)))]) [3, 4, 1, 0] rfl ?_
        exact ih x0 x1 (x2 ||| (0 : Int32)) (x3 + (1 : Int32)) u2.2 Tx0 E
      · refine ww_aload_n C dX10_waysOn_33 rfl 1 rfl ?_
        have T_5 : gs S (gr S x0 39) = (1, 10080) := hG.1 _ 10 Tx0 39 (by decide)
        refine ww_getr (ci := 10) (k0 := 39) C dX10_waysOn_34 rfl rfl inm10 (by decide) Tx0 q1317 rfl T_5 (by decide) ?_
        refine ww_iload C dX10_waysOn_37 0 rfl ?_
        refine ww_iconst (v := 4) C dX10_waysOn_39 (by decide) ?_
        refine ww_iadd C dX10_waysOn_40 ?_
        refine ww_iald C dX10_waysOn_41 T_5 E (fun _ E => ?_)
        refine ww_iload_n C dX10_waysOn_42 rfl 2 rfl ?_
        refine ww_icmp_ne (tgt := 68) C dX10_waysOn_43 (by decide) E (fun _ E => ?_) (fun _ E => ?_)
        · refine ww_iconst (v := 0) C dX10_waysOn_68 (by decide) ?_
          refine ww_ior C dX10_waysOn_69 ?_
          refine ww_istore_n (lv' := [(2, .int (x2 ||| (0 : Int32))), (4, .int u2.1), (0, .ref (ad x0)), (1, .int x1), (3, .int x3)]) C dX10_waysOn_70 rfl (by decide) rfl ?_
          refine ww_iinc (v := (x3 + (1 : Int32))) (lv' := [(3, .int (x3 + (1 : Int32))), (2, .int (x2 ||| (0 : Int32))), (4, .int u2.1), (0, .ref (ad x0)), (1, .int x1)]) C dX10_waysOn_71 4 rfl rfl (by decide) rfl ?_
          refine ww_goto (tgt := 4) C dX10_waysOn_74 (by decide) ?_
          refine ww_sub (lv' := [(0, .ref (ad x0)), (1, .int x1), (2, .int (x2 ||| (0 : Int32))), (3, .int (x3 + (1 : Int32)))]) [3, 4, 1, 0] rfl ?_
          exact ih x0 x1 (x2 ||| (0 : Int32)) (x3 + (1 : Int32)) u2.2 Tx0 E
        · refine ww_aload_n C dX10_waysOn_46 rfl 1 rfl ?_
          have T_6 : gs S (gr S x0 39) = (1, 10080) := hG.1 _ 10 Tx0 39 (by decide)
          refine ww_getr (ci := 10) (k0 := 39) C dX10_waysOn_47 rfl rfl inm10 (by decide) Tx0 q1317 rfl T_6 (by decide) ?_
          refine ww_iload C dX10_waysOn_50 0 rfl ?_
          refine ww_bipush (v := 8) C dX10_waysOn_52 (by decide) ?_
          refine ww_iadd C dX10_waysOn_54 ?_
          refine ww_iald C dX10_waysOn_55 T_6 E (fun _ E => ?_)
          refine ww_iconst (v := 1) C dX10_waysOn_56 (by decide) ?_
          refine ww_icmp_ne (tgt := 64) C dX10_waysOn_57 (by decide) E (fun _ E => ?_) (fun _ E => ?_)
          · refine ww_iconst (v := 2) C dX10_waysOn_64 (by decide) ?_
            refine ww_goto (tgt := 69) C dX10_waysOn_65 (by decide) ?_
            refine ww_ior C dX10_waysOn_69 ?_
            refine ww_istore_n (lv' := [(2, .int (x2 ||| (2 : Int32))), (4, .int u2.1), (0, .ref (ad x0)), (1, .int x1), (3, .int x3)]) C dX10_waysOn_70 rfl (by decide) rfl ?_
            refine ww_iinc (v := (x3 + (1 : Int32))) (lv' := [(3, .int (x3 + (1 : Int32))), (2, .int (x2 ||| (2 : Int32))), (4, .int u2.1), (0, .ref (ad x0)), (1, .int x1)]) C dX10_waysOn_71 4 rfl rfl (by decide) rfl ?_
            refine ww_goto (tgt := 4) C dX10_waysOn_74 (by decide) ?_
            refine ww_sub (lv' := [(0, .ref (ad x0)), (1, .int x1), (2, .int (x2 ||| (2 : Int32))), (3, .int (x3 + (1 : Int32)))]) [3, 4, 1, 0] rfl ?_
            exact ih x0 x1 (x2 ||| (2 : Int32)) (x3 + (1 : Int32)) u2.2 Tx0 E
          · refine ww_iconst (v := 1) C dX10_waysOn_60 (by decide) ?_
            refine ww_goto (tgt := 69) C dX10_waysOn_61 (by decide) ?_
            refine ww_ior C dX10_waysOn_69 ?_
            refine ww_istore_n (lv' := [(2, .int (x2 ||| (1 : Int32))), (4, .int u2.1), (0, .ref (ad x0)), (1, .int x1), (3, .int x3)]) C dX10_waysOn_70 rfl (by decide) rfl ?_
            refine ww_iinc (v := (x3 + (1 : Int32))) (lv' := [(3, .int (x3 + (1 : Int32))), (2, .int (x2 ||| (1 : Int32))), (4, .int u2.1), (0, .ref (ad x0)), (1, .int x1)]) C dX10_waysOn_71 4 rfl rfl (by decide) rfl ?_
            refine ww_goto (tgt := 4) C dX10_waysOn_74 (by decide) ?_
            refine ww_sub (lv' := [(0, .ref (ad x0)), (1, .int x1), (2, .int (x2 ||| (1 : Int32))), (3, .int (x3 + (1 : Int32)))]) [3, 4, 1, 0] rfl ?_
            exact ih x0 x1 (x2 ||| (1 : Int32)) (x3 + (1 : Int32)) u2.2 Tx0 E
end P_X10_waysOn
set_option maxHeartbeats 4000000 in
set_option maxRecDepth 100000 in
theorem M_X10_waysOn (l : Launch) (G : GG) (ad : Nat → Nat) {S : ST} (N : Nat) (hG : Good S) (a0 : Nat) (a1 : Int32) (dy : DY) (T0 : gs S a0 = (0, 10)) {r : Int32} {dy' : DY} (E : F_X10_waysOn S N a0 a1 dy = some (r, dy')) : MC l yX10_waysOn cX10_waysOn 5 (Option.some Jvm.ClassFile.FieldType.int) (2) G ad [.ref (ad a0), .int a1] S dy (fun A => QI G ad A S r dy') := by
  rw [F_X10_waysOn_s] at E
  refine mc_of RX10 (by decide) rfl (Nat.le_of_ble_eq_true rfl) (fun p e s m args below meth c A C HR HL => ?_)
  refine ww_sub (lv' := [(0, .ref (ad a0)), (1, .int a1)]) [0, 1] rfl ?_
  refine ww_iconst (v := 0) C dX10_waysOn_0 (by decide) ?_
  refine ww_istore_n (lv' := [(2, .int (0 : Int32)), (0, .ref (ad a0)), (1, .int a1)]) C dX10_waysOn_1 rfl (by decide) rfl ?_
  refine ww_iconst (v := 0) C dX10_waysOn_2 (by decide) ?_
  refine ww_istore_n (lv' := [(3, .int (0 : Int32)), (2, .int (0 : Int32)), (0, .ref (ad a0)), (1, .int a1)]) C dX10_waysOn_3 rfl (by decide) rfl ?_
  refine ww_sub (lv' := [(0, .ref (ad a0)), (1, .int a1), (2, .int (0 : Int32)), (3, .int (0 : Int32))]) [2, 3, 1, 0] rfl ?_
  exact (B_X10_waysOn_4 C HR HL hG N) a0 a1 (0 : Int32) (0 : Int32) dy T0 E
section P_X10_lanes
variable {p : Program} {l : Launch} {e : Env} {s : State} {m : MethodId} {args : Array Value} {below : List Frame} {meth : Method} {c : Code} {G : GG} {A : Nat → Prop} {ad : Nat → Nat} {S : ST} {N : Nat} {r : Int32} {dy' : DY}
set_option maxHeartbeats 4000000 in
set_option maxRecDepth 100000 in
theorem B_X10_lanes_55 (C : CX p s m args c cX10_lanes 7 RX10 G A) (HR : meth.sig.returnType = (Option.some Jvm.ClassFile.FieldType.int)) (HL : meth.locks = false) (hG : Good S) {K10 : Nat → Int32 → Int32 → Int32 → Int32 → Int32 → DY → Option (Int32 × DY)} (hK10 : ∀ (x0 : Nat) (x1 : Int32) (x2 : Int32) (x3 : Int32) (x4 : Int32) (x5 : Int32) (dy : DY), gs S x0 = (0, 10) → K10 x0 x1 x2 x3 x4 x5 dy = some (r, dy') → WJ p l e (rmD (3)) s m args below meth c 7 G A 0 0 (MQ below (QI G ad A S r dy') args s 0 0 A) ad 10 [(0, .ref (ad x0)), (1, .int x1), (2, .int x2), (3, .int x3), (4, .int x4), (5, .int x5)] [] S dy) : ∀ (x0 : Nat) (x1 : Int32) (x2 : Int32) (x3 : Int32) (x4 : Int32) (x5 : Int32) (x6 : Int32) (dy : DY), gs S x0 = (0, 10) → F_X10_lanes_55 S N K10 x0 x1 x2 x3 x4 x5 x6 dy = some (r, dy') → WJ p l e (rmD (3)) s m args below meth c 7 G A 0 0 (MQ below (QI G ad A S r dy') args s 0 0 A) ad 55 [(0, .ref (ad x0)), (1, .int x1), (2, .int x2), (3, .int x3), (4, .int x4), (5, .int x5), (6, .int x6)] [] S dy := by
  intro x0 x1 x2 x3 x4 x5 x6 dy Tx0 E
  rw [F_X10_lanes_55_s] at E
  refine ww_iload_n C dX10_lanes_55 rfl 2 rfl ?_
  refine ww_iload C dX10_lanes_56 6 rfl ?_
  refine ww_iload C dX10_lanes_58 4 rfl ?_
  refine ww_icmp_eq (tgt := 67) C dX10_lanes_60 (by decide) E (fun _ E => ?_) (fun _ E => ?_)
  · refine ww_iconst (v := 0) C dX10_lanes_67 (by decide) ?_
    refine ww_iadd C dX10_lanes_68 ?_
    refine ww_istore_n (lv' := [(2, .int (x2 + (0 : Int32))), (0, .ref (ad x0)), (1, .int x1), (3, .int x3), (4, .int x4), (5, .int x5), (6, .int x6)]) C dX10_lanes_69 rfl (by decide) rfl ?_
    refine ww_iload C dX10_lanes_70 6 rfl ?_
    refine ww_istore (lv' := [(4, .int x6), (2, .int (x2 + (0 : Int32))), (0, .ref (ad x0)), (1, .int x1), (3, .int x3), (5, .int x5), (6, .int x6)]) C dX10_lanes_72 (by decide) rfl ?_
    refine ww_iinc (v := (x5 + (1 : Int32))) (lv' := [(5, .int (x5 + (1 : Int32))), (4, .int x6), (2, .int (x2 + (0 : Int32))), (0, .ref (ad x0)), (1, .int x1), (3, .int x3), (6, .int x6)]) C dX10_lanes_74 5 rfl rfl (by decide) rfl ?_
    refine ww_goto (tgt := 10) C dX10_lanes_77 (by decide) ?_
    refine ww_sub (lv' := [(0, .ref (ad x0)), (1, .int x1), (2, .int (x2 + (0 : Int32))), (3, .int x3), (4, .int x6), (5, .int (x5 + (1 : Int32)))]) [3, 4, 2, 5, 1, 0] rfl ?_
    exact hK10 x0 x1 (x2 + (0 : Int32)) x3 x6 (x5 + (1 : Int32)) dy Tx0 E
  · refine ww_iconst (v := 1) C dX10_lanes_63 (by decide) ?_
    refine ww_goto (tgt := 68) C dX10_lanes_64 (by decide) ?_
    refine ww_iadd C dX10_lanes_68 ?_
    refine ww_istore_n (lv' := [(2, .int (x2 + (1 : Int32))), (0, .ref (ad x0)), (1, .int x1), (3, .int x3), (4, .int x4), (5, .int x5), (6, .int x6)]) C dX10_lanes_69 rfl (by decide) rfl ?_
    refine ww_iload C dX10_lanes_70 6 rfl ?_
    refine ww_istore (lv' := [(4, .int x6), (2, .int (x2 + (1 : Int32))), (0, .ref (ad x0)), (1, .int x1), (3, .int x3), (5, .int x5), (6, .int x6)]) C dX10_lanes_72 (by decide) rfl ?_
    refine ww_iinc (v := (x5 + (1 : Int32))) (lv' := [(5, .int (x5 + (1 : Int32))), (4, .int x6), (2, .int (x2 + (1 : Int32))), (0, .ref (ad x0)), (1, .int x1), (3, .int x3), (6, .int x6)]) C dX10_lanes_74 5 rfl rfl (by decide) rfl ?_
    refine ww_goto (tgt := 10) C dX10_lanes_77 (by decide) ?_
    refine ww_sub (lv' := [(0, .ref (ad x0)), (1, .int x1), (2, .int (x2 + (1 : Int32))), (3, .int x3), (4, .int x6), (5, .int (x5 + (1 : Int32)))]) [3, 4, 2, 5, 1, 0] rfl ?_
    exact hK10 x0 x1 (x2 + (1 : Int32)) x3 x6 (x5 + (1 : Int32)) dy Tx0 E
set_option maxHeartbeats 4000000 in
set_option maxRecDepth 100000 in
theorem B_X10_lanes_41 (C : CX p s m args c cX10_lanes 7 RX10 G A) (HR : meth.sig.returnType = (Option.some Jvm.ClassFile.FieldType.int)) (HL : meth.locks = false) (hG : Good S) {K10 : Nat → Int32 → Int32 → Int32 → Int32 → Int32 → DY → Option (Int32 × DY)} (hK10 : ∀ (x0 : Nat) (x1 : Int32) (x2 : Int32) (x3 : Int32) (x4 : Int32) (x5 : Int32) (dy : DY), gs S x0 = (0, 10) → K10 x0 x1 x2 x3 x4 x5 dy = some (r, dy') → WJ p l e (rmD (3)) s m args below meth c 7 G A 0 0 (MQ below (QI G ad A S r dy') args s 0 0 A) ad 10 [(0, .ref (ad x0)), (1, .int x1), (2, .int x2), (3, .int x3), (4, .int x4), (5, .int x5)] [] S dy) : ∀ (x0 : Nat) (x1 : Int32) (x2 : Int32) (x4 : Int32) (x5 : Int32) (x6 : Int32) (y0 : Int32) (y1 : Int32) (dy : DY), gs S x0 = (0, 10) → F_X10_lanes_41 S N K10 x0 x1 x2 x4 x5 x6 y0 y1 dy = some (r, dy') → WJ p l e (rmD (3)) s m args below meth c 7 G A 0 0 (MQ below (QI G ad A S r dy') args s 0 0 A) ad 41 [(0, .ref (ad x0)), (1, .int x1), (2, .int x2), (4, .int x4), (5, .int x5), (6, .int x6)] [.int y1, .int y0] S dy := by
  intro x0 x1 x2 x4 x5 x6 y0 y1 dy Tx0 E
  rw [F_X10_lanes_41_s] at E
  refine ww_iadd C dX10_lanes_41 ?_
  refine ww_istore_n (lv' := [(3, .int (y0 + y1)), (0, .ref (ad x0)), (1, .int x1), (2, .int x2), (4, .int x4), (5, .int x5), (6, .int x6)]) C dX10_lanes_42 rfl (by decide) rfl ?_
  refine ww_iload C dX10_lanes_43 6 rfl ?_
  refine ww_iconst (v := 1) C dX10_lanes_45 (by decide) ?_
  refine ww_icmp_eq (tgt := 55) C dX10_lanes_46 (by decide) E (fun _ E => ?_) (fun _ E => ?_)
  · refine ww_sub (lv' := [(0, .ref (ad x0)), (1, .int x1), (2, .int x2), (3, .int (y0 + y1)), (4, .int x4), (5, .int x5), (6, .int x6)]) [1, 2, 3, 0, 4, 5, 6] rfl ?_
    exact (B_X10_lanes_55 C HR HL hG hK10) x0 x1 x2 (y0 + y1) x4 x5 x6 dy Tx0 E
  · refine ww_iload C dX10_lanes_49 6 rfl ?_
    refine ww_iconst (v := 2) C dX10_lanes_51 (by decide) ?_
    refine ww_icmp_ne (tgt := 74) C dX10_lanes_52 (by decide) E (fun _ E => ?_) (fun _ E => ?_)
    · refine ww_iinc (v := (x5 + (1 : Int32))) (lv' := [(5, .int (x5 + (1 : Int32))), (3, .int (y0 + y1)), (0, .ref (ad x0)), (1, .int x1), (2, .int x2), (4, .int x4), (6, .int x6)]) C dX10_lanes_74 5 rfl rfl (by decide) rfl ?_
      refine ww_goto (tgt := 10) C dX10_lanes_77 (by decide) ?_
      refine ww_sub (lv' := [(0, .ref (ad x0)), (1, .int x1), (2, .int x2), (3, .int (y0 + y1)), (4, .int x4), (5, .int (x5 + (1 : Int32)))]) [2, 3, 4, 1, 5, 0] rfl ?_
      exact hK10 x0 x1 x2 (y0 + y1) x4 (x5 + (1 : Int32)) dy Tx0 E
    · refine ww_sub (lv' := [(0, .ref (ad x0)), (1, .int x1), (2, .int x2), (3, .int (y0 + y1)), (4, .int x4), (5, .int x5), (6, .int x6)]) [1, 2, 3, 0, 4, 5, 6] rfl ?_
      exact (B_X10_lanes_55 C HR HL hG hK10) x0 x1 x2 (y0 + y1) x4 x5 x6 dy Tx0 E
set_option maxHeartbeats 4000000 in
set_option maxRecDepth 100000 in
theorem B_X10_lanes_10 (C : CX p s m args c cX10_lanes 7 RX10 G A) (HR : meth.sig.returnType = (Option.some Jvm.ClassFile.FieldType.int)) (HL : meth.locks = false) (hG : Good S) : ∀ k : Nat, ∀ (x0 : Nat) (x1 : Int32) (x2 : Int32) (x3 : Int32) (x4 : Int32) (x5 : Int32) (dy : DY), gs S x0 = (0, 10) → (F_X10_lanes_10 S N k) x0 x1 x2 x3 x4 x5 dy = some (r, dy') → WJ p l e (rmD (3)) s m args below meth c 7 G A 0 0 (MQ below (QI G ad A S r dy') args s 0 0 A) ad 10 [(0, .ref (ad x0)), (1, .int x1), (2, .int x2), (3, .int x3), (4, .int x4), (5, .int x5)] [] S dy := by
  intro k
  induction k with
  | zero => exact fun _ _ _ _ _ _ _ _ E => nomatch (show none = some (r, dy') from E)
  | succ k ih =>
    intro x0 x1 x2 x3 x4 x5 dy Tx0 E
    rw [F_X10_lanes_10_s] at E
    refine ww_iload C dX10_lanes_10 5 rfl ?_
    refine ww_aload_n C dX10_lanes_12 rfl 0 rfl ?_
    have T_1 : gs S (gr S x0 39) = (1, 10080) := hG.1 _ 10 Tx0 39 (by decide)
    refine ww_getr (ci := 10) (k0 := 39) C dX10_lanes_13 rfl rfl inm10 (by decide) Tx0 q1317 rfl T_1 (by decide) ?_
    refine ww_iconst (v := 1) C dX10_lanes_16 (by decide) ?_
    refine ww_iald C dX10_lanes_17 T_1 E (fun _ E => ?_)
    refine ww_icmp_ge (tgt := 80) C dX10_lanes_18 (by decide) E (fun _ E => ?_) (fun _ E => ?_)
    · refine ww_iload_n C dX10_lanes_80 rfl 1 rfl ?_
      refine ww_if_eq (tgt := 88) C dX10_lanes_81 (by decide) E (fun _ E => ?_) (fun _ E => ?_)
      · refine ww_iload_n C dX10_lanes_88 rfl 2 rfl ?_
        exact ww_iret C HR HL dX10_lanes_89 E
      · refine ww_iload_n C dX10_lanes_84 rfl 3 rfl ?_
        refine ww_goto (tgt := 89) C dX10_lanes_85 (by decide) ?_
        exact ww_iret C HR HL dX10_lanes_89 E
    · refine ww_aload_n C dX10_lanes_21 rfl 0 rfl ?_
      refine ww_iload C dX10_lanes_22 5 rfl ?_
      obtain ⟨u2, e_3, E⟩ := bind_of E
      refine ww_callI C (runs_V (n := 1) (st := []) C [.int x5] (M_X10_waysOn l G ad N hG x0 x5 dy Tx0 e_3) ⟨q1773, q118, by decide⟩ q1770 q1772 q92 (ci := 10) rfl Tx0 rfl (Nat.le_of_ble_eq_true rfl) ⟨Nat.le_of_ble_eq_true rfl, Nat.le_of_ble_eq_true rfl⟩ ⟨Nat.zero_le _, Nat.zero_le _⟩ dX10_lanes_24 rfl) ?_
      refine ww_istore (lv' := [(6, .int u2.1), (0, .ref (ad x0)), (1, .int x1), (2, .int x2), (3, .int x3), (4, .int x4), (5, .int x5)]) C dX10_lanes_27 (by decide) rfl ?_
      refine ww_iload_n C dX10_lanes_29 rfl 4 rfl ?_
      refine ww_iload C dX10_lanes_30 0 rfl ?_
      refine ww_iconst (v := 3) C dX10_lanes_32 (by decide) ?_
      refine ww_icmp_ne (tgt := 40) C dX10_lanes_33 (by decide) E (fun _ E => ?_) (fun _ E => ?_)
      · refine ww_iconst (v := 0) C dX10_lanes_40 (by decide) ?_
        refine ww_sub (lv' := [(0, .ref (ad x0)), (1, .int x1), (2, .int x2), (4, .int x4), (5, .int x5), (6, .int u2.1)]) [1, 2, 3, 5, 6, 0] rfl ?_
        exact (B_X10_lanes_41 C HR HL hG ih) x0 x1 x2 x4 x5 u2.1 x3 (0 : Int32) u2.2 Tx0 E
      · refine ww_iconst (v := 1) C dX10_lanes_36 (by decide) ?_
        refine ww_goto (tgt := 41) C dX10_lanes_37 (by decide) ?_
        refine ww_sub (lv' := [(0, .ref (ad x0)), (1, .int x1), (2, .int x2), (4, .int x4), (5, .int x5), (6, .int u2.1)]) [1, 2, 3, 5, 6, 0] rfl ?_
        exact (B_X10_lanes_41 C HR HL hG ih) x0 x1 x2 x4 x5 u2.1 x3 (1 : Int32) u2.2 Tx0 E
end P_X10_lanes
set_option maxHeartbeats 4000000 in
set_option maxRecDepth 100000 in
theorem M_X10_lanes (l : Launch) (G : GG) (ad : Nat → Nat) {S : ST} (N : Nat) (hG : Good S) (a0 : Nat) (a1 : Int32) (dy : DY) (T0 : gs S a0 = (0, 10)) {r : Int32} {dy' : DY} (E : F_X10_lanes S N a0 a1 dy = some (r, dy')) : MC l yX10_lanes cX10_lanes 7 (Option.some Jvm.ClassFile.FieldType.int) (3) G ad [.ref (ad a0), .int a1] S dy (fun A => QI G ad A S r dy') := by
  rw [F_X10_lanes_s] at E
  refine mc_of RX10 (by decide) rfl (Nat.le_of_ble_eq_true rfl) (fun p e s m args below meth c A C HR HL => ?_)
  refine ww_sub (lv' := [(0, .ref (ad a0)), (1, .int a1)]) [0, 1] rfl ?_
  refine ww_iconst (v := 0) C dX10_lanes_0 (by decide) ?_
  refine ww_istore_n (lv' := [(2, .int (0 : Int32)), (0, .ref (ad a0)), (1, .int a1)]) C dX10_lanes_1 rfl (by decide) rfl ?_
  refine ww_iconst (v := 0) C dX10_lanes_2 (by decide) ?_
  refine ww_istore_n (lv' := [(3, .int (0 : Int32)), (2, .int (0 : Int32)), (0, .ref (ad a0)), (1, .int a1)]) C dX10_lanes_3 rfl (by decide) rfl ?_
  refine ww_iconst (v := 0) C dX10_lanes_4 (by decide) ?_
  refine ww_istore (lv' := [(4, .int (0 : Int32)), (3, .int (0 : Int32)), (2, .int (0 : Int32)), (0, .ref (ad a0)), (1, .int a1)]) C dX10_lanes_5 (by decide) rfl ?_
  refine ww_iconst (v := 0) C dX10_lanes_7 (by decide) ?_
  refine ww_istore (lv' := [(5, .int (0 : Int32)), (4, .int (0 : Int32)), (3, .int (0 : Int32)), (2, .int (0 : Int32)), (0, .ref (ad a0)), (1, .int a1)]) C dX10_lanes_8 (by decide) rfl ?_
  refine ww_sub (lv' := [(0, .ref (ad a0)), (1, .int a1), (2, .int (0 : Int32)), (3, .int (0 : Int32)), (4, .int (0 : Int32)), (5, .int (0 : Int32))]) [4, 5, 3, 2, 1, 0] rfl ?_
  exact (B_X10_lanes_10 C HR HL hG N) a0 a1 (0 : Int32) (0 : Int32) (0 : Int32) (0 : Int32) dy T0 E
section P_X10_passes
variable {p : Program} {l : Launch} {e : Env} {s : State} {m : MethodId} {args : Array Value} {below : List Frame} {meth : Method} {c : Code} {G : GG} {A : Nat → Prop} {ad : Nat → Nat} {S : ST} {N : Nat} {r : Int32} {dy' : DY}
end P_X10_passes
set_option maxHeartbeats 4000000 in
set_option maxRecDepth 100000 in
theorem M_X10_passes (l : Launch) (G : GG) (ad : Nat → Nat) {S : ST} (N : Nat) (hG : Good S) (a0 : Nat) (dy : DY) (T0 : gs S a0 = (0, 10)) {r : Int32} {dy' : DY} (E : F_X10_passes S N a0 dy = some (r, dy')) : MC l yX10_passes cX10_passes 1 (Option.some Jvm.ClassFile.FieldType.boolean) (3) G ad [.ref (ad a0)] S dy (fun A => QI G ad A S r dy') := by
  rw [F_X10_passes_s] at E
  refine mc_of RX10 (by decide) rfl (Nat.le_of_ble_eq_true rfl) (fun p e s m args below meth c A C HR HL => ?_)
  refine ww_sub (lv' := [(0, .ref (ad a0))]) [0] rfl ?_
  refine ww_aload_n C dX10_passes_0 rfl 0 rfl ?_
  refine ww_bipush (v := 59) C dX10_passes_1 (by decide) ?_
  obtain ⟨u1, e_2, E⟩ := bind_of E
  refine ww_callI C (runs_V (n := 1) (st := []) C [.int (59 : Int32)] (M_X10_isSignOf l G ad N hG a0 (59 : Int32) dy T0 e_2) ⟨q1528, q118, by decide⟩ q1525 q1527 q50 (ci := 10) rfl T0 rfl (Nat.le_of_ble_eq_true rfl) ⟨Nat.le_of_ble_eq_true rfl, Nat.le_of_ble_eq_true rfl⟩ ⟨Nat.zero_le _, Nat.zero_le _⟩ dX10_passes_3 rfl) ?_
  refine ww_if_ne (tgt := 14) C dX10_passes_6 (by decide) E (fun _ E => ?_) (fun _ E => ?_)
  · refine ww_aload_n C dX10_passes_14 rfl 0 rfl ?_
    obtain ⟨u3, e_4, E⟩ := bind_of E
    refine ww_callV C (runs_V (n := 0) (st := []) C [] (M_X10_token l G ad N hG a0 u1.2 T0 e_4) ⟨q1492, q118, by decide⟩ q1489 q1491 q42 (ci := 10) rfl T0 rfl (Nat.le_of_ble_eq_true rfl) ⟨Nat.le_of_ble_eq_true rfl, Nat.le_of_ble_eq_true rfl⟩ ⟨Nat.zero_le _, Nat.zero_le _⟩ dX10_passes_15 rfl) ?_
    refine ww_iconst (v := 1) C dX10_passes_18 (by decide) ?_
    exact ww_zret C HR HL dX10_passes_19 (Or.inr rfl) E
  · refine ww_aload_n C dX10_passes_9 rfl 0 rfl ?_
    obtain ⟨u5, e_6, E⟩ := bind_of E
    refine ww_callI C (runs_V (n := 0) (st := []) C [] (M_X10_stops l G ad N hG a0 u1.2 T0 e_6) ⟨q1512, q118, by decide⟩ q1509 q1511 q46 (ci := 10) rfl T0 rfl (Nat.le_of_ble_eq_true rfl) ⟨Nat.le_of_ble_eq_true rfl, Nat.le_of_ble_eq_true rfl⟩ ⟨Nat.zero_le _, Nat.zero_le _⟩ dX10_passes_10 rfl) ?_
    obtain ⟨z_, E⟩ := gd_of E
    exact ww_zret C HR HL dX10_passes_13 z_ E
section P_X10_testOf
variable {p : Program} {l : Launch} {e : Env} {s : State} {m : MethodId} {args : Array Value} {below : List Frame} {meth : Method} {c : Code} {G : GG} {A : Nat → Prop} {ad : Nat → Nat} {S : ST} {N : Nat} {r : Int32} {dy' : DY}
end P_X10_testOf
set_option maxHeartbeats 4000000 in
set_option maxRecDepth 100000 in
theorem M_X10_testOf (l : Launch) (G : GG) (ad : Nat → Nat) {S : ST} (N : Nat) (hG : Good S) (a0 : Nat) (dy : DY) (T0 : gs S a0 = (0, 10)) {r : Int32} {dy' : DY} (E : F_X10_testOf S N a0 dy = some (r, dy')) : MC l yX10_testOf cX10_testOf 1 (Option.some Jvm.ClassFile.FieldType.int) (2) G ad [.ref (ad a0)] S dy (fun A => QI G ad A S r dy') := by
  rw [F_X10_testOf_s] at E
  refine mc_of RX10 (by decide) rfl (Nat.le_of_ble_eq_true rfl) (fun p e s m args below meth c A C HR HL => ?_)
  refine ww_sub (lv' := [(0, .ref (ad a0))]) [0] rfl ?_
  refine ww_aload_n C dX10_testOf_0 rfl 0 rfl ?_
  refine ww_ldc2 (v := (418363302244)) C dX10_testOf_1 q1602 ?_
  obtain ⟨u1, e_2, E⟩ := bind_of E
  refine ww_callI C (runs_V (n := 1) (st := []) C [.long (418363302244 : Int64)] (M_X10_isWord l G ad N hG a0 (418363302244 : Int64) dy T0 e_2) ⟨q1508, q118, by decide⟩ q1505 q1507 q45 (ci := 10) rfl T0 rfl (Nat.le_of_ble_eq_true rfl) ⟨Nat.le_of_ble_eq_true rfl, Nat.le_of_ble_eq_true rfl⟩ ⟨Nat.zero_le _, Nat.zero_le _⟩ dX10_testOf_4 rfl) ?_
  refine ww_if_eq (tgt := 14) C dX10_testOf_7 (by decide) E (fun _ E => ?_) (fun _ E => ?_)
  · refine ww_aload_n C dX10_testOf_14 rfl 0 rfl ?_
    refine ww_ldc2 (v := (1936682862)) C dX10_testOf_15 q1603 ?_
    obtain ⟨u3, e_4, E⟩ := bind_of E
    refine ww_callI C (runs_V (n := 1) (st := []) C [.long (1936682862 : Int64)] (M_X10_isWord l G ad N hG a0 (1936682862 : Int64) u1.2 T0 e_4) ⟨q1508, q118, by decide⟩ q1505 q1507 q45 (ci := 10) rfl T0 rfl (Nat.le_of_ble_eq_true rfl) ⟨Nat.le_of_ble_eq_true rfl, Nat.le_of_ble_eq_true rfl⟩ ⟨Nat.zero_le _, Nat.zero_le _⟩ dX10_testOf_18 rfl) ?_
    refine ww_if_eq (tgt := 28) C dX10_testOf_21 (by decide) E (fun _ E => ?_) (fun _ E => ?_)
    · refine ww_aload_n C dX10_testOf_28 rfl 0 rfl ?_
      refine ww_ldc2 (v := (1852137842)) C dX10_testOf_29 q1604 ?_
      obtain ⟨u5, e_6, E⟩ := bind_of E
      refine ww_callI C (runs_V (n := 1) (st := []) C [.long (1852137842 : Int64)] (M_X10_isWord l G ad N hG a0 (1852137842 : Int64) u3.2 T0 e_6) ⟨q1508, q118, by decide⟩ q1505 q1507 q45 (ci := 10) rfl T0 rfl (Nat.le_of_ble_eq_true rfl) ⟨Nat.le_of_ble_eq_true rfl, Nat.le_of_ble_eq_true rfl⟩ ⟨Nat.zero_le _, Nat.zero_le _⟩ dX10_testOf_32 rfl) ?_
      refine ww_if_eq (tgt := 42) C dX10_testOf_35 (by decide) E (fun _ E => ?_) (fun _ E => ?_)
      · refine ww_aload_n C dX10_testOf_42 rfl 0 rfl ?_
        refine ww_ldc2 (v := (491394656372)) C dX10_testOf_43 q1566 ?_
        obtain ⟨u7, e_8, E⟩ := bind_of E
        refine ww_callI C (runs_V (n := 1) (st := []) C [.long (491394656372 : Int64)] (M_X10_isWord l G ad N hG a0 (491394656372 : Int64) u5.2 T0 e_8) ⟨q1508, q118, by decide⟩ q1505 q1507 q45 (ci := 10) rfl T0 rfl (Nat.le_of_ble_eq_true rfl) ⟨Nat.le_of_ble_eq_true rfl, Nat.le_of_ble_eq_true rfl⟩ ⟨Nat.zero_le _, Nat.zero_le _⟩ dX10_testOf_46 rfl) ?_
        refine ww_if_eq (tgt := 56) C dX10_testOf_49 (by decide) E (fun _ E => ?_) (fun _ E => ?_)
        · refine ww_aload_n C dX10_testOf_56 rfl 0 rfl ?_
          refine ww_ldc2 (v := (1818584692)) C dX10_testOf_57 q1567 ?_
          obtain ⟨u9, e_10, E⟩ := bind_of E
          refine ww_callI C (runs_V (n := 1) (st := []) C [.long (1818584692 : Int64)] (M_X10_isWord l G ad N hG a0 (1818584692 : Int64) u7.2 T0 e_10) ⟨q1508, q118, by decide⟩ q1505 q1507 q45 (ci := 10) rfl T0 rfl (Nat.le_of_ble_eq_true rfl) ⟨Nat.le_of_ble_eq_true rfl, Nat.le_of_ble_eq_true rfl⟩ ⟨Nat.zero_le _, Nat.zero_le _⟩ dX10_testOf_60 rfl) ?_
          refine ww_if_eq (tgt := 70) C dX10_testOf_63 (by decide) E (fun _ E => ?_) (fun _ E => ?_)
          · refine ww_aload_n C dX10_testOf_70 rfl 0 rfl ?_
            refine ww_ldc2 (v := (131260264768868)) C dX10_testOf_71 q1605 ?_
            obtain ⟨u11, e_12, E⟩ := bind_of E
            refine ww_callI C (runs_V (n := 1) (st := []) C [.long (131260264768868 : Int64)] (M_X10_isWord l G ad N hG a0 (131260264768868 : Int64) u9.2 T0 e_12) ⟨q1508, q118, by decide⟩ q1505 q1507 q45 (ci := 10) rfl T0 rfl (Nat.le_of_ble_eq_true rfl) ⟨Nat.le_of_ble_eq_true rfl, Nat.le_of_ble_eq_true rfl⟩ ⟨Nat.zero_le _, Nat.zero_le _⟩ dX10_testOf_74 rfl) ?_
            refine ww_if_eq (tgt := 84) C dX10_testOf_77 (by decide) E (fun _ E => ?_) (fun _ E => ?_)
            · refine ww_aload_n C dX10_testOf_84 rfl 0 rfl ?_
              refine ww_ldc2 (v := (448311555173)) C dX10_testOf_85 q1537 ?_
              obtain ⟨u13, e_14, E⟩ := bind_of E
              refine ww_callI C (runs_V (n := 1) (st := []) C [.long (448311555173 : Int64)] (M_X10_isWord l G ad N hG a0 (448311555173 : Int64) u11.2 T0 e_14) ⟨q1508, q118, by decide⟩ q1505 q1507 q45 (ci := 10) rfl T0 rfl (Nat.le_of_ble_eq_true rfl) ⟨Nat.le_of_ble_eq_true rfl, Nat.le_of_ble_eq_true rfl⟩ ⟨Nat.zero_le _, Nat.zero_le _⟩ dX10_testOf_88 rfl) ?_
              refine ww_if_eq (tgt := 99) C dX10_testOf_91 (by decide) E (fun _ E => ?_) (fun _ E => ?_)
              · refine ww_aload_n C dX10_testOf_99 rfl 0 rfl ?_
                refine ww_ldc2 (v := (427121669988)) C dX10_testOf_100 q1606 ?_
                obtain ⟨u15, e_16, E⟩ := bind_of E
                refine ww_callI C (runs_V (n := 1) (st := []) C [.long (427121669988 : Int64)] (M_X10_isWord l G ad N hG a0 (427121669988 : Int64) u13.2 T0 e_16) ⟨q1508, q118, by decide⟩ q1505 q1507 q45 (ci := 10) rfl T0 rfl (Nat.le_of_ble_eq_true rfl) ⟨Nat.le_of_ble_eq_true rfl, Nat.le_of_ble_eq_true rfl⟩ ⟨Nat.zero_le _, Nat.zero_le _⟩ dX10_testOf_103 rfl) ?_
                refine ww_if_eq (tgt := 114) C dX10_testOf_106 (by decide) E (fun _ E => ?_) (fun _ E => ?_)
                · refine ww_aload_n C dX10_testOf_114 rfl 0 rfl ?_
                  refine ww_ldc2 (v := (27703773382796644)) C dX10_testOf_115 q1607 ?_
                  obtain ⟨u17, e_18, E⟩ := bind_of E
                  refine ww_callI C (runs_V (n := 1) (st := []) C [.long (27703773382796644 : Int64)] (M_X10_isWord l G ad N hG a0 (27703773382796644 : Int64) u15.2 T0 e_18) ⟨q1508, q118, by decide⟩ q1505 q1507 q45 (ci := 10) rfl T0 rfl (Nat.le_of_ble_eq_true rfl) ⟨Nat.le_of_ble_eq_true rfl, Nat.le_of_ble_eq_true rfl⟩ ⟨Nat.zero_le _, Nat.zero_le _⟩ dX10_testOf_118 rfl) ?_
                  refine ww_if_eq (tgt := 129) C dX10_testOf_121 (by decide) E (fun _ E => ?_) (fun _ E => ?_)
                  · refine ww_aload_n C dX10_testOf_129 rfl 0 rfl ?_
                    refine ww_ldc2 (v := (112568465714791)) C dX10_testOf_130 q1608 ?_
                    obtain ⟨u19, e_20, E⟩ := bind_of E
                    refine ww_callI C (runs_V (n := 1) (st := []) C [.long (112568465714791 : Int64)] (M_X10_isWord l G ad N hG a0 (112568465714791 : Int64) u17.2 T0 e_20) ⟨q1508, q118, by decide⟩ q1505 q1507 q45 (ci := 10) rfl T0 rfl (Nat.le_of_ble_eq_true rfl) ⟨Nat.le_of_ble_eq_true rfl, Nat.le_of_ble_eq_true rfl⟩ ⟨Nat.zero_le _, Nat.zero_le _⟩ dX10_testOf_133 rfl) ?_
                    refine ww_if_eq (tgt := 144) C dX10_testOf_136 (by decide) E (fun _ E => ?_) (fun _ E => ?_)
                    · refine ww_aload_n C dX10_testOf_144 rfl 0 rfl ?_
                      refine ww_ldc2 (v := (123563834369380)) C dX10_testOf_145 q1609 ?_
                      obtain ⟨u21, e_22, E⟩ := bind_of E
                      refine ww_callI C (runs_V (n := 1) (st := []) C [.long (123563834369380 : Int64)] (M_X10_isWord l G ad N hG a0 (123563834369380 : Int64) u19.2 T0 e_22) ⟨q1508, q118, by decide⟩ q1505 q1507 q45 (ci := 10) rfl T0 rfl (Nat.le_of_ble_eq_true rfl) ⟨Nat.le_of_ble_eq_true rfl, Nat.le_of_ble_eq_true rfl⟩ ⟨Nat.zero_le _, Nat.zero_le _⟩ dX10_testOf_148 rfl) ?_
                      refine ww_if_eq (tgt := 159) C dX10_testOf_151 (by decide) E (fun _ E => ?_) (fun _ E => ?_)
                      · refine ww_iconst (v := (-1)) C dX10_testOf_159 (by decide) ?_
                        exact ww_iret C HR HL dX10_testOf_160 E
                      · refine ww_bipush (v := 10) C dX10_testOf_154 (by decide) ?_
                        refine ww_goto (tgt := 160) C dX10_testOf_156 (by decide) ?_
                        exact ww_iret C HR HL dX10_testOf_160 E
                    · refine ww_bipush (v := 9) C dX10_testOf_139 (by decide) ?_
                      refine ww_goto (tgt := 160) C dX10_testOf_141 (by decide) ?_
                      exact ww_iret C HR HL dX10_testOf_160 E
                  · refine ww_bipush (v := 8) C dX10_testOf_124 (by decide) ?_
                    refine ww_goto (tgt := 160) C dX10_testOf_126 (by decide) ?_
                    exact ww_iret C HR HL dX10_testOf_160 E
                · refine ww_bipush (v := 7) C dX10_testOf_109 (by decide) ?_
                  refine ww_goto (tgt := 160) C dX10_testOf_111 (by decide) ?_
                  exact ww_iret C HR HL dX10_testOf_160 E
              · refine ww_bipush (v := 6) C dX10_testOf_94 (by decide) ?_
                refine ww_goto (tgt := 160) C dX10_testOf_96 (by decide) ?_
                exact ww_iret C HR HL dX10_testOf_160 E
            · refine ww_iconst (v := 5) C dX10_testOf_80 (by decide) ?_
              refine ww_goto (tgt := 160) C dX10_testOf_81 (by decide) ?_
              exact ww_iret C HR HL dX10_testOf_160 E
          · refine ww_iconst (v := 4) C dX10_testOf_66 (by decide) ?_
            refine ww_goto (tgt := 160) C dX10_testOf_67 (by decide) ?_
            exact ww_iret C HR HL dX10_testOf_160 E
        · refine ww_iconst (v := 3) C dX10_testOf_52 (by decide) ?_
          refine ww_goto (tgt := 160) C dX10_testOf_53 (by decide) ?_
          exact ww_iret C HR HL dX10_testOf_160 E
      · refine ww_iconst (v := 2) C dX10_testOf_38 (by decide) ?_
        refine ww_goto (tgt := 160) C dX10_testOf_39 (by decide) ?_
        exact ww_iret C HR HL dX10_testOf_160 E
    · refine ww_iconst (v := 1) C dX10_testOf_24 (by decide) ?_
      refine ww_goto (tgt := 160) C dX10_testOf_25 (by decide) ?_
      exact ww_iret C HR HL dX10_testOf_160 E
  · refine ww_iconst (v := 0) C dX10_testOf_10 (by decide) ?_
    refine ww_goto (tgt := 160) C dX10_testOf_11 (by decide) ?_
    exact ww_iret C HR HL dX10_testOf_160 E
section P_X10_test
variable {p : Program} {l : Launch} {e : Env} {s : State} {m : MethodId} {args : Array Value} {below : List Frame} {meth : Method} {c : Code} {G : GG} {A : Nat → Prop} {ad : Nat → Nat} {S : ST} {N : Nat} {r : Int32} {dy' : DY}
set_option maxHeartbeats 4000000 in
set_option maxRecDepth 100000 in
theorem B_X10_test_189 (C : CX p s m args c cX10_test 3 RX10 G A) (HR : meth.sig.returnType = (Option.some Jvm.ClassFile.FieldType.boolean)) (HL : meth.locks = false) (hG : Good S) : ∀ (x0 : Nat) (x1 : Int32) (dy : DY), gs S x0 = (0, 10) → F_X10_test_189 S N x0 x1 dy = some (r, dy') → WJ p l e (rmD (3)) s m args below meth c 3 G A 0 0 (MQ below (QI G ad A S r dy') args s 0 0 A) ad 189 [(0, .ref (ad x0)), (1, .int x1)] [] S dy := by
  intro x0 x1 dy Tx0 E
  rw [F_X10_test_189_s] at E
  refine ww_aload_n C dX10_test_189 rfl 0 rfl ?_
  have T_1 : gs S (gr S x0 38) = (1, 306) := hG.1 _ 10 Tx0 38 (by decide)
  refine ww_getr (ci := 10) (k0 := 38) C dX10_test_190 rfl rfl inm10 (by decide) Tx0 q1316 rfl T_1 (by decide) ?_
  refine ww_iload_n C dX10_test_193 rfl 1 rfl ?_
  refine ww_iconst (v := 1) C dX10_test_194 (by decide) ?_
  refine ww_iadd C dX10_test_195 ?_
  refine ww_aload_n C dX10_test_196 rfl 0 rfl ?_
  refine ww_geti (ci := 10) (k0 := 22) C dX10_test_197 rfl rfl inm10 (by decide) Tx0 q1300 rfl ?_
  refine ww_iast C dX10_test_200 T_1 E (fun _ E => ?_)
  refine ww_bd E (fun dy2 E => ?_)
  refine ww_aload_n C dX10_test_201 rfl 0 rfl ?_
  obtain ⟨u3, e_4, E⟩ := bind_of E
  refine ww_callV C (runs_V (n := 0) (st := []) C [] (M_X10_token l G ad N hG x0 dy2 Tx0 e_4) ⟨q1492, q118, by decide⟩ q1489 q1491 q42 (ci := 10) rfl Tx0 rfl (Nat.le_of_ble_eq_true rfl) ⟨Nat.le_of_ble_eq_true rfl, Nat.le_of_ble_eq_true rfl⟩ ⟨Nat.zero_le _, Nat.zero_le _⟩ dX10_test_202 rfl) ?_
  refine ww_aload_n C dX10_test_205 rfl 0 rfl ?_
  refine ww_geti (ci := 10) (k0 := 21) C dX10_test_206 rfl rfl inm10 (by decide) Tx0 q1299 rfl ?_
  refine ww_iconst (v := 3) C dX10_test_209 (by decide) ?_
  refine ww_icmp_eq (tgt := 218) C dX10_test_210 (by decide) E (fun _ E => ?_) (fun _ E => ?_)
  · refine ww_aload_n C dX10_test_218 rfl 0 rfl ?_
    have T_5 : gs S (gr S x0 38) = (1, 306) := hG.1 _ 10 Tx0 38 (by decide)
    refine ww_getr (ci := 10) (k0 := 38) C dX10_test_219 rfl rfl inm10 (by decide) Tx0 q1316 rfl T_5 (by decide) ?_
    refine ww_iload_n C dX10_test_222 rfl 1 rfl ?_
    refine ww_iconst (v := 2) C dX10_test_223 (by decide) ?_
    refine ww_iadd C dX10_test_224 ?_
    refine ww_aload_n C dX10_test_225 rfl 0 rfl ?_
    refine ww_geti (ci := 10) (k0 := 22) C dX10_test_226 rfl rfl inm10 (by decide) Tx0 q1300 rfl ?_
    refine ww_iast C dX10_test_229 T_5 E (fun _ E => ?_)
    refine ww_bd E (fun dy6 E => ?_)
    refine ww_aload_n C dX10_test_230 rfl 0 rfl ?_
    obtain ⟨u7, e_8, E⟩ := bind_of E
    refine ww_callV C (runs_V (n := 0) (st := []) C [] (M_X10_token l G ad N hG x0 dy6 Tx0 e_8) ⟨q1492, q118, by decide⟩ q1489 q1491 q42 (ci := 10) rfl Tx0 rfl (Nat.le_of_ble_eq_true rfl) ⟨Nat.le_of_ble_eq_true rfl, Nat.le_of_ble_eq_true rfl⟩ ⟨Nat.zero_le _, Nat.zero_le _⟩ dX10_test_231 rfl) ?_
    refine ww_iconst (v := 1) C dX10_test_234 (by decide) ?_
    exact ww_zret C HR HL dX10_test_235 (Or.inr rfl) E
  · refine ww_aload_n C dX10_test_213 rfl 0 rfl ?_
    obtain ⟨u9, e_10, E⟩ := bind_of E
    refine ww_callI C (runs_V (n := 0) (st := []) C [] (M_X10_stops l G ad N hG x0 u3 Tx0 e_10) ⟨q1512, q118, by decide⟩ q1509 q1511 q46 (ci := 10) rfl Tx0 rfl (Nat.le_of_ble_eq_true rfl) ⟨Nat.le_of_ble_eq_true rfl, Nat.le_of_ble_eq_true rfl⟩ ⟨Nat.zero_le _, Nat.zero_le _⟩ dX10_test_214 rfl) ?_
    obtain ⟨z_, E⟩ := gd_of E
    exact ww_zret C HR HL dX10_test_217 z_ E
set_option maxHeartbeats 4000000 in
set_option maxRecDepth 100000 in
theorem B_X10_test_141 (C : CX p s m args c cX10_test 3 RX10 G A) (HR : meth.sig.returnType = (Option.some Jvm.ClassFile.FieldType.boolean)) (HL : meth.locks = false) (hG : Good S) : ∀ (x0 : Nat) (x1 : Int32) (x2 : Int32) (y0 : Nat) (y1 : Int32) (y2 : Int32) (dy : DY), gs S x0 = (0, 10) → gs S y0 = (0, 10) → F_X10_test_141 S N x0 x1 x2 y0 y1 y2 dy = some (r, dy') → WJ p l e (rmD (3)) s m args below meth c 3 G A 0 0 (MQ below (QI G ad A S r dy') args s 0 0 A) ad 141 [(0, .ref (ad x0)), (1, .int x1), (2, .int x2)] [.int y2, .int y1, .ref (ad y0)] S dy := by
  intro x0 x1 x2 y0 y1 y2 dy Tx0 Ty0 E
  rw [F_X10_test_141_s] at E
  refine ww_iadd C dX10_test_141 ?_
  refine ww_puti (ci := 10) (k0 := 37) C dX10_test_142 rfl rfl inm10 tyX10_ok nmX10 (by decide) Ty0 q1315 rfl rfl rfl ?_
  refine ww_bd E (fun dy1 E => ?_)
  refine ww_aload_n C dX10_test_145 rfl 0 rfl ?_
  obtain ⟨u2, e_3, E⟩ := bind_of E
  refine ww_callV C (runs_V (n := 0) (st := []) C [] (M_X10_token l G ad N hG x0 dy1 Tx0 e_3) ⟨q1492, q118, by decide⟩ q1489 q1491 q42 (ci := 10) rfl Tx0 rfl (Nat.le_of_ble_eq_true rfl) ⟨Nat.le_of_ble_eq_true rfl, Nat.le_of_ble_eq_true rfl⟩ ⟨Nat.zero_le _, Nat.zero_le _⟩ dX10_test_146 rfl) ?_
  refine ww_iload_n C dX10_test_149 rfl 2 rfl ?_
  refine ww_bipush (v := 8) C dX10_test_150 (by decide) ?_
  refine ww_icmp_lt (tgt := 157) C dX10_test_152 (by decide) E (fun _ E => ?_) (fun _ E => ?_)
  · refine ww_aload_n C dX10_test_157 rfl 0 rfl ?_
    refine ww_bipush (v := 60) C dX10_test_158 (by decide) ?_
    obtain ⟨u4, e_5, E⟩ := bind_of E
    refine ww_callI C (runs_V (n := 1) (st := []) C [.int (60 : Int32)] (M_X10_isSignOf l G ad N hG x0 (60 : Int32) u2 Tx0 e_5) ⟨q1528, q118, by decide⟩ q1525 q1527 q50 (ci := 10) rfl Tx0 rfl (Nat.le_of_ble_eq_true rfl) ⟨Nat.le_of_ble_eq_true rfl, Nat.le_of_ble_eq_true rfl⟩ ⟨Nat.zero_le _, Nat.zero_le _⟩ dX10_test_160 rfl) ?_
    refine ww_if_ne (tgt := 189) C dX10_test_163 (by decide) E (fun _ E => ?_) (fun _ E => ?_)
    · refine ww_sub (lv' := [(0, .ref (ad x0)), (1, .int x1)]) [0, 1] rfl ?_
      exact (B_X10_test_189 C HR HL hG) x0 x1 u4.2 Tx0 E
    · refine ww_aload_n C dX10_test_166 rfl 0 rfl ?_
      refine ww_bipush (v := 62) C dX10_test_167 (by decide) ?_
      obtain ⟨u6, e_7, E⟩ := bind_of E
      refine ww_callI C (runs_V (n := 1) (st := []) C [.int (62 : Int32)] (M_X10_isSignOf l G ad N hG x0 (62 : Int32) u4.2 Tx0 e_7) ⟨q1528, q118, by decide⟩ q1525 q1527 q50 (ci := 10) rfl Tx0 rfl (Nat.le_of_ble_eq_true rfl) ⟨Nat.le_of_ble_eq_true rfl, Nat.le_of_ble_eq_true rfl⟩ ⟨Nat.zero_le _, Nat.zero_le _⟩ dX10_test_169 rfl) ?_
      refine ww_if_ne (tgt := 189) C dX10_test_172 (by decide) E (fun _ E => ?_) (fun _ E => ?_)
      · refine ww_sub (lv' := [(0, .ref (ad x0)), (1, .int x1)]) [0, 1] rfl ?_
        exact (B_X10_test_189 C HR HL hG) x0 x1 u6.2 Tx0 E
      · refine ww_aload_n C dX10_test_175 rfl 0 rfl ?_
        refine ww_bipush (v := 61) C dX10_test_176 (by decide) ?_
        obtain ⟨u8, e_9, E⟩ := bind_of E
        refine ww_callI C (runs_V (n := 1) (st := []) C [.int (61 : Int32)] (M_X10_isSignOf l G ad N hG x0 (61 : Int32) u6.2 Tx0 e_9) ⟨q1528, q118, by decide⟩ q1525 q1527 q50 (ci := 10) rfl Tx0 rfl (Nat.le_of_ble_eq_true rfl) ⟨Nat.le_of_ble_eq_true rfl, Nat.le_of_ble_eq_true rfl⟩ ⟨Nat.zero_le _, Nat.zero_le _⟩ dX10_test_178 rfl) ?_
        refine ww_if_ne (tgt := 189) C dX10_test_181 (by decide) E (fun _ E => ?_) (fun _ E => ?_)
        · refine ww_sub (lv' := [(0, .ref (ad x0)), (1, .int x1)]) [0, 1] rfl ?_
          exact (B_X10_test_189 C HR HL hG) x0 x1 u8.2 Tx0 E
        · refine ww_aload_n C dX10_test_184 rfl 0 rfl ?_
          obtain ⟨u10, e_11, E⟩ := bind_of E
          refine ww_callI C (runs_V (n := 0) (st := []) C [] (M_X10_stops l G ad N hG x0 u8.2 Tx0 e_11) ⟨q1512, q118, by decide⟩ q1509 q1511 q46 (ci := 10) rfl Tx0 rfl (Nat.le_of_ble_eq_true rfl) ⟨Nat.le_of_ble_eq_true rfl, Nat.le_of_ble_eq_true rfl⟩ ⟨Nat.zero_le _, Nat.zero_le _⟩ dX10_test_185 rfl) ?_
          obtain ⟨z_, E⟩ := gd_of E
          exact ww_zret C HR HL dX10_test_188 z_ E
  · refine ww_iconst (v := 1) C dX10_test_155 (by decide) ?_
    exact ww_zret C HR HL dX10_test_156 (Or.inr rfl) E
set_option maxHeartbeats 4000000 in
set_option maxRecDepth 100000 in
theorem B_X10_test_83 (C : CX p s m args c cX10_test 3 RX10 G A) (HR : meth.sig.returnType = (Option.some Jvm.ClassFile.FieldType.boolean)) (HL : meth.locks = false) (hG : Good S) : ∀ (x0 : Nat) (x1 : Int32) (dy : DY), gs S x0 = (0, 10) → F_X10_test_83 S N x0 x1 dy = some (r, dy') → WJ p l e (rmD (3)) s m args below meth c 3 G A 0 0 (MQ below (QI G ad A S r dy') args s 0 0 A) ad 83 [(0, .ref (ad x0)), (1, .int x1)] [] S dy := by
  intro x0 x1 dy Tx0 E
  rw [F_X10_test_83_s] at E
  refine ww_aload_n C dX10_test_83 rfl 0 rfl ?_
  obtain ⟨u1, e_2, E⟩ := bind_of E
  refine ww_callI C (runs_V (n := 0) (st := []) C [] (M_X10_testOf l G ad N hG x0 dy Tx0 e_2) ⟨q1601, q118, by decide⟩ q1598 q1600 q64 (ci := 10) rfl Tx0 rfl (Nat.le_of_ble_eq_true rfl) ⟨Nat.le_of_ble_eq_true rfl, Nat.le_of_ble_eq_true rfl⟩ ⟨Nat.zero_le _, Nat.zero_le _⟩ dX10_test_84 rfl) ?_
  refine ww_istore_n (lv' := [(2, .int u1.1), (0, .ref (ad x0)), (1, .int x1)]) C dX10_test_87 rfl (by decide) rfl ?_
  refine ww_iload_n C dX10_test_88 rfl 0 rfl ?_
  refine ww_iconst (v := (-1)) C dX10_test_89 (by decide) ?_
  refine ww_icmp_ne (tgt := 98) C dX10_test_90 (by decide) E (fun _ E => ?_) (fun _ E => ?_)
  · refine ww_aload_n C dX10_test_98 rfl 1 rfl ?_
    have T_3 : gs S (gr S x0 38) = (1, 306) := hG.1 _ 10 Tx0 38 (by decide)
    refine ww_getr (ci := 10) (k0 := 38) C dX10_test_99 rfl rfl inm10 (by decide) Tx0 q1316 rfl T_3 (by decide) ?_
    refine ww_iload_n C dX10_test_102 rfl 2 rfl ?_
    refine ww_iload_n C dX10_test_103 rfl 0 rfl ?_
    refine ww_iast C dX10_test_104 T_3 E (fun _ E => ?_)
    refine ww_bd E (fun dy4 E => ?_)
    refine ww_aload_n C dX10_test_105 rfl 1 rfl ?_
    have T_5 : gs S (gr S x0 38) = (1, 306) := hG.1 _ 10 Tx0 38 (by decide)
    refine ww_getr (ci := 10) (k0 := 38) C dX10_test_106 rfl rfl inm10 (by decide) Tx0 q1316 rfl T_5 (by decide) ?_
    refine ww_iload_n C dX10_test_109 rfl 2 rfl ?_
    refine ww_iconst (v := 1) C dX10_test_110 (by decide) ?_
    refine ww_iadd C dX10_test_111 ?_
    refine ww_iconst (v := 0) C dX10_test_112 (by decide) ?_
    refine ww_iast C dX10_test_113 T_5 E (fun _ E => ?_)
    refine ww_bd E (fun dy6 E => ?_)
    refine ww_aload_n C dX10_test_114 rfl 1 rfl ?_
    have T_7 : gs S (gr S x0 38) = (1, 306) := hG.1 _ 10 Tx0 38 (by decide)
    refine ww_getr (ci := 10) (k0 := 38) C dX10_test_115 rfl rfl inm10 (by decide) Tx0 q1316 rfl T_7 (by decide) ?_
    refine ww_iload_n C dX10_test_118 rfl 2 rfl ?_
    refine ww_iconst (v := 2) C dX10_test_119 (by decide) ?_
    refine ww_iadd C dX10_test_120 ?_
    refine ww_iconst (v := 0) C dX10_test_121 (by decide) ?_
    refine ww_iast C dX10_test_122 T_7 E (fun _ E => ?_)
    refine ww_bd E (fun dy8 E => ?_)
    refine ww_aload_n C dX10_test_123 rfl 1 rfl ?_
    refine ww_dup C dX10_test_124 rfl ?_
    refine ww_geti (ci := 10) (k0 := 37) C dX10_test_125 rfl rfl inm10 (by decide) Tx0 q1315 rfl ?_
    refine ww_aload_n C dX10_test_128 rfl 1 rfl ?_
    refine ww_geti (ci := 10) (k0 := 37) C dX10_test_129 rfl rfl inm10 (by decide) Tx0 q1315 rfl ?_
    refine ww_iconst (v := 4) C dX10_test_132 (by decide) ?_
    refine ww_icmp_ge (tgt := 140) C dX10_test_133 (by decide) E (fun _ E => ?_) (fun _ E => ?_)
    · refine ww_iconst (v := 0) C dX10_test_140 (by decide) ?_
      refine ww_sub (lv' := [(0, .ref (ad x0)), (1, .int x1), (2, .int u1.1)]) [1, 2, 0] rfl ?_
      exact (B_X10_test_141 C HR HL hG) x0 x1 u1.1 x0 (gi dy8 x0 37) (0 : Int32) dy8 Tx0 Tx0 E
    · refine ww_iconst (v := 1) C dX10_test_136 (by decide) ?_
      refine ww_goto (tgt := 141) C dX10_test_137 (by decide) ?_
      refine ww_sub (lv' := [(0, .ref (ad x0)), (1, .int x1), (2, .int u1.1)]) [1, 2, 0] rfl ?_
      exact (B_X10_test_141 C HR HL hG) x0 x1 u1.1 x0 (gi dy8 x0 37) (1 : Int32) dy8 Tx0 Tx0 E
  · refine ww_aload_n C dX10_test_93 rfl 1 rfl ?_
    obtain ⟨u9, e_10, E⟩ := bind_of E
    refine ww_callI C (runs_V (n := 0) (st := []) C [] (M_X10_stops l G ad N hG x0 u1.2 Tx0 e_10) ⟨q1512, q118, by decide⟩ q1509 q1511 q46 (ci := 10) rfl Tx0 rfl (Nat.le_of_ble_eq_true rfl) ⟨Nat.le_of_ble_eq_true rfl, Nat.le_of_ble_eq_true rfl⟩ ⟨Nat.zero_le _, Nat.zero_le _⟩ dX10_test_94 rfl) ?_
    obtain ⟨z_, E⟩ := gd_of E
    exact ww_zret C HR HL dX10_test_97 z_ E
set_option maxHeartbeats 4000000 in
set_option maxRecDepth 100000 in
theorem B_X10_test_68 (C : CX p s m args c cX10_test 3 RX10 G A) (HR : meth.sig.returnType = (Option.some Jvm.ClassFile.FieldType.boolean)) (HL : meth.locks = false) (hG : Good S) : ∀ (x0 : Nat) (x1 : Int32) (y0 : Nat) (y1 : Int32) (y2 : Int32) (dy : DY), gs S x0 = (0, 10) → gs S y0 = (1, 306) → F_X10_test_68 S N x0 x1 y0 y1 y2 dy = some (r, dy') → WJ p l e (rmD (3)) s m args below meth c 3 G A 0 0 (MQ below (QI G ad A S r dy') args s 0 0 A) ad 68 [(0, .ref (ad x0)), (1, .int x1)] [.int y2, .int y1, .ref (ad y0)] S dy := by
  intro x0 x1 y0 y1 y2 dy Tx0 Ty0 E
  rw [F_X10_test_68_s] at E
  refine ww_iast C dX10_test_68 Ty0 E (fun _ E => ?_)
  refine ww_bd E (fun dy1 E => ?_)
  refine ww_aload_n C dX10_test_69 rfl 0 rfl ?_
  refine ww_ldc2 (v := (7237492)) C dX10_test_70 q1597 ?_
  obtain ⟨u2, e_3, E⟩ := bind_of E
  refine ww_callI C (runs_V (n := 1) (st := []) C [.long (7237492 : Int64)] (M_X10_isWord l G ad N hG x0 (7237492 : Int64) dy1 Tx0 e_3) ⟨q1508, q118, by decide⟩ q1505 q1507 q45 (ci := 10) rfl Tx0 rfl (Nat.le_of_ble_eq_true rfl) ⟨Nat.le_of_ble_eq_true rfl, Nat.le_of_ble_eq_true rfl⟩ ⟨Nat.zero_le _, Nat.zero_le _⟩ dX10_test_73 rfl) ?_
  refine ww_if_eq (tgt := 83) C dX10_test_76 (by decide) E (fun _ E => ?_) (fun _ E => ?_)
  · refine ww_sub (lv' := [(0, .ref (ad x0)), (1, .int x1)]) [0, 1] rfl ?_
    exact (B_X10_test_83 C HR HL hG) x0 x1 u2.2 Tx0 E
  · refine ww_aload_n C dX10_test_79 rfl 0 rfl ?_
    obtain ⟨u4, e_5, E⟩ := bind_of E
    refine ww_callV C (runs_V (n := 0) (st := []) C [] (M_X10_token l G ad N hG x0 u2.2 Tx0 e_5) ⟨q1492, q118, by decide⟩ q1489 q1491 q42 (ci := 10) rfl Tx0 rfl (Nat.le_of_ble_eq_true rfl) ⟨Nat.le_of_ble_eq_true rfl, Nat.le_of_ble_eq_true rfl⟩ ⟨Nat.zero_le _, Nat.zero_le _⟩ dX10_test_80 rfl) ?_
    refine ww_sub (lv' := [(0, .ref (ad x0)), (1, .int x1)]) [0, 1] rfl ?_
    exact (B_X10_test_83 C HR HL hG) x0 x1 u4 Tx0 E
set_option maxHeartbeats 4000000 in
set_option maxRecDepth 100000 in
theorem B_X10_test_43 (C : CX p s m args c cX10_test 3 RX10 G A) (HR : meth.sig.returnType = (Option.some Jvm.ClassFile.FieldType.boolean)) (HL : meth.locks = false) (hG : Good S) : ∀ (x0 : Nat) (y0 : Int32) (y1 : Int32) (y2 : Int32) (dy : DY), gs S x0 = (0, 10) → F_X10_test_43 S N x0 y0 y1 y2 dy = some (r, dy') → WJ p l e (rmD (3)) s m args below meth c 3 G A 0 0 (MQ below (QI G ad A S r dy') args s 0 0 A) ad 43 [(0, .ref (ad x0))] [.int y2, .int y1, .int y0] S dy := by
  intro x0 y0 y1 y2 dy Tx0 E
  rw [F_X10_test_43_s] at E
  refine ww_imul C dX10_test_43 ?_
  refine ww_iadd C dX10_test_44 ?_
  refine ww_istore_n (lv' := [(1, .int (y0 + (y1 * y2))), (0, .ref (ad x0))]) C dX10_test_45 rfl (by decide) rfl ?_
  refine ww_aload_n C dX10_test_46 rfl 1 rfl ?_
  have T_1 : gs S (gr S x0 38) = (1, 306) := hG.1 _ 10 Tx0 38 (by decide)
  refine ww_getr (ci := 10) (k0 := 38) C dX10_test_47 rfl rfl inm10 (by decide) Tx0 q1316 rfl T_1 (by decide) ?_
  refine ww_iload_n C dX10_test_50 rfl 0 rfl ?_
  refine ww_iconst (v := 3) C dX10_test_51 (by decide) ?_
  refine ww_iadd C dX10_test_52 ?_
  refine ww_aload_n C dX10_test_53 rfl 1 rfl ?_
  refine ww_ldc2 (v := (7237492)) C dX10_test_54 q1597 ?_
  obtain ⟨u2, e_3, E⟩ := bind_of E
  refine ww_callI C (runs_V (n := 1) (st := [.int ((y0 + (y1 * y2)) + (3 : Int32)), .ref (ad (gr S x0 38))]) C [.long (7237492 : Int64)] (M_X10_isWord l G ad N hG x0 (7237492 : Int64) dy Tx0 e_3) ⟨q1508, q118, by decide⟩ q1505 q1507 q45 (ci := 10) rfl Tx0 rfl (Nat.le_of_ble_eq_true rfl) ⟨Nat.le_of_ble_eq_true rfl, Nat.le_of_ble_eq_true rfl⟩ ⟨Nat.zero_le _, Nat.zero_le _⟩ dX10_test_57 rfl) ?_
  refine ww_if_eq (tgt := 67) C dX10_test_60 (by decide) E (fun _ E => ?_) (fun _ E => ?_)
  · refine ww_iconst (v := 0) C dX10_test_67 (by decide) ?_
    refine ww_sub (lv' := [(0, .ref (ad x0)), (1, .int (y0 + (y1 * y2)))]) [1, 0] rfl ?_
    exact (B_X10_test_68 C HR HL hG) x0 (y0 + (y1 * y2)) (gr S x0 38) ((y0 + (y1 * y2)) + (3 : Int32)) (0 : Int32) u2.2 Tx0 T_1 E
  · refine ww_iconst (v := 1) C dX10_test_63 (by decide) ?_
    refine ww_goto (tgt := 68) C dX10_test_64 (by decide) ?_
    refine ww_sub (lv' := [(0, .ref (ad x0)), (1, .int (y0 + (y1 * y2)))]) [1, 0] rfl ?_
    exact (B_X10_test_68 C HR HL hG) x0 (y0 + (y1 * y2)) (gr S x0 38) ((y0 + (y1 * y2)) + (3 : Int32)) (1 : Int32) u2.2 Tx0 T_1 E
set_option maxHeartbeats 4000000 in
set_option maxRecDepth 100000 in
theorem B_X10_test_17 (C : CX p s m args c cX10_test 3 RX10 G A) (HR : meth.sig.returnType = (Option.some Jvm.ClassFile.FieldType.boolean)) (HL : meth.locks = false) (hG : Good S) : ∀ (x0 : Nat) (dy : DY), gs S x0 = (0, 10) → F_X10_test_17 S N x0 dy = some (r, dy') → WJ p l e (rmD (3)) s m args below meth c 3 G A 0 0 (MQ below (QI G ad A S r dy') args s 0 0 A) ad 17 [(0, .ref (ad x0))] [] S dy := by
  intro x0 dy Tx0 E
  rw [F_X10_test_17_s] at E
  refine ww_bipush (v := 18) C dX10_test_17 (by decide) ?_
  refine ww_aload_n C dX10_test_19 rfl 0 rfl ?_
  refine ww_geti (ci := 10) (k0 := 36) C dX10_test_20 rfl rfl inm10 (by decide) Tx0 q1314 rfl ?_
  refine ww_imul C dX10_test_23 ?_
  refine ww_iconst (v := 2) C dX10_test_24 (by decide) ?_
  refine ww_iadd C dX10_test_25 ?_
  refine ww_iconst (v := 4) C dX10_test_26 (by decide) ?_
  refine ww_aload_n C dX10_test_27 rfl 0 rfl ?_
  refine ww_geti (ci := 10) (k0 := 37) C dX10_test_28 rfl rfl inm10 (by decide) Tx0 q1315 rfl ?_
  refine ww_iconst (v := 4) C dX10_test_31 (by decide) ?_
  refine ww_icmp_ge (tgt := 42) C dX10_test_32 (by decide) E (fun _ E => ?_) (fun _ E => ?_)
  · refine ww_iconst (v := 3) C dX10_test_42 (by decide) ?_
    refine ww_sub (lv' := [(0, .ref (ad x0))]) [0] rfl ?_
    exact (B_X10_test_43 C HR HL hG) x0 (((18 : Int32) * (gi dy x0 36)) + (2 : Int32)) (4 : Int32) (3 : Int32) dy Tx0 E
  · refine ww_aload_n C dX10_test_35 rfl 0 rfl ?_
    refine ww_geti (ci := 10) (k0 := 37) C dX10_test_36 rfl rfl inm10 (by decide) Tx0 q1315 rfl ?_
    refine ww_goto (tgt := 43) C dX10_test_39 (by decide) ?_
    refine ww_sub (lv' := [(0, .ref (ad x0))]) [0] rfl ?_
    exact (B_X10_test_43 C HR HL hG) x0 (((18 : Int32) * (gi dy x0 36)) + (2 : Int32)) (4 : Int32) (gi dy x0 37) dy Tx0 E
end P_X10_test
set_option maxHeartbeats 4000000 in
set_option maxRecDepth 100000 in
theorem M_X10_test (l : Launch) (G : GG) (ad : Nat → Nat) {S : ST} (N : Nat) (hG : Good S) (a0 : Nat) (dy : DY) (T0 : gs S a0 = (0, 10)) {r : Int32} {dy' : DY} (E : F_X10_test S N a0 dy = some (r, dy')) : MC l yX10_test cX10_test 3 (Option.some Jvm.ClassFile.FieldType.boolean) (3) G ad [.ref (ad a0)] S dy (fun A => QI G ad A S r dy') := by
  rw [F_X10_test_s] at E
  refine mc_of RX10 (by decide) rfl (Nat.le_of_ble_eq_true rfl) (fun p e s m args below meth c A C HR HL => ?_)
  refine ww_sub (lv' := [(0, .ref (ad a0))]) [0] rfl ?_
  refine ww_aload_n C dX10_test_0 rfl 0 rfl ?_
  refine ww_geti (ci := 10) (k0 := 37) C dX10_test_1 rfl rfl inm10 (by decide) T0 q1315 rfl ?_
  refine ww_iconst (v := 4) C dX10_test_4 (by decide) ?_
  refine ww_icmp_ne (tgt := 17) C dX10_test_5 (by decide) E (fun _ E => ?_) (fun _ E => ?_)
  · refine ww_sub (lv' := [(0, .ref (ad a0))]) [0] rfl ?_
    exact (B_X10_test_17 C HR HL hG) a0 dy T0 E
  · refine ww_aload_n C dX10_test_8 rfl 0 rfl ?_
    refine ww_iconst (v := 3) C dX10_test_9 (by decide) ?_
    refine ww_aload_n C dX10_test_10 rfl 0 rfl ?_
    refine ww_geti (ci := 10) (k0 := 20) C dX10_test_11 rfl rfl inm10 (by decide) T0 q1298 rfl ?_
    obtain ⟨u1, e_2, E⟩ := bind_of E
    refine ww_callV C (runs_V (n := 2) (st := []) C [.int (3 : Int32), .int (gi dy a0 20)] (M_X10_later l G ad N hG a0 (3 : Int32) (gi dy a0 20) dy T0 e_2) ⟨q1520, q118, by decide⟩ q1517 q1519 q48 (ci := 10) rfl T0 rfl (Nat.le_of_ble_eq_true rfl) ⟨Nat.le_of_ble_eq_true rfl, Nat.le_of_ble_eq_true rfl⟩ ⟨Nat.zero_le _, Nat.zero_le _⟩ dX10_test_14 rfl) ?_
    refine ww_sub (lv' := [(0, .ref (ad a0))]) [0] rfl ?_
    exact (B_X10_test_17 C HR HL hG) a0 u1 T0 E
section P_X10_ruleLine
variable {p : Program} {l : Launch} {e : Env} {s : State} {m : MethodId} {args : Array Value} {below : List Frame} {meth : Method} {c : Code} {G : GG} {A : Nat → Prop} {ad : Nat → Nat} {S : ST} {N : Nat} {r : Int32} {dy' : DY}
set_option maxHeartbeats 4000000 in
set_option maxRecDepth 100000 in
theorem B_X10_ruleLine_35 (C : CX p s m args c cX10_ruleLine 2 RX10 G A) (HR : meth.sig.returnType = (Option.some Jvm.ClassFile.FieldType.boolean)) (HL : meth.locks = false) (hG : Good S) {K81 : Nat → DY → Option (Int32 × DY)} (hK81 : ∀ (x0 : Nat) (dy : DY), gs S x0 = (0, 10) → K81 x0 dy = some (r, dy') → WJ p l e (rmD (4)) s m args below meth c 2 G A 0 0 (MQ below (QI G ad A S r dy') args s 0 0 A) ad 81 [(0, .ref (ad x0))] [] S dy) : ∀ k : Nat, ∀ (x0 : Nat) (x1 : Int32) (dy : DY), gs S x0 = (0, 10) → (F_X10_ruleLine_35 S N K81 k) x0 x1 dy = some (r, dy') → WJ p l e (rmD (4)) s m args below meth c 2 G A 0 0 (MQ below (QI G ad A S r dy') args s 0 0 A) ad 35 [(0, .ref (ad x0)), (1, .int x1)] [] S dy := by
  intro k
  induction k with
  | zero => exact fun _ _ _ _ E => nomatch (show none = some (r, dy') from E)
  | succ k ih =>
    intro x0 x1 dy Tx0 E
    rw [F_X10_ruleLine_35_s] at E
    refine ww_iload_n C dX10_ruleLine_35 rfl 1 rfl ?_
    refine ww_if_eq (tgt := 63) C dX10_ruleLine_36 (by decide) E (fun _ E => ?_) (fun _ E => ?_)
    · refine ww_aload_n C dX10_ruleLine_63 rfl 0 rfl ?_
      refine ww_bipush (v := 58) C dX10_ruleLine_64 (by decide) ?_
      obtain ⟨u1, e_2, E⟩ := bind_of E
      refine ww_callI C (runs_V (n := 1) (st := []) C [.int (58 : Int32)] (M_X10_isSignOf l G ad N hG x0 (58 : Int32) dy Tx0 e_2) ⟨q1528, q118, by decide⟩ q1525 q1527 q50 (ci := 10) rfl Tx0 rfl (Nat.le_of_ble_eq_true rfl) ⟨Nat.le_of_ble_eq_true rfl, Nat.le_of_ble_eq_true rfl⟩ ⟨Nat.zero_le _, Nat.zero_le _⟩ dX10_ruleLine_66 rfl) ?_
      refine ww_if_ne (tgt := 77) C dX10_ruleLine_69 (by decide) E (fun _ E => ?_) (fun _ E => ?_)
      · refine ww_aload_n C dX10_ruleLine_77 rfl 0 rfl ?_
        obtain ⟨u3, e_4, E⟩ := bind_of E
        refine ww_callV C (runs_V (n := 0) (st := []) C [] (M_X10_token l G ad N hG x0 u1.2 Tx0 e_4) ⟨q1492, q118, by decide⟩ q1489 q1491 q42 (ci := 10) rfl Tx0 rfl (Nat.le_of_ble_eq_true rfl) ⟨Nat.le_of_ble_eq_true rfl, Nat.le_of_ble_eq_true rfl⟩ ⟨Nat.zero_le _, Nat.zero_le _⟩ dX10_ruleLine_78 rfl) ?_
        refine ww_sub (lv' := [(0, .ref (ad x0))]) [0] rfl ?_
        exact hK81 x0 u3 Tx0 E
      · refine ww_aload_n C dX10_ruleLine_72 rfl 0 rfl ?_
        obtain ⟨u5, e_6, E⟩ := bind_of E
        refine ww_callI C (runs_V (n := 0) (st := []) C [] (M_X10_stops l G ad N hG x0 u1.2 Tx0 e_6) ⟨q1512, q118, by decide⟩ q1509 q1511 q46 (ci := 10) rfl Tx0 rfl (Nat.le_of_ble_eq_true rfl) ⟨Nat.le_of_ble_eq_true rfl, Nat.le_of_ble_eq_true rfl⟩ ⟨Nat.zero_le _, Nat.zero_le _⟩ dX10_ruleLine_73 rfl) ?_
        obtain ⟨z_, E⟩ := gd_of E
        exact ww_zret C HR HL dX10_ruleLine_76 z_ E
    · refine ww_aload_n C dX10_ruleLine_39 rfl 0 rfl ?_
      obtain ⟨u7, e_8, E⟩ := bind_of E
      refine ww_callV C (runs_V (n := 0) (st := []) C [] (M_X10_token l G ad N hG x0 dy Tx0 e_8) ⟨q1492, q118, by decide⟩ q1489 q1491 q42 (ci := 10) rfl Tx0 rfl (Nat.le_of_ble_eq_true rfl) ⟨Nat.le_of_ble_eq_true rfl, Nat.le_of_ble_eq_true rfl⟩ ⟨Nat.zero_le _, Nat.zero_le _⟩ dX10_ruleLine_40 rfl) ?_
      refine ww_aload_n C dX10_ruleLine_43 rfl 0 rfl ?_
      obtain ⟨u9, e_10, E⟩ := bind_of E
      refine ww_callI C (runs_V (n := 0) (st := []) C [] (M_X10_test l G ad N hG x0 u7 Tx0 e_10) ⟨q1596, q118, by decide⟩ q1593 q1595 q63 (ci := 10) rfl Tx0 rfl (Nat.le_of_ble_eq_true rfl) ⟨Nat.le_of_ble_eq_true rfl, Nat.le_of_ble_eq_true rfl⟩ ⟨Nat.zero_le _, Nat.zero_le _⟩ dX10_ruleLine_44 rfl) ?_
      refine ww_if_ne (tgt := 52) C dX10_ruleLine_47 (by decide) E (fun _ E => ?_) (fun _ E => ?_)
      · refine ww_aload_n C dX10_ruleLine_52 rfl 0 rfl ?_
        refine ww_ldc2 (v := (6385252)) C dX10_ruleLine_53 q1610 ?_
        obtain ⟨u11, e_12, E⟩ := bind_of E
        refine ww_callI C (runs_V (n := 1) (st := []) C [.long (6385252 : Int64)] (M_X10_isWord l G ad N hG x0 (6385252 : Int64) u9.2 Tx0 e_12) ⟨q1508, q118, by decide⟩ q1505 q1507 q45 (ci := 10) rfl Tx0 rfl (Nat.le_of_ble_eq_true rfl) ⟨Nat.le_of_ble_eq_true rfl, Nat.le_of_ble_eq_true rfl⟩ ⟨Nat.zero_le _, Nat.zero_le _⟩ dX10_ruleLine_56 rfl) ?_
        refine ww_istore_n (lv' := [(1, .int u11.1), (0, .ref (ad x0))]) C dX10_ruleLine_59 rfl (by decide) rfl ?_
        refine ww_goto (tgt := 35) C dX10_ruleLine_60 (by decide) ?_
        refine ww_sub (lv' := [(0, .ref (ad x0)), (1, .int u11.1)]) [1, 0] rfl ?_
        exact ih x0 u11.1 u11.2 Tx0 E
      · refine ww_iconst (v := 0) C dX10_ruleLine_50 (by decide) ?_
        exact ww_zret C HR HL dX10_ruleLine_51 (Or.inl rfl) E
set_option maxHeartbeats 4000000 in
set_option maxRecDepth 100000 in
theorem B_X10_ruleLine_147 (C : CX p s m args c cX10_ruleLine 2 RX10 G A) (HR : meth.sig.returnType = (Option.some Jvm.ClassFile.FieldType.boolean)) (HL : meth.locks = false) (hG : Good S) : ∀ (x0 : Nat) (y0 : Nat) (y1 : Int32) (y2 : Int32) (dy : DY), gs S x0 = (0, 10) → gs S y0 = (0, 10) → F_X10_ruleLine_147 S N x0 y0 y1 y2 dy = some (r, dy') → WJ p l e (rmD (4)) s m args below meth c 2 G A 0 0 (MQ below (QI G ad A S r dy') args s 0 0 A) ad 147 [(0, .ref (ad x0))] [.int y2, .int y1, .ref (ad y0)] S dy := by
  intro x0 y0 y1 y2 dy Tx0 Ty0 E
  rw [F_X10_ruleLine_147_s] at E
  refine ww_iadd C dX10_ruleLine_147 ?_
  refine ww_puti (ci := 10) (k0 := 36) C dX10_ruleLine_148 rfl rfl inm10 tyX10_ok nmX10 (by decide) Ty0 q1314 rfl rfl rfl ?_
  refine ww_bd E (fun dy1 E => ?_)
  refine ww_aload_n C dX10_ruleLine_151 rfl 0 rfl ?_
  obtain ⟨u2, e_3, E⟩ := bind_of E
  refine ww_callV C (runs_V (n := 0) (st := []) C [] (M_X10_token l G ad N hG x0 dy1 Tx0 e_3) ⟨q1492, q118, by decide⟩ q1489 q1491 q42 (ci := 10) rfl Tx0 rfl (Nat.le_of_ble_eq_true rfl) ⟨Nat.le_of_ble_eq_true rfl, Nat.le_of_ble_eq_true rfl⟩ ⟨Nat.zero_le _, Nat.zero_le _⟩ dX10_ruleLine_152 rfl) ?_
  refine ww_aload_n C dX10_ruleLine_155 rfl 0 rfl ?_
  obtain ⟨u4, e_5, E⟩ := bind_of E
  refine ww_callI C (runs_V (n := 0) (st := []) C [] (M_X10_passes l G ad N hG x0 u2 Tx0 e_5) ⟨q1524, q118, by decide⟩ q1521 q1523 q49 (ci := 10) rfl Tx0 rfl (Nat.le_of_ble_eq_true rfl) ⟨Nat.le_of_ble_eq_true rfl, Nat.le_of_ble_eq_true rfl⟩ ⟨Nat.zero_le _, Nat.zero_le _⟩ dX10_ruleLine_156 rfl) ?_
  obtain ⟨z_, E⟩ := gd_of E
  exact ww_zret C HR HL dX10_ruleLine_159 z_ E
set_option maxHeartbeats 4000000 in
set_option maxRecDepth 100000 in
theorem B_X10_ruleLine_81 (C : CX p s m args c cX10_ruleLine 2 RX10 G A) (HR : meth.sig.returnType = (Option.some Jvm.ClassFile.FieldType.boolean)) (HL : meth.locks = false) (hG : Good S) : ∀ (x0 : Nat) (dy : DY), gs S x0 = (0, 10) → F_X10_ruleLine_81 S N x0 dy = some (r, dy') → WJ p l e (rmD (4)) s m args below meth c 2 G A 0 0 (MQ below (QI G ad A S r dy') args s 0 0 A) ad 81 [(0, .ref (ad x0))] [] S dy := by
  intro x0 dy Tx0 E
  rw [F_X10_ruleLine_81_s] at E
  refine ww_aload_n C dX10_ruleLine_81 rfl 0 rfl ?_
  obtain ⟨u1, e_2, E⟩ := bind_of E
  refine ww_callI C (runs_V (n := 0) (st := []) C [] (M_X10_actOf l G ad N hG x0 dy Tx0 e_2) ⟨q1614, q118, by decide⟩ q1611 q1613 q65 (ci := 10) rfl Tx0 rfl (Nat.le_of_ble_eq_true rfl) ⟨Nat.le_of_ble_eq_true rfl, Nat.le_of_ble_eq_true rfl⟩ ⟨Nat.zero_le _, Nat.zero_le _⟩ dX10_ruleLine_82 rfl) ?_
  refine ww_iconst (v := (-1)) C dX10_ruleLine_85 (by decide) ?_
  refine ww_icmp_ne (tgt := 94) C dX10_ruleLine_86 (by decide) E (fun _ E => ?_) (fun _ E => ?_)
  · refine ww_aload_n C dX10_ruleLine_94 rfl 0 rfl ?_
    have T_3 : gs S (gr S x0 38) = (1, 306) := hG.1 _ 10 Tx0 38 (by decide)
    refine ww_getr (ci := 10) (k0 := 38) C dX10_ruleLine_95 rfl rfl inm10 (by decide) Tx0 q1316 rfl T_3 (by decide) ?_
    refine ww_bipush (v := 18) C dX10_ruleLine_98 (by decide) ?_
    refine ww_aload_n C dX10_ruleLine_100 rfl 0 rfl ?_
    refine ww_geti (ci := 10) (k0 := 36) C dX10_ruleLine_101 rfl rfl inm10 (by decide) Tx0 q1314 rfl ?_
    refine ww_imul C dX10_ruleLine_104 ?_
    refine ww_aload_n C dX10_ruleLine_105 rfl 0 rfl ?_
    obtain ⟨u4, e_5, E⟩ := bind_of E
    refine ww_callI C (runs_V (n := 0) (st := [.int ((18 : Int32) * (gi u1.2 x0 36)), .ref (ad (gr S x0 38))]) C [] (M_X10_actOf l G ad N hG x0 u1.2 Tx0 e_5) ⟨q1614, q118, by decide⟩ q1611 q1613 q65 (ci := 10) rfl Tx0 rfl (Nat.le_of_ble_eq_true rfl) ⟨Nat.le_of_ble_eq_true rfl, Nat.le_of_ble_eq_true rfl⟩ ⟨Nat.zero_le _, Nat.zero_le _⟩ dX10_ruleLine_106 rfl) ?_
    refine ww_iast C dX10_ruleLine_109 T_3 E (fun _ E => ?_)
    refine ww_bd E (fun dy6 E => ?_)
    refine ww_aload_n C dX10_ruleLine_110 rfl 0 rfl ?_
    have T_7 : gs S (gr S x0 38) = (1, 306) := hG.1 _ 10 Tx0 38 (by decide)
    refine ww_getr (ci := 10) (k0 := 38) C dX10_ruleLine_111 rfl rfl inm10 (by decide) Tx0 q1316 rfl T_7 (by decide) ?_
    refine ww_bipush (v := 18) C dX10_ruleLine_114 (by decide) ?_
    refine ww_aload_n C dX10_ruleLine_116 rfl 0 rfl ?_
    refine ww_geti (ci := 10) (k0 := 36) C dX10_ruleLine_117 rfl rfl inm10 (by decide) Tx0 q1314 rfl ?_
    refine ww_imul C dX10_ruleLine_120 ?_
    refine ww_iconst (v := 1) C dX10_ruleLine_121 (by decide) ?_
    refine ww_iadd C dX10_ruleLine_122 ?_
    refine ww_aload_n C dX10_ruleLine_123 rfl 0 rfl ?_
    refine ww_geti (ci := 10) (k0 := 37) C dX10_ruleLine_124 rfl rfl inm10 (by decide) Tx0 q1315 rfl ?_
    refine ww_iast C dX10_ruleLine_127 T_7 E (fun _ E => ?_)
    refine ww_bd E (fun dy8 E => ?_)
    refine ww_aload_n C dX10_ruleLine_128 rfl 0 rfl ?_
    refine ww_dup C dX10_ruleLine_129 rfl ?_
    refine ww_geti (ci := 10) (k0 := 36) C dX10_ruleLine_130 rfl rfl inm10 (by decide) Tx0 q1314 rfl ?_
    refine ww_aload_n C dX10_ruleLine_133 rfl 0 rfl ?_
    refine ww_geti (ci := 10) (k0 := 36) C dX10_ruleLine_134 rfl rfl inm10 (by decide) Tx0 q1314 rfl ?_
    refine ww_bipush (v := 16) C dX10_ruleLine_137 (by decide) ?_
    refine ww_icmp_ge (tgt := 146) C dX10_ruleLine_139 (by decide) E (fun _ E => ?_) (fun _ E => ?_)
    · refine ww_iconst (v := 0) C dX10_ruleLine_146 (by decide) ?_
      refine ww_sub (lv' := [(0, .ref (ad x0))]) [0] rfl ?_
      exact (B_X10_ruleLine_147 C HR HL hG) x0 x0 (gi dy8 x0 36) (0 : Int32) dy8 Tx0 Tx0 E
    · refine ww_iconst (v := 1) C dX10_ruleLine_142 (by decide) ?_
      refine ww_goto (tgt := 147) C dX10_ruleLine_143 (by decide) ?_
      refine ww_sub (lv' := [(0, .ref (ad x0))]) [0] rfl ?_
      exact (B_X10_ruleLine_147 C HR HL hG) x0 x0 (gi dy8 x0 36) (1 : Int32) dy8 Tx0 Tx0 E
  · refine ww_aload_n C dX10_ruleLine_89 rfl 0 rfl ?_
    obtain ⟨u9, e_10, E⟩ := bind_of E
    refine ww_callI C (runs_V (n := 0) (st := []) C [] (M_X10_stops l G ad N hG x0 u1.2 Tx0 e_10) ⟨q1512, q118, by decide⟩ q1509 q1511 q46 (ci := 10) rfl Tx0 rfl (Nat.le_of_ble_eq_true rfl) ⟨Nat.le_of_ble_eq_true rfl, Nat.le_of_ble_eq_true rfl⟩ ⟨Nat.zero_le _, Nat.zero_le _⟩ dX10_ruleLine_90 rfl) ?_
    obtain ⟨z_, E⟩ := gd_of E
    exact ww_zret C HR HL dX10_ruleLine_93 z_ E
set_option maxHeartbeats 4000000 in
set_option maxRecDepth 100000 in
theorem B_X10_ruleLine_18 (C : CX p s m args c cX10_ruleLine 2 RX10 G A) (HR : meth.sig.returnType = (Option.some Jvm.ClassFile.FieldType.boolean)) (HL : meth.locks = false) (hG : Good S) : ∀ (x0 : Nat) (dy : DY), gs S x0 = (0, 10) → F_X10_ruleLine_18 S N x0 dy = some (r, dy') → WJ p l e (rmD (4)) s m args below meth c 2 G A 0 0 (MQ below (QI G ad A S r dy') args s 0 0 A) ad 18 [(0, .ref (ad x0))] [] S dy := by
  intro x0 dy Tx0 E
  rw [F_X10_ruleLine_18_s] at E
  refine ww_aload_n C dX10_ruleLine_18 rfl 0 rfl ?_
  refine ww_iconst (v := 0) C dX10_ruleLine_19 (by decide) ?_
  refine ww_puti (ci := 10) (k0 := 37) C dX10_ruleLine_20 rfl rfl inm10 tyX10_ok nmX10 (by decide) Tx0 q1315 rfl rfl rfl ?_
  refine ww_bd E (fun dy1 E => ?_)
  refine ww_aload_n C dX10_ruleLine_23 rfl 0 rfl ?_
  refine ww_ldc2 (v := (26982)) C dX10_ruleLine_24 q1592 ?_
  obtain ⟨u2, e_3, E⟩ := bind_of E
  refine ww_callI C (runs_V (n := 1) (st := []) C [.long (26982 : Int64)] (M_X10_isWord l G ad N hG x0 (26982 : Int64) dy1 Tx0 e_3) ⟨q1508, q118, by decide⟩ q1505 q1507 q45 (ci := 10) rfl Tx0 rfl (Nat.le_of_ble_eq_true rfl) ⟨Nat.le_of_ble_eq_true rfl, Nat.le_of_ble_eq_true rfl⟩ ⟨Nat.zero_le _, Nat.zero_le _⟩ dX10_ruleLine_27 rfl) ?_
  refine ww_if_eq (tgt := 81) C dX10_ruleLine_30 (by decide) E (fun _ E => ?_) (fun _ E => ?_)
  · refine ww_sub (lv' := [(0, .ref (ad x0))]) [0] rfl ?_
    exact (B_X10_ruleLine_81 C HR HL hG) x0 u2.2 Tx0 E
  · refine ww_iconst (v := 1) C dX10_ruleLine_33 (by decide) ?_
    refine ww_istore_n (lv' := [(1, .int (1 : Int32)), (0, .ref (ad x0))]) C dX10_ruleLine_34 rfl (by decide) rfl ?_
    refine ww_sub (lv' := [(0, .ref (ad x0)), (1, .int (1 : Int32))]) [1, 0] rfl ?_
    exact (B_X10_ruleLine_35 C HR HL hG (B_X10_ruleLine_81 C HR HL hG) N) x0 (1 : Int32) u2.2 Tx0 E
end P_X10_ruleLine
set_option maxHeartbeats 4000000 in
set_option maxRecDepth 100000 in
theorem M_X10_ruleLine (l : Launch) (G : GG) (ad : Nat → Nat) {S : ST} (N : Nat) (hG : Good S) (a0 : Nat) (dy : DY) (T0 : gs S a0 = (0, 10)) {r : Int32} {dy' : DY} (E : F_X10_ruleLine S N a0 dy = some (r, dy')) : MC l yX10_ruleLine cX10_ruleLine 2 (Option.some Jvm.ClassFile.FieldType.boolean) (4) G ad [.ref (ad a0)] S dy (fun A => QI G ad A S r dy') := by
  rw [F_X10_ruleLine_s] at E
  refine mc_of RX10 (by decide) rfl (Nat.le_of_ble_eq_true rfl) (fun p e s m args below meth c A C HR HL => ?_)
  refine ww_sub (lv' := [(0, .ref (ad a0))]) [0] rfl ?_
  refine ww_aload_n C dX10_ruleLine_0 rfl 0 rfl ?_
  refine ww_geti (ci := 10) (k0 := 36) C dX10_ruleLine_1 rfl rfl inm10 (by decide) T0 q1314 rfl ?_
  refine ww_bipush (v := 16) C dX10_ruleLine_4 (by decide) ?_
  refine ww_icmp_ne (tgt := 18) C dX10_ruleLine_6 (by decide) E (fun _ E => ?_) (fun _ E => ?_)
  · refine ww_sub (lv' := [(0, .ref (ad a0))]) [0] rfl ?_
    exact (B_X10_ruleLine_18 C HR HL hG) a0 dy T0 E
  · refine ww_aload_n C dX10_ruleLine_9 rfl 0 rfl ?_
    refine ww_iconst (v := 3) C dX10_ruleLine_10 (by decide) ?_
    refine ww_aload_n C dX10_ruleLine_11 rfl 0 rfl ?_
    refine ww_geti (ci := 10) (k0 := 20) C dX10_ruleLine_12 rfl rfl inm10 (by decide) T0 q1298 rfl ?_
    obtain ⟨u1, e_2, E⟩ := bind_of E
    refine ww_callV C (runs_V (n := 2) (st := []) C [.int (3 : Int32), .int (gi dy a0 20)] (M_X10_later l G ad N hG a0 (3 : Int32) (gi dy a0 20) dy T0 e_2) ⟨q1520, q118, by decide⟩ q1517 q1519 q48 (ci := 10) rfl T0 rfl (Nat.le_of_ble_eq_true rfl) ⟨Nat.le_of_ble_eq_true rfl, Nat.le_of_ble_eq_true rfl⟩ ⟨Nat.zero_le _, Nat.zero_le _⟩ dX10_ruleLine_15 rfl) ?_
    refine ww_sub (lv' := [(0, .ref (ad a0))]) [0] rfl ?_
    exact (B_X10_ruleLine_18 C HR HL hG) a0 u1 T0 E
section P_X10_takeTape
variable {p : Program} {l : Launch} {e : Env} {s : State} {m : MethodId} {args : Array Value} {below : List Frame} {meth : Method} {c : Code} {G : GG} {A : Nat → Prop} {ad : Nat → Nat} {S : ST} {N : Nat} {dy' : DY}
end P_X10_takeTape
set_option maxHeartbeats 4000000 in
set_option maxRecDepth 100000 in
theorem M_X10_takeTape (l : Launch) (G : GG) (ad : Nat → Nat) {S : ST} (N : Nat) (hG : Good S) (a0 : Nat) (dy : DY) (T0 : gs S a0 = (0, 10)) {dy' : DY} (E : F_X10_takeTape S N a0 dy = some dy') : MC l yX10_takeTape cX10_takeTape 1 (Option.none : Option Jvm.ClassFile.FieldType) (1) G ad [.ref (ad a0)] S dy (fun A => QV G ad A S dy') := by
  rw [F_X10_takeTape_s] at E
  refine mc_of RX10 (by decide) rfl (Nat.le_of_ble_eq_true rfl) (fun p e s m args below meth c A C HR HL => ?_)
  refine ww_sub (lv' := [(0, .ref (ad a0))]) [0] rfl ?_
  refine ww_aload_n C dX10_takeTape_0 rfl 0 rfl ?_
  refine ww_aload_n C dX10_takeTape_1 rfl 0 rfl ?_
  have T_1 : gs S (gr S a0 2) = (1, 4) := hG.1 _ 10 T0 2 (by decide)
  refine ww_getr (ci := 10) (k0 := 2) C dX10_takeTape_2 rfl rfl inm10 (by decide) T0 q1280 rfl T_1 (by decide) ?_
  refine ww_iconst (v := 0) C dX10_takeTape_5 (by decide) ?_
  refine ww_iald C dX10_takeTape_6 T_1 E (fun _ E => ?_)
  refine ww_puti (ci := 10) (k0 := 19) C dX10_takeTape_7 rfl rfl inm10 tyX10_ok nmX10 (by decide) T0 q1297 rfl rfl rfl ?_
  refine ww_bd E (fun dy2 E => ?_)
  refine ww_aload_n C dX10_takeTape_10 rfl 0 rfl ?_
  have T_3 : gs S (gr S a0 2) = (1, 4) := hG.1 _ 10 T0 2 (by decide)
  refine ww_getr (ci := 10) (k0 := 2) C dX10_takeTape_11 rfl rfl inm10 (by decide) T0 q1280 rfl T_3 (by decide) ?_
  refine ww_iconst (v := 0) C dX10_takeTape_14 (by decide) ?_
  refine ww_iconst (v := 0) C dX10_takeTape_15 (by decide) ?_
  refine ww_iast C dX10_takeTape_16 T_3 E (fun _ E => ?_)
  refine ww_bd E (fun dy4 E => ?_)
  refine ww_aload_n C dX10_takeTape_17 rfl 0 rfl ?_
  have T_5 : gs S (gr S a0 3) = (1, 4) := hG.1 _ 10 T0 3 (by decide)
  refine ww_getr (ci := 10) (k0 := 3) C dX10_takeTape_18 rfl rfl inm10 (by decide) T0 q1281 rfl T_5 (by decide) ?_
  refine ww_iconst (v := 0) C dX10_takeTape_21 (by decide) ?_
  refine ww_iconst (v := 0) C dX10_takeTape_22 (by decide) ?_
  refine ww_iast C dX10_takeTape_23 T_5 E (fun _ E => ?_)
  refine ww_bd E (fun dy6 E => ?_)
  refine ww_aload_n C dX10_takeTape_24 rfl 0 rfl ?_
  have T_7 : gs S (gr S a0 4) = (1, 4) := hG.1 _ 10 T0 4 (by decide)
  refine ww_getr (ci := 10) (k0 := 4) C dX10_takeTape_25 rfl rfl inm10 (by decide) T0 q1282 rfl T_7 (by decide) ?_
  refine ww_iconst (v := 0) C dX10_takeTape_28 (by decide) ?_
  refine ww_iconst (v := (-1)) C dX10_takeTape_29 (by decide) ?_
  refine ww_iast C dX10_takeTape_30 T_7 E (fun _ E => ?_)
  refine ww_bd E (fun dy8 E => ?_)
  refine ww_aload_n C dX10_takeTape_31 rfl 0 rfl ?_
  refine ww_iconst (v := 0) C dX10_takeTape_32 (by decide) ?_
  refine ww_puti (ci := 10) (k0 := 18) C dX10_takeTape_33 rfl rfl inm10 tyX10_ok nmX10 (by decide) T0 q1296 rfl rfl rfl ?_
  refine ww_bd E (fun dy9 E => ?_)
  refine ww_aload_n C dX10_takeTape_36 rfl 0 rfl ?_
  refine ww_iconst (v := 0) C dX10_takeTape_37 (by decide) ?_
  refine ww_puti (ci := 10) (k0 := 25) C dX10_takeTape_38 rfl rfl inm10 tyX10_ok nmX10 (by decide) T0 q1303 rfl rfl rfl ?_
  refine ww_bd E (fun dy10 E => ?_)
  exact ww_vret C HR HL dX10_takeTape_41 E
section P_X10_law
variable {p : Program} {l : Launch} {e : Env} {s : State} {m : MethodId} {args : Array Value} {below : List Frame} {meth : Method} {c : Code} {G : GG} {A : Nat → Prop} {ad : Nat → Nat} {S : ST} {N : Nat} {r : Int32} {dy' : DY}
set_option maxHeartbeats 4000000 in
set_option maxRecDepth 100000 in
theorem B_X10_law_126 (C : CX p s m args c cX10_law 5 RX10 G A) (HR : meth.sig.returnType = (Option.some Jvm.ClassFile.FieldType.int)) (HL : meth.locks = false) (hG : Good S) : ∀ k : Nat, ∀ (x0 : Nat) (x3 : Int32) (x4 : Int32) (dy : DY), gs S x0 = (0, 10) → (F_X10_law_126 S N k) x0 x3 x4 dy = some (r, dy') → WJ p l e (rmD (5)) s m args below meth c 5 G A 0 0 (MQ below (QI G ad A S r dy') args s 0 0 A) ad 126 [(0, .ref (ad x0)), (3, .int x3), (4, .int x4)] [] S dy := by
  intro k
  induction k with
  | zero => exact fun _ _ _ _ _ E => nomatch (show none = some (r, dy') from E)
  | succ k ih =>
    intro x0 x3 x4 dy Tx0 E
    rw [F_X10_law_126_s] at E
    refine ww_iload C dX10_law_126 2 rfl ?_
    refine ww_bipush (v := 18) C dX10_law_128 (by decide) ?_
    refine ww_aload_n C dX10_law_130 rfl 0 rfl ?_
    refine ww_geti (ci := 10) (k0 := 36) C dX10_law_131 rfl rfl inm10 (by decide) Tx0 q1314 rfl ?_
    refine ww_imul C dX10_law_134 ?_
    refine ww_icmp_ge (tgt := 164) C dX10_law_135 (by decide) E (fun _ E => ?_) (fun _ E => ?_)
    · refine ww_iload_n C dX10_law_164 rfl 1 rfl ?_
      exact ww_iret C HR HL dX10_law_165 E
    · refine ww_aload_n C dX10_law_138 rfl 0 rfl ?_
      have T_1 : gs S (gr S x0 14) = (1, 3456) := hG.1 _ 10 Tx0 14 (by decide)
      refine ww_getr (ci := 10) (k0 := 14) C dX10_law_139 rfl rfl inm10 (by decide) Tx0 q1292 rfl T_1 (by decide) ?_
      refine ww_sipush (v := 288) C dX10_law_142 (by decide) ?_
      refine ww_iload_n C dX10_law_145 rfl 1 rfl ?_
      refine ww_imul C dX10_law_146 ?_
      refine ww_iload C dX10_law_147 2 rfl ?_
      refine ww_iadd C dX10_law_149 ?_
      refine ww_aload_n C dX10_law_150 rfl 0 rfl ?_
      have T_2 : gs S (gr S x0 38) = (1, 306) := hG.1 _ 10 Tx0 38 (by decide)
      refine ww_getr (ci := 10) (k0 := 38) C dX10_law_151 rfl rfl inm10 (by decide) Tx0 q1316 rfl T_2 (by decide) ?_
      refine ww_iload C dX10_law_154 2 rfl ?_
      refine ww_iald C dX10_law_156 T_2 E (fun _ E => ?_)
      refine ww_iast C dX10_law_157 T_1 E (fun _ E => ?_)
      refine ww_bd E (fun dy3 E => ?_)
      refine ww_iinc (v := (x4 + (1 : Int32))) (lv' := [(4, .int (x4 + (1 : Int32))), (0, .ref (ad x0)), (3, .int x3)]) C dX10_law_158 2 rfl rfl (by decide) rfl ?_
      refine ww_goto (tgt := 126) C dX10_law_161 (by decide) ?_
      refine ww_sub (lv' := [(0, .ref (ad x0)), (3, .int x3), (4, .int (x4 + (1 : Int32)))]) [1, 2, 0] rfl ?_
      exact ih x0 x3 (x4 + (1 : Int32)) dy3 Tx0 E
set_option maxHeartbeats 4000000 in
set_option maxRecDepth 100000 in
theorem B_X10_law_111 (C : CX p s m args c cX10_law 5 RX10 G A) (HR : meth.sig.returnType = (Option.some Jvm.ClassFile.FieldType.int)) (HL : meth.locks = false) (hG : Good S) : ∀ (x0 : Nat) (x3 : Int32) (y0 : Nat) (y1 : Int32) (y2 : Int32) (y3 : Int32) (dy : DY), gs S x0 = (0, 10) → gs S y0 = (1, 4) → F_X10_law_111 S N x0 x3 y0 y1 y2 y3 dy = some (r, dy') → WJ p l e (rmD (5)) s m args below meth c 5 G A 0 0 (MQ below (QI G ad A S r dy') args s 0 0 A) ad 111 [(0, .ref (ad x0)), (3, .int x3)] [.int y3, .int y2, .int y1, .ref (ad y0)] S dy := by
  intro x0 x3 y0 y1 y2 y3 dy Tx0 Ty0 E
  rw [F_X10_law_111_s] at E
  refine ww_iadd C dX10_law_111 ?_
  refine ww_iast C dX10_law_112 Ty0 E (fun _ E => ?_)
  refine ww_bd E (fun dy1 E => ?_)
  refine ww_aload_n C dX10_law_113 rfl 0 rfl ?_
  have T_2 : gs S (gr S x0 13) = (1, 12) := hG.1 _ 10 Tx0 13 (by decide)
  refine ww_getr (ci := 10) (k0 := 13) C dX10_law_114 rfl rfl inm10 (by decide) Tx0 q1291 rfl T_2 (by decide) ?_
  refine ww_iload_n C dX10_law_117 rfl 1 rfl ?_
  refine ww_aload_n C dX10_law_118 rfl 0 rfl ?_
  refine ww_geti (ci := 10) (k0 := 36) C dX10_law_119 rfl rfl inm10 (by decide) Tx0 q1314 rfl ?_
  refine ww_iast C dX10_law_122 T_2 E (fun _ E => ?_)
  refine ww_bd E (fun dy3 E => ?_)
  refine ww_iconst (v := 0) C dX10_law_123 (by decide) ?_
  refine ww_istore (lv' := [(4, .int (0 : Int32)), (0, .ref (ad x0)), (3, .int x3)]) C dX10_law_124 (by decide) rfl ?_
  refine ww_sub (lv' := [(0, .ref (ad x0)), (3, .int x3), (4, .int (0 : Int32))]) [1, 2, 0] rfl ?_
  exact (B_X10_law_126 C HR HL hG N) x0 x3 (0 : Int32) dy3 Tx0 E
set_option maxHeartbeats 4000000 in
set_option maxRecDepth 100000 in
theorem B_X10_law_93 (C : CX p s m args c cX10_law 5 RX10 G A) (HR : meth.sig.returnType = (Option.some Jvm.ClassFile.FieldType.int)) (HL : meth.locks = false) (hG : Good S) : ∀ (x0 : Nat) (x1 : Int32) (y0 : Int32) (dy : DY), gs S x0 = (0, 10) → F_X10_law_93 S N x0 x1 y0 dy = some (r, dy') → WJ p l e (rmD (5)) s m args below meth c 5 G A 0 0 (MQ below (QI G ad A S r dy') args s 0 0 A) ad 93 [(0, .ref (ad x0)), (1, .int x1)] [.int y0] S dy := by
  intro x0 x1 y0 dy Tx0 E
  rw [F_X10_law_93_s] at E
  refine ww_istore_n (lv' := [(3, .int y0), (0, .ref (ad x0)), (1, .int x1)]) C dX10_law_93 rfl (by decide) rfl ?_
  refine ww_aload_n C dX10_law_94 rfl 1 rfl ?_
  have T_1 : gs S (gr S x0 12) = (1, 4) := hG.1 _ 10 Tx0 12 (by decide)
  refine ww_getr (ci := 10) (k0 := 12) C dX10_law_95 rfl rfl inm10 (by decide) Tx0 q1290 rfl T_1 (by decide) ?_
  refine ww_iconst (v := 0) C dX10_law_98 (by decide) ?_
  refine ww_dup2 C dX10_law_99 rfl rfl ?_
  refine ww_iald C dX10_law_100 T_1 E (fun _ E => ?_)
  refine ww_iload_n C dX10_law_101 rfl 2 rfl ?_
  refine ww_iconst (v := (-1)) C dX10_law_102 (by decide) ?_
  refine ww_icmp_ne (tgt := 110) C dX10_law_103 (by decide) E (fun _ E => ?_) (fun _ E => ?_)
  · refine ww_iconst (v := 0) C dX10_law_110 (by decide) ?_
    refine ww_sub (lv' := [(0, .ref (ad x0)), (3, .int y0)]) [1, 0] rfl ?_
    exact (B_X10_law_111 C HR HL hG) x0 y0 (gr S x0 12) (0 : Int32) (gi dy (gr S x0 12) (0 : Int32).toNatClampNeg) (0 : Int32) dy Tx0 T_1 E
  · refine ww_iconst (v := 1) C dX10_law_106 (by decide) ?_
    refine ww_goto (tgt := 111) C dX10_law_107 (by decide) ?_
    refine ww_sub (lv' := [(0, .ref (ad x0)), (3, .int y0)]) [1, 0] rfl ?_
    exact (B_X10_law_111 C HR HL hG) x0 y0 (gr S x0 12) (0 : Int32) (gi dy (gr S x0 12) (0 : Int32).toNatClampNeg) (1 : Int32) dy Tx0 T_1 E
set_option maxHeartbeats 4000000 in
set_option maxRecDepth 100000 in
theorem B_X10_law_68 (C : CX p s m args c cX10_law 5 RX10 G A) (HR : meth.sig.returnType = (Option.some Jvm.ClassFile.FieldType.int)) (HL : meth.locks = false) (hG : Good S) : ∀ (x0 : Nat) (x1 : Int32) (x2 : Int32) (dy : DY), gs S x0 = (0, 10) → F_X10_law_68 S N x0 x1 x2 dy = some (r, dy') → WJ p l e (rmD (5)) s m args below meth c 5 G A 0 0 (MQ below (QI G ad A S r dy') args s 0 0 A) ad 68 [(0, .ref (ad x0)), (1, .int x1), (2, .int x2)] [] S dy := by
  intro x0 x1 x2 dy Tx0 E
  rw [F_X10_law_68_s] at E
  refine ww_aload_n C dX10_law_68 rfl 0 rfl ?_
  refine ww_iload_n C dX10_law_69 rfl 2 rfl ?_
  obtain ⟨u1, e_2, E⟩ := bind_of E
  refine ww_callI C (runs_V (n := 1) (st := []) C [.int x2] (M_X10_isGood l G ad N hG x0 x2 dy Tx0 e_2) ⟨q1579, q118, by decide⟩ q1576 q1578 q60 (ci := 10) rfl Tx0 rfl (Nat.le_of_ble_eq_true rfl) ⟨Nat.le_of_ble_eq_true rfl, Nat.le_of_ble_eq_true rfl⟩ ⟨Nat.zero_le _, Nat.zero_le _⟩ dX10_law_70 rfl) ?_
  refine ww_if_ne (tgt := 78) C dX10_law_73 (by decide) E (fun _ E => ?_) (fun _ E => ?_)
  · refine ww_iload_n C dX10_law_78 rfl 1 rfl ?_
    refine ww_iconst (v := (-1)) C dX10_law_79 (by decide) ?_
    refine ww_icmp_ne (tgt := 92) C dX10_law_80 (by decide) E (fun _ E => ?_) (fun _ E => ?_)
    · refine ww_iload_n C dX10_law_92 rfl 1 rfl ?_
      refine ww_sub (lv' := [(0, .ref (ad x0)), (1, .int x1)]) [0, 1] rfl ?_
      exact (B_X10_law_93 C HR HL hG) x0 x1 x1 u1.2 Tx0 E
    · refine ww_aload_n C dX10_law_83 rfl 0 rfl ?_
      have T_3 : gs S (gr S x0 12) = (1, 4) := hG.1 _ 10 Tx0 12 (by decide)
      refine ww_getr (ci := 10) (k0 := 12) C dX10_law_84 rfl rfl inm10 (by decide) Tx0 q1290 rfl T_3 (by decide) ?_
      refine ww_iconst (v := 0) C dX10_law_87 (by decide) ?_
      refine ww_iald C dX10_law_88 T_3 E (fun _ E => ?_)
      refine ww_goto (tgt := 93) C dX10_law_89 (by decide) ?_
      refine ww_sub (lv' := [(0, .ref (ad x0)), (1, .int x1)]) [0, 1] rfl ?_
      exact (B_X10_law_93 C HR HL hG) x0 x1 (gi u1.2 (gr S x0 12) (0 : Int32).toNatClampNeg) u1.2 Tx0 E
  · refine ww_iconst (v := (-1)) C dX10_law_76 (by decide) ?_
    exact ww_iret C HR HL dX10_law_77 E
set_option maxHeartbeats 4000000 in
set_option maxRecDepth 100000 in
theorem B_X10_law_49 (C : CX p s m args c cX10_law 5 RX10 G A) (HR : meth.sig.returnType = (Option.some Jvm.ClassFile.FieldType.int)) (HL : meth.locks = false) (hG : Good S) : ∀ k : Nat, ∀ (x0 : Nat) (x1 : Int32) (x2 : Int32) (dy : DY), gs S x0 = (0, 10) → (F_X10_law_49 S N k) x0 x1 x2 dy = some (r, dy') → WJ p l e (rmD (5)) s m args below meth c 5 G A 0 0 (MQ below (QI G ad A S r dy') args s 0 0 A) ad 49 [(0, .ref (ad x0)), (1, .int x1), (2, .int x2)] [] S dy := by
  intro k
  induction k with
  | zero => exact fun _ _ _ _ _ E => nomatch (show none = some (r, dy') from E)
  | succ k ih =>
    intro x0 x1 x2 dy Tx0 E
    rw [F_X10_law_49_s] at E
    refine ww_iload_n C dX10_law_49 rfl 2 rfl ?_
    refine ww_if_eq (tgt := 68) C dX10_law_50 (by decide) E (fun _ E => ?_) (fun _ E => ?_)
    · refine ww_sub (lv' := [(0, .ref (ad x0)), (1, .int x1), (2, .int x2)]) [0, 1, 2] rfl ?_
      exact (B_X10_law_68 C HR HL hG) x0 x1 x2 dy Tx0 E
    · refine ww_aload_n C dX10_law_53 rfl 0 rfl ?_
      refine ww_geti (ci := 10) (k0 := 21) C dX10_law_54 rfl rfl inm10 (by decide) Tx0 q1299 rfl ?_
      refine ww_if_eq (tgt := 68) C dX10_law_57 (by decide) E (fun _ E => ?_) (fun _ E => ?_)
      · refine ww_sub (lv' := [(0, .ref (ad x0)), (1, .int x1), (2, .int x2)]) [0, 1, 2] rfl ?_
        exact (B_X10_law_68 C HR HL hG) x0 x1 x2 dy Tx0 E
      · refine ww_aload_n C dX10_law_60 rfl 0 rfl ?_
        obtain ⟨u1, e_2, E⟩ := bind_of E
        refine ww_callI C (runs_V (n := 0) (st := []) C [] (M_X10_ruleLine l G ad N hG x0 dy Tx0 e_2) ⟨q1591, q118, by decide⟩ q1588 q1590 q62 (ci := 10) rfl Tx0 rfl (Nat.le_of_ble_eq_true rfl) ⟨Nat.le_of_ble_eq_true rfl, Nat.le_of_ble_eq_true rfl⟩ ⟨Nat.zero_le _, Nat.zero_le _⟩ dX10_law_61 rfl) ?_
        refine ww_istore_n (lv' := [(2, .int u1.1), (0, .ref (ad x0)), (1, .int x1)]) C dX10_law_64 rfl (by decide) rfl ?_
        refine ww_goto (tgt := 49) C dX10_law_65 (by decide) ?_
        refine ww_sub (lv' := [(0, .ref (ad x0)), (1, .int x1), (2, .int u1.1)]) [1, 2, 0] rfl ?_
        exact ih x0 x1 u1.1 u1.2 Tx0 E
set_option maxHeartbeats 4000000 in
set_option maxRecDepth 100000 in
theorem B_X10_law_38 (C : CX p s m args c cX10_law 5 RX10 G A) (HR : meth.sig.returnType = (Option.some Jvm.ClassFile.FieldType.int)) (HL : meth.locks = false) (hG : Good S) : ∀ (x0 : Nat) (x1 : Int32) (dy : DY), gs S x0 = (0, 10) → F_X10_law_38 S N x0 x1 dy = some (r, dy') → WJ p l e (rmD (5)) s m args below meth c 5 G A 0 0 (MQ below (QI G ad A S r dy') args s 0 0 A) ad 38 [(0, .ref (ad x0)), (1, .int x1)] [] S dy := by
  intro x0 x1 dy Tx0 E
  rw [F_X10_law_38_s] at E
  refine ww_aload_n C dX10_law_38 rfl 0 rfl ?_
  refine ww_iconst (v := 0) C dX10_law_39 (by decide) ?_
  refine ww_puti (ci := 10) (k0 := 36) C dX10_law_40 rfl rfl inm10 tyX10_ok nmX10 (by decide) Tx0 q1314 rfl rfl rfl ?_
  refine ww_bd E (fun dy1 E => ?_)
  refine ww_iconst (v := 1) C dX10_law_43 (by decide) ?_
  refine ww_istore_n (lv' := [(2, .int (1 : Int32)), (0, .ref (ad x0)), (1, .int x1)]) C dX10_law_44 rfl (by decide) rfl ?_
  refine ww_aload_n C dX10_law_45 rfl 1 rfl ?_
  obtain ⟨u2, e_3, E⟩ := bind_of E
  refine ww_callV C (runs_V (n := 0) (st := []) C [] (M_X10_token l G ad N hG x0 dy1 Tx0 e_3) ⟨q1492, q118, by decide⟩ q1489 q1491 q42 (ci := 10) rfl Tx0 rfl (Nat.le_of_ble_eq_true rfl) ⟨Nat.le_of_ble_eq_true rfl, Nat.le_of_ble_eq_true rfl⟩ ⟨Nat.zero_le _, Nat.zero_le _⟩ dX10_law_46 rfl) ?_
  refine ww_sub (lv' := [(0, .ref (ad x0)), (1, .int x1), (2, .int (1 : Int32))]) [1, 2, 0] rfl ?_
  exact (B_X10_law_49 C HR HL hG N) x0 x1 (1 : Int32) u2 Tx0 E
end P_X10_law
set_option maxHeartbeats 4000000 in
set_option maxRecDepth 100000 in
theorem M_X10_law (l : Launch) (G : GG) (ad : Nat → Nat) {S : ST} (N : Nat) (hG : Good S) (a0 : Nat) (a1 : Int32) (dy : DY) (T0 : gs S a0 = (0, 10)) {r : Int32} {dy' : DY} (E : F_X10_law S N a0 a1 dy = some (r, dy')) : MC l yX10_law cX10_law 5 (Option.some Jvm.ClassFile.FieldType.int) (5) G ad [.ref (ad a0), .int a1] S dy (fun A => QI G ad A S r dy') := by
  rw [F_X10_law_s] at E
  refine mc_of RX10 (by decide) rfl (Nat.le_of_ble_eq_true rfl) (fun p e s m args below meth c A C HR HL => ?_)
  refine ww_sub (lv' := [(0, .ref (ad a0)), (1, .int a1)]) [0, 1] rfl ?_
  refine ww_aload_n C dX10_law_0 rfl 0 rfl ?_
  refine ww_iconst (v := 0) C dX10_law_1 (by decide) ?_
  refine ww_puti (ci := 10) (k0 := 0) C dX10_law_2 rfl rfl inm10 tyX10_ok nmX10 (by decide) T0 q1278 rfl rfl rfl ?_
  refine ww_bd E (fun dy1 E => ?_)
  refine ww_aload_n C dX10_law_5 rfl 0 rfl ?_
  obtain ⟨u2, e_3, E⟩ := bind_of E
  refine ww_callV C (runs_V (n := 0) (st := []) C [] (M_X10_takeTape l G ad N hG a0 dy1 T0 e_3) ⟨q1484, q118, by decide⟩ q1481 q1483 q40 (ci := 10) rfl T0 rfl (Nat.le_of_ble_eq_true rfl) ⟨Nat.le_of_ble_eq_true rfl, Nat.le_of_ble_eq_true rfl⟩ ⟨Nat.zero_le _, Nat.zero_le _⟩ dX10_law_6 rfl) ?_
  refine ww_iload_n C dX10_law_9 rfl 1 rfl ?_
  refine ww_iconst (v := (-1)) C dX10_law_10 (by decide) ?_
  refine ww_icmp_ne (tgt := 27) C dX10_law_11 (by decide) E (fun _ E => ?_) (fun _ E => ?_)
  · refine ww_aload_n C dX10_law_27 rfl 0 rfl ?_
    refine ww_iload_n C dX10_law_28 rfl 1 rfl ?_
    obtain ⟨u4, e_5, E⟩ := bind_of E
    refine ww_callI C (runs_V (n := 1) (st := []) C [.int a1] (M_X10_isLaw l G ad N hG a0 a1 u2 T0 e_5) ⟨q1587, q118, by decide⟩ q1584 q1586 q61 (ci := 10) rfl T0 rfl (Nat.le_of_ble_eq_true rfl) ⟨Nat.le_of_ble_eq_true rfl, Nat.le_of_ble_eq_true rfl⟩ ⟨Nat.zero_le _, Nat.zero_le _⟩ dX10_law_29 rfl) ?_
    refine ww_if_ne (tgt := 38) C dX10_law_32 (by decide) E (fun _ E => ?_) (fun _ E => ?_)
    · refine ww_sub (lv' := [(0, .ref (ad a0)), (1, .int a1)]) [0, 1] rfl ?_
      exact (B_X10_law_38 C HR HL hG) a0 a1 u4.2 T0 E
    · refine ww_bipush (v := (-2)) C dX10_law_35 (by decide) ?_
      exact ww_iret C HR HL dX10_law_37 E
  · refine ww_aload_n C dX10_law_14 rfl 0 rfl ?_
    have T_6 : gs S (gr S a0 12) = (1, 4) := hG.1 _ 10 T0 12 (by decide)
    refine ww_getr (ci := 10) (k0 := 12) C dX10_law_15 rfl rfl inm10 (by decide) T0 q1290 rfl T_6 (by decide) ?_
    refine ww_iconst (v := 0) C dX10_law_18 (by decide) ?_
    refine ww_iald C dX10_law_19 T_6 E (fun _ E => ?_)
    refine ww_iconst (v := 3) C dX10_law_20 (by decide) ?_
    refine ww_icmp_ne (tgt := 38) C dX10_law_21 (by decide) E (fun _ E => ?_) (fun _ E => ?_)
    · refine ww_sub (lv' := [(0, .ref (ad a0)), (1, .int a1)]) [0, 1] rfl ?_
      exact (B_X10_law_38 C HR HL hG) a0 a1 u2 T0 E
    · refine ww_goto (tgt := 35) C dX10_law_24 (by decide) ?_
      refine ww_bipush (v := (-2)) C dX10_law_35 (by decide) ?_
      exact ww_iret C HR HL dX10_law_37 E
section P_X10_match
variable {p : Program} {l : Launch} {e : Env} {s : State} {m : MethodId} {args : Array Value} {below : List Frame} {meth : Method} {c : Code} {G : GG} {A : Nat → Prop} {ad : Nat → Nat} {S : ST} {N : Nat} {r : Int32} {dy' : DY}
end P_X10_match
set_option maxHeartbeats 4000000 in
set_option maxRecDepth 100000 in
theorem M_X10_match (l : Launch) (G : GG) (ad : Nat → Nat) {S : ST} (N : Nat) (hG : Good S) (a0 : Nat) (a1 : Int32) (a2 : Int32) (a3 : Int32) (dy : DY) (T0 : gs S a0 = (0, 10)) {r : Int32} {dy' : DY} (E : F_X10_match S N a0 a1 a2 a3 dy = some (r, dy')) : MC l yX10_match cX10_match 4 (Option.some Jvm.ClassFile.FieldType.int) (3) G ad [.ref (ad a0), .int a1, .int a2, .int a3] S dy (fun A => QI G ad A S r dy') := by
  rw [F_X10_match_s] at E
  refine mc_of RX10 (by decide) rfl (Nat.le_of_ble_eq_true rfl) (fun p e s m args below meth c A C HR HL => ?_)
  refine ww_sub (lv' := [(0, .ref (ad a0)), (1, .int a1), (2, .int a2), (3, .int a3)]) [0, 1, 2, 3] rfl ?_
  refine ww_aload_n C dX10_match_0 rfl 0 rfl ?_
  refine ww_iconst (v := 0) C dX10_match_1 (by decide) ?_
  refine ww_puti (ci := 10) (k0 := 0) C dX10_match_2 rfl rfl inm10 tyX10_ok nmX10 (by decide) T0 q1278 rfl rfl rfl ?_
  refine ww_bd E (fun dy1 E => ?_)
  refine ww_iload_n C dX10_match_5 rfl 1 rfl ?_
  refine ww_iload_n C dX10_match_6 rfl 2 rfl ?_
  obtain ⟨u2, e_3, E⟩ := bind_of E
  refine ww_callI C (runs_S (n := 2) (st := []) C [.int a1, .int a2] (M_X10_isMatch l G ad N hG a1 a2 dy1 e_3) ⟨q1877, q118, by decide⟩ q1875 q1876 rfl (Nat.le_of_ble_eq_true rfl) ⟨Nat.le_of_ble_eq_true rfl, Nat.le_of_ble_eq_true rfl⟩ ⟨Nat.zero_le _, Nat.zero_le _⟩ dX10_match_7 rfl) ?_
  refine ww_if_eq (tgt := 29) C dX10_match_10 (by decide) E (fun _ E => ?_) (fun _ E => ?_)
  · refine ww_iconst (v := (-1)) C dX10_match_29 (by decide) ?_
    exact ww_iret C HR HL dX10_match_30 E
  · refine ww_iload_n C dX10_match_13 rfl 3 rfl ?_
    refine ww_iconst (v := 0) C dX10_match_14 (by decide) ?_
    refine ww_aload_n C dX10_match_15 rfl 0 rfl ?_
    have T_4 : gs S (gr S a0 15) = (1, 32) := hG.1 _ 10 T0 15 (by decide)
    refine ww_getr (ci := 10) (k0 := 15) C dX10_match_16 rfl rfl inm10 (by decide) T0 q1293 rfl T_4 (by decide) ?_
    refine ww_iload_n C dX10_match_19 rfl 1 rfl ?_
    refine ww_iald C dX10_match_20 T_4 E (fun _ E => ?_)
    refine ww_iconst (v := 1) C dX10_match_21 (by decide) ?_
    refine ww_isub C dX10_match_22 ?_
    obtain ⟨u5, e_6, E⟩ := bind_of E
    refine ww_callI C (runs_S (n := 3) (st := []) C [.int a3, .int (0 : Int32), .int ((gi u2.2 (gr S a0 15) a1.toNatClampNeg) - (1 : Int32))] (M_X10_in l G ad N hG a3 (0 : Int32) ((gi u2.2 (gr S a0 15) a1.toNatClampNeg) - (1 : Int32)) u2.2 e_6) ⟨q1476, q118, by decide⟩ q1474 q1475 rfl (Nat.le_of_ble_eq_true rfl) ⟨Nat.le_of_ble_eq_true rfl, Nat.le_of_ble_eq_true rfl⟩ ⟨Nat.zero_le _, Nat.zero_le _⟩ dX10_match_23 rfl) ?_
    refine ww_if_ne (tgt := 31) C dX10_match_26 (by decide) E (fun _ E => ?_) (fun _ E => ?_)
    · refine ww_aload_n C dX10_match_31 rfl 0 rfl ?_
      refine ww_iload_n C dX10_match_32 rfl 1 rfl ?_
      refine ww_iload_n C dX10_match_33 rfl 2 rfl ?_
      obtain ⟨u7, e_8, E⟩ := bind_of E
      refine ww_callV C (runs_V (n := 2) (st := []) C [.int a1, .int a2] (M_X10_findMatch l G ad N hG a0 a1 a2 u5.2 T0 e_8) ⟨q1881, q118, by decide⟩ q1878 q1880 q104 (ci := 10) rfl T0 rfl (Nat.le_of_ble_eq_true rfl) ⟨Nat.le_of_ble_eq_true rfl, Nat.le_of_ble_eq_true rfl⟩ ⟨Nat.zero_le _, Nat.zero_le _⟩ dX10_match_34 rfl) ?_
      refine ww_aload_n C dX10_match_37 rfl 0 rfl ?_
      have T_9 : gs S (gr S a0 57) = (1, 6) := hG.1 _ 10 T0 57 (by decide)
      refine ww_getr (ci := 10) (k0 := 57) C dX10_match_38 rfl rfl inm10 (by decide) T0 q1335 rfl T_9 (by decide) ?_
      refine ww_iload_n C dX10_match_41 rfl 3 rfl ?_
      refine ww_iald C dX10_match_42 T_9 E (fun _ E => ?_)
      exact ww_iret C HR HL dX10_match_43 E
    · refine ww_iconst (v := (-1)) C dX10_match_29 (by decide) ?_
      exact ww_iret C HR HL dX10_match_30 E
section P_X10_ofLine
variable {p : Program} {l : Launch} {e : Env} {s : State} {m : MethodId} {args : Array Value} {below : List Frame} {meth : Method} {c : Code} {G : GG} {A : Nat → Prop} {ad : Nat → Nat} {S : ST} {N : Nat} {r : Int32} {dy' : DY}
end P_X10_ofLine
set_option maxHeartbeats 4000000 in
set_option maxRecDepth 100000 in
theorem M_X10_ofLine (l : Launch) (G : GG) (ad : Nat → Nat) {S : ST} (N : Nat) (hG : Good S) (a0 : Nat) (a1 : Int32) (a2 : Int32) (a3 : Int32) (dy : DY) (T0 : gs S a0 = (0, 10)) {r : Int32} {dy' : DY} (E : F_X10_ofLine S N a0 a1 a2 a3 dy = some (r, dy')) : MC l yX10_ofLine cX10_ofLine 5 (Option.some Jvm.ClassFile.FieldType.boolean) (4) G ad [.ref (ad a0), .int a1, .int a2, .int a3] S dy (fun A => QI G ad A S r dy') := by
  rw [F_X10_ofLine_s] at E
  refine mc_of RX10 (by decide) rfl (Nat.le_of_ble_eq_true rfl) (fun p e s m args below meth c A C HR HL => ?_)
  refine ww_sub (lv' := [(0, .ref (ad a0)), (1, .int a1), (2, .int a2), (3, .int a3)]) [0, 1, 2, 3] rfl ?_
  refine ww_aload_n C dX10_ofLine_0 rfl 0 rfl ?_
  refine ww_iconst (v := 0) C dX10_ofLine_1 (by decide) ?_
  refine ww_aload_n C dX10_ofLine_2 rfl 0 rfl ?_
  refine ww_geti (ci := 10) (k0 := 31) C dX10_ofLine_3 rfl rfl inm10 (by decide) T0 q1309 rfl ?_
  refine ww_iconst (v := 1) C dX10_ofLine_6 (by decide) ?_
  refine ww_isub C dX10_ofLine_7 ?_
  obtain ⟨u1, e_2, E⟩ := bind_of E
  refine ww_callI C (runs_V (n := 2) (st := []) C [.int (0 : Int32), .int ((gi dy a0 31) - (1 : Int32))] (M_X10_number l G ad N hG a0 (0 : Int32) ((gi dy a0 31) - (1 : Int32)) dy T0 e_2) ⟨q1516, q118, by decide⟩ q1513 q1515 q47 (ci := 10) rfl T0 rfl (Nat.le_of_ble_eq_true rfl) ⟨Nat.le_of_ble_eq_true rfl, Nat.le_of_ble_eq_true rfl⟩ ⟨Nat.zero_le _, Nat.zero_le _⟩ dX10_ofLine_8 rfl) ?_
  refine ww_if_ne (tgt := 16) C dX10_ofLine_11 (by decide) E (fun _ E => ?_) (fun _ E => ?_)
  · refine ww_aload_n C dX10_ofLine_16 rfl 0 rfl ?_
    refine ww_geti (ci := 10) (k0 := 27) C dX10_ofLine_17 rfl rfl inm10 (by decide) T0 q1305 rfl ?_
    refine ww_istore (lv' := [(4, .int (gi u1.2 a0 27)), (0, .ref (ad a0)), (1, .int a1), (2, .int a2), (3, .int a3)]) C dX10_ofLine_20 (by decide) rfl ?_
    refine ww_aload_n C dX10_ofLine_22 rfl 1 rfl ?_
    refine ww_iload_n C dX10_ofLine_23 rfl 3 rfl ?_
    refine ww_iload_n C dX10_ofLine_24 rfl 4 rfl ?_
    obtain ⟨u3, e_4, E⟩ := bind_of E
    refine ww_callI C (runs_V (n := 2) (st := []) C [.int a2, .int a3] (M_X10_number l G ad N hG a0 a2 a3 u1.2 T0 e_4) ⟨q1516, q118, by decide⟩ q1513 q1515 q47 (ci := 10) rfl T0 rfl (Nat.le_of_ble_eq_true rfl) ⟨Nat.le_of_ble_eq_true rfl, Nat.le_of_ble_eq_true rfl⟩ ⟨Nat.zero_le _, Nat.zero_le _⟩ dX10_ofLine_25 rfl) ?_
    refine ww_if_ne (tgt := 33) C dX10_ofLine_28 (by decide) E (fun _ E => ?_) (fun _ E => ?_)
    · refine ww_aload_n C dX10_ofLine_33 rfl 1 rfl ?_
      refine ww_getz (ci := 10) (k0 := 28) C dX10_ofLine_34 rfl rfl inm10 (by decide) T0 q1306 rfl ?_
      refine ww_if_eq (tgt := 56) C dX10_ofLine_37 (by decide) E (fun _ E => ?_) (fun _ E => ?_)
      · refine ww_iconst (v := 1) C dX10_ofLine_56 (by decide) ?_
        exact ww_zret C HR HL dX10_ofLine_57 (Or.inr rfl) E
      · refine ww_aload_n C dX10_ofLine_40 rfl 1 rfl ?_
        have T_5 : gs S (gr S a0 34) = (1, 104) := hG.1 _ 10 T0 34 (by decide)
        refine ww_getr (ci := 10) (k0 := 34) C dX10_ofLine_41 rfl rfl inm10 (by decide) T0 q1312 rfl T_5 (by decide) ?_
        refine ww_bipush (v := 8) C dX10_ofLine_44 (by decide) ?_
        refine ww_iload C dX10_ofLine_46 0 rfl ?_
        refine ww_imul C dX10_ofLine_48 ?_
        refine ww_iload_n C dX10_ofLine_49 rfl 2 rfl ?_
        refine ww_iadd C dX10_ofLine_50 ?_
        refine ww_aload_n C dX10_ofLine_51 rfl 1 rfl ?_
        refine ww_geti (ci := 10) (k0 := 27) C dX10_ofLine_52 rfl rfl inm10 (by decide) T0 q1305 rfl ?_
        refine ww_iast C dX10_ofLine_55 T_5 E (fun _ E => ?_)
        refine ww_bd E (fun dy6 E => ?_)
        refine ww_iconst (v := 1) C dX10_ofLine_56 (by decide) ?_
        exact ww_zret C HR HL dX10_ofLine_57 (Or.inr rfl) E
    · refine ww_iconst (v := 0) C dX10_ofLine_31 (by decide) ?_
      exact ww_zret C HR HL dX10_ofLine_32 (Or.inl rfl) E
  · refine ww_iconst (v := 0) C dX10_ofLine_14 (by decide) ?_
    exact ww_zret C HR HL dX10_ofLine_15 (Or.inl rfl) E
section P_X10_on
variable {p : Program} {l : Launch} {e : Env} {s : State} {m : MethodId} {args : Array Value} {below : List Frame} {meth : Method} {c : Code} {G : GG} {A : Nat → Prop} {ad : Nat → Nat} {S : ST} {N : Nat} {r : Int32} {dy' : DY}
set_option maxHeartbeats 4000000 in
set_option maxRecDepth 100000 in
theorem B_X10_on_42 (C : CX p s m args c cX10_on 4 RX10 G A) (HR : meth.sig.returnType = (Option.some Jvm.ClassFile.FieldType.int)) (HL : meth.locks = false) (hG : Good S) : ∀ k : Nat, ∀ (x0 : Nat) (x1 : Int32) (x2 : Int32) (x3 : Int32) (dy : DY), gs S x0 = (0, 10) → (F_X10_on_42 S N k) x0 x1 x2 x3 dy = some (r, dy') → WJ p l e (rmD (3)) s m args below meth c 4 G A 0 0 (MQ below (QI G ad A S r dy') args s 0 0 A) ad 42 [(0, .ref (ad x0)), (1, .int x1), (2, .int x2), (3, .int x3)] [] S dy := by
  intro k
  induction k with
  | zero => exact fun _ _ _ _ _ _ E => nomatch (show none = some (r, dy') from E)
  | succ k ih =>
    intro x0 x1 x2 x3 dy Tx0 E
    rw [F_X10_on_42_s] at E
    refine ww_iload_n C dX10_on_42 rfl 3 rfl ?_
    refine ww_aload_n C dX10_on_43 rfl 0 rfl ?_
    have T_1 : gs S (gr S x0 39) = (1, 10080) := hG.1 _ 10 Tx0 39 (by decide)
    refine ww_getr (ci := 10) (k0 := 39) C dX10_on_44 rfl rfl inm10 (by decide) Tx0 q1317 rfl T_1 (by decide) ?_
    refine ww_iconst (v := 2) C dX10_on_47 (by decide) ?_
    refine ww_iald C dX10_on_48 T_1 E (fun _ E => ?_)
    refine ww_icmp_ge (tgt := 90) C dX10_on_49 (by decide) E (fun _ E => ?_) (fun _ E => ?_)
    · refine ww_iconst (v := (-1)) C dX10_on_90 (by decide) ?_
      exact ww_iret C HR HL dX10_on_91 E
    · refine ww_aload_n C dX10_on_52 rfl 0 rfl ?_
      have T_2 : gs S (gr S x0 39) = (1, 10080) := hG.1 _ 10 Tx0 39 (by decide)
      refine ww_getr (ci := 10) (k0 := 39) C dX10_on_53 rfl rfl inm10 (by decide) Tx0 q1317 rfl T_2 (by decide) ?_
      refine ww_iconst (v := 0) C dX10_on_56 (by decide) ?_
      refine ww_iload_n C dX10_on_57 rfl 3 rfl ?_
      obtain ⟨u3, e_4, E⟩ := bind_of E
      refine ww_callI C (runs_S (n := 2) (st := [.ref (ad (gr S x0 39))]) C [.int (0 : Int32), .int x3] (M_X10_at l G ad N hG (0 : Int32) x3 dy e_4) ⟨q1644, q118, by decide⟩ q1642 q1643 rfl (Nat.le_of_ble_eq_true rfl) ⟨Nat.le_of_ble_eq_true rfl, Nat.le_of_ble_eq_true rfl⟩ ⟨Nat.zero_le _, Nat.zero_le _⟩ dX10_on_58 rfl) ?_
      refine ww_iald C dX10_on_61 T_2 E (fun _ E => ?_)
      refine ww_iload_n C dX10_on_62 rfl 1 rfl ?_
      refine ww_icmp_ne (tgt := 84) C dX10_on_63 (by decide) E (fun _ E => ?_) (fun _ E => ?_)
      · refine ww_iinc (v := (x3 + (1 : Int32))) (lv' := [(3, .int (x3 + (1 : Int32))), (0, .ref (ad x0)), (1, .int x1), (2, .int x2)]) C dX10_on_84 3 rfl rfl (by decide) rfl ?_
        refine ww_goto (tgt := 42) C dX10_on_87 (by decide) ?_
        refine ww_sub (lv' := [(0, .ref (ad x0)), (1, .int x1), (2, .int x2), (3, .int (x3 + (1 : Int32)))]) [1, 2, 3, 0] rfl ?_
        exact ih x0 x1 x2 (x3 + (1 : Int32)) u3.2 Tx0 E
      · refine ww_aload_n C dX10_on_66 rfl 0 rfl ?_
        have T_5 : gs S (gr S x0 39) = (1, 10080) := hG.1 _ 10 Tx0 39 (by decide)
        refine ww_getr (ci := 10) (k0 := 39) C dX10_on_67 rfl rfl inm10 (by decide) Tx0 q1317 rfl T_5 (by decide) ?_
        refine ww_iconst (v := 0) C dX10_on_70 (by decide) ?_
        refine ww_iload_n C dX10_on_71 rfl 3 rfl ?_
        obtain ⟨u6, e_7, E⟩ := bind_of E
        refine ww_callI C (runs_S (n := 2) (st := [.ref (ad (gr S x0 39))]) C [.int (0 : Int32), .int x3] (M_X10_at l G ad N hG (0 : Int32) x3 u3.2 e_7) ⟨q1644, q118, by decide⟩ q1642 q1643 rfl (Nat.le_of_ble_eq_true rfl) ⟨Nat.le_of_ble_eq_true rfl, Nat.le_of_ble_eq_true rfl⟩ ⟨Nat.zero_le _, Nat.zero_le _⟩ dX10_on_72 rfl) ?_
        refine ww_iconst (v := 4) C dX10_on_75 (by decide) ?_
        refine ww_iadd C dX10_on_76 ?_
        refine ww_iald C dX10_on_77 T_5 E (fun _ E => ?_)
        refine ww_iload_n C dX10_on_78 rfl 2 rfl ?_
        refine ww_icmp_ne (tgt := 84) C dX10_on_79 (by decide) E (fun _ E => ?_) (fun _ E => ?_)
        · refine ww_iinc (v := (x3 + (1 : Int32))) (lv' := [(3, .int (x3 + (1 : Int32))), (0, .ref (ad x0)), (1, .int x1), (2, .int x2)]) C dX10_on_84 3 rfl rfl (by decide) rfl ?_
          refine ww_goto (tgt := 42) C dX10_on_87 (by decide) ?_
          refine ww_sub (lv' := [(0, .ref (ad x0)), (1, .int x1), (2, .int x2), (3, .int (x3 + (1 : Int32)))]) [1, 2, 3, 0] rfl ?_
          exact ih x0 x1 x2 (x3 + (1 : Int32)) u6.2 Tx0 E
        · refine ww_iload_n C dX10_on_82 rfl 3 rfl ?_
          exact ww_iret C HR HL dX10_on_83 E
end P_X10_on
set_option maxHeartbeats 4000000 in
set_option maxRecDepth 100000 in
theorem M_X10_on (l : Launch) (G : GG) (ad : Nat → Nat) {S : ST} (N : Nat) (hG : Good S) (a0 : Nat) (a1 : Int32) (a2 : Int32) (dy : DY) (T0 : gs S a0 = (0, 10)) {r : Int32} {dy' : DY} (E : F_X10_on S N a0 a1 a2 dy = some (r, dy')) : MC l yX10_on cX10_on 4 (Option.some Jvm.ClassFile.FieldType.int) (3) G ad [.ref (ad a0), .int a1, .int a2] S dy (fun A => QI G ad A S r dy') := by
  rw [F_X10_on_s] at E
  refine mc_of RX10 (by decide) rfl (Nat.le_of_ble_eq_true rfl) (fun p e s m args below meth c A C HR HL => ?_)
  refine ww_sub (lv' := [(0, .ref (ad a0)), (1, .int a1), (2, .int a2)]) [0, 1, 2] rfl ?_
  refine ww_aload_n C dX10_on_0 rfl 0 rfl ?_
  refine ww_iconst (v := 0) C dX10_on_1 (by decide) ?_
  refine ww_puti (ci := 10) (k0 := 0) C dX10_on_2 rfl rfl inm10 tyX10_ok nmX10 (by decide) T0 q1278 rfl rfl rfl ?_
  refine ww_bd E (fun dy1 E => ?_)
  refine ww_aload_n C dX10_on_5 rfl 0 rfl ?_
  have T_2 : gs S (gr S a0 39) = (1, 10080) := hG.1 _ 10 T0 39 (by decide)
  refine ww_getr (ci := 10) (k0 := 39) C dX10_on_6 rfl rfl inm10 (by decide) T0 q1317 rfl T_2 (by decide) ?_
  refine ww_bipush (v := 10) C dX10_on_9 (by decide) ?_
  refine ww_iald C dX10_on_11 T_2 E (fun _ E => ?_)
  refine ww_if_eq (tgt := 25) C dX10_on_12 (by decide) E (fun _ E => ?_) (fun _ E => ?_)
  · refine ww_iconst (v := (-1)) C dX10_on_25 (by decide) ?_
    exact ww_iret C HR HL dX10_on_26 E
  · refine ww_aload_n C dX10_on_15 rfl 0 rfl ?_
    refine ww_iconst (v := 0) C dX10_on_16 (by decide) ?_
    refine ww_iload_n C dX10_on_17 rfl 1 rfl ?_
    refine ww_iload_n C dX10_on_18 rfl 2 rfl ?_
    obtain ⟨u3, e_4, E⟩ := bind_of E
    refine ww_callI C (runs_V (n := 3) (st := []) C [.int (0 : Int32), .int a1, .int a2] (M_X10_isInside l G ad N hG a0 (0 : Int32) a1 a2 dy1 T0 e_4) ⟨q1688, q118, by decide⟩ q1685 q1687 q76 (ci := 10) rfl T0 rfl (Nat.le_of_ble_eq_true rfl) ⟨Nat.le_of_ble_eq_true rfl, Nat.le_of_ble_eq_true rfl⟩ ⟨Nat.zero_le _, Nat.zero_le _⟩ dX10_on_19 rfl) ?_
    refine ww_if_ne (tgt := 27) C dX10_on_22 (by decide) E (fun _ E => ?_) (fun _ E => ?_)
    · refine ww_aload_n C dX10_on_27 rfl 0 rfl ?_
      refine ww_iconst (v := 0) C dX10_on_28 (by decide) ?_
      refine ww_iload_n C dX10_on_29 rfl 1 rfl ?_
      refine ww_iload_n C dX10_on_30 rfl 2 rfl ?_
      obtain ⟨u5, e_6, E⟩ := bind_of E
      refine ww_callI C (runs_V (n := 3) (st := []) C [.int (0 : Int32), .int a1, .int a2] (M_X10_isWall l G ad N hG a0 (0 : Int32) a1 a2 u3.2 T0 e_6) ⟨q1692, q118, by decide⟩ q1689 q1691 q77 (ci := 10) rfl T0 rfl (Nat.le_of_ble_eq_true rfl) ⟨Nat.le_of_ble_eq_true rfl, Nat.le_of_ble_eq_true rfl⟩ ⟨Nat.zero_le _, Nat.zero_le _⟩ dX10_on_31 rfl) ?_
      refine ww_if_eq (tgt := 40) C dX10_on_34 (by decide) E (fun _ E => ?_) (fun _ E => ?_)
      · refine ww_iconst (v := 0) C dX10_on_40 (by decide) ?_
        refine ww_istore_n (lv' := [(3, .int (0 : Int32)), (0, .ref (ad a0)), (1, .int a1), (2, .int a2)]) C dX10_on_41 rfl (by decide) rfl ?_
        refine ww_sub (lv' := [(0, .ref (ad a0)), (1, .int a1), (2, .int a2), (3, .int (0 : Int32))]) [1, 2, 3, 0] rfl ?_
        exact (B_X10_on_42 C HR HL hG N) a0 a1 a2 (0 : Int32) u5.2 T0 E
      · refine ww_bipush (v := 100) C dX10_on_37 (by decide) ?_
        exact ww_iret C HR HL dX10_on_39 E
    · refine ww_iconst (v := (-1)) C dX10_on_25 (by decide) ?_
      exact ww_iret C HR HL dX10_on_26 E
section P_X10_opened
variable {p : Program} {l : Launch} {e : Env} {s : State} {m : MethodId} {args : Array Value} {below : List Frame} {meth : Method} {c : Code} {G : GG} {A : Nat → Prop} {ad : Nat → Nat} {S : ST} {N : Nat} {r : Int32} {dy' : DY}
set_option maxHeartbeats 4000000 in
set_option maxRecDepth 100000 in
theorem B_X10_opened_37 (C : CX p s m args c cX10_opened 8 RX10 G A) (HR : meth.sig.returnType = (Option.some Jvm.ClassFile.FieldType.int)) (HL : meth.locks = false) (hG : Good S) : ∀ k : Nat, ∀ (x0 : Nat) (x1 : Int32) (x2 : Int32) (x3 : Int32) (x4 : Int32) (x5 : Int32) (x6 : Int32) (x7 : Int32) (dy : DY), gs S x0 = (0, 10) → (F_X10_opened_37 S N k) x0 x1 x2 x3 x4 x5 x6 x7 dy = some (r, dy') → WJ p l e (rmD (12)) s m args below meth c 8 G A 0 0 (MQ below (QI G ad A S r dy') args s 0 0 A) ad 37 [(0, .ref (ad x0)), (1, .int x1), (2, .int x2), (3, .int x3), (4, .int x4), (5, .int x5), (6, .int x6), (7, .int x7)] [] S dy := by
  intro k
  induction k with
  | zero => exact fun _ _ _ _ _ _ _ _ _ _ E => nomatch (show none = some (r, dy') from E)
  | succ k ih =>
    intro x0 x1 x2 x3 x4 x5 x6 x7 dy Tx0 E
    rw [F_X10_opened_37_s] at E
    refine ww_iload C dX10_opened_37 7 rfl ?_
    refine ww_bipush (v := 96) C dX10_opened_39 (by decide) ?_
    refine ww_icmp_ge (tgt := 136) C dX10_opened_41 (by decide) E (fun _ E => ?_) (fun _ E => ?_)
    · refine ww_iload C dX10_opened_136 6 rfl ?_
      exact ww_iret C HR HL dX10_opened_138 E
    · refine ww_aload_n C dX10_opened_44 rfl 0 rfl ?_
      have T_1 : gs S (gr S x0 10) = (1, 1152) := hG.1 _ 10 Tx0 10 (by decide)
      refine ww_getr (ci := 10) (k0 := 10) C dX10_opened_45 rfl rfl inm10 (by decide) Tx0 q1288 rfl T_1 (by decide) ?_
      refine ww_bipush (v := 96) C dX10_opened_48 (by decide) ?_
      refine ww_iload_n C dX10_opened_50 rfl 1 rfl ?_
      refine ww_imul C dX10_opened_51 ?_
      refine ww_iload C dX10_opened_52 7 rfl ?_
      refine ww_iadd C dX10_opened_54 ?_
      refine ww_iald C dX10_opened_55 T_1 E (fun _ E => ?_)
      refine ww_if_ne (tgt := 62) C dX10_opened_56 (by decide) E (fun _ E => ?_) (fun _ E => ?_)
      · refine ww_aload_n C dX10_opened_62 rfl 0 rfl ?_
        refine ww_iconst (v := 4) C dX10_opened_63 (by decide) ?_
        refine ww_iload_n C dX10_opened_64 rfl 1 rfl ?_
        refine ww_iload_n C dX10_opened_65 rfl 2 rfl ?_
        refine ww_iload_n C dX10_opened_66 rfl 3 rfl ?_
        refine ww_bipush (v := 12) C dX10_opened_67 (by decide) ?_
        refine ww_iconst (v := (-1)) C dX10_opened_69 (by decide) ?_
        obtain ⟨u2, e_3, E⟩ := bind_of E
        refine ww_callV C (runs_V (n := 6) (st := []) C [.int (4 : Int32), .int x1, .int x2, .int x3, .int (12 : Int32), .int (-1 : Int32)] (M_X10_lay l G ad N hG x0 (4 : Int32) x1 x2 x3 (12 : Int32) (-1 : Int32) dy Tx0 e_3) ⟨q1641, q118, by decide⟩ q1638 q1640 q66 (ci := 10) rfl Tx0 rfl (Nat.le_of_ble_eq_true rfl) ⟨Nat.le_of_ble_eq_true rfl, Nat.le_of_ble_eq_true rfl⟩ ⟨Nat.zero_le _, Nat.zero_le _⟩ dX10_opened_70 rfl) ?_
        refine ww_aload_n C dX10_opened_73 rfl 0 rfl ?_
        have T_4 : gs S (gr S x0 39) = (1, 10080) := hG.1 _ 10 Tx0 39 (by decide)
        refine ww_getr (ci := 10) (k0 := 39) C dX10_opened_74 rfl rfl inm10 (by decide) Tx0 q1317 rfl T_4 (by decide) ?_
        refine ww_sipush (v := 3136) C dX10_opened_77 (by decide) ?_
        refine ww_iload C dX10_opened_80 7 rfl ?_
        refine ww_iadd C dX10_opened_82 ?_
        refine ww_iconst (v := 0) C dX10_opened_83 (by decide) ?_
        refine ww_iast C dX10_opened_84 T_4 E (fun _ E => ?_)
        refine ww_bd E (fun dy5 E => ?_)
        refine ww_aload_n C dX10_opened_85 rfl 0 rfl ?_
        refine ww_iload C dX10_opened_86 4 rfl ?_
        obtain ⟨u6, e_7, E⟩ := bind_of E
        refine ww_callV C (runs_V (n := 1) (st := []) C [.int x4] (M_X10_tryOn l G ad N hG x0 x4 dy5 Tx0 e_7) ⟨q1801, q118, by decide⟩ q1798 q1800 q96 (ci := 10) rfl Tx0 rfl (Nat.le_of_ble_eq_true rfl) ⟨Nat.le_of_ble_eq_true rfl, Nat.le_of_ble_eq_true rfl⟩ ⟨Nat.zero_le _, Nat.zero_le _⟩ dX10_opened_88 rfl) ?_
        refine ww_aload_n C dX10_opened_91 rfl 0 rfl ?_
        have T_8 : gs S (gr S x0 39) = (1, 10080) := hG.1 _ 10 Tx0 39 (by decide)
        refine ww_getr (ci := 10) (k0 := 39) C dX10_opened_92 rfl rfl inm10 (by decide) Tx0 q1317 rfl T_8 (by decide) ?_
        refine ww_sipush (v := 2886) C dX10_opened_95 (by decide) ?_
        refine ww_iald C dX10_opened_98 T_8 E (fun _ E => ?_)
        refine ww_iload C dX10_opened_99 5 rfl ?_
        refine ww_icmp_le (tgt := 130) C dX10_opened_101 (by decide) E (fun _ E => ?_) (fun _ E => ?_)
        · refine ww_iinc (v := (x7 + (1 : Int32))) (lv' := [(7, .int (x7 + (1 : Int32))), (0, .ref (ad x0)), (1, .int x1), (2, .int x2), (3, .int x3), (4, .int x4), (5, .int x5), (6, .int x6)]) C dX10_opened_130 7 rfl rfl (by decide) rfl ?_
          refine ww_goto (tgt := 37) C dX10_opened_133 (by decide) ?_
          refine ww_sub (lv' := [(0, .ref (ad x0)), (1, .int x1), (2, .int x2), (3, .int x3), (4, .int x4), (5, .int x5), (6, .int x6), (7, .int (x7 + (1 : Int32)))]) [1, 2, 3, 4, 5, 6, 7, 0] rfl ?_
          exact ih x0 x1 x2 x3 x4 x5 x6 (x7 + (1 : Int32)) u6 Tx0 E
        · refine ww_aload_n C dX10_opened_104 rfl 0 rfl ?_
          have T_9 : gs S (gr S x0 39) = (1, 10080) := hG.1 _ 10 Tx0 39 (by decide)
          refine ww_getr (ci := 10) (k0 := 39) C dX10_opened_105 rfl rfl inm10 (by decide) Tx0 q1317 rfl T_9 (by decide) ?_
          refine ww_sipush (v := 2886) C dX10_opened_108 (by decide) ?_
          refine ww_iald C dX10_opened_111 T_9 E (fun _ E => ?_)
          refine ww_istore (lv' := [(5, .int (gi u6 (gr S x0 39) (2886 : Int32).toNatClampNeg)), (0, .ref (ad x0)), (1, .int x1), (2, .int x2), (3, .int x3), (4, .int x4), (6, .int x6), (7, .int x7)]) C dX10_opened_112 (by decide) rfl ?_
          refine ww_bipush (v := 100) C dX10_opened_114 (by decide) ?_
          refine ww_iload C dX10_opened_116 7 rfl ?_
          refine ww_bipush (v := 6) C dX10_opened_118 (by decide) ?_
          refine ww_idiv C dX10_opened_120 E (fun _ E => ?_)
          refine ww_imul C dX10_opened_121 ?_
          refine ww_iload C dX10_opened_122 7 rfl ?_
          refine ww_bipush (v := 6) C dX10_opened_124 (by decide) ?_
          refine ww_irem C dX10_opened_126 E (fun _ E => ?_)
          refine ww_iadd C dX10_opened_127 ?_
          refine ww_istore (lv' := [(6, .int (((100 : Int32) * (x7 / (6 : Int32))) + (x7 - x7 / (6 : Int32) * (6 : Int32)))), (5, .int (gi u6 (gr S x0 39) (2886 : Int32).toNatClampNeg)), (0, .ref (ad x0)), (1, .int x1), (2, .int x2), (3, .int x3), (4, .int x4), (7, .int x7)]) C dX10_opened_128 (by decide) rfl ?_
          refine ww_iinc (v := (x7 + (1 : Int32))) (lv' := [(7, .int (x7 + (1 : Int32))), (6, .int (((100 : Int32) * (x7 / (6 : Int32))) + (x7 - x7 / (6 : Int32) * (6 : Int32)))), (5, .int (gi u6 (gr S x0 39) (2886 : Int32).toNatClampNeg)), (0, .ref (ad x0)), (1, .int x1), (2, .int x2), (3, .int x3), (4, .int x4)]) C dX10_opened_130 7 rfl rfl (by decide) rfl ?_
          refine ww_goto (tgt := 37) C dX10_opened_133 (by decide) ?_
          refine ww_sub (lv' := [(0, .ref (ad x0)), (1, .int x1), (2, .int x2), (3, .int x3), (4, .int x4), (5, .int (gi u6 (gr S x0 39) (2886 : Int32).toNatClampNeg)), (6, .int (((100 : Int32) * (x7 / (6 : Int32))) + (x7 - x7 / (6 : Int32) * (6 : Int32)))), (7, .int (x7 + (1 : Int32)))]) [3, 4, 5, 6, 7, 2, 1, 0] rfl ?_
          exact ih x0 x1 x2 x3 x4 (gi u6 (gr S x0 39) (2886 : Int32).toNatClampNeg) (((100 : Int32) * (x7 / (6 : Int32))) + (x7 - x7 / (6 : Int32) * (6 : Int32))) (x7 + (1 : Int32)) u6 Tx0 E
      · refine ww_goto (tgt := 130) C dX10_opened_59 (by decide) ?_
        refine ww_iinc (v := (x7 + (1 : Int32))) (lv' := [(7, .int (x7 + (1 : Int32))), (0, .ref (ad x0)), (1, .int x1), (2, .int x2), (3, .int x3), (4, .int x4), (5, .int x5), (6, .int x6)]) C dX10_opened_130 7 rfl rfl (by decide) rfl ?_
        refine ww_goto (tgt := 37) C dX10_opened_133 (by decide) ?_
        refine ww_sub (lv' := [(0, .ref (ad x0)), (1, .int x1), (2, .int x2), (3, .int x3), (4, .int x4), (5, .int x5), (6, .int x6), (7, .int (x7 + (1 : Int32)))]) [1, 2, 3, 4, 5, 6, 7, 0] rfl ?_
        exact ih x0 x1 x2 x3 x4 x5 x6 (x7 + (1 : Int32)) dy Tx0 E
end P_X10_opened
set_option maxHeartbeats 4000000 in
set_option maxRecDepth 100000 in
theorem M_X10_opened (l : Launch) (G : GG) (ad : Nat → Nat) {S : ST} (N : Nat) (hG : Good S) (a0 : Nat) (a1 : Int32) (a2 : Int32) (a3 : Int32) (a4 : Int32) (dy : DY) (T0 : gs S a0 = (0, 10)) {r : Int32} {dy' : DY} (E : F_X10_opened S N a0 a1 a2 a3 a4 dy = some (r, dy')) : MC l yX10_opened cX10_opened 8 (Option.some Jvm.ClassFile.FieldType.int) (12) G ad [.ref (ad a0), .int a1, .int a2, .int a3, .int a4] S dy (fun A => QI G ad A S r dy') := by
  rw [F_X10_opened_s] at E
  refine mc_of RX10 (by decide) rfl (Nat.le_of_ble_eq_true rfl) (fun p e s m args below meth c A C HR HL => ?_)
  refine ww_sub (lv' := [(0, .ref (ad a0)), (1, .int a1), (2, .int a2), (3, .int a3), (4, .int a4)]) [0, 1, 2, 3, 4] rfl ?_
  refine ww_aload_n C dX10_opened_0 rfl 0 rfl ?_
  refine ww_iconst (v := 0) C dX10_opened_1 (by decide) ?_
  refine ww_puti (ci := 10) (k0 := 0) C dX10_opened_2 rfl rfl inm10 tyX10_ok nmX10 (by decide) T0 q1278 rfl rfl rfl ?_
  refine ww_bd E (fun dy1 E => ?_)
  refine ww_aload_n C dX10_opened_5 rfl 0 rfl ?_
  refine ww_iload_n C dX10_opened_6 rfl 1 rfl ?_
  refine ww_iload_n C dX10_opened_7 rfl 2 rfl ?_
  refine ww_iload C dX10_opened_8 4 rfl ?_
  refine ww_bipush (v := 100) C dX10_opened_10 (by decide) ?_
  obtain ⟨u2, e_3, E⟩ := bind_of E
  refine ww_callI C (runs_V (n := 4) (st := []) C [.int a1, .int a2, .int a4, .int (100 : Int32)] (M_X10_isTried l G ad N hG a0 a1 a2 a4 (100 : Int32) dy1 T0 e_3) ⟨q1797, q118, by decide⟩ q1794 q1796 q95 (ci := 10) rfl T0 rfl (Nat.le_of_ble_eq_true rfl) ⟨Nat.le_of_ble_eq_true rfl, Nat.le_of_ble_eq_true rfl⟩ ⟨Nat.zero_le _, Nat.zero_le _⟩ dX10_opened_12 rfl) ?_
  refine ww_if_ne (tgt := 20) C dX10_opened_15 (by decide) E (fun _ E => ?_) (fun _ E => ?_)
  · refine ww_aload_n C dX10_opened_20 rfl 0 rfl ?_
    refine ww_iload_n C dX10_opened_21 rfl 1 rfl ?_
    refine ww_iload_n C dX10_opened_22 rfl 2 rfl ?_
    refine ww_iload_n C dX10_opened_23 rfl 3 rfl ?_
    refine ww_iload C dX10_opened_24 4 rfl ?_
    obtain ⟨u4, e_5, E⟩ := bind_of E
    refine ww_callI C (runs_V (n := 4) (st := []) C [.int a1, .int a2, .int a3, .int a4] (M_X10_arrive l G ad N hG a0 a1 a2 a3 a4 u2.2 T0 e_5) ⟨q1826, q118, by decide⟩ q1823 q1825 q99 (ci := 10) rfl T0 rfl (Nat.le_of_ble_eq_true rfl) ⟨Nat.le_of_ble_eq_true rfl, Nat.le_of_ble_eq_true rfl⟩ ⟨Nat.zero_le _, Nat.zero_le _⟩ dX10_opened_26 rfl) ?_
    refine ww_istore (lv' := [(5, .int u4.1), (0, .ref (ad a0)), (1, .int a1), (2, .int a2), (3, .int a3), (4, .int a4)]) C dX10_opened_29 (by decide) rfl ?_
    refine ww_iconst (v := (-1)) C dX10_opened_31 (by decide) ?_
    refine ww_istore (lv' := [(6, .int (-1 : Int32)), (5, .int u4.1), (0, .ref (ad a0)), (1, .int a1), (2, .int a2), (3, .int a3), (4, .int a4)]) C dX10_opened_32 (by decide) rfl ?_
    refine ww_iconst (v := 0) C dX10_opened_34 (by decide) ?_
    refine ww_istore (lv' := [(7, .int (0 : Int32)), (6, .int (-1 : Int32)), (5, .int u4.1), (0, .ref (ad a0)), (1, .int a1), (2, .int a2), (3, .int a3), (4, .int a4)]) C dX10_opened_35 (by decide) rfl ?_
    refine ww_sub (lv' := [(0, .ref (ad a0)), (1, .int a1), (2, .int a2), (3, .int a3), (4, .int a4), (5, .int u4.1), (6, .int (-1 : Int32)), (7, .int (0 : Int32))]) [3, 4, 5, 6, 7, 2, 1, 0] rfl ?_
    exact (B_X10_opened_37 C HR HL hG N) a0 a1 a2 a3 a4 u4.1 (-1 : Int32) (0 : Int32) u4.2 T0 E
  · refine ww_iconst (v := (-1)) C dX10_opened_18 (by decide) ?_
    exact ww_iret C HR HL dX10_opened_19 E
section P_X10_readSquare
variable {p : Program} {l : Launch} {e : Env} {s : State} {m : MethodId} {args : Array Value} {below : List Frame} {meth : Method} {c : Code} {G : GG} {A : Nat → Prop} {ad : Nat → Nat} {S : ST} {N : Nat} {r : Int32} {dy' : DY}
end P_X10_readSquare
set_option maxHeartbeats 4000000 in
set_option maxRecDepth 100000 in
theorem M_X10_readSquare (l : Launch) (G : GG) (ad : Nat → Nat) {S : ST} (N : Nat) (hG : Good S) (a0 : Nat) (dy : DY) (T0 : gs S a0 = (0, 10)) {r : Int32} {dy' : DY} (E : F_X10_readSquare S N a0 dy = some (r, dy')) : MC l yX10_readSquare cX10_readSquare 3 (Option.some Jvm.ClassFile.FieldType.boolean) (4) G ad [.ref (ad a0)] S dy (fun A => QI G ad A S r dy') := by
  rw [F_X10_readSquare_s] at E
  refine mc_of RX10 (by decide) rfl (Nat.le_of_ble_eq_true rfl) (fun p e s m args below meth c A C HR HL => ?_)
  refine ww_sub (lv' := [(0, .ref (ad a0))]) [0] rfl ?_
  refine ww_aload_n C dX10_readSquare_0 rfl 0 rfl ?_
  refine ww_geti (ci := 10) (k0 := 20) C dX10_readSquare_1 rfl rfl inm10 (by decide) T0 q1298 rfl ?_
  refine ww_istore_n (lv' := [(1, .int (gi dy a0 20)), (0, .ref (ad a0))]) C dX10_readSquare_4 rfl (by decide) rfl ?_
  refine ww_aload_n C dX10_readSquare_5 rfl 1 rfl ?_
  refine ww_iconst (v := 0) C dX10_readSquare_6 (by decide) ?_
  refine ww_aload_n C dX10_readSquare_7 rfl 1 rfl ?_
  refine ww_geti (ci := 10) (k0 := 29) C dX10_readSquare_8 rfl rfl inm10 (by decide) T0 q1307 rfl ?_
  refine ww_iconst (v := 1) C dX10_readSquare_11 (by decide) ?_
  refine ww_isub C dX10_readSquare_12 ?_
  obtain ⟨u1, e_2, E⟩ := bind_of E
  refine ww_callI C (runs_V (n := 2) (st := []) C [.int (0 : Int32), .int ((gi dy a0 29) - (1 : Int32))] (M_X10_number l G ad N hG a0 (0 : Int32) ((gi dy a0 29) - (1 : Int32)) dy T0 e_2) ⟨q1516, q118, by decide⟩ q1513 q1515 q47 (ci := 10) rfl T0 rfl (Nat.le_of_ble_eq_true rfl) ⟨Nat.le_of_ble_eq_true rfl, Nat.le_of_ble_eq_true rfl⟩ ⟨Nat.zero_le _, Nat.zero_le _⟩ dX10_readSquare_13 rfl) ?_
  refine ww_if_ne (tgt := 21) C dX10_readSquare_16 (by decide) E (fun _ E => ?_) (fun _ E => ?_)
  · refine ww_aload_n C dX10_readSquare_21 rfl 1 rfl ?_
    refine ww_geti (ci := 10) (k0 := 27) C dX10_readSquare_22 rfl rfl inm10 (by decide) T0 q1305 rfl ?_
    refine ww_istore_n (lv' := [(2, .int (gi u1.2 a0 27)), (1, .int (gi dy a0 20)), (0, .ref (ad a0))]) C dX10_readSquare_25 rfl (by decide) rfl ?_
    refine ww_aload_n C dX10_readSquare_26 rfl 2 rfl ?_
    refine ww_iconst (v := 0) C dX10_readSquare_27 (by decide) ?_
    refine ww_aload_n C dX10_readSquare_28 rfl 2 rfl ?_
    refine ww_geti (ci := 10) (k0 := 30) C dX10_readSquare_29 rfl rfl inm10 (by decide) T0 q1308 rfl ?_
    refine ww_iconst (v := 1) C dX10_readSquare_32 (by decide) ?_
    refine ww_isub C dX10_readSquare_33 ?_
    obtain ⟨u3, e_4, E⟩ := bind_of E
    refine ww_callI C (runs_V (n := 2) (st := []) C [.int (0 : Int32), .int ((gi u1.2 a0 30) - (1 : Int32))] (M_X10_number l G ad N hG a0 (0 : Int32) ((gi u1.2 a0 30) - (1 : Int32)) u1.2 T0 e_4) ⟨q1516, q118, by decide⟩ q1513 q1515 q47 (ci := 10) rfl T0 rfl (Nat.le_of_ble_eq_true rfl) ⟨Nat.le_of_ble_eq_true rfl, Nat.le_of_ble_eq_true rfl⟩ ⟨Nat.zero_le _, Nat.zero_le _⟩ dX10_readSquare_34 rfl) ?_
    refine ww_if_ne (tgt := 42) C dX10_readSquare_37 (by decide) E (fun _ E => ?_) (fun _ E => ?_)
    · refine ww_aload_n C dX10_readSquare_42 rfl 2 rfl ?_
      refine ww_bipush (v := 6) C dX10_readSquare_43 (by decide) ?_
      refine ww_iload_n C dX10_readSquare_45 rfl 0 rfl ?_
      refine ww_imul C dX10_readSquare_46 ?_
      refine ww_aload_n C dX10_readSquare_47 rfl 2 rfl ?_
      refine ww_geti (ci := 10) (k0 := 27) C dX10_readSquare_48 rfl rfl inm10 (by decide) T0 q1305 rfl ?_
      refine ww_iadd C dX10_readSquare_51 ?_
      refine ww_puti (ci := 10) (k0 := 35) C dX10_readSquare_52 rfl rfl inm10 tyX10_ok nmX10 (by decide) T0 q1313 rfl rfl rfl ?_
      refine ww_bd E (fun dy5 E => ?_)
      refine ww_aload_n C dX10_readSquare_55 rfl 2 rfl ?_
      refine ww_getz (ci := 10) (k0 := 28) C dX10_readSquare_56 rfl rfl inm10 (by decide) T0 q1306 rfl ?_
      refine ww_if_eq (tgt := 79) C dX10_readSquare_59 (by decide) E (fun _ E => ?_) (fun _ E => ?_)
      · refine ww_iconst (v := 1) C dX10_readSquare_79 (by decide) ?_
        exact ww_zret C HR HL dX10_readSquare_80 (Or.inr rfl) E
      · refine ww_aload_n C dX10_readSquare_62 rfl 2 rfl ?_
        refine ww_aload_n C dX10_readSquare_63 rfl 2 rfl ?_
        refine ww_geti (ci := 10) (k0 := 35) C dX10_readSquare_64 rfl rfl inm10 (by decide) T0 q1313 rfl ?_
        obtain ⟨u6, e_7, E⟩ := bind_of E
        refine ww_callI C (runs_V (n := 1) (st := []) C [.int (gi dy5 a0 35)] (M_X10_isTaken l G ad N hG a0 (gi dy5 a0 35) dy5 T0 e_7) ⟨q1551, q118, by decide⟩ q1548 q1550 q54 (ci := 10) rfl T0 rfl (Nat.le_of_ble_eq_true rfl) ⟨Nat.le_of_ble_eq_true rfl, Nat.le_of_ble_eq_true rfl⟩ ⟨Nat.zero_le _, Nat.zero_le _⟩ dX10_readSquare_67 rfl) ?_
        refine ww_if_eq (tgt := 79) C dX10_readSquare_70 (by decide) E (fun _ E => ?_) (fun _ E => ?_)
        · refine ww_iconst (v := 1) C dX10_readSquare_79 (by decide) ?_
          exact ww_zret C HR HL dX10_readSquare_80 (Or.inr rfl) E
        · refine ww_aload_n C dX10_readSquare_73 rfl 2 rfl ?_
          refine ww_iconst (v := 4) C dX10_readSquare_74 (by decide) ?_
          refine ww_iload_n C dX10_readSquare_75 rfl 1 rfl ?_
          obtain ⟨u8, e_9, E⟩ := bind_of E
          refine ww_callV C (runs_V (n := 2) (st := []) C [.int (4 : Int32), .int (gi dy a0 20)] (M_X10_later l G ad N hG a0 (4 : Int32) (gi dy a0 20) u6.2 T0 e_9) ⟨q1520, q118, by decide⟩ q1517 q1519 q48 (ci := 10) rfl T0 rfl (Nat.le_of_ble_eq_true rfl) ⟨Nat.le_of_ble_eq_true rfl, Nat.le_of_ble_eq_true rfl⟩ ⟨Nat.zero_le _, Nat.zero_le _⟩ dX10_readSquare_76 rfl) ?_
          refine ww_iconst (v := 1) C dX10_readSquare_79 (by decide) ?_
          exact ww_zret C HR HL dX10_readSquare_80 (Or.inr rfl) E
    · refine ww_iconst (v := 0) C dX10_readSquare_40 (by decide) ?_
      exact ww_zret C HR HL dX10_readSquare_41 (Or.inl rfl) E
  · refine ww_iconst (v := 0) C dX10_readSquare_19 (by decide) ?_
    exact ww_zret C HR HL dX10_readSquare_20 (Or.inl rfl) E
section P_X10_walkerLine
variable {p : Program} {l : Launch} {e : Env} {s : State} {m : MethodId} {args : Array Value} {below : List Frame} {meth : Method} {c : Code} {G : GG} {A : Nat → Prop} {ad : Nat → Nat} {S : ST} {N : Nat} {r : Int32} {dy' : DY}
set_option maxHeartbeats 4000000 in
set_option maxRecDepth 100000 in
theorem B_X10_walkerLine_197 (C : CX p s m args c cX10_walkerLine 3 RX10 G A) (HR : meth.sig.returnType = (Option.some Jvm.ClassFile.FieldType.boolean)) (HL : meth.locks = false) (hG : Good S) : ∀ (x0 : Nat) (y0 : Nat) (y1 : Int32) (y2 : Int32) (dy : DY), gs S x0 = (0, 10) → gs S y0 = (0, 10) → F_X10_walkerLine_197 S N x0 y0 y1 y2 dy = some (r, dy') → WJ p l e (rmD (5)) s m args below meth c 3 G A 0 0 (MQ below (QI G ad A S r dy') args s 0 0 A) ad 197 [(0, .ref (ad x0))] [.int y2, .int y1, .ref (ad y0)] S dy := by
  intro x0 y0 y1 y2 dy Tx0 Ty0 E
  rw [F_X10_walkerLine_197_s] at E
  refine ww_iadd C dX10_walkerLine_197 ?_
  refine ww_puti (ci := 10) (k0 := 31) C dX10_walkerLine_198 rfl rfl inm10 tyX10_ok nmX10 (by decide) Ty0 q1309 rfl rfl rfl ?_
  refine ww_bd E (fun dy1 E => ?_)
  refine ww_aload_n C dX10_walkerLine_201 rfl 0 rfl ?_
  obtain ⟨u2, e_3, E⟩ := bind_of E
  refine ww_callV C (runs_V (n := 0) (st := []) C [] (M_X10_token l G ad N hG x0 dy1 Tx0 e_3) ⟨q1492, q118, by decide⟩ q1489 q1491 q42 (ci := 10) rfl Tx0 rfl (Nat.le_of_ble_eq_true rfl) ⟨Nat.le_of_ble_eq_true rfl, Nat.le_of_ble_eq_true rfl⟩ ⟨Nat.zero_le _, Nat.zero_le _⟩ dX10_walkerLine_202 rfl) ?_
  refine ww_iconst (v := 1) C dX10_walkerLine_205 (by decide) ?_
  exact ww_zret C HR HL dX10_walkerLine_206 (Or.inr rfl) E
set_option maxHeartbeats 4000000 in
set_option maxRecDepth 100000 in
theorem B_X10_walkerLine_177 (C : CX p s m args c cX10_walkerLine 3 RX10 G A) (HR : meth.sig.returnType = (Option.some Jvm.ClassFile.FieldType.boolean)) (HL : meth.locks = false) (hG : Good S) : ∀ (x0 : Nat) (y0 : Nat) (y1 : Int32) (y2 : Int32) (dy : DY), gs S x0 = (0, 10) → gs S y0 = (1, 104) → F_X10_walkerLine_177 S N x0 y0 y1 y2 dy = some (r, dy') → WJ p l e (rmD (5)) s m args below meth c 3 G A 0 0 (MQ below (QI G ad A S r dy') args s 0 0 A) ad 177 [(0, .ref (ad x0))] [.int y2, .int y1, .ref (ad y0)] S dy := by
  intro x0 y0 y1 y2 dy Tx0 Ty0 E
  rw [F_X10_walkerLine_177_s] at E
  refine ww_iast C dX10_walkerLine_177 Ty0 E (fun _ E => ?_)
  refine ww_bd E (fun dy1 E => ?_)
  refine ww_aload_n C dX10_walkerLine_178 rfl 0 rfl ?_
  refine ww_dup C dX10_walkerLine_179 rfl ?_
  refine ww_geti (ci := 10) (k0 := 31) C dX10_walkerLine_180 rfl rfl inm10 (by decide) Tx0 q1309 rfl ?_
  refine ww_aload_n C dX10_walkerLine_183 rfl 0 rfl ?_
  refine ww_geti (ci := 10) (k0 := 31) C dX10_walkerLine_184 rfl rfl inm10 (by decide) Tx0 q1309 rfl ?_
  refine ww_bipush (v := 12) C dX10_walkerLine_187 (by decide) ?_
  refine ww_icmp_ge (tgt := 196) C dX10_walkerLine_189 (by decide) E (fun _ E => ?_) (fun _ E => ?_)
  · refine ww_iconst (v := 0) C dX10_walkerLine_196 (by decide) ?_
    refine ww_sub (lv' := [(0, .ref (ad x0))]) [0] rfl ?_
    exact (B_X10_walkerLine_197 C HR HL hG) x0 x0 (gi dy1 x0 31) (0 : Int32) dy1 Tx0 Tx0 E
  · refine ww_iconst (v := 1) C dX10_walkerLine_192 (by decide) ?_
    refine ww_goto (tgt := 197) C dX10_walkerLine_193 (by decide) ?_
    refine ww_sub (lv' := [(0, .ref (ad x0))]) [0] rfl ?_
    exact (B_X10_walkerLine_197 C HR HL hG) x0 x0 (gi dy1 x0 31) (1 : Int32) dy1 Tx0 Tx0 E
set_option maxHeartbeats 4000000 in
set_option maxRecDepth 100000 in
theorem B_X10_walkerLine_107 (C : CX p s m args c cX10_walkerLine 3 RX10 G A) (HR : meth.sig.returnType = (Option.some Jvm.ClassFile.FieldType.boolean)) (HL : meth.locks = false) (hG : Good S) : ∀ (x0 : Nat) (x2 : Int32) (y0 : Nat) (y1 : Int32) (y2 : Int32) (dy : DY), gs S x0 = (0, 10) → gs S y0 = (1, 104) → F_X10_walkerLine_107 S N x0 x2 y0 y1 y2 dy = some (r, dy') → WJ p l e (rmD (5)) s m args below meth c 3 G A 0 0 (MQ below (QI G ad A S r dy') args s 0 0 A) ad 107 [(0, .ref (ad x0)), (2, .int x2)] [.int y2, .int y1, .ref (ad y0)] S dy := by
  intro x0 x2 y0 y1 y2 dy Tx0 Ty0 E
  rw [F_X10_walkerLine_107_s] at E
  refine ww_iast C dX10_walkerLine_107 Ty0 E (fun _ E => ?_)
  refine ww_bd E (fun dy1 E => ?_)
  refine ww_aload_n C dX10_walkerLine_108 rfl 0 rfl ?_
  have T_2 : gs S (gr S x0 34) = (1, 104) := hG.1 _ 10 Tx0 34 (by decide)
  refine ww_getr (ci := 10) (k0 := 34) C dX10_walkerLine_109 rfl rfl inm10 (by decide) Tx0 q1312 rfl T_2 (by decide) ?_
  refine ww_iload_n C dX10_walkerLine_112 rfl 1 rfl ?_
  refine ww_iconst (v := 3) C dX10_walkerLine_113 (by decide) ?_
  refine ww_iadd C dX10_walkerLine_114 ?_
  refine ww_iconst (v := 1) C dX10_walkerLine_115 (by decide) ?_
  refine ww_iast C dX10_walkerLine_116 T_2 E (fun _ E => ?_)
  refine ww_bd E (fun dy3 E => ?_)
  refine ww_aload_n C dX10_walkerLine_117 rfl 0 rfl ?_
  have T_4 : gs S (gr S x0 34) = (1, 104) := hG.1 _ 10 Tx0 34 (by decide)
  refine ww_getr (ci := 10) (k0 := 34) C dX10_walkerLine_118 rfl rfl inm10 (by decide) Tx0 q1312 rfl T_4 (by decide) ?_
  refine ww_iload_n C dX10_walkerLine_121 rfl 1 rfl ?_
  refine ww_iconst (v := 4) C dX10_walkerLine_122 (by decide) ?_
  refine ww_iadd C dX10_walkerLine_123 ?_
  refine ww_iconst (v := 0) C dX10_walkerLine_124 (by decide) ?_
  refine ww_iast C dX10_walkerLine_125 T_4 E (fun _ E => ?_)
  refine ww_bd E (fun dy5 E => ?_)
  refine ww_aload_n C dX10_walkerLine_126 rfl 0 rfl ?_
  have T_6 : gs S (gr S x0 34) = (1, 104) := hG.1 _ 10 Tx0 34 (by decide)
  refine ww_getr (ci := 10) (k0 := 34) C dX10_walkerLine_127 rfl rfl inm10 (by decide) Tx0 q1312 rfl T_6 (by decide) ?_
  refine ww_iload_n C dX10_walkerLine_130 rfl 1 rfl ?_
  refine ww_iconst (v := 5) C dX10_walkerLine_131 (by decide) ?_
  refine ww_iadd C dX10_walkerLine_132 ?_
  refine ww_iconst (v := 0) C dX10_walkerLine_133 (by decide) ?_
  refine ww_iast C dX10_walkerLine_134 T_6 E (fun _ E => ?_)
  refine ww_bd E (fun dy7 E => ?_)
  refine ww_aload_n C dX10_walkerLine_135 rfl 0 rfl ?_
  have T_8 : gs S (gr S x0 34) = (1, 104) := hG.1 _ 10 Tx0 34 (by decide)
  refine ww_getr (ci := 10) (k0 := 34) C dX10_walkerLine_136 rfl rfl inm10 (by decide) Tx0 q1312 rfl T_8 (by decide) ?_
  refine ww_iload_n C dX10_walkerLine_139 rfl 1 rfl ?_
  refine ww_bipush (v := 6) C dX10_walkerLine_140 (by decide) ?_
  refine ww_iadd C dX10_walkerLine_142 ?_
  refine ww_iconst (v := 0) C dX10_walkerLine_143 (by decide) ?_
  refine ww_iast C dX10_walkerLine_144 T_8 E (fun _ E => ?_)
  refine ww_bd E (fun dy9 E => ?_)
  refine ww_aload_n C dX10_walkerLine_145 rfl 0 rfl ?_
  have T_10 : gs S (gr S x0 34) = (1, 104) := hG.1 _ 10 Tx0 34 (by decide)
  refine ww_getr (ci := 10) (k0 := 34) C dX10_walkerLine_146 rfl rfl inm10 (by decide) Tx0 q1312 rfl T_10 (by decide) ?_
  refine ww_iload_n C dX10_walkerLine_149 rfl 1 rfl ?_
  refine ww_bipush (v := 7) C dX10_walkerLine_150 (by decide) ?_
  refine ww_iadd C dX10_walkerLine_152 ?_
  refine ww_iconst (v := (-1)) C dX10_walkerLine_153 (by decide) ?_
  refine ww_iast C dX10_walkerLine_154 T_10 E (fun _ E => ?_)
  refine ww_bd E (fun dy11 E => ?_)
  refine ww_aload_n C dX10_walkerLine_155 rfl 0 rfl ?_
  have T_12 : gs S (gr S x0 34) = (1, 104) := hG.1 _ 10 Tx0 34 (by decide)
  refine ww_getr (ci := 10) (k0 := 34) C dX10_walkerLine_156 rfl rfl inm10 (by decide) Tx0 q1312 rfl T_12 (by decide) ?_
  refine ww_iload_n C dX10_walkerLine_159 rfl 1 rfl ?_
  refine ww_aload_n C dX10_walkerLine_160 rfl 0 rfl ?_
  refine ww_getz (ci := 10) (k0 := 28) C dX10_walkerLine_161 rfl rfl inm10 (by decide) Tx0 q1306 rfl ?_
  refine ww_if_eq (tgt := 176) C dX10_walkerLine_164 (by decide) E (fun _ E => ?_) (fun _ E => ?_)
  · refine ww_iconst (v := (-1)) C dX10_walkerLine_176 (by decide) ?_
    refine ww_sub (lv' := [(0, .ref (ad x0))]) [0] rfl ?_
    exact (B_X10_walkerLine_177 C HR HL hG) x0 (gr S x0 34) x2 (-1 : Int32) dy11 Tx0 T_12 E
  · refine ww_aload_n C dX10_walkerLine_167 rfl 0 rfl ?_
    have T_13 : gs S (gr S x0 34) = (1, 104) := hG.1 _ 10 Tx0 34 (by decide)
    refine ww_getr (ci := 10) (k0 := 34) C dX10_walkerLine_168 rfl rfl inm10 (by decide) Tx0 q1312 rfl T_13 (by decide) ?_
    refine ww_iload_n C dX10_walkerLine_171 rfl 1 rfl ?_
    refine ww_iald C dX10_walkerLine_172 T_13 E (fun _ E => ?_)
    refine ww_goto (tgt := 177) C dX10_walkerLine_173 (by decide) ?_
    refine ww_sub (lv' := [(0, .ref (ad x0))]) [0] rfl ?_
    exact (B_X10_walkerLine_177 C HR HL hG) x0 (gr S x0 34) x2 (gi dy11 (gr S x0 34) x2.toNatClampNeg) dy11 Tx0 T_12 E
set_option maxHeartbeats 4000000 in
set_option maxRecDepth 100000 in
theorem B_X10_walkerLine_49 (C : CX p s m args c cX10_walkerLine 3 RX10 G A) (HR : meth.sig.returnType = (Option.some Jvm.ClassFile.FieldType.boolean)) (HL : meth.locks = false) (hG : Good S) : ∀ (x0 : Nat) (dy : DY), gs S x0 = (0, 10) → F_X10_walkerLine_49 S N x0 dy = some (r, dy') → WJ p l e (rmD (5)) s m args below meth c 3 G A 0 0 (MQ below (QI G ad A S r dy') args s 0 0 A) ad 49 [(0, .ref (ad x0))] [] S dy := by
  intro x0 dy Tx0 E
  rw [F_X10_walkerLine_49_s] at E
  refine ww_bipush (v := 8) C dX10_walkerLine_49 (by decide) ?_
  refine ww_aload_n C dX10_walkerLine_51 rfl 0 rfl ?_
  refine ww_geti (ci := 10) (k0 := 31) C dX10_walkerLine_52 rfl rfl inm10 (by decide) Tx0 q1309 rfl ?_
  refine ww_imul C dX10_walkerLine_55 ?_
  refine ww_istore_n (lv' := [(2, .int ((8 : Int32) * (gi dy x0 31))), (0, .ref (ad x0))]) C dX10_walkerLine_56 rfl (by decide) rfl ?_
  refine ww_aload_n C dX10_walkerLine_57 rfl 1 rfl ?_
  have T_1 : gs S (gr S x0 34) = (1, 104) := hG.1 _ 10 Tx0 34 (by decide)
  refine ww_getr (ci := 10) (k0 := 34) C dX10_walkerLine_58 rfl rfl inm10 (by decide) Tx0 q1312 rfl T_1 (by decide) ?_
  refine ww_iload_n C dX10_walkerLine_61 rfl 0 rfl ?_
  refine ww_aload_n C dX10_walkerLine_62 rfl 1 rfl ?_
  refine ww_geti (ci := 10) (k0 := 35) C dX10_walkerLine_63 rfl rfl inm10 (by decide) Tx0 q1313 rfl ?_
  refine ww_bipush (v := 6) C dX10_walkerLine_66 (by decide) ?_
  refine ww_idiv C dX10_walkerLine_68 E (fun _ E => ?_)
  refine ww_iast C dX10_walkerLine_69 T_1 E (fun _ E => ?_)
  refine ww_bd E (fun dy2 E => ?_)
  refine ww_aload_n C dX10_walkerLine_70 rfl 1 rfl ?_
  have T_3 : gs S (gr S x0 34) = (1, 104) := hG.1 _ 10 Tx0 34 (by decide)
  refine ww_getr (ci := 10) (k0 := 34) C dX10_walkerLine_71 rfl rfl inm10 (by decide) Tx0 q1312 rfl T_3 (by decide) ?_
  refine ww_iload_n C dX10_walkerLine_74 rfl 0 rfl ?_
  refine ww_iconst (v := 1) C dX10_walkerLine_75 (by decide) ?_
  refine ww_iadd C dX10_walkerLine_76 ?_
  refine ww_aload_n C dX10_walkerLine_77 rfl 1 rfl ?_
  refine ww_geti (ci := 10) (k0 := 35) C dX10_walkerLine_78 rfl rfl inm10 (by decide) Tx0 q1313 rfl ?_
  refine ww_bipush (v := 6) C dX10_walkerLine_81 (by decide) ?_
  refine ww_irem C dX10_walkerLine_83 E (fun _ E => ?_)
  refine ww_iast C dX10_walkerLine_84 T_3 E (fun _ E => ?_)
  refine ww_bd E (fun dy4 E => ?_)
  refine ww_aload_n C dX10_walkerLine_85 rfl 1 rfl ?_
  have T_5 : gs S (gr S x0 34) = (1, 104) := hG.1 _ 10 Tx0 34 (by decide)
  refine ww_getr (ci := 10) (k0 := 34) C dX10_walkerLine_86 rfl rfl inm10 (by decide) Tx0 q1312 rfl T_5 (by decide) ?_
  refine ww_iload_n C dX10_walkerLine_89 rfl 0 rfl ?_
  refine ww_iconst (v := 2) C dX10_walkerLine_90 (by decide) ?_
  refine ww_iadd C dX10_walkerLine_91 ?_
  refine ww_aload_n C dX10_walkerLine_92 rfl 1 rfl ?_
  refine ww_ldc2 (v := (1700885364)) C dX10_walkerLine_93 q1556 ?_
  obtain ⟨u6, e_7, E⟩ := bind_of E
  refine ww_callI C (runs_V (n := 1) (st := [.int (((8 : Int32) * (gi dy x0 31)) + (2 : Int32)), .ref (ad (gr S x0 34))]) C [.long (1700885364 : Int64)] (M_X10_isWord l G ad N hG x0 (1700885364 : Int64) dy4 Tx0 e_7) ⟨q1508, q118, by decide⟩ q1505 q1507 q45 (ci := 10) rfl Tx0 rfl (Nat.le_of_ble_eq_true rfl) ⟨Nat.le_of_ble_eq_true rfl, Nat.le_of_ble_eq_true rfl⟩ ⟨Nat.zero_le _, Nat.zero_le _⟩ dX10_walkerLine_96 rfl) ?_
  refine ww_if_eq (tgt := 106) C dX10_walkerLine_99 (by decide) E (fun _ E => ?_) (fun _ E => ?_)
  · refine ww_iconst (v := 0) C dX10_walkerLine_106 (by decide) ?_
    refine ww_sub (lv' := [(0, .ref (ad x0)), (2, .int ((8 : Int32) * (gi dy x0 31)))]) [1, 0] rfl ?_
    exact (B_X10_walkerLine_107 C HR HL hG) x0 ((8 : Int32) * (gi dy x0 31)) (gr S x0 34) (((8 : Int32) * (gi dy x0 31)) + (2 : Int32)) (0 : Int32) u6.2 Tx0 T_5 E
  · refine ww_iconst (v := 1) C dX10_walkerLine_102 (by decide) ?_
    refine ww_goto (tgt := 107) C dX10_walkerLine_103 (by decide) ?_
    refine ww_sub (lv' := [(0, .ref (ad x0)), (2, .int ((8 : Int32) * (gi dy x0 31)))]) [1, 0] rfl ?_
    exact (B_X10_walkerLine_107 C HR HL hG) x0 ((8 : Int32) * (gi dy x0 31)) (gr S x0 34) (((8 : Int32) * (gi dy x0 31)) + (2 : Int32)) (1 : Int32) u6.2 Tx0 T_5 E
set_option maxHeartbeats 4000000 in
set_option maxRecDepth 100000 in
theorem B_X10_walkerLine_15 (C : CX p s m args c cX10_walkerLine 3 RX10 G A) (HR : meth.sig.returnType = (Option.some Jvm.ClassFile.FieldType.boolean)) (HL : meth.locks = false) (hG : Good S) : ∀ (x0 : Nat) (dy : DY), gs S x0 = (0, 10) → F_X10_walkerLine_15 S N x0 dy = some (r, dy') → WJ p l e (rmD (5)) s m args below meth c 3 G A 0 0 (MQ below (QI G ad A S r dy') args s 0 0 A) ad 15 [(0, .ref (ad x0))] [] S dy := by
  intro x0 dy Tx0 E
  rw [F_X10_walkerLine_15_s] at E
  refine ww_aload_n C dX10_walkerLine_15 rfl 0 rfl ?_
  obtain ⟨u1, e_2, E⟩ := bind_of E
  refine ww_callI C (runs_V (n := 0) (st := []) C [] (M_X10_readSquare l G ad N hG x0 dy Tx0 e_2) ⟨q1547, q118, by decide⟩ q1544 q1546 q53 (ci := 10) rfl Tx0 rfl (Nat.le_of_ble_eq_true rfl) ⟨Nat.le_of_ble_eq_true rfl, Nat.le_of_ble_eq_true rfl⟩ ⟨Nat.zero_le _, Nat.zero_le _⟩ dX10_walkerLine_16 rfl) ?_
  refine ww_if_ne (tgt := 24) C dX10_walkerLine_19 (by decide) E (fun _ E => ?_) (fun _ E => ?_)
  · refine ww_aload_n C dX10_walkerLine_24 rfl 0 rfl ?_
    refine ww_ldc2 (v := (1700885364)) C dX10_walkerLine_25 q1556 ?_
    obtain ⟨u3, e_4, E⟩ := bind_of E
    refine ww_callI C (runs_V (n := 1) (st := []) C [.long (1700885364 : Int64)] (M_X10_isWord l G ad N hG x0 (1700885364 : Int64) u1.2 Tx0 e_4) ⟨q1508, q118, by decide⟩ q1505 q1507 q45 (ci := 10) rfl Tx0 rfl (Nat.le_of_ble_eq_true rfl) ⟨Nat.le_of_ble_eq_true rfl, Nat.le_of_ble_eq_true rfl⟩ ⟨Nat.zero_le _, Nat.zero_le _⟩ dX10_walkerLine_28 rfl) ?_
    refine ww_if_ne (tgt := 49) C dX10_walkerLine_31 (by decide) E (fun _ E => ?_) (fun _ E => ?_)
    · refine ww_sub (lv' := [(0, .ref (ad x0))]) [0] rfl ?_
      exact (B_X10_walkerLine_49 C HR HL hG) x0 u3.2 Tx0 E
    · refine ww_aload_n C dX10_walkerLine_34 rfl 0 rfl ?_
      refine ww_ldc2 (v := (2003137396)) C dX10_walkerLine_35 q1557 ?_
      obtain ⟨u5, e_6, E⟩ := bind_of E
      refine ww_callI C (runs_V (n := 1) (st := []) C [.long (2003137396 : Int64)] (M_X10_isWord l G ad N hG x0 (2003137396 : Int64) u3.2 Tx0 e_6) ⟨q1508, q118, by decide⟩ q1505 q1507 q45 (ci := 10) rfl Tx0 rfl (Nat.le_of_ble_eq_true rfl) ⟨Nat.le_of_ble_eq_true rfl, Nat.le_of_ble_eq_true rfl⟩ ⟨Nat.zero_le _, Nat.zero_le _⟩ dX10_walkerLine_38 rfl) ?_
      refine ww_if_ne (tgt := 49) C dX10_walkerLine_41 (by decide) E (fun _ E => ?_) (fun _ E => ?_)
      · refine ww_sub (lv' := [(0, .ref (ad x0))]) [0] rfl ?_
        exact (B_X10_walkerLine_49 C HR HL hG) x0 u5.2 Tx0 E
      · refine ww_aload_n C dX10_walkerLine_44 rfl 0 rfl ?_
        obtain ⟨u7, e_8, E⟩ := bind_of E
        refine ww_callI C (runs_V (n := 0) (st := []) C [] (M_X10_stops l G ad N hG x0 u5.2 Tx0 e_8) ⟨q1512, q118, by decide⟩ q1509 q1511 q46 (ci := 10) rfl Tx0 rfl (Nat.le_of_ble_eq_true rfl) ⟨Nat.le_of_ble_eq_true rfl, Nat.le_of_ble_eq_true rfl⟩ ⟨Nat.zero_le _, Nat.zero_le _⟩ dX10_walkerLine_45 rfl) ?_
        obtain ⟨z_, E⟩ := gd_of E
        exact ww_zret C HR HL dX10_walkerLine_48 z_ E
  · refine ww_iconst (v := 0) C dX10_walkerLine_22 (by decide) ?_
    exact ww_zret C HR HL dX10_walkerLine_23 (Or.inl rfl) E
end P_X10_walkerLine
set_option maxHeartbeats 4000000 in
set_option maxRecDepth 100000 in
theorem M_X10_walkerLine (l : Launch) (G : GG) (ad : Nat → Nat) {S : ST} (N : Nat) (hG : Good S) (a0 : Nat) (a1 : Int32) (dy : DY) (T0 : gs S a0 = (0, 10)) {r : Int32} {dy' : DY} (E : F_X10_walkerLine S N a0 a1 dy = some (r, dy')) : MC l yX10_walkerLine cX10_walkerLine 3 (Option.some Jvm.ClassFile.FieldType.boolean) (5) G ad [.ref (ad a0), .int a1] S dy (fun A => QI G ad A S r dy') := by
  rw [F_X10_walkerLine_s] at E
  refine mc_of RX10 (by decide) rfl (Nat.le_of_ble_eq_true rfl) (fun p e s m args below meth c A C HR HL => ?_)
  refine ww_sub (lv' := [(0, .ref (ad a0)), (1, .int a1)]) [0, 1] rfl ?_
  refine ww_aload_n C dX10_walkerLine_0 rfl 0 rfl ?_
  refine ww_geti (ci := 10) (k0 := 31) C dX10_walkerLine_1 rfl rfl inm10 (by decide) T0 q1309 rfl ?_
  refine ww_bipush (v := 12) C dX10_walkerLine_4 (by decide) ?_
  refine ww_icmp_ne (tgt := 15) C dX10_walkerLine_6 (by decide) E (fun _ E => ?_) (fun _ E => ?_)
  · refine ww_sub (lv' := [(0, .ref (ad a0))]) [0] rfl ?_
    exact (B_X10_walkerLine_15 C HR HL hG) a0 dy T0 E
  · refine ww_aload_n C dX10_walkerLine_9 rfl 0 rfl ?_
    refine ww_iconst (v := 3) C dX10_walkerLine_10 (by decide) ?_
    refine ww_iload_n C dX10_walkerLine_11 rfl 1 rfl ?_
    obtain ⟨u1, e_2, E⟩ := bind_of E
    refine ww_callV C (runs_V (n := 2) (st := []) C [.int (3 : Int32), .int a1] (M_X10_later l G ad N hG a0 (3 : Int32) a1 dy T0 e_2) ⟨q1520, q118, by decide⟩ q1517 q1519 q48 (ci := 10) rfl T0 rfl (Nat.le_of_ble_eq_true rfl) ⟨Nat.le_of_ble_eq_true rfl, Nat.le_of_ble_eq_true rfl⟩ ⟨Nat.zero_le _, Nat.zero_le _⟩ dX10_walkerLine_12 rfl) ?_
    refine ww_sub (lv' := [(0, .ref (ad a0))]) [0] rfl ?_
    exact (B_X10_walkerLine_15 C HR HL hG) a0 u1 T0 E
section P_X10_wallLine
variable {p : Program} {l : Launch} {e : Env} {s : State} {m : MethodId} {args : Array Value} {below : List Frame} {meth : Method} {c : Code} {G : GG} {A : Nat → Prop} {ad : Nat → Nat} {S : ST} {N : Nat} {r : Int32} {dy' : DY}
set_option maxHeartbeats 4000000 in
set_option maxRecDepth 100000 in
theorem B_X10_wallLine_38 (C : CX p s m args c cX10_wallLine 1 RX10 G A) (HR : meth.sig.returnType = (Option.some Jvm.ClassFile.FieldType.boolean)) (HL : meth.locks = false) (hG : Good S) : ∀ (x0 : Nat) (y0 : Nat) (y1 : Int32) (y2 : Int32) (dy : DY), gs S x0 = (0, 10) → gs S y0 = (0, 10) → F_X10_wallLine_38 S N x0 y0 y1 y2 dy = some (r, dy') → WJ p l e (rmD (5)) s m args below meth c 1 G A 0 0 (MQ below (QI G ad A S r dy') args s 0 0 A) ad 38 [(0, .ref (ad x0))] [.int y2, .int y1, .ref (ad y0)] S dy := by
  intro x0 y0 y1 y2 dy Tx0 Ty0 E
  rw [F_X10_wallLine_38_s] at E
  refine ww_iadd C dX10_wallLine_38 ?_
  refine ww_puti (ci := 10) (k0 := 32) C dX10_wallLine_39 rfl rfl inm10 tyX10_ok nmX10 (by decide) Ty0 q1310 rfl rfl rfl ?_
  refine ww_bd E (fun dy1 E => ?_)
  refine ww_aload_n C dX10_wallLine_42 rfl 0 rfl ?_
  have T_2 : gs S (gr S x0 33) = (1, 96) := hG.1 _ 10 Tx0 33 (by decide)
  refine ww_getr (ci := 10) (k0 := 33) C dX10_wallLine_43 rfl rfl inm10 (by decide) Tx0 q1311 rfl T_2 (by decide) ?_
  refine ww_aload_n C dX10_wallLine_46 rfl 0 rfl ?_
  refine ww_geti (ci := 10) (k0 := 35) C dX10_wallLine_47 rfl rfl inm10 (by decide) Tx0 q1313 rfl ?_
  refine ww_iconst (v := 1) C dX10_wallLine_50 (by decide) ?_
  refine ww_iast C dX10_wallLine_51 T_2 E (fun _ E => ?_)
  refine ww_bd E (fun dy3 E => ?_)
  refine ww_iconst (v := 1) C dX10_wallLine_52 (by decide) ?_
  exact ww_zret C HR HL dX10_wallLine_53 (Or.inr rfl) E
end P_X10_wallLine
set_option maxHeartbeats 4000000 in
set_option maxRecDepth 100000 in
theorem M_X10_wallLine (l : Launch) (G : GG) (ad : Nat → Nat) {S : ST} (N : Nat) (hG : Good S) (a0 : Nat) (dy : DY) (T0 : gs S a0 = (0, 10)) {r : Int32} {dy' : DY} (E : F_X10_wallLine S N a0 dy = some (r, dy')) : MC l yX10_wallLine cX10_wallLine 1 (Option.some Jvm.ClassFile.FieldType.boolean) (5) G ad [.ref (ad a0)] S dy (fun A => QI G ad A S r dy') := by
  rw [F_X10_wallLine_s] at E
  refine mc_of RX10 (by decide) rfl (Nat.le_of_ble_eq_true rfl) (fun p e s m args below meth c A C HR HL => ?_)
  refine ww_sub (lv' := [(0, .ref (ad a0))]) [0] rfl ?_
  refine ww_aload_n C dX10_wallLine_0 rfl 0 rfl ?_
  obtain ⟨u1, e_2, E⟩ := bind_of E
  refine ww_callI C (runs_V (n := 0) (st := []) C [] (M_X10_readSquare l G ad N hG a0 dy T0 e_2) ⟨q1547, q118, by decide⟩ q1544 q1546 q53 (ci := 10) rfl T0 rfl (Nat.le_of_ble_eq_true rfl) ⟨Nat.le_of_ble_eq_true rfl, Nat.le_of_ble_eq_true rfl⟩ ⟨Nat.zero_le _, Nat.zero_le _⟩ dX10_wallLine_1 rfl) ?_
  refine ww_if_ne (tgt := 9) C dX10_wallLine_4 (by decide) E (fun _ E => ?_) (fun _ E => ?_)
  · refine ww_aload_n C dX10_wallLine_9 rfl 0 rfl ?_
    refine ww_getz (ci := 10) (k0 := 28) C dX10_wallLine_10 rfl rfl inm10 (by decide) T0 q1306 rfl ?_
    refine ww_if_eq (tgt := 52) C dX10_wallLine_13 (by decide) E (fun _ E => ?_) (fun _ E => ?_)
    · refine ww_iconst (v := 1) C dX10_wallLine_52 (by decide) ?_
      exact ww_zret C HR HL dX10_wallLine_53 (Or.inr rfl) E
    · refine ww_aload_n C dX10_wallLine_16 rfl 0 rfl ?_
      refine ww_dup C dX10_wallLine_17 rfl ?_
      refine ww_geti (ci := 10) (k0 := 32) C dX10_wallLine_18 rfl rfl inm10 (by decide) T0 q1310 rfl ?_
      refine ww_aload_n C dX10_wallLine_21 rfl 0 rfl ?_
      have T_3 : gs S (gr S a0 33) = (1, 96) := hG.1 _ 10 T0 33 (by decide)
      refine ww_getr (ci := 10) (k0 := 33) C dX10_wallLine_22 rfl rfl inm10 (by decide) T0 q1311 rfl T_3 (by decide) ?_
      refine ww_aload_n C dX10_wallLine_25 rfl 0 rfl ?_
      refine ww_geti (ci := 10) (k0 := 35) C dX10_wallLine_26 rfl rfl inm10 (by decide) T0 q1313 rfl ?_
      refine ww_iald C dX10_wallLine_29 T_3 E (fun _ E => ?_)
      refine ww_if_ne (tgt := 37) C dX10_wallLine_30 (by decide) E (fun _ E => ?_) (fun _ E => ?_)
      · refine ww_iconst (v := 0) C dX10_wallLine_37 (by decide) ?_
        refine ww_sub (lv' := [(0, .ref (ad a0))]) [0] rfl ?_
        exact (B_X10_wallLine_38 C HR HL hG) a0 a0 (gi u1.2 a0 32) (0 : Int32) u1.2 T0 T0 E
      · refine ww_iconst (v := 1) C dX10_wallLine_33 (by decide) ?_
        refine ww_goto (tgt := 38) C dX10_wallLine_34 (by decide) ?_
        refine ww_sub (lv' := [(0, .ref (ad a0))]) [0] rfl ?_
        exact (B_X10_wallLine_38 C HR HL hG) a0 a0 (gi u1.2 a0 32) (1 : Int32) u1.2 T0 T0 E
  · refine ww_iconst (v := 0) C dX10_wallLine_7 (by decide) ?_
    exact ww_zret C HR HL dX10_wallLine_8 (Or.inl rfl) E
section P_X10_passageLine
variable {p : Program} {l : Launch} {e : Env} {s : State} {m : MethodId} {args : Array Value} {below : List Frame} {meth : Method} {c : Code} {G : GG} {A : Nat → Prop} {ad : Nat → Nat} {S : ST} {N : Nat} {r : Int32} {dy' : DY}
set_option maxHeartbeats 4000000 in
set_option maxRecDepth 100000 in
theorem B_X10_passageLine_197 (C : CX p s m args c cX10_passageLine 5 RX10 G A) (HR : meth.sig.returnType = (Option.some Jvm.ClassFile.FieldType.boolean)) (HL : meth.locks = false) (hG : Good S) : ∀ (x0 : Nat) (y0 : Int32) (dy : DY), gs S x0 = (0, 10) → F_X10_passageLine_197 S N x0 y0 dy = some (r, dy') → WJ p l e (rmD (6)) s m args below meth c 5 G A 0 0 (MQ below (QI G ad A S r dy') args s 0 0 A) ad 197 [(0, .ref (ad x0))] [.int y0] S dy := by
  intro x0 y0 dy Tx0 E
  rw [F_X10_passageLine_197_s] at E
  refine ww_istore (lv' := [(4, .int y0), (0, .ref (ad x0))]) C dX10_passageLine_197 (by decide) rfl ?_
  refine ww_iload C dX10_passageLine_199 0 rfl ?_
  refine ww_if_eq (tgt := 215) C dX10_passageLine_201 (by decide) E (fun _ E => ?_) (fun _ E => ?_)
  · refine ww_iconst (v := 0) C dX10_passageLine_215 (by decide) ?_
    exact ww_zret C HR HL dX10_passageLine_216 (Or.inl rfl) E
  · refine ww_aload_n C dX10_passageLine_204 rfl 1 rfl ?_
    obtain ⟨u1, e_2, E⟩ := bind_of E
    refine ww_callI C (runs_V (n := 0) (st := []) C [] (M_X10_passes l G ad N hG x0 dy Tx0 e_2) ⟨q1524, q118, by decide⟩ q1521 q1523 q49 (ci := 10) rfl Tx0 rfl (Nat.le_of_ble_eq_true rfl) ⟨Nat.le_of_ble_eq_true rfl, Nat.le_of_ble_eq_true rfl⟩ ⟨Nat.zero_le _, Nat.zero_le _⟩ dX10_passageLine_205 rfl) ?_
    refine ww_if_eq (tgt := 215) C dX10_passageLine_208 (by decide) E (fun _ E => ?_) (fun _ E => ?_)
    · refine ww_iconst (v := 0) C dX10_passageLine_215 (by decide) ?_
      exact ww_zret C HR HL dX10_passageLine_216 (Or.inl rfl) E
    · refine ww_iconst (v := 1) C dX10_passageLine_211 (by decide) ?_
      refine ww_goto (tgt := 216) C dX10_passageLine_212 (by decide) ?_
      exact ww_zret C HR HL dX10_passageLine_216 (Or.inr rfl) E
set_option maxHeartbeats 4000000 in
set_option maxRecDepth 100000 in
theorem B_X10_passageLine_88 (C : CX p s m args c cX10_passageLine 5 RX10 G A) (HR : meth.sig.returnType = (Option.some Jvm.ClassFile.FieldType.boolean)) (HL : meth.locks = false) (hG : Good S) : ∀ (x0 : Nat) (x1 : Int32) (x2 : Int64) (dy : DY), gs S x0 = (0, 10) → F_X10_passageLine_88 S N x0 x1 x2 dy = some (r, dy') → WJ p l e (rmD (6)) s m args below meth c 5 G A 0 0 (MQ below (QI G ad A S r dy') args s 0 0 A) ad 88 [(0, .ref (ad x0)), (1, .int x1), (2, .long x2)] [] S dy := by
  intro x0 x1 x2 dy Tx0 E
  rw [F_X10_passageLine_88_s] at E
  refine ww_aload_n C dX10_passageLine_88 rfl 0 rfl ?_
  obtain ⟨u1, e_2, E⟩ := bind_of E
  refine ww_callV C (runs_V (n := 0) (st := []) C [] (M_X10_token l G ad N hG x0 dy Tx0 e_2) ⟨q1492, q118, by decide⟩ q1489 q1491 q42 (ci := 10) rfl Tx0 rfl (Nat.le_of_ble_eq_true rfl) ⟨Nat.le_of_ble_eq_true rfl, Nat.le_of_ble_eq_true rfl⟩ ⟨Nat.zero_le _, Nat.zero_le _⟩ dX10_passageLine_89 rfl) ?_
  refine ww_lload_n C dX10_passageLine_92 rfl 2 rfl ?_
  refine ww_ldc2 (v := (2002873452)) C dX10_passageLine_93 q1533 ?_
  refine ww_lcmp C dX10_passageLine_96 ?_
  refine ww_if_ne (tgt := 107) C dX10_passageLine_97 (by decide) E (fun _ E => ?_) (fun _ E => ?_)
  · refine ww_lload_n C dX10_passageLine_107 rfl 2 rfl ?_
    refine ww_ldc2 (v := (131260314510706)) C dX10_passageLine_108 q1534 ?_
    refine ww_lcmp C dX10_passageLine_111 ?_
    refine ww_if_ne (tgt := 123) C dX10_passageLine_112 (by decide) E (fun _ E => ?_) (fun _ E => ?_)
    · refine ww_lload_n C dX10_passageLine_123 rfl 2 rfl ?_
      refine ww_ldc2 (v := (1885430629)) C dX10_passageLine_124 q1535 ?_
      refine ww_lcmp C dX10_passageLine_127 ?_
      refine ww_if_ne (tgt := 141) C dX10_passageLine_128 (by decide) E (fun _ E => ?_) (fun _ E => ?_)
      · refine ww_lload_n C dX10_passageLine_141 rfl 2 rfl ?_
        refine ww_ldc2 (v := (1818326117)) C dX10_passageLine_142 q1536 ?_
        refine ww_lcmp C dX10_passageLine_145 ?_
        refine ww_if_ne (tgt := 159) C dX10_passageLine_146 (by decide) E (fun _ E => ?_) (fun _ E => ?_)
        · refine ww_lload_n C dX10_passageLine_159 rfl 2 rfl ?_
          refine ww_ldc2 (v := (448311555173)) C dX10_passageLine_160 q1537 ?_
          refine ww_lcmp C dX10_passageLine_163 ?_
          refine ww_if_ne (tgt := 178) C dX10_passageLine_164 (by decide) E (fun _ E => ?_) (fun _ E => ?_)
          · refine ww_lload_n C dX10_passageLine_178 rfl 2 rfl ?_
            refine ww_ldc2 (v := (1751215716)) C dX10_passageLine_179 q1538 ?_
            refine ww_lcmp C dX10_passageLine_182 ?_
            refine ww_if_ne (tgt := 193) C dX10_passageLine_183 (by decide) E (fun _ E => ?_) (fun _ E => ?_)
            · refine ww_aload_n C dX10_passageLine_193 rfl 0 rfl ?_
              obtain ⟨u3, e_4, E⟩ := bind_of E
              refine ww_callI C (runs_V (n := 0) (st := []) C [] (M_X10_friendsLine l G ad N hG x0 u1 Tx0 e_4) ⟨q1571, q118, by decide⟩ q1568 q1570 q58 (ci := 10) rfl Tx0 rfl (Nat.le_of_ble_eq_true rfl) ⟨Nat.le_of_ble_eq_true rfl, Nat.le_of_ble_eq_true rfl⟩ ⟨Nat.zero_le _, Nat.zero_le _⟩ dX10_passageLine_194 rfl) ?_
              refine ww_sub (lv' := [(0, .ref (ad x0))]) [0] rfl ?_
              exact (B_X10_passageLine_197 C HR HL hG) x0 u3.1 u3.2 Tx0 E
            · refine ww_aload_n C dX10_passageLine_186 rfl 0 rfl ?_
              obtain ⟨u5, e_6, E⟩ := bind_of E
              refine ww_callI C (runs_V (n := 0) (st := []) C [] (M_X10_handLine l G ad N hG x0 u1 Tx0 e_6) ⟨q1565, q118, by decide⟩ q1562 q1564 q57 (ci := 10) rfl Tx0 rfl (Nat.le_of_ble_eq_true rfl) ⟨Nat.le_of_ble_eq_true rfl, Nat.le_of_ble_eq_true rfl⟩ ⟨Nat.zero_le _, Nat.zero_le _⟩ dX10_passageLine_187 rfl) ?_
              refine ww_goto (tgt := 197) C dX10_passageLine_190 (by decide) ?_
              refine ww_sub (lv' := [(0, .ref (ad x0))]) [0] rfl ?_
              exact (B_X10_passageLine_197 C HR HL hG) x0 u5.1 u5.2 Tx0 E
          · refine ww_aload_n C dX10_passageLine_167 rfl 0 rfl ?_
            refine ww_iconst (v := 5) C dX10_passageLine_168 (by decide) ?_
            refine ww_iconst (v := 0) C dX10_passageLine_169 (by decide) ?_
            refine ww_bipush (v := 9) C dX10_passageLine_170 (by decide) ?_
            obtain ⟨u7, e_8, E⟩ := bind_of E
            refine ww_callI C (runs_V (n := 3) (st := []) C [.int (5 : Int32), .int (0 : Int32), .int (9 : Int32)] (M_X10_ofLine l G ad N hG x0 (5 : Int32) (0 : Int32) (9 : Int32) u1 Tx0 e_8) ⟨q1561, q118, by decide⟩ q1558 q1560 q56 (ci := 10) rfl Tx0 rfl (Nat.le_of_ble_eq_true rfl) ⟨Nat.le_of_ble_eq_true rfl, Nat.le_of_ble_eq_true rfl⟩ ⟨Nat.zero_le _, Nat.zero_le _⟩ dX10_passageLine_172 rfl) ?_
            refine ww_goto (tgt := 197) C dX10_passageLine_175 (by decide) ?_
            refine ww_sub (lv' := [(0, .ref (ad x0))]) [0] rfl ?_
            exact (B_X10_passageLine_197 C HR HL hG) x0 u7.1 u7.2 Tx0 E
        · refine ww_aload_n C dX10_passageLine_149 rfl 0 rfl ?_
          refine ww_iconst (v := 4) C dX10_passageLine_150 (by decide) ?_
          refine ww_iconst (v := 0) C dX10_passageLine_151 (by decide) ?_
          refine ww_iconst (v := 3) C dX10_passageLine_152 (by decide) ?_
          obtain ⟨u9, e_10, E⟩ := bind_of E
          refine ww_callI C (runs_V (n := 3) (st := []) C [.int (4 : Int32), .int (0 : Int32), .int (3 : Int32)] (M_X10_ofLine l G ad N hG x0 (4 : Int32) (0 : Int32) (3 : Int32) u1 Tx0 e_10) ⟨q1561, q118, by decide⟩ q1558 q1560 q56 (ci := 10) rfl Tx0 rfl (Nat.le_of_ble_eq_true rfl) ⟨Nat.le_of_ble_eq_true rfl, Nat.le_of_ble_eq_true rfl⟩ ⟨Nat.zero_le _, Nat.zero_le _⟩ dX10_passageLine_153 rfl) ?_
          refine ww_goto (tgt := 197) C dX10_passageLine_156 (by decide) ?_
          refine ww_sub (lv' := [(0, .ref (ad x0))]) [0] rfl ?_
          exact (B_X10_passageLine_197 C HR HL hG) x0 u9.1 u9.2 Tx0 E
      · refine ww_aload_n C dX10_passageLine_131 rfl 0 rfl ?_
        refine ww_iconst (v := 3) C dX10_passageLine_132 (by decide) ?_
        refine ww_iconst (v := 1) C dX10_passageLine_133 (by decide) ?_
        refine ww_iconst (v := 4) C dX10_passageLine_134 (by decide) ?_
        obtain ⟨u11, e_12, E⟩ := bind_of E
        refine ww_callI C (runs_V (n := 3) (st := []) C [.int (3 : Int32), .int (1 : Int32), .int (4 : Int32)] (M_X10_ofLine l G ad N hG x0 (3 : Int32) (1 : Int32) (4 : Int32) u1 Tx0 e_12) ⟨q1561, q118, by decide⟩ q1558 q1560 q56 (ci := 10) rfl Tx0 rfl (Nat.le_of_ble_eq_true rfl) ⟨Nat.le_of_ble_eq_true rfl, Nat.le_of_ble_eq_true rfl⟩ ⟨Nat.zero_le _, Nat.zero_le _⟩ dX10_passageLine_135 rfl) ?_
        refine ww_goto (tgt := 197) C dX10_passageLine_138 (by decide) ?_
        refine ww_sub (lv' := [(0, .ref (ad x0))]) [0] rfl ?_
        exact (B_X10_passageLine_197 C HR HL hG) x0 u11.1 u11.2 Tx0 E
    · refine ww_aload_n C dX10_passageLine_115 rfl 0 rfl ?_
      refine ww_iload_n C dX10_passageLine_116 rfl 1 rfl ?_
      obtain ⟨u13, e_14, E⟩ := bind_of E
      refine ww_callI C (runs_V (n := 1) (st := []) C [.int x1] (M_X10_walkerLine l G ad N hG x0 x1 u1 Tx0 e_14) ⟨q1555, q118, by decide⟩ q1552 q1554 q55 (ci := 10) rfl Tx0 rfl (Nat.le_of_ble_eq_true rfl) ⟨Nat.le_of_ble_eq_true rfl, Nat.le_of_ble_eq_true rfl⟩ ⟨Nat.zero_le _, Nat.zero_le _⟩ dX10_passageLine_117 rfl) ?_
      refine ww_goto (tgt := 197) C dX10_passageLine_120 (by decide) ?_
      refine ww_sub (lv' := [(0, .ref (ad x0))]) [0] rfl ?_
      exact (B_X10_passageLine_197 C HR HL hG) x0 u13.1 u13.2 Tx0 E
  · refine ww_aload_n C dX10_passageLine_100 rfl 0 rfl ?_
    obtain ⟨u15, e_16, E⟩ := bind_of E
    refine ww_callI C (runs_V (n := 0) (st := []) C [] (M_X10_wallLine l G ad N hG x0 u1 Tx0 e_16) ⟨q1543, q118, by decide⟩ q1540 q1542 q52 (ci := 10) rfl Tx0 rfl (Nat.le_of_ble_eq_true rfl) ⟨Nat.le_of_ble_eq_true rfl, Nat.le_of_ble_eq_true rfl⟩ ⟨Nat.zero_le _, Nat.zero_le _⟩ dX10_passageLine_101 rfl) ?_
    refine ww_goto (tgt := 197) C dX10_passageLine_104 (by decide) ?_
    refine ww_sub (lv' := [(0, .ref (ad x0))]) [0] rfl ?_
    exact (B_X10_passageLine_197 C HR HL hG) x0 u15.1 u15.2 Tx0 E
set_option maxHeartbeats 4000000 in
set_option maxRecDepth 100000 in
theorem B_X10_passageLine_26 (C : CX p s m args c cX10_passageLine 5 RX10 G A) (HR : meth.sig.returnType = (Option.some Jvm.ClassFile.FieldType.boolean)) (HL : meth.locks = false) (hG : Good S) : ∀ (x0 : Nat) (x1 : Int32) (y0 : Int64) (dy : DY), gs S x0 = (0, 10) → F_X10_passageLine_26 S N x0 x1 y0 dy = some (r, dy') → WJ p l e (rmD (6)) s m args below meth c 5 G A 0 0 (MQ below (QI G ad A S r dy') args s 0 0 A) ad 26 [(0, .ref (ad x0)), (1, .int x1)] [.long y0] S dy := by
  intro x0 x1 y0 dy Tx0 E
  rw [F_X10_passageLine_26_s] at E
  refine ww_lstore_n (lv' := [(2, .long y0), (0, .ref (ad x0)), (1, .int x1)]) C dX10_passageLine_26 rfl (by decide) rfl ?_
  refine ww_lload_n C dX10_passageLine_27 rfl 0 rfl ?_
  refine ww_ldc2 (v := (2002873452)) C dX10_passageLine_28 q1533 ?_
  refine ww_lcmp C dX10_passageLine_31 ?_
  refine ww_if_eq (tgt := 88) C dX10_passageLine_32 (by decide) E (fun _ E => ?_) (fun _ E => ?_)
  · refine ww_sub (lv' := [(0, .ref (ad x0)), (1, .int x1), (2, .long y0)]) [1, 2, 0] rfl ?_
    exact (B_X10_passageLine_88 C HR HL hG) x0 x1 y0 dy Tx0 E
  · refine ww_lload_n C dX10_passageLine_35 rfl 0 rfl ?_
    refine ww_ldc2 (v := (131260314510706)) C dX10_passageLine_36 q1534 ?_
    refine ww_lcmp C dX10_passageLine_39 ?_
    refine ww_if_eq (tgt := 88) C dX10_passageLine_40 (by decide) E (fun _ E => ?_) (fun _ E => ?_)
    · refine ww_sub (lv' := [(0, .ref (ad x0)), (1, .int x1), (2, .long y0)]) [1, 2, 0] rfl ?_
      exact (B_X10_passageLine_88 C HR HL hG) x0 x1 y0 dy Tx0 E
    · refine ww_lload_n C dX10_passageLine_43 rfl 0 rfl ?_
      refine ww_ldc2 (v := (1885430629)) C dX10_passageLine_44 q1535 ?_
      refine ww_lcmp C dX10_passageLine_47 ?_
      refine ww_if_eq (tgt := 88) C dX10_passageLine_48 (by decide) E (fun _ E => ?_) (fun _ E => ?_)
      · refine ww_sub (lv' := [(0, .ref (ad x0)), (1, .int x1), (2, .long y0)]) [1, 2, 0] rfl ?_
        exact (B_X10_passageLine_88 C HR HL hG) x0 x1 y0 dy Tx0 E
      · refine ww_lload_n C dX10_passageLine_51 rfl 0 rfl ?_
        refine ww_ldc2 (v := (1818326117)) C dX10_passageLine_52 q1536 ?_
        refine ww_lcmp C dX10_passageLine_55 ?_
        refine ww_if_eq (tgt := 88) C dX10_passageLine_56 (by decide) E (fun _ E => ?_) (fun _ E => ?_)
        · refine ww_sub (lv' := [(0, .ref (ad x0)), (1, .int x1), (2, .long y0)]) [1, 2, 0] rfl ?_
          exact (B_X10_passageLine_88 C HR HL hG) x0 x1 y0 dy Tx0 E
        · refine ww_lload_n C dX10_passageLine_59 rfl 0 rfl ?_
          refine ww_ldc2 (v := (448311555173)) C dX10_passageLine_60 q1537 ?_
          refine ww_lcmp C dX10_passageLine_63 ?_
          refine ww_if_eq (tgt := 88) C dX10_passageLine_64 (by decide) E (fun _ E => ?_) (fun _ E => ?_)
          · refine ww_sub (lv' := [(0, .ref (ad x0)), (1, .int x1), (2, .long y0)]) [1, 2, 0] rfl ?_
            exact (B_X10_passageLine_88 C HR HL hG) x0 x1 y0 dy Tx0 E
          · refine ww_lload_n C dX10_passageLine_67 rfl 0 rfl ?_
            refine ww_ldc2 (v := (1751215716)) C dX10_passageLine_68 q1538 ?_
            refine ww_lcmp C dX10_passageLine_71 ?_
            refine ww_if_eq (tgt := 88) C dX10_passageLine_72 (by decide) E (fun _ E => ?_) (fun _ E => ?_)
            · refine ww_sub (lv' := [(0, .ref (ad x0)), (1, .int x1), (2, .long y0)]) [1, 2, 0] rfl ?_
              exact (B_X10_passageLine_88 C HR HL hG) x0 x1 y0 dy Tx0 E
            · refine ww_lload_n C dX10_passageLine_75 rfl 0 rfl ?_
              refine ww_ldc2 (v := (28836244623352947)) C dX10_passageLine_76 q1539 ?_
              refine ww_lcmp C dX10_passageLine_79 ?_
              refine ww_if_eq (tgt := 88) C dX10_passageLine_80 (by decide) E (fun _ E => ?_) (fun _ E => ?_)
              · refine ww_sub (lv' := [(0, .ref (ad x0)), (1, .int x1), (2, .long y0)]) [1, 2, 0] rfl ?_
                exact (B_X10_passageLine_88 C HR HL hG) x0 x1 y0 dy Tx0 E
              · refine ww_aload_n C dX10_passageLine_83 rfl 1 rfl ?_
                obtain ⟨u1, e_2, E⟩ := bind_of E
                refine ww_callI C (runs_V (n := 0) (st := []) C [] (M_X10_stops l G ad N hG x0 dy Tx0 e_2) ⟨q1512, q118, by decide⟩ q1509 q1511 q46 (ci := 10) rfl Tx0 rfl (Nat.le_of_ble_eq_true rfl) ⟨Nat.le_of_ble_eq_true rfl, Nat.le_of_ble_eq_true rfl⟩ ⟨Nat.zero_le _, Nat.zero_le _⟩ dX10_passageLine_84 rfl) ?_
                obtain ⟨z_, E⟩ := gd_of E
                exact ww_zret C HR HL dX10_passageLine_87 z_ E
end P_X10_passageLine
set_option maxHeartbeats 4000000 in
set_option maxRecDepth 100000 in
theorem M_X10_passageLine (l : Launch) (G : GG) (ad : Nat → Nat) {S : ST} (N : Nat) (hG : Good S) (a0 : Nat) (dy : DY) (T0 : gs S a0 = (0, 10)) {r : Int32} {dy' : DY} (E : F_X10_passageLine S N a0 dy = some (r, dy')) : MC l yX10_passageLine cX10_passageLine 5 (Option.some Jvm.ClassFile.FieldType.boolean) (6) G ad [.ref (ad a0)] S dy (fun A => QI G ad A S r dy') := by
  rw [F_X10_passageLine_s] at E
  refine mc_of RX10 (by decide) rfl (Nat.le_of_ble_eq_true rfl) (fun p e s m args below meth c A C HR HL => ?_)
  refine ww_sub (lv' := [(0, .ref (ad a0))]) [0] rfl ?_
  refine ww_aload_n C dX10_passageLine_0 rfl 0 rfl ?_
  refine ww_geti (ci := 10) (k0 := 20) C dX10_passageLine_1 rfl rfl inm10 (by decide) T0 q1298 rfl ?_
  refine ww_istore_n (lv' := [(1, .int (gi dy a0 20)), (0, .ref (ad a0))]) C dX10_passageLine_4 rfl (by decide) rfl ?_
  refine ww_aload_n C dX10_passageLine_5 rfl 1 rfl ?_
  refine ww_iconst (v := 1) C dX10_passageLine_6 (by decide) ?_
  refine ww_putz (ci := 10) (k0 := 28) C dX10_passageLine_7 rfl rfl inm10 tyX10_ok nmX10 (by decide) T0 q1306 rfl rfl rfl (Or.inr rfl) ?_
  refine ww_bd E (fun dy1 E => ?_)
  refine ww_aload_n C dX10_passageLine_10 rfl 1 rfl ?_
  refine ww_geti (ci := 10) (k0 := 21) C dX10_passageLine_11 rfl rfl inm10 (by decide) T0 q1299 rfl ?_
  refine ww_iconst (v := 2) C dX10_passageLine_14 (by decide) ?_
  refine ww_icmp_ne (tgt := 25) C dX10_passageLine_15 (by decide) E (fun _ E => ?_) (fun _ E => ?_)
  · refine ww_lconst (v := 0) C dX10_passageLine_25 (by decide) ?_
    refine ww_sub (lv' := [(0, .ref (ad a0)), (1, .int (gi dy a0 20))]) [1, 0] rfl ?_
    exact (B_X10_passageLine_26 C HR HL hG) a0 (gi dy a0 20) (0 : Int64) dy1 T0 E
  · refine ww_aload_n C dX10_passageLine_18 rfl 1 rfl ?_
    refine ww_getl (ci := 10) (k0 := 23) C dX10_passageLine_19 rfl rfl inm10 (by decide) T0 q1301 rfl ?_
    refine ww_goto (tgt := 26) C dX10_passageLine_22 (by decide) ?_
    refine ww_sub (lv' := [(0, .ref (ad a0)), (1, .int (gi dy a0 20))]) [1, 0] rfl ?_
    exact (B_X10_passageLine_26 C HR HL hG) a0 (gi dy a0 20) (gl dy1 a0 23) dy1 T0 E
section P_X10_sizeLine
variable {p : Program} {l : Launch} {e : Env} {s : State} {m : MethodId} {args : Array Value} {below : List Frame} {meth : Method} {c : Code} {G : GG} {A : Nat → Prop} {ad : Nat → Nat} {S : ST} {N : Nat} {r : Int32} {dy' : DY}
set_option maxHeartbeats 4000000 in
set_option maxRecDepth 100000 in
theorem B_X10_sizeLine_95 (C : CX p s m args c cX10_sizeLine 1 RX10 G A) (HR : meth.sig.returnType = (Option.some Jvm.ClassFile.FieldType.boolean)) (HL : meth.locks = false) (hG : Good S) : ∀ (x0 : Nat) (y0 : Nat) (y1 : Int32) (dy : DY), gs S x0 = (0, 10) → gs S y0 = (0, 10) → F_X10_sizeLine_95 S N x0 y0 y1 dy = some (r, dy') → WJ p l e (rmD (4)) s m args below meth c 1 G A 0 0 (MQ below (QI G ad A S r dy') args s 0 0 A) ad 95 [(0, .ref (ad x0))] [.int y1, .ref (ad y0)] S dy := by
  intro x0 y0 y1 dy Tx0 Ty0 E
  rw [F_X10_sizeLine_95_s] at E
  refine ww_puti (ci := 10) (k0 := 30) C dX10_sizeLine_95 rfl rfl inm10 tyX10_ok nmX10 (by decide) Ty0 q1308 rfl rfl rfl ?_
  refine ww_bd E (fun dy1 E => ?_)
  refine ww_aload_n C dX10_sizeLine_98 rfl 0 rfl ?_
  obtain ⟨u2, e_3, E⟩ := bind_of E
  refine ww_callI C (runs_V (n := 0) (st := []) C [] (M_X10_passes l G ad N hG x0 dy1 Tx0 e_3) ⟨q1524, q118, by decide⟩ q1521 q1523 q49 (ci := 10) rfl Tx0 rfl (Nat.le_of_ble_eq_true rfl) ⟨Nat.le_of_ble_eq_true rfl, Nat.le_of_ble_eq_true rfl⟩ ⟨Nat.zero_le _, Nat.zero_le _⟩ dX10_sizeLine_99 rfl) ?_
  obtain ⟨z_, E⟩ := gd_of E
  exact ww_zret C HR HL dX10_sizeLine_102 z_ E
set_option maxHeartbeats 4000000 in
set_option maxRecDepth 100000 in
theorem B_X10_sizeLine_58 (C : CX p s m args c cX10_sizeLine 1 RX10 G A) (HR : meth.sig.returnType = (Option.some Jvm.ClassFile.FieldType.boolean)) (HL : meth.locks = false) (hG : Good S) : ∀ (x0 : Nat) (y0 : Nat) (y1 : Int32) (dy : DY), gs S x0 = (0, 10) → gs S y0 = (0, 10) → F_X10_sizeLine_58 S N x0 y0 y1 dy = some (r, dy') → WJ p l e (rmD (4)) s m args below meth c 1 G A 0 0 (MQ below (QI G ad A S r dy') args s 0 0 A) ad 58 [(0, .ref (ad x0))] [.int y1, .ref (ad y0)] S dy := by
  intro x0 y0 y1 dy Tx0 Ty0 E
  rw [F_X10_sizeLine_58_s] at E
  refine ww_puti (ci := 10) (k0 := 29) C dX10_sizeLine_58 rfl rfl inm10 tyX10_ok nmX10 (by decide) Ty0 q1307 rfl rfl rfl ?_
  refine ww_bd E (fun dy1 E => ?_)
  refine ww_aload_n C dX10_sizeLine_61 rfl 0 rfl ?_
  refine ww_iconst (v := 1) C dX10_sizeLine_62 (by decide) ?_
  refine ww_bipush (v := 6) C dX10_sizeLine_63 (by decide) ?_
  obtain ⟨u2, e_3, E⟩ := bind_of E
  refine ww_callI C (runs_V (n := 2) (st := []) C [.int (1 : Int32), .int (6 : Int32)] (M_X10_number l G ad N hG x0 (1 : Int32) (6 : Int32) dy1 Tx0 e_3) ⟨q1516, q118, by decide⟩ q1513 q1515 q47 (ci := 10) rfl Tx0 rfl (Nat.le_of_ble_eq_true rfl) ⟨Nat.le_of_ble_eq_true rfl, Nat.le_of_ble_eq_true rfl⟩ ⟨Nat.zero_le _, Nat.zero_le _⟩ dX10_sizeLine_65 rfl) ?_
  refine ww_if_ne (tgt := 73) C dX10_sizeLine_68 (by decide) E (fun _ E => ?_) (fun _ E => ?_)
  · refine ww_aload_n C dX10_sizeLine_73 rfl 0 rfl ?_
    refine ww_aload_n C dX10_sizeLine_74 rfl 0 rfl ?_
    refine ww_geti (ci := 10) (k0 := 27) C dX10_sizeLine_75 rfl rfl inm10 (by decide) Tx0 q1305 rfl ?_
    refine ww_iconst (v := 1) C dX10_sizeLine_78 (by decide) ?_
    refine ww_bipush (v := 6) C dX10_sizeLine_79 (by decide) ?_
    obtain ⟨u4, e_5, E⟩ := bind_of E
    refine ww_callI C (runs_S (n := 3) (st := [.ref (ad x0)]) C [.int (gi u2.2 x0 27), .int (1 : Int32), .int (6 : Int32)] (M_X10_in l G ad N hG (gi u2.2 x0 27) (1 : Int32) (6 : Int32) u2.2 e_5) ⟨q1476, q118, by decide⟩ q1474 q1475 rfl (Nat.le_of_ble_eq_true rfl) ⟨Nat.le_of_ble_eq_true rfl, Nat.le_of_ble_eq_true rfl⟩ ⟨Nat.zero_le _, Nat.zero_le _⟩ dX10_sizeLine_81 rfl) ?_
    refine ww_if_eq (tgt := 94) C dX10_sizeLine_84 (by decide) E (fun _ E => ?_) (fun _ E => ?_)
    · refine ww_iconst (v := 1) C dX10_sizeLine_94 (by decide) ?_
      refine ww_sub (lv' := [(0, .ref (ad x0))]) [0] rfl ?_
      exact (B_X10_sizeLine_95 C HR HL hG) x0 x0 (1 : Int32) u4.2 Tx0 Tx0 E
    · refine ww_aload_n C dX10_sizeLine_87 rfl 0 rfl ?_
      refine ww_geti (ci := 10) (k0 := 27) C dX10_sizeLine_88 rfl rfl inm10 (by decide) Tx0 q1305 rfl ?_
      refine ww_goto (tgt := 95) C dX10_sizeLine_91 (by decide) ?_
      refine ww_sub (lv' := [(0, .ref (ad x0))]) [0] rfl ?_
      exact (B_X10_sizeLine_95 C HR HL hG) x0 x0 (gi u4.2 x0 27) u4.2 Tx0 Tx0 E
  · refine ww_iconst (v := 0) C dX10_sizeLine_71 (by decide) ?_
    exact ww_zret C HR HL dX10_sizeLine_72 (Or.inl rfl) E
end P_X10_sizeLine
set_option maxHeartbeats 4000000 in
set_option maxRecDepth 100000 in
theorem M_X10_sizeLine (l : Launch) (G : GG) (ad : Nat → Nat) {S : ST} (N : Nat) (hG : Good S) (a0 : Nat) (dy : DY) (T0 : gs S a0 = (0, 10)) {r : Int32} {dy' : DY} (E : F_X10_sizeLine S N a0 dy = some (r, dy')) : MC l yX10_sizeLine cX10_sizeLine 1 (Option.some Jvm.ClassFile.FieldType.boolean) (4) G ad [.ref (ad a0)] S dy (fun A => QI G ad A S r dy') := by
  rw [F_X10_sizeLine_s] at E
  refine mc_of RX10 (by decide) rfl (Nat.le_of_ble_eq_true rfl) (fun p e s m args below meth c A C HR HL => ?_)
  refine ww_sub (lv' := [(0, .ref (ad a0))]) [0] rfl ?_
  refine ww_aload_n C dX10_sizeLine_0 rfl 0 rfl ?_
  refine ww_ldc2 (v := (1936292453)) C dX10_sizeLine_1 q1504 ?_
  obtain ⟨u1, e_2, E⟩ := bind_of E
  refine ww_callI C (runs_V (n := 1) (st := []) C [.long (1936292453 : Int64)] (M_X10_isWord l G ad N hG a0 (1936292453 : Int64) dy T0 e_2) ⟨q1508, q118, by decide⟩ q1505 q1507 q45 (ci := 10) rfl T0 rfl (Nat.le_of_ble_eq_true rfl) ⟨Nat.le_of_ble_eq_true rfl, Nat.le_of_ble_eq_true rfl⟩ ⟨Nat.zero_le _, Nat.zero_le _⟩ dX10_sizeLine_4 rfl) ?_
  refine ww_if_ne (tgt := 15) C dX10_sizeLine_7 (by decide) E (fun _ E => ?_) (fun _ E => ?_)
  · refine ww_aload_n C dX10_sizeLine_15 rfl 0 rfl ?_
    obtain ⟨u3, e_4, E⟩ := bind_of E
    refine ww_callV C (runs_V (n := 0) (st := []) C [] (M_X10_token l G ad N hG a0 u1.2 T0 e_4) ⟨q1492, q118, by decide⟩ q1489 q1491 q42 (ci := 10) rfl T0 rfl (Nat.le_of_ble_eq_true rfl) ⟨Nat.le_of_ble_eq_true rfl, Nat.le_of_ble_eq_true rfl⟩ ⟨Nat.zero_le _, Nat.zero_le _⟩ dX10_sizeLine_16 rfl) ?_
    refine ww_aload_n C dX10_sizeLine_19 rfl 0 rfl ?_
    refine ww_iconst (v := 1) C dX10_sizeLine_20 (by decide) ?_
    refine ww_putz (ci := 10) (k0 := 28) C dX10_sizeLine_21 rfl rfl inm10 tyX10_ok nmX10 (by decide) T0 q1306 rfl rfl rfl (Or.inr rfl) ?_
    refine ww_bd E (fun dy5 E => ?_)
    refine ww_aload_n C dX10_sizeLine_24 rfl 0 rfl ?_
    refine ww_iconst (v := 2) C dX10_sizeLine_25 (by decide) ?_
    refine ww_bipush (v := 16) C dX10_sizeLine_26 (by decide) ?_
    obtain ⟨u6, e_7, E⟩ := bind_of E
    refine ww_callI C (runs_V (n := 2) (st := []) C [.int (2 : Int32), .int (16 : Int32)] (M_X10_number l G ad N hG a0 (2 : Int32) (16 : Int32) dy5 T0 e_7) ⟨q1516, q118, by decide⟩ q1513 q1515 q47 (ci := 10) rfl T0 rfl (Nat.le_of_ble_eq_true rfl) ⟨Nat.le_of_ble_eq_true rfl, Nat.le_of_ble_eq_true rfl⟩ ⟨Nat.zero_le _, Nat.zero_le _⟩ dX10_sizeLine_28 rfl) ?_
    refine ww_if_ne (tgt := 36) C dX10_sizeLine_31 (by decide) E (fun _ E => ?_) (fun _ E => ?_)
    · refine ww_aload_n C dX10_sizeLine_36 rfl 0 rfl ?_
      refine ww_aload_n C dX10_sizeLine_37 rfl 0 rfl ?_
      refine ww_geti (ci := 10) (k0 := 27) C dX10_sizeLine_38 rfl rfl inm10 (by decide) T0 q1305 rfl ?_
      refine ww_iconst (v := 2) C dX10_sizeLine_41 (by decide) ?_
      refine ww_bipush (v := 16) C dX10_sizeLine_42 (by decide) ?_
      obtain ⟨u8, e_9, E⟩ := bind_of E
      refine ww_callI C (runs_S (n := 3) (st := [.ref (ad a0)]) C [.int (gi u6.2 a0 27), .int (2 : Int32), .int (16 : Int32)] (M_X10_in l G ad N hG (gi u6.2 a0 27) (2 : Int32) (16 : Int32) u6.2 e_9) ⟨q1476, q118, by decide⟩ q1474 q1475 rfl (Nat.le_of_ble_eq_true rfl) ⟨Nat.le_of_ble_eq_true rfl, Nat.le_of_ble_eq_true rfl⟩ ⟨Nat.zero_le _, Nat.zero_le _⟩ dX10_sizeLine_44 rfl) ?_
      refine ww_if_eq (tgt := 57) C dX10_sizeLine_47 (by decide) E (fun _ E => ?_) (fun _ E => ?_)
      · refine ww_iconst (v := 2) C dX10_sizeLine_57 (by decide) ?_
        refine ww_sub (lv' := [(0, .ref (ad a0))]) [0] rfl ?_
        exact (B_X10_sizeLine_58 C HR HL hG) a0 a0 (2 : Int32) u8.2 T0 T0 E
      · refine ww_aload_n C dX10_sizeLine_50 rfl 0 rfl ?_
        refine ww_geti (ci := 10) (k0 := 27) C dX10_sizeLine_51 rfl rfl inm10 (by decide) T0 q1305 rfl ?_
        refine ww_goto (tgt := 58) C dX10_sizeLine_54 (by decide) ?_
        refine ww_sub (lv' := [(0, .ref (ad a0))]) [0] rfl ?_
        exact (B_X10_sizeLine_58 C HR HL hG) a0 a0 (gi u8.2 a0 27) u8.2 T0 T0 E
    · refine ww_iconst (v := 0) C dX10_sizeLine_34 (by decide) ?_
      exact ww_zret C HR HL dX10_sizeLine_35 (Or.inl rfl) E
  · refine ww_aload_n C dX10_sizeLine_10 rfl 0 rfl ?_
    obtain ⟨u10, e_11, E⟩ := bind_of E
    refine ww_callI C (runs_V (n := 0) (st := []) C [] (M_X10_stops l G ad N hG a0 u1.2 T0 e_11) ⟨q1512, q118, by decide⟩ q1509 q1511 q46 (ci := 10) rfl T0 rfl (Nat.le_of_ble_eq_true rfl) ⟨Nat.le_of_ble_eq_true rfl, Nat.le_of_ble_eq_true rfl⟩ ⟨Nat.zero_le _, Nat.zero_le _⟩ dX10_sizeLine_11 rfl) ?_
    obtain ⟨z_, E⟩ := gd_of E
    exact ww_zret C HR HL dX10_sizeLine_14 z_ E
section P_X10_passage
variable {p : Program} {l : Launch} {e : Env} {s : State} {m : MethodId} {args : Array Value} {below : List Frame} {meth : Method} {c : Code} {G : GG} {A : Nat → Prop} {ad : Nat → Nat} {S : ST} {N : Nat} {r : Int32} {dy' : DY}
set_option maxHeartbeats 4000000 in
set_option maxRecDepth 100000 in
theorem B_X10_passage_106 (C : CX p s m args c cX10_passage 6 RX10 G A) (HR : meth.sig.returnType = (Option.some Jvm.ClassFile.FieldType.int)) (HL : meth.locks = false) (hG : Good S) {K80 : Nat → Int32 → Int32 → Int32 → DY → Option (Int32 × DY)} (hK80 : ∀ (x0 : Nat) (x1 : Int32) (x2 : Int32) (x3 : Int32) (dy : DY), gs S x0 = (0, 10) → K80 x0 x1 x2 x3 dy = some (r, dy') → WJ p l e (rmD (7)) s m args below meth c 6 G A 0 0 (MQ below (QI G ad A S r dy') args s 0 0 A) ad 80 [(0, .ref (ad x0)), (1, .int x1), (2, .int x2), (3, .int x3)] [] S dy) : ∀ (x0 : Nat) (x1 : Int32) (x3 : Int32) (dy : DY), gs S x0 = (0, 10) → F_X10_passage_106 S N K80 x0 x1 x3 dy = some (r, dy') → WJ p l e (rmD (7)) s m args below meth c 6 G A 0 0 (MQ below (QI G ad A S r dy') args s 0 0 A) ad 106 [(0, .ref (ad x0)), (1, .int x1), (3, .int x3)] [] S dy := by
  intro x0 x1 x3 dy Tx0 E
  rw [F_X10_passage_106_s] at E
  refine ww_iinc (v := (x3 + (1 : Int32))) (lv' := [(3, .int (x3 + (1 : Int32))), (0, .ref (ad x0)), (1, .int x1)]) C dX10_passage_106 2 rfl rfl (by decide) rfl ?_
  refine ww_aload_n C dX10_passage_109 rfl 1 rfl ?_
  obtain ⟨u1, e_2, E⟩ := bind_of E
  refine ww_callI C (runs_V (n := 0) (st := []) C [] (M_X10_passageLine l G ad N hG x0 dy Tx0 e_2) ⟨q1532, q118, by decide⟩ q1529 q1531 q51 (ci := 10) rfl Tx0 rfl (Nat.le_of_ble_eq_true rfl) ⟨Nat.le_of_ble_eq_true rfl, Nat.le_of_ble_eq_true rfl⟩ ⟨Nat.zero_le _, Nat.zero_le _⟩ dX10_passage_110 rfl) ?_
  refine ww_istore_n (lv' := [(2, .int u1.1), (3, .int (x3 + (1 : Int32))), (0, .ref (ad x0)), (1, .int x1)]) C dX10_passage_113 rfl (by decide) rfl ?_
  refine ww_goto (tgt := 80) C dX10_passage_114 (by decide) ?_
  refine ww_sub (lv' := [(0, .ref (ad x0)), (1, .int x1), (2, .int u1.1), (3, .int (x3 + (1 : Int32)))]) [2, 3, 0, 1] rfl ?_
  exact hK80 x0 x1 u1.1 (x3 + (1 : Int32)) u1.2 Tx0 E
set_option maxHeartbeats 4000000 in
set_option maxRecDepth 100000 in
theorem B_X10_passage_246 (C : CX p s m args c cX10_passage 6 RX10 G A) (HR : meth.sig.returnType = (Option.some Jvm.ClassFile.FieldType.int)) (HL : meth.locks = false) (hG : Good S) : ∀ k : Nat, ∀ (x0 : Nat) (x4 : Int32) (x5 : Int32) (dy : DY), gs S x0 = (0, 10) → (F_X10_passage_246 S N k) x0 x4 x5 dy = some (r, dy') → WJ p l e (rmD (7)) s m args below meth c 6 G A 0 0 (MQ below (QI G ad A S r dy') args s 0 0 A) ad 246 [(0, .ref (ad x0)), (4, .int x4), (5, .int x5)] [] S dy := by
  intro k
  induction k with
  | zero => exact fun _ _ _ _ _ E => nomatch (show none = some (r, dy') from E)
  | succ k ih =>
    intro x0 x4 x5 dy Tx0 E
    rw [F_X10_passage_246_s] at E
    refine ww_iload C dX10_passage_246 2 rfl ?_
    refine ww_bipush (v := 8) C dX10_passage_248 (by decide) ?_
    refine ww_aload_n C dX10_passage_250 rfl 0 rfl ?_
    refine ww_geti (ci := 10) (k0 := 31) C dX10_passage_251 rfl rfl inm10 (by decide) Tx0 q1309 rfl ?_
    refine ww_imul C dX10_passage_254 ?_
    refine ww_icmp_ge (tgt := 284) C dX10_passage_255 (by decide) E (fun _ E => ?_) (fun _ E => ?_)
    · refine ww_iload C dX10_passage_284 1 rfl ?_
      exact ww_iret C HR HL dX10_passage_286 E
    · refine ww_aload_n C dX10_passage_258 rfl 0 rfl ?_
      have T_1 : gs S (gr S x0 11) = (1, 1152) := hG.1 _ 10 Tx0 11 (by decide)
      refine ww_getr (ci := 10) (k0 := 11) C dX10_passage_259 rfl rfl inm10 (by decide) Tx0 q1289 rfl T_1 (by decide) ?_
      refine ww_bipush (v := 96) C dX10_passage_262 (by decide) ?_
      refine ww_iload C dX10_passage_264 1 rfl ?_
      refine ww_imul C dX10_passage_266 ?_
      refine ww_iload C dX10_passage_267 2 rfl ?_
      refine ww_iadd C dX10_passage_269 ?_
      refine ww_aload_n C dX10_passage_270 rfl 0 rfl ?_
      have T_2 : gs S (gr S x0 34) = (1, 104) := hG.1 _ 10 Tx0 34 (by decide)
      refine ww_getr (ci := 10) (k0 := 34) C dX10_passage_271 rfl rfl inm10 (by decide) Tx0 q1312 rfl T_2 (by decide) ?_
      refine ww_iload C dX10_passage_274 2 rfl ?_
      refine ww_iald C dX10_passage_276 T_2 E (fun _ E => ?_)
      refine ww_iast C dX10_passage_277 T_1 E (fun _ E => ?_)
      refine ww_bd E (fun dy3 E => ?_)
      refine ww_iinc (v := (x5 + (1 : Int32))) (lv' := [(5, .int (x5 + (1 : Int32))), (0, .ref (ad x0)), (4, .int x4)]) C dX10_passage_278 2 rfl rfl (by decide) rfl ?_
      refine ww_goto (tgt := 246) C dX10_passage_281 (by decide) ?_
      refine ww_sub (lv' := [(0, .ref (ad x0)), (4, .int x4), (5, .int (x5 + (1 : Int32)))]) [1, 2, 0] rfl ?_
      exact ih x0 x4 (x5 + (1 : Int32)) dy3 Tx0 E
set_option maxHeartbeats 4000000 in
set_option maxRecDepth 100000 in
theorem B_X10_passage_210 (C : CX p s m args c cX10_passage 6 RX10 G A) (HR : meth.sig.returnType = (Option.some Jvm.ClassFile.FieldType.int)) (HL : meth.locks = false) (hG : Good S) : ∀ k : Nat, ∀ (x0 : Nat) (x4 : Int32) (x5 : Int32) (dy : DY), gs S x0 = (0, 10) → (F_X10_passage_210 S N k) x0 x4 x5 dy = some (r, dy') → WJ p l e (rmD (7)) s m args below meth c 6 G A 0 0 (MQ below (QI G ad A S r dy') args s 0 0 A) ad 210 [(0, .ref (ad x0)), (4, .int x4), (5, .int x5)] [] S dy := by
  intro k
  induction k with
  | zero => exact fun _ _ _ _ _ E => nomatch (show none = some (r, dy') from E)
  | succ k ih =>
    intro x0 x4 x5 dy Tx0 E
    rw [F_X10_passage_210_s] at E
    refine ww_iload C dX10_passage_210 2 rfl ?_
    refine ww_bipush (v := 96) C dX10_passage_212 (by decide) ?_
    refine ww_icmp_ge (tgt := 243) C dX10_passage_214 (by decide) E (fun _ E => ?_) (fun _ E => ?_)
    · refine ww_iconst (v := 0) C dX10_passage_243 (by decide) ?_
      refine ww_istore (lv' := [(5, .int (0 : Int32)), (0, .ref (ad x0)), (4, .int x4)]) C dX10_passage_244 (by decide) rfl ?_
      refine ww_sub (lv' := [(0, .ref (ad x0)), (4, .int x4), (5, .int (0 : Int32))]) [1, 2, 0] rfl ?_
      exact (B_X10_passage_246 C HR HL hG N) x0 x4 (0 : Int32) dy Tx0 E
    · refine ww_aload_n C dX10_passage_217 rfl 0 rfl ?_
      have T_1 : gs S (gr S x0 10) = (1, 1152) := hG.1 _ 10 Tx0 10 (by decide)
      refine ww_getr (ci := 10) (k0 := 10) C dX10_passage_218 rfl rfl inm10 (by decide) Tx0 q1288 rfl T_1 (by decide) ?_
      refine ww_bipush (v := 96) C dX10_passage_221 (by decide) ?_
      refine ww_iload C dX10_passage_223 1 rfl ?_
      refine ww_imul C dX10_passage_225 ?_
      refine ww_iload C dX10_passage_226 2 rfl ?_
      refine ww_iadd C dX10_passage_228 ?_
      refine ww_aload_n C dX10_passage_229 rfl 0 rfl ?_
      have T_2 : gs S (gr S x0 33) = (1, 96) := hG.1 _ 10 Tx0 33 (by decide)
      refine ww_getr (ci := 10) (k0 := 33) C dX10_passage_230 rfl rfl inm10 (by decide) Tx0 q1311 rfl T_2 (by decide) ?_
      refine ww_iload C dX10_passage_233 2 rfl ?_
      refine ww_iald C dX10_passage_235 T_2 E (fun _ E => ?_)
      refine ww_iast C dX10_passage_236 T_1 E (fun _ E => ?_)
      refine ww_bd E (fun dy3 E => ?_)
      refine ww_iinc (v := (x5 + (1 : Int32))) (lv' := [(5, .int (x5 + (1 : Int32))), (0, .ref (ad x0)), (4, .int x4)]) C dX10_passage_237 2 rfl rfl (by decide) rfl ?_
      refine ww_goto (tgt := 210) C dX10_passage_240 (by decide) ?_
      refine ww_sub (lv' := [(0, .ref (ad x0)), (4, .int x4), (5, .int (x5 + (1 : Int32)))]) [1, 2, 0] rfl ?_
      exact ih x0 x4 (x5 + (1 : Int32)) dy3 Tx0 E
set_option maxHeartbeats 4000000 in
set_option maxRecDepth 100000 in
theorem B_X10_passage_161 (C : CX p s m args c cX10_passage 6 RX10 G A) (HR : meth.sig.returnType = (Option.some Jvm.ClassFile.FieldType.int)) (HL : meth.locks = false) (hG : Good S) : ∀ (x0 : Nat) (x4 : Int32) (y0 : Nat) (y1 : Int32) (y2 : Int32) (y3 : Int32) (dy : DY), gs S x0 = (0, 10) → gs S y0 = (1, 4) → F_X10_passage_161 S N x0 x4 y0 y1 y2 y3 dy = some (r, dy') → WJ p l e (rmD (7)) s m args below meth c 6 G A 0 0 (MQ below (QI G ad A S r dy') args s 0 0 A) ad 161 [(0, .ref (ad x0)), (4, .int x4)] [.int y3, .int y2, .int y1, .ref (ad y0)] S dy := by
  intro x0 x4 y0 y1 y2 y3 dy Tx0 Ty0 E
  rw [F_X10_passage_161_s] at E
  refine ww_iadd C dX10_passage_161 ?_
  refine ww_iast C dX10_passage_162 Ty0 E (fun _ E => ?_)
  refine ww_bd E (fun dy1 E => ?_)
  refine ww_aload_n C dX10_passage_163 rfl 0 rfl ?_
  have T_2 : gs S (gr S x0 6) = (1, 12) := hG.1 _ 10 Tx0 6 (by decide)
  refine ww_getr (ci := 10) (k0 := 6) C dX10_passage_164 rfl rfl inm10 (by decide) Tx0 q1284 rfl T_2 (by decide) ?_
  refine ww_iload C dX10_passage_167 1 rfl ?_
  refine ww_aload_n C dX10_passage_169 rfl 0 rfl ?_
  refine ww_geti (ci := 10) (k0 := 29) C dX10_passage_170 rfl rfl inm10 (by decide) Tx0 q1307 rfl ?_
  refine ww_iast C dX10_passage_173 T_2 E (fun _ E => ?_)
  refine ww_bd E (fun dy3 E => ?_)
  refine ww_aload_n C dX10_passage_174 rfl 0 rfl ?_
  have T_4 : gs S (gr S x0 7) = (1, 12) := hG.1 _ 10 Tx0 7 (by decide)
  refine ww_getr (ci := 10) (k0 := 7) C dX10_passage_175 rfl rfl inm10 (by decide) Tx0 q1285 rfl T_4 (by decide) ?_
  refine ww_iload C dX10_passage_178 1 rfl ?_
  refine ww_aload_n C dX10_passage_180 rfl 0 rfl ?_
  refine ww_geti (ci := 10) (k0 := 30) C dX10_passage_181 rfl rfl inm10 (by decide) Tx0 q1308 rfl ?_
  refine ww_iast C dX10_passage_184 T_4 E (fun _ E => ?_)
  refine ww_bd E (fun dy5 E => ?_)
  refine ww_aload_n C dX10_passage_185 rfl 0 rfl ?_
  have T_6 : gs S (gr S x0 8) = (1, 12) := hG.1 _ 10 Tx0 8 (by decide)
  refine ww_getr (ci := 10) (k0 := 8) C dX10_passage_186 rfl rfl inm10 (by decide) Tx0 q1286 rfl T_6 (by decide) ?_
  refine ww_iload C dX10_passage_189 1 rfl ?_
  refine ww_aload_n C dX10_passage_191 rfl 0 rfl ?_
  refine ww_geti (ci := 10) (k0 := 31) C dX10_passage_192 rfl rfl inm10 (by decide) Tx0 q1309 rfl ?_
  refine ww_iast C dX10_passage_195 T_6 E (fun _ E => ?_)
  refine ww_bd E (fun dy7 E => ?_)
  refine ww_aload_n C dX10_passage_196 rfl 0 rfl ?_
  have T_8 : gs S (gr S x0 9) = (1, 12) := hG.1 _ 10 Tx0 9 (by decide)
  refine ww_getr (ci := 10) (k0 := 9) C dX10_passage_197 rfl rfl inm10 (by decide) Tx0 q1287 rfl T_8 (by decide) ?_
  refine ww_iload C dX10_passage_200 1 rfl ?_
  refine ww_aload_n C dX10_passage_202 rfl 0 rfl ?_
  refine ww_geti (ci := 10) (k0 := 32) C dX10_passage_203 rfl rfl inm10 (by decide) Tx0 q1310 rfl ?_
  refine ww_iast C dX10_passage_206 T_8 E (fun _ E => ?_)
  refine ww_bd E (fun dy9 E => ?_)
  refine ww_iconst (v := 0) C dX10_passage_207 (by decide) ?_
  refine ww_istore (lv' := [(5, .int (0 : Int32)), (0, .ref (ad x0)), (4, .int x4)]) C dX10_passage_208 (by decide) rfl ?_
  refine ww_sub (lv' := [(0, .ref (ad x0)), (4, .int x4), (5, .int (0 : Int32))]) [1, 2, 0] rfl ?_
  exact (B_X10_passage_210 C HR HL hG N) x0 x4 (0 : Int32) dy9 Tx0 E
set_option maxHeartbeats 4000000 in
set_option maxRecDepth 100000 in
theorem B_X10_passage_142 (C : CX p s m args c cX10_passage 6 RX10 G A) (HR : meth.sig.returnType = (Option.some Jvm.ClassFile.FieldType.int)) (HL : meth.locks = false) (hG : Good S) : ∀ (x0 : Nat) (x1 : Int32) (y0 : Int32) (dy : DY), gs S x0 = (0, 10) → F_X10_passage_142 S N x0 x1 y0 dy = some (r, dy') → WJ p l e (rmD (7)) s m args below meth c 6 G A 0 0 (MQ below (QI G ad A S r dy') args s 0 0 A) ad 142 [(0, .ref (ad x0)), (1, .int x1)] [.int y0] S dy := by
  intro x0 x1 y0 dy Tx0 E
  rw [F_X10_passage_142_s] at E
  refine ww_istore (lv' := [(4, .int y0), (0, .ref (ad x0)), (1, .int x1)]) C dX10_passage_142 (by decide) rfl ?_
  refine ww_aload_n C dX10_passage_144 rfl 1 rfl ?_
  have T_1 : gs S (gr S x0 5) = (1, 4) := hG.1 _ 10 Tx0 5 (by decide)
  refine ww_getr (ci := 10) (k0 := 5) C dX10_passage_145 rfl rfl inm10 (by decide) Tx0 q1283 rfl T_1 (by decide) ?_
  refine ww_iconst (v := 0) C dX10_passage_148 (by decide) ?_
  refine ww_dup2 C dX10_passage_149 rfl rfl ?_
  refine ww_iald C dX10_passage_150 T_1 E (fun _ E => ?_)
  refine ww_iload_n C dX10_passage_151 rfl 2 rfl ?_
  refine ww_iconst (v := (-1)) C dX10_passage_152 (by decide) ?_
  refine ww_icmp_ne (tgt := 160) C dX10_passage_153 (by decide) E (fun _ E => ?_) (fun _ E => ?_)
  · refine ww_iconst (v := 0) C dX10_passage_160 (by decide) ?_
    refine ww_sub (lv' := [(0, .ref (ad x0)), (4, .int y0)]) [1, 0] rfl ?_
    exact (B_X10_passage_161 C HR HL hG) x0 y0 (gr S x0 5) (0 : Int32) (gi dy (gr S x0 5) (0 : Int32).toNatClampNeg) (0 : Int32) dy Tx0 T_1 E
  · refine ww_iconst (v := 1) C dX10_passage_156 (by decide) ?_
    refine ww_goto (tgt := 161) C dX10_passage_157 (by decide) ?_
    refine ww_sub (lv' := [(0, .ref (ad x0)), (4, .int y0)]) [1, 0] rfl ?_
    exact (B_X10_passage_161 C HR HL hG) x0 y0 (gr S x0 5) (0 : Int32) (gi dy (gr S x0 5) (0 : Int32).toNatClampNeg) (1 : Int32) dy Tx0 T_1 E
set_option maxHeartbeats 4000000 in
set_option maxRecDepth 100000 in
theorem B_X10_passage_117 (C : CX p s m args c cX10_passage 6 RX10 G A) (HR : meth.sig.returnType = (Option.some Jvm.ClassFile.FieldType.int)) (HL : meth.locks = false) (hG : Good S) : ∀ (x0 : Nat) (x1 : Int32) (x2 : Int32) (dy : DY), gs S x0 = (0, 10) → F_X10_passage_117 S N x0 x1 x2 dy = some (r, dy') → WJ p l e (rmD (7)) s m args below meth c 6 G A 0 0 (MQ below (QI G ad A S r dy') args s 0 0 A) ad 117 [(0, .ref (ad x0)), (1, .int x1), (2, .int x2)] [] S dy := by
  intro x0 x1 x2 dy Tx0 E
  rw [F_X10_passage_117_s] at E
  refine ww_aload_n C dX10_passage_117 rfl 0 rfl ?_
  refine ww_iload_n C dX10_passage_118 rfl 2 rfl ?_
  obtain ⟨u1, e_2, E⟩ := bind_of E
  refine ww_callI C (runs_V (n := 1) (st := []) C [.int x2] (M_X10_isGood l G ad N hG x0 x2 dy Tx0 e_2) ⟨q1579, q118, by decide⟩ q1576 q1578 q60 (ci := 10) rfl Tx0 rfl (Nat.le_of_ble_eq_true rfl) ⟨Nat.le_of_ble_eq_true rfl, Nat.le_of_ble_eq_true rfl⟩ ⟨Nat.zero_le _, Nat.zero_le _⟩ dX10_passage_119 rfl) ?_
  refine ww_if_ne (tgt := 127) C dX10_passage_122 (by decide) E (fun _ E => ?_) (fun _ E => ?_)
  · refine ww_iload_n C dX10_passage_127 rfl 1 rfl ?_
    refine ww_iconst (v := (-1)) C dX10_passage_128 (by decide) ?_
    refine ww_icmp_ne (tgt := 141) C dX10_passage_129 (by decide) E (fun _ E => ?_) (fun _ E => ?_)
    · refine ww_iload_n C dX10_passage_141 rfl 1 rfl ?_
      refine ww_sub (lv' := [(0, .ref (ad x0)), (1, .int x1)]) [0, 1] rfl ?_
      exact (B_X10_passage_142 C HR HL hG) x0 x1 x1 u1.2 Tx0 E
    · refine ww_aload_n C dX10_passage_132 rfl 0 rfl ?_
      have T_3 : gs S (gr S x0 5) = (1, 4) := hG.1 _ 10 Tx0 5 (by decide)
      refine ww_getr (ci := 10) (k0 := 5) C dX10_passage_133 rfl rfl inm10 (by decide) Tx0 q1283 rfl T_3 (by decide) ?_
      refine ww_iconst (v := 0) C dX10_passage_136 (by decide) ?_
      refine ww_iald C dX10_passage_137 T_3 E (fun _ E => ?_)
      refine ww_goto (tgt := 142) C dX10_passage_138 (by decide) ?_
      refine ww_sub (lv' := [(0, .ref (ad x0)), (1, .int x1)]) [0, 1] rfl ?_
      exact (B_X10_passage_142 C HR HL hG) x0 x1 (gi u1.2 (gr S x0 5) (0 : Int32).toNatClampNeg) u1.2 Tx0 E
  · refine ww_iconst (v := (-1)) C dX10_passage_125 (by decide) ?_
    exact ww_iret C HR HL dX10_passage_126 E
set_option maxHeartbeats 4000000 in
set_option maxRecDepth 100000 in
theorem B_X10_passage_80 (C : CX p s m args c cX10_passage 6 RX10 G A) (HR : meth.sig.returnType = (Option.some Jvm.ClassFile.FieldType.int)) (HL : meth.locks = false) (hG : Good S) : ∀ k : Nat, ∀ (x0 : Nat) (x1 : Int32) (x2 : Int32) (x3 : Int32) (dy : DY), gs S x0 = (0, 10) → (F_X10_passage_80 S N k) x0 x1 x2 x3 dy = some (r, dy') → WJ p l e (rmD (7)) s m args below meth c 6 G A 0 0 (MQ below (QI G ad A S r dy') args s 0 0 A) ad 80 [(0, .ref (ad x0)), (1, .int x1), (2, .int x2), (3, .int x3)] [] S dy := by
  intro k
  induction k with
  | zero => exact fun _ _ _ _ _ _ E => nomatch (show none = some (r, dy') from E)
  | succ k ih =>
    intro x0 x1 x2 x3 dy Tx0 E
    rw [F_X10_passage_80_s] at E
    refine ww_iload_n C dX10_passage_80 rfl 2 rfl ?_
    refine ww_if_eq (tgt := 117) C dX10_passage_81 (by decide) E (fun _ E => ?_) (fun _ E => ?_)
    · refine ww_sub (lv' := [(0, .ref (ad x0)), (1, .int x1), (2, .int x2)]) [0, 1, 2] rfl ?_
      exact (B_X10_passage_117 C HR HL hG) x0 x1 x2 dy Tx0 E
    · refine ww_aload_n C dX10_passage_84 rfl 0 rfl ?_
      refine ww_geti (ci := 10) (k0 := 21) C dX10_passage_85 rfl rfl inm10 (by decide) Tx0 q1299 rfl ?_
      refine ww_if_eq (tgt := 117) C dX10_passage_88 (by decide) E (fun _ E => ?_) (fun _ E => ?_)
      · refine ww_sub (lv' := [(0, .ref (ad x0)), (1, .int x1), (2, .int x2)]) [0, 1, 2] rfl ?_
        exact (B_X10_passage_117 C HR HL hG) x0 x1 x2 dy Tx0 E
      · refine ww_iload_n C dX10_passage_91 rfl 3 rfl ?_
        refine ww_bipush (v := 40) C dX10_passage_92 (by decide) ?_
        refine ww_icmp_ne (tgt := 106) C dX10_passage_94 (by decide) E (fun _ E => ?_) (fun _ E => ?_)
        · refine ww_sub (lv' := [(0, .ref (ad x0)), (1, .int x1), (3, .int x3)]) [0, 1, 3] rfl ?_
          exact (B_X10_passage_106 C HR HL hG ih) x0 x1 x3 dy Tx0 E
        · refine ww_aload_n C dX10_passage_97 rfl 0 rfl ?_
          refine ww_iconst (v := 3) C dX10_passage_98 (by decide) ?_
          refine ww_aload_n C dX10_passage_99 rfl 0 rfl ?_
          refine ww_geti (ci := 10) (k0 := 20) C dX10_passage_100 rfl rfl inm10 (by decide) Tx0 q1298 rfl ?_
          obtain ⟨u1, e_2, E⟩ := bind_of E
          refine ww_callV C (runs_V (n := 2) (st := []) C [.int (3 : Int32), .int (gi dy x0 20)] (M_X10_later l G ad N hG x0 (3 : Int32) (gi dy x0 20) dy Tx0 e_2) ⟨q1520, q118, by decide⟩ q1517 q1519 q48 (ci := 10) rfl Tx0 rfl (Nat.le_of_ble_eq_true rfl) ⟨Nat.le_of_ble_eq_true rfl, Nat.le_of_ble_eq_true rfl⟩ ⟨Nat.zero_le _, Nat.zero_le _⟩ dX10_passage_103 rfl) ?_
          refine ww_sub (lv' := [(0, .ref (ad x0)), (1, .int x1), (3, .int x3)]) [0, 1, 3] rfl ?_
          exact (B_X10_passage_106 C HR HL hG ih) x0 x1 x3 u1 Tx0 E
set_option maxHeartbeats 4000000 in
set_option maxRecDepth 100000 in
theorem B_X10_passage_50 (C : CX p s m args c cX10_passage 6 RX10 G A) (HR : meth.sig.returnType = (Option.some Jvm.ClassFile.FieldType.int)) (HL : meth.locks = false) (hG : Good S) : ∀ k : Nat, ∀ (x0 : Nat) (x1 : Int32) (x2 : Int32) (dy : DY), gs S x0 = (0, 10) → (F_X10_passage_50 S N k) x0 x1 x2 dy = some (r, dy') → WJ p l e (rmD (7)) s m args below meth c 6 G A 0 0 (MQ below (QI G ad A S r dy') args s 0 0 A) ad 50 [(0, .ref (ad x0)), (1, .int x1), (2, .int x2)] [] S dy := by
  intro k
  induction k with
  | zero => exact fun _ _ _ _ _ E => nomatch (show none = some (r, dy') from E)
  | succ k ih =>
    intro x0 x1 x2 dy Tx0 E
    rw [F_X10_passage_50_s] at E
    refine ww_iload_n C dX10_passage_50 rfl 2 rfl ?_
    refine ww_bipush (v := 96) C dX10_passage_51 (by decide) ?_
    refine ww_icmp_ge (tgt := 69) C dX10_passage_53 (by decide) E (fun _ E => ?_) (fun _ E => ?_)
    · refine ww_aload_n C dX10_passage_69 rfl 0 rfl ?_
      obtain ⟨u1, e_2, E⟩ := bind_of E
      refine ww_callV C (runs_V (n := 0) (st := []) C [] (M_X10_token l G ad N hG x0 dy Tx0 e_2) ⟨q1492, q118, by decide⟩ q1489 q1491 q42 (ci := 10) rfl Tx0 rfl (Nat.le_of_ble_eq_true rfl) ⟨Nat.le_of_ble_eq_true rfl, Nat.le_of_ble_eq_true rfl⟩ ⟨Nat.zero_le _, Nat.zero_le _⟩ dX10_passage_70 rfl) ?_
      refine ww_aload_n C dX10_passage_73 rfl 0 rfl ?_
      obtain ⟨u3, e_4, E⟩ := bind_of E
      refine ww_callI C (runs_V (n := 0) (st := []) C [] (M_X10_sizeLine l G ad N hG x0 u1 Tx0 e_4) ⟨q1503, q118, by decide⟩ q1500 q1502 q44 (ci := 10) rfl Tx0 rfl (Nat.le_of_ble_eq_true rfl) ⟨Nat.le_of_ble_eq_true rfl, Nat.le_of_ble_eq_true rfl⟩ ⟨Nat.zero_le _, Nat.zero_le _⟩ dX10_passage_74 rfl) ?_
      refine ww_istore_n (lv' := [(2, .int u3.1), (0, .ref (ad x0)), (1, .int x1)]) C dX10_passage_77 rfl (by decide) rfl ?_
      refine ww_iconst (v := 0) C dX10_passage_78 (by decide) ?_
      refine ww_istore_n (lv' := [(3, .int (0 : Int32)), (2, .int u3.1), (0, .ref (ad x0)), (1, .int x1)]) C dX10_passage_79 rfl (by decide) rfl ?_
      refine ww_sub (lv' := [(0, .ref (ad x0)), (1, .int x1), (2, .int u3.1), (3, .int (0 : Int32))]) [2, 3, 1, 0] rfl ?_
      exact (B_X10_passage_80 C HR HL hG N) x0 x1 u3.1 (0 : Int32) u3.2 Tx0 E
    · refine ww_aload_n C dX10_passage_56 rfl 0 rfl ?_
      have T_5 : gs S (gr S x0 33) = (1, 96) := hG.1 _ 10 Tx0 33 (by decide)
      refine ww_getr (ci := 10) (k0 := 33) C dX10_passage_57 rfl rfl inm10 (by decide) Tx0 q1311 rfl T_5 (by decide) ?_
      refine ww_iload_n C dX10_passage_60 rfl 2 rfl ?_
      refine ww_iconst (v := 0) C dX10_passage_61 (by decide) ?_
      refine ww_iast C dX10_passage_62 T_5 E (fun _ E => ?_)
      refine ww_bd E (fun dy6 E => ?_)
      refine ww_iinc (v := (x2 + (1 : Int32))) (lv' := [(2, .int (x2 + (1 : Int32))), (0, .ref (ad x0)), (1, .int x1)]) C dX10_passage_63 2 rfl rfl (by decide) rfl ?_
      refine ww_goto (tgt := 50) C dX10_passage_66 (by decide) ?_
      refine ww_sub (lv' := [(0, .ref (ad x0)), (1, .int x1), (2, .int (x2 + (1 : Int32)))]) [1, 2, 0] rfl ?_
      exact ih x0 x1 (x2 + (1 : Int32)) dy6 Tx0 E
set_option maxHeartbeats 4000000 in
set_option maxRecDepth 100000 in
theorem B_X10_passage_38 (C : CX p s m args c cX10_passage 6 RX10 G A) (HR : meth.sig.returnType = (Option.some Jvm.ClassFile.FieldType.int)) (HL : meth.locks = false) (hG : Good S) : ∀ (x0 : Nat) (x1 : Int32) (dy : DY), gs S x0 = (0, 10) → F_X10_passage_38 S N x0 x1 dy = some (r, dy') → WJ p l e (rmD (7)) s m args below meth c 6 G A 0 0 (MQ below (QI G ad A S r dy') args s 0 0 A) ad 38 [(0, .ref (ad x0)), (1, .int x1)] [] S dy := by
  intro x0 x1 dy Tx0 E
  rw [F_X10_passage_38_s] at E
  refine ww_aload_n C dX10_passage_38 rfl 0 rfl ?_
  refine ww_iconst (v := 0) C dX10_passage_39 (by decide) ?_
  refine ww_puti (ci := 10) (k0 := 31) C dX10_passage_40 rfl rfl inm10 tyX10_ok nmX10 (by decide) Tx0 q1309 rfl rfl rfl ?_
  refine ww_bd E (fun dy1 E => ?_)
  refine ww_aload_n C dX10_passage_43 rfl 0 rfl ?_
  refine ww_iconst (v := 0) C dX10_passage_44 (by decide) ?_
  refine ww_puti (ci := 10) (k0 := 32) C dX10_passage_45 rfl rfl inm10 tyX10_ok nmX10 (by decide) Tx0 q1310 rfl rfl rfl ?_
  refine ww_bd E (fun dy2 E => ?_)
  refine ww_iconst (v := 0) C dX10_passage_48 (by decide) ?_
  refine ww_istore_n (lv' := [(2, .int (0 : Int32)), (0, .ref (ad x0)), (1, .int x1)]) C dX10_passage_49 rfl (by decide) rfl ?_
  refine ww_sub (lv' := [(0, .ref (ad x0)), (1, .int x1), (2, .int (0 : Int32))]) [1, 2, 0] rfl ?_
  exact (B_X10_passage_50 C HR HL hG N) x0 x1 (0 : Int32) dy2 Tx0 E
end P_X10_passage
set_option maxHeartbeats 4000000 in
set_option maxRecDepth 100000 in
theorem M_X10_passage (l : Launch) (G : GG) (ad : Nat → Nat) {S : ST} (N : Nat) (hG : Good S) (a0 : Nat) (a1 : Int32) (dy : DY) (T0 : gs S a0 = (0, 10)) {r : Int32} {dy' : DY} (E : F_X10_passage S N a0 a1 dy = some (r, dy')) : MC l yX10_passage cX10_passage 6 (Option.some Jvm.ClassFile.FieldType.int) (7) G ad [.ref (ad a0), .int a1] S dy (fun A => QI G ad A S r dy') := by
  rw [F_X10_passage_s] at E
  refine mc_of RX10 (by decide) rfl (Nat.le_of_ble_eq_true rfl) (fun p e s m args below meth c A C HR HL => ?_)
  refine ww_sub (lv' := [(0, .ref (ad a0)), (1, .int a1)]) [0, 1] rfl ?_
  refine ww_aload_n C dX10_passage_0 rfl 0 rfl ?_
  refine ww_iconst (v := 0) C dX10_passage_1 (by decide) ?_
  refine ww_puti (ci := 10) (k0 := 0) C dX10_passage_2 rfl rfl inm10 tyX10_ok nmX10 (by decide) T0 q1278 rfl rfl rfl ?_
  refine ww_bd E (fun dy1 E => ?_)
  refine ww_aload_n C dX10_passage_5 rfl 0 rfl ?_
  obtain ⟨u2, e_3, E⟩ := bind_of E
  refine ww_callV C (runs_V (n := 0) (st := []) C [] (M_X10_takeTape l G ad N hG a0 dy1 T0 e_3) ⟨q1484, q118, by decide⟩ q1481 q1483 q40 (ci := 10) rfl T0 rfl (Nat.le_of_ble_eq_true rfl) ⟨Nat.le_of_ble_eq_true rfl, Nat.le_of_ble_eq_true rfl⟩ ⟨Nat.zero_le _, Nat.zero_le _⟩ dX10_passage_6 rfl) ?_
  refine ww_iload_n C dX10_passage_9 rfl 1 rfl ?_
  refine ww_iconst (v := (-1)) C dX10_passage_10 (by decide) ?_
  refine ww_icmp_ne (tgt := 27) C dX10_passage_11 (by decide) E (fun _ E => ?_) (fun _ E => ?_)
  · refine ww_aload_n C dX10_passage_27 rfl 0 rfl ?_
    refine ww_iload_n C dX10_passage_28 rfl 1 rfl ?_
    obtain ⟨u4, e_5, E⟩ := bind_of E
    refine ww_callI C (runs_V (n := 1) (st := []) C [.int a1] (M_X10_isPassage l G ad N hG a0 a1 u2 T0 e_5) ⟨q1488, q118, by decide⟩ q1485 q1487 q41 (ci := 10) rfl T0 rfl (Nat.le_of_ble_eq_true rfl) ⟨Nat.le_of_ble_eq_true rfl, Nat.le_of_ble_eq_true rfl⟩ ⟨Nat.zero_le _, Nat.zero_le _⟩ dX10_passage_29 rfl) ?_
    refine ww_if_ne (tgt := 38) C dX10_passage_32 (by decide) E (fun _ E => ?_) (fun _ E => ?_)
    · refine ww_sub (lv' := [(0, .ref (ad a0)), (1, .int a1)]) [0, 1] rfl ?_
      exact (B_X10_passage_38 C HR HL hG) a0 a1 u4.2 T0 E
    · refine ww_bipush (v := (-2)) C dX10_passage_35 (by decide) ?_
      exact ww_iret C HR HL dX10_passage_37 E
  · refine ww_aload_n C dX10_passage_14 rfl 0 rfl ?_
    have T_6 : gs S (gr S a0 5) = (1, 4) := hG.1 _ 10 T0 5 (by decide)
    refine ww_getr (ci := 10) (k0 := 5) C dX10_passage_15 rfl rfl inm10 (by decide) T0 q1283 rfl T_6 (by decide) ?_
    refine ww_iconst (v := 0) C dX10_passage_18 (by decide) ?_
    refine ww_iald C dX10_passage_19 T_6 E (fun _ E => ?_)
    refine ww_iconst (v := 3) C dX10_passage_20 (by decide) ?_
    refine ww_icmp_ne (tgt := 38) C dX10_passage_21 (by decide) E (fun _ E => ?_) (fun _ E => ?_)
    · refine ww_sub (lv' := [(0, .ref (ad a0)), (1, .int a1)]) [0, 1] rfl ?_
      exact (B_X10_passage_38 C HR HL hG) a0 a1 u2 T0 E
    · refine ww_goto (tgt := 35) C dX10_passage_24 (by decide) ?_
      refine ww_bipush (v := (-2)) C dX10_passage_35 (by decide) ?_
      exact ww_iret C HR HL dX10_passage_37 E
section P_X10_pillar
variable {p : Program} {l : Launch} {e : Env} {s : State} {m : MethodId} {args : Array Value} {below : List Frame} {meth : Method} {c : Code} {G : GG} {A : Nat → Prop} {ad : Nat → Nat} {S : ST} {N : Nat} {r : Int32} {dy' : DY}
set_option maxHeartbeats 4000000 in
set_option maxRecDepth 100000 in
theorem B_X10_pillar_67 (C : CX p s m args c cX10_pillar 9 RX10 G A) (HR : meth.sig.returnType = (Option.some Jvm.ClassFile.FieldType.int)) (HL : meth.locks = false) (hG : Good S) {K53 : Nat → Int32 → Int32 → Int32 → Int32 → Int32 → Int32 → Int32 → DY → Option (Int32 × DY)} (hK53 : ∀ (x0 : Nat) (x1 : Int32) (x2 : Int32) (x3 : Int32) (x4 : Int32) (x5 : Int32) (x6 : Int32) (x7 : Int32) (dy : DY), gs S x0 = (0, 10) → K53 x0 x1 x2 x3 x4 x5 x6 x7 dy = some (r, dy') → WJ p l e (rmD (11)) s m args below meth c 9 G A 0 0 (MQ below (QI G ad A S r dy') args s 0 0 A) ad 53 [(0, .ref (ad x0)), (1, .int x1), (2, .int x2), (3, .int x3), (4, .int x4), (5, .int x5), (6, .int x6), (7, .int x7)] [] S dy) : ∀ k : Nat, ∀ (x0 : Nat) (x1 : Int32) (x2 : Int32) (x3 : Int32) (x4 : Int32) (x5 : Int32) (x6 : Int32) (x7 : Int32) (x8 : Int32) (dy : DY), gs S x0 = (0, 10) → (F_X10_pillar_67 S N K53 k) x0 x1 x2 x3 x4 x5 x6 x7 x8 dy = some (r, dy') → WJ p l e (rmD (11)) s m args below meth c 9 G A 0 0 (MQ below (QI G ad A S r dy') args s 0 0 A) ad 67 [(0, .ref (ad x0)), (1, .int x1), (2, .int x2), (3, .int x3), (4, .int x4), (5, .int x5), (6, .int x6), (7, .int x7), (8, .int x8)] [] S dy := by
  intro k
  induction k with
  | zero => exact fun _ _ _ _ _ _ _ _ _ _ _ E => nomatch (show none = some (r, dy') from E)
  | succ k ih =>
    intro x0 x1 x2 x3 x4 x5 x6 x7 x8 dy Tx0 E
    rw [F_X10_pillar_67_s] at E
    refine ww_iload C dX10_pillar_67 8 rfl ?_
    refine ww_aload_n C dX10_pillar_69 rfl 0 rfl ?_
    have T_1 : gs S (gr S x0 7) = (1, 12) := hG.1 _ 10 Tx0 7 (by decide)
    refine ww_getr (ci := 10) (k0 := 7) C dX10_pillar_70 rfl rfl inm10 (by decide) Tx0 q1285 rfl T_1 (by decide) ?_
    refine ww_iload_n C dX10_pillar_73 rfl 1 rfl ?_
    refine ww_iald C dX10_pillar_74 T_1 E (fun _ E => ?_)
    refine ww_icmp_ge (tgt := 167) C dX10_pillar_75 (by decide) E (fun _ E => ?_) (fun _ E => ?_)
    · refine ww_iinc (v := (x7 + (1 : Int32))) (lv' := [(7, .int (x7 + (1 : Int32))), (0, .ref (ad x0)), (1, .int x1), (2, .int x2), (3, .int x3), (4, .int x4), (5, .int x5), (6, .int x6), (8, .int x8)]) C dX10_pillar_167 7 rfl rfl (by decide) rfl ?_
      refine ww_goto (tgt := 53) C dX10_pillar_170 (by decide) ?_
      refine ww_sub (lv' := [(0, .ref (ad x0)), (1, .int x1), (2, .int x2), (3, .int x3), (4, .int x4), (5, .int x5), (6, .int x6), (7, .int (x7 + (1 : Int32)))]) [1, 2, 3, 4, 5, 6, 7, 0] rfl ?_
      exact hK53 x0 x1 x2 x3 x4 x5 x6 (x7 + (1 : Int32)) dy Tx0 E
    · refine ww_aload_n C dX10_pillar_78 rfl 0 rfl ?_
      refine ww_iload_n C dX10_pillar_79 rfl 1 rfl ?_
      refine ww_iload C dX10_pillar_80 7 rfl ?_
      refine ww_iload C dX10_pillar_82 8 rfl ?_
      obtain ⟨u2, e_3, E⟩ := bind_of E
      refine ww_callI C (runs_V (n := 3) (st := []) C [.int x1, .int x7, .int x8] (M_X10_isFreeAtFirst l G ad N hG x0 x1 x7 x8 dy Tx0 e_3) ⟨q1809, q118, by decide⟩ q1806 q1808 q97 (ci := 10) rfl Tx0 rfl (Nat.le_of_ble_eq_true rfl) ⟨Nat.le_of_ble_eq_true rfl, Nat.le_of_ble_eq_true rfl⟩ ⟨Nat.zero_le _, Nat.zero_le _⟩ dX10_pillar_84 rfl) ?_
      refine ww_if_ne (tgt := 93) C dX10_pillar_87 (by decide) E (fun _ E => ?_) (fun _ E => ?_)
      · refine ww_aload_n C dX10_pillar_93 rfl 0 rfl ?_
        refine ww_iconst (v := 4) C dX10_pillar_94 (by decide) ?_
        refine ww_iload_n C dX10_pillar_95 rfl 1 rfl ?_
        refine ww_iload_n C dX10_pillar_96 rfl 2 rfl ?_
        refine ww_iload_n C dX10_pillar_97 rfl 3 rfl ?_
        refine ww_bipush (v := 12) C dX10_pillar_98 (by decide) ?_
        refine ww_iconst (v := (-1)) C dX10_pillar_100 (by decide) ?_
        obtain ⟨u4, e_5, E⟩ := bind_of E
        refine ww_callV C (runs_V (n := 6) (st := []) C [.int (4 : Int32), .int x1, .int x2, .int x3, .int (12 : Int32), .int (-1 : Int32)] (M_X10_lay l G ad N hG x0 (4 : Int32) x1 x2 x3 (12 : Int32) (-1 : Int32) u2.2 Tx0 e_5) ⟨q1641, q118, by decide⟩ q1638 q1640 q66 (ci := 10) rfl Tx0 rfl (Nat.le_of_ble_eq_true rfl) ⟨Nat.le_of_ble_eq_true rfl, Nat.le_of_ble_eq_true rfl⟩ ⟨Nat.zero_le _, Nat.zero_le _⟩ dX10_pillar_101 rfl) ?_
        refine ww_aload_n C dX10_pillar_104 rfl 0 rfl ?_
        have T_6 : gs S (gr S x0 39) = (1, 10080) := hG.1 _ 10 Tx0 39 (by decide)
        refine ww_getr (ci := 10) (k0 := 39) C dX10_pillar_105 rfl rfl inm10 (by decide) Tx0 q1317 rfl T_6 (by decide) ?_
        refine ww_sipush (v := 3136) C dX10_pillar_108 (by decide) ?_
        refine ww_bipush (v := 6) C dX10_pillar_111 (by decide) ?_
        refine ww_iload C dX10_pillar_113 7 rfl ?_
        refine ww_imul C dX10_pillar_115 ?_
        refine ww_iadd C dX10_pillar_116 ?_
        refine ww_iload C dX10_pillar_117 8 rfl ?_
        refine ww_iadd C dX10_pillar_119 ?_
        refine ww_iconst (v := 1) C dX10_pillar_120 (by decide) ?_
        refine ww_iast C dX10_pillar_121 T_6 E (fun _ E => ?_)
        refine ww_bd E (fun dy7 E => ?_)
        refine ww_aload_n C dX10_pillar_122 rfl 0 rfl ?_
        refine ww_iload C dX10_pillar_123 4 rfl ?_
        obtain ⟨u8, e_9, E⟩ := bind_of E
        refine ww_callV C (runs_V (n := 1) (st := []) C [.int x4] (M_X10_tryOn l G ad N hG x0 x4 dy7 Tx0 e_9) ⟨q1801, q118, by decide⟩ q1798 q1800 q96 (ci := 10) rfl Tx0 rfl (Nat.le_of_ble_eq_true rfl) ⟨Nat.le_of_ble_eq_true rfl, Nat.le_of_ble_eq_true rfl⟩ ⟨Nat.zero_le _, Nat.zero_le _⟩ dX10_pillar_125 rfl) ?_
        refine ww_aload_n C dX10_pillar_128 rfl 0 rfl ?_
        have T_10 : gs S (gr S x0 39) = (1, 10080) := hG.1 _ 10 Tx0 39 (by decide)
        refine ww_getr (ci := 10) (k0 := 39) C dX10_pillar_129 rfl rfl inm10 (by decide) Tx0 q1317 rfl T_10 (by decide) ?_
        refine ww_sipush (v := 2886) C dX10_pillar_132 (by decide) ?_
        refine ww_iald C dX10_pillar_135 T_10 E (fun _ E => ?_)
        refine ww_iload C dX10_pillar_136 5 rfl ?_
        refine ww_icmp_le (tgt := 161) C dX10_pillar_138 (by decide) E (fun _ E => ?_) (fun _ E => ?_)
        · refine ww_iinc (v := (x8 + (1 : Int32))) (lv' := [(8, .int (x8 + (1 : Int32))), (0, .ref (ad x0)), (1, .int x1), (2, .int x2), (3, .int x3), (4, .int x4), (5, .int x5), (6, .int x6), (7, .int x7)]) C dX10_pillar_161 8 rfl rfl (by decide) rfl ?_
          refine ww_goto (tgt := 67) C dX10_pillar_164 (by decide) ?_
          refine ww_sub (lv' := [(0, .ref (ad x0)), (1, .int x1), (2, .int x2), (3, .int x3), (4, .int x4), (5, .int x5), (6, .int x6), (7, .int x7), (8, .int (x8 + (1 : Int32)))]) [1, 2, 3, 4, 5, 6, 7, 8, 0] rfl ?_
          exact ih x0 x1 x2 x3 x4 x5 x6 x7 (x8 + (1 : Int32)) u8 Tx0 E
        · refine ww_aload_n C dX10_pillar_141 rfl 0 rfl ?_
          have T_11 : gs S (gr S x0 39) = (1, 10080) := hG.1 _ 10 Tx0 39 (by decide)
          refine ww_getr (ci := 10) (k0 := 39) C dX10_pillar_142 rfl rfl inm10 (by decide) Tx0 q1317 rfl T_11 (by decide) ?_
          refine ww_sipush (v := 2886) C dX10_pillar_145 (by decide) ?_
          refine ww_iald C dX10_pillar_148 T_11 E (fun _ E => ?_)
          refine ww_istore (lv' := [(5, .int (gi u8 (gr S x0 39) (2886 : Int32).toNatClampNeg)), (0, .ref (ad x0)), (1, .int x1), (2, .int x2), (3, .int x3), (4, .int x4), (6, .int x6), (7, .int x7), (8, .int x8)]) C dX10_pillar_149 (by decide) rfl ?_
          refine ww_bipush (v := 100) C dX10_pillar_151 (by decide) ?_
          refine ww_iload C dX10_pillar_153 7 rfl ?_
          refine ww_imul C dX10_pillar_155 ?_
          refine ww_iload C dX10_pillar_156 8 rfl ?_
          refine ww_iadd C dX10_pillar_158 ?_
          refine ww_istore (lv' := [(6, .int (((100 : Int32) * x7) + x8)), (5, .int (gi u8 (gr S x0 39) (2886 : Int32).toNatClampNeg)), (0, .ref (ad x0)), (1, .int x1), (2, .int x2), (3, .int x3), (4, .int x4), (7, .int x7), (8, .int x8)]) C dX10_pillar_159 (by decide) rfl ?_
          refine ww_iinc (v := (x8 + (1 : Int32))) (lv' := [(8, .int (x8 + (1 : Int32))), (6, .int (((100 : Int32) * x7) + x8)), (5, .int (gi u8 (gr S x0 39) (2886 : Int32).toNatClampNeg)), (0, .ref (ad x0)), (1, .int x1), (2, .int x2), (3, .int x3), (4, .int x4), (7, .int x7)]) C dX10_pillar_161 8 rfl rfl (by decide) rfl ?_
          refine ww_goto (tgt := 67) C dX10_pillar_164 (by decide) ?_
          refine ww_sub (lv' := [(0, .ref (ad x0)), (1, .int x1), (2, .int x2), (3, .int x3), (4, .int x4), (5, .int (gi u8 (gr S x0 39) (2886 : Int32).toNatClampNeg)), (6, .int (((100 : Int32) * x7) + x8)), (7, .int x7), (8, .int (x8 + (1 : Int32)))]) [3, 4, 5, 6, 7, 2, 1, 8, 0] rfl ?_
          exact ih x0 x1 x2 x3 x4 (gi u8 (gr S x0 39) (2886 : Int32).toNatClampNeg) (((100 : Int32) * x7) + x8) x7 (x8 + (1 : Int32)) u8 Tx0 E
      · refine ww_goto (tgt := 161) C dX10_pillar_90 (by decide) ?_
        refine ww_iinc (v := (x8 + (1 : Int32))) (lv' := [(8, .int (x8 + (1 : Int32))), (0, .ref (ad x0)), (1, .int x1), (2, .int x2), (3, .int x3), (4, .int x4), (5, .int x5), (6, .int x6), (7, .int x7)]) C dX10_pillar_161 8 rfl rfl (by decide) rfl ?_
        refine ww_goto (tgt := 67) C dX10_pillar_164 (by decide) ?_
        refine ww_sub (lv' := [(0, .ref (ad x0)), (1, .int x1), (2, .int x2), (3, .int x3), (4, .int x4), (5, .int x5), (6, .int x6), (7, .int x7), (8, .int (x8 + (1 : Int32)))]) [1, 2, 3, 4, 5, 6, 7, 8, 0] rfl ?_
        exact ih x0 x1 x2 x3 x4 x5 x6 x7 (x8 + (1 : Int32)) u2.2 Tx0 E
set_option maxHeartbeats 4000000 in
set_option maxRecDepth 100000 in
theorem B_X10_pillar_53 (C : CX p s m args c cX10_pillar 9 RX10 G A) (HR : meth.sig.returnType = (Option.some Jvm.ClassFile.FieldType.int)) (HL : meth.locks = false) (hG : Good S) : ∀ k : Nat, ∀ (x0 : Nat) (x1 : Int32) (x2 : Int32) (x3 : Int32) (x4 : Int32) (x5 : Int32) (x6 : Int32) (x7 : Int32) (dy : DY), gs S x0 = (0, 10) → (F_X10_pillar_53 S N k) x0 x1 x2 x3 x4 x5 x6 x7 dy = some (r, dy') → WJ p l e (rmD (11)) s m args below meth c 9 G A 0 0 (MQ below (QI G ad A S r dy') args s 0 0 A) ad 53 [(0, .ref (ad x0)), (1, .int x1), (2, .int x2), (3, .int x3), (4, .int x4), (5, .int x5), (6, .int x6), (7, .int x7)] [] S dy := by
  intro k
  induction k with
  | zero => exact fun _ _ _ _ _ _ _ _ _ _ E => nomatch (show none = some (r, dy') from E)
  | succ k ih =>
    intro x0 x1 x2 x3 x4 x5 x6 x7 dy Tx0 E
    rw [F_X10_pillar_53_s] at E
    refine ww_iload C dX10_pillar_53 7 rfl ?_
    refine ww_aload_n C dX10_pillar_55 rfl 0 rfl ?_
    have T_1 : gs S (gr S x0 6) = (1, 12) := hG.1 _ 10 Tx0 6 (by decide)
    refine ww_getr (ci := 10) (k0 := 6) C dX10_pillar_56 rfl rfl inm10 (by decide) Tx0 q1284 rfl T_1 (by decide) ?_
    refine ww_iload_n C dX10_pillar_59 rfl 1 rfl ?_
    refine ww_iald C dX10_pillar_60 T_1 E (fun _ E => ?_)
    refine ww_icmp_ge (tgt := 173) C dX10_pillar_61 (by decide) E (fun _ E => ?_) (fun _ E => ?_)
    · refine ww_iload C dX10_pillar_173 6 rfl ?_
      exact ww_iret C HR HL dX10_pillar_175 E
    · refine ww_iconst (v := 0) C dX10_pillar_64 (by decide) ?_
      refine ww_istore (lv' := [(8, .int (0 : Int32)), (0, .ref (ad x0)), (1, .int x1), (2, .int x2), (3, .int x3), (4, .int x4), (5, .int x5), (6, .int x6), (7, .int x7)]) C dX10_pillar_65 (by decide) rfl ?_
      refine ww_sub (lv' := [(0, .ref (ad x0)), (1, .int x1), (2, .int x2), (3, .int x3), (4, .int x4), (5, .int x5), (6, .int x6), (7, .int x7), (8, .int (0 : Int32))]) [1, 2, 3, 4, 5, 6, 7, 8, 0] rfl ?_
      exact (B_X10_pillar_67 C HR HL hG ih N) x0 x1 x2 x3 x4 x5 x6 x7 (0 : Int32) dy Tx0 E
end P_X10_pillar
set_option maxHeartbeats 4000000 in
set_option maxRecDepth 100000 in
theorem M_X10_pillar (l : Launch) (G : GG) (ad : Nat → Nat) {S : ST} (N : Nat) (hG : Good S) (a0 : Nat) (a1 : Int32) (a2 : Int32) (a3 : Int32) (a4 : Int32) (dy : DY) (T0 : gs S a0 = (0, 10)) {r : Int32} {dy' : DY} (E : F_X10_pillar S N a0 a1 a2 a3 a4 dy = some (r, dy')) : MC l yX10_pillar cX10_pillar 9 (Option.some Jvm.ClassFile.FieldType.int) (11) G ad [.ref (ad a0), .int a1, .int a2, .int a3, .int a4] S dy (fun A => QI G ad A S r dy') := by
  rw [F_X10_pillar_s] at E
  refine mc_of RX10 (by decide) rfl (Nat.le_of_ble_eq_true rfl) (fun p e s m args below meth c A C HR HL => ?_)
  refine ww_sub (lv' := [(0, .ref (ad a0)), (1, .int a1), (2, .int a2), (3, .int a3), (4, .int a4)]) [0, 1, 2, 3, 4] rfl ?_
  refine ww_aload_n C dX10_pillar_0 rfl 0 rfl ?_
  refine ww_iconst (v := 0) C dX10_pillar_1 (by decide) ?_
  refine ww_puti (ci := 10) (k0 := 0) C dX10_pillar_2 rfl rfl inm10 tyX10_ok nmX10 (by decide) T0 q1278 rfl rfl rfl ?_
  refine ww_bd E (fun dy1 E => ?_)
  refine ww_aload_n C dX10_pillar_5 rfl 0 rfl ?_
  refine ww_iload_n C dX10_pillar_6 rfl 1 rfl ?_
  refine ww_iload_n C dX10_pillar_7 rfl 2 rfl ?_
  refine ww_iload C dX10_pillar_8 4 rfl ?_
  refine ww_bipush (v := 100) C dX10_pillar_10 (by decide) ?_
  obtain ⟨u2, e_3, E⟩ := bind_of E
  refine ww_callI C (runs_V (n := 4) (st := []) C [.int a1, .int a2, .int a4, .int (100 : Int32)] (M_X10_isTried l G ad N hG a0 a1 a2 a4 (100 : Int32) dy1 T0 e_3) ⟨q1797, q118, by decide⟩ q1794 q1796 q95 (ci := 10) rfl T0 rfl (Nat.le_of_ble_eq_true rfl) ⟨Nat.le_of_ble_eq_true rfl, Nat.le_of_ble_eq_true rfl⟩ ⟨Nat.zero_le _, Nat.zero_le _⟩ dX10_pillar_12 rfl) ?_
  refine ww_if_ne (tgt := 20) C dX10_pillar_15 (by decide) E (fun _ E => ?_) (fun _ E => ?_)
  · refine ww_aload_n C dX10_pillar_20 rfl 0 rfl ?_
    refine ww_iconst (v := 4) C dX10_pillar_21 (by decide) ?_
    refine ww_iload_n C dX10_pillar_22 rfl 1 rfl ?_
    refine ww_iload_n C dX10_pillar_23 rfl 2 rfl ?_
    refine ww_iload_n C dX10_pillar_24 rfl 3 rfl ?_
    refine ww_bipush (v := 12) C dX10_pillar_25 (by decide) ?_
    refine ww_iconst (v := (-1)) C dX10_pillar_27 (by decide) ?_
    obtain ⟨u4, e_5, E⟩ := bind_of E
    refine ww_callV C (runs_V (n := 6) (st := []) C [.int (4 : Int32), .int a1, .int a2, .int a3, .int (12 : Int32), .int (-1 : Int32)] (M_X10_lay l G ad N hG a0 (4 : Int32) a1 a2 a3 (12 : Int32) (-1 : Int32) u2.2 T0 e_5) ⟨q1641, q118, by decide⟩ q1638 q1640 q66 (ci := 10) rfl T0 rfl (Nat.le_of_ble_eq_true rfl) ⟨Nat.le_of_ble_eq_true rfl, Nat.le_of_ble_eq_true rfl⟩ ⟨Nat.zero_le _, Nat.zero_le _⟩ dX10_pillar_28 rfl) ?_
    refine ww_aload_n C dX10_pillar_31 rfl 0 rfl ?_
    refine ww_iload C dX10_pillar_32 4 rfl ?_
    obtain ⟨u6, e_7, E⟩ := bind_of E
    refine ww_callV C (runs_V (n := 1) (st := []) C [.int a4] (M_X10_tryOn l G ad N hG a0 a4 u4 T0 e_7) ⟨q1801, q118, by decide⟩ q1798 q1800 q96 (ci := 10) rfl T0 rfl (Nat.le_of_ble_eq_true rfl) ⟨Nat.le_of_ble_eq_true rfl, Nat.le_of_ble_eq_true rfl⟩ ⟨Nat.zero_le _, Nat.zero_le _⟩ dX10_pillar_34 rfl) ?_
    refine ww_aload_n C dX10_pillar_37 rfl 0 rfl ?_
    have T_8 : gs S (gr S a0 39) = (1, 10080) := hG.1 _ 10 T0 39 (by decide)
    refine ww_getr (ci := 10) (k0 := 39) C dX10_pillar_38 rfl rfl inm10 (by decide) T0 q1317 rfl T_8 (by decide) ?_
    refine ww_sipush (v := 2886) C dX10_pillar_41 (by decide) ?_
    refine ww_iald C dX10_pillar_44 T_8 E (fun _ E => ?_)
    refine ww_istore (lv' := [(5, .int (gi u6 (gr S a0 39) (2886 : Int32).toNatClampNeg)), (0, .ref (ad a0)), (1, .int a1), (2, .int a2), (3, .int a3), (4, .int a4)]) C dX10_pillar_45 (by decide) rfl ?_
    refine ww_iconst (v := (-1)) C dX10_pillar_47 (by decide) ?_
    refine ww_istore (lv' := [(6, .int (-1 : Int32)), (5, .int (gi u6 (gr S a0 39) (2886 : Int32).toNatClampNeg)), (0, .ref (ad a0)), (1, .int a1), (2, .int a2), (3, .int a3), (4, .int a4)]) C dX10_pillar_48 (by decide) rfl ?_
    refine ww_iconst (v := 0) C dX10_pillar_50 (by decide) ?_
    refine ww_istore (lv' := [(7, .int (0 : Int32)), (6, .int (-1 : Int32)), (5, .int (gi u6 (gr S a0 39) (2886 : Int32).toNatClampNeg)), (0, .ref (ad a0)), (1, .int a1), (2, .int a2), (3, .int a3), (4, .int a4)]) C dX10_pillar_51 (by decide) rfl ?_
    refine ww_sub (lv' := [(0, .ref (ad a0)), (1, .int a1), (2, .int a2), (3, .int a3), (4, .int a4), (5, .int (gi u6 (gr S a0 39) (2886 : Int32).toNatClampNeg)), (6, .int (-1 : Int32)), (7, .int (0 : Int32))]) [3, 4, 5, 6, 7, 2, 1, 0] rfl ?_
    exact (B_X10_pillar_53 C HR HL hG N) a0 a1 a2 a3 a4 (gi u6 (gr S a0 39) (2886 : Int32).toNatClampNeg) (-1 : Int32) (0 : Int32) u6 T0 E
  · refine ww_iconst (v := (-1)) C dX10_pillar_18 (by decide) ?_
    exact ww_iret C HR HL dX10_pillar_19 E
section P_X10_ran
variable {p : Program} {l : Launch} {e : Env} {s : State} {m : MethodId} {args : Array Value} {below : List Frame} {meth : Method} {c : Code} {G : GG} {A : Nat → Prop} {ad : Nat → Nat} {S : ST} {N : Nat} {r : Int32} {dy' : DY}
end P_X10_ran
set_option maxHeartbeats 4000000 in
set_option maxRecDepth 100000 in
theorem M_X10_ran (l : Launch) (G : GG) (ad : Nat → Nat) {S : ST} (N : Nat) (hG : Good S) (a0 : Nat) (a1 : Int32) (a2 : Int32) (dy : DY) (T0 : gs S a0 = (0, 10)) {r : Int32} {dy' : DY} (E : F_X10_ran S N a0 a1 a2 dy = some (r, dy')) : MC l yX10_ran cX10_ran 4 (Option.some Jvm.ClassFile.FieldType.int) (3) G ad [.ref (ad a0), .int a1, .int a2] S dy (fun A => QI G ad A S r dy') := by
  rw [F_X10_ran_s] at E
  refine mc_of RX10 (by decide) rfl (Nat.le_of_ble_eq_true rfl) (fun p e s m args below meth c A C HR HL => ?_)
  refine ww_sub (lv' := [(0, .ref (ad a0)), (1, .int a1), (2, .int a2)]) [0, 1, 2] rfl ?_
  refine ww_aload_n C dX10_ran_0 rfl 0 rfl ?_
  refine ww_iconst (v := 0) C dX10_ran_1 (by decide) ?_
  refine ww_puti (ci := 10) (k0 := 0) C dX10_ran_2 rfl rfl inm10 tyX10_ok nmX10 (by decide) T0 q1278 rfl rfl rfl ?_
  refine ww_bd E (fun dy1 E => ?_)
  refine ww_aload_n C dX10_ran_5 rfl 0 rfl ?_
  refine ww_iload_n C dX10_ran_6 rfl 1 rfl ?_
  obtain ⟨u2, e_3, E⟩ := bind_of E
  refine ww_callI C (runs_V (n := 1) (st := []) C [.int a1] (M_X10_isRunner l G ad N hG a0 a1 dy1 T0 e_3) ⟨q1749, q118, by decide⟩ q1746 q1748 q90 (ci := 10) rfl T0 rfl (Nat.le_of_ble_eq_true rfl) ⟨Nat.le_of_ble_eq_true rfl, Nat.le_of_ble_eq_true rfl⟩ ⟨Nat.zero_le _, Nat.zero_le _⟩ dX10_ran_7 rfl) ?_
  refine ww_if_ne (tgt := 16) C dX10_ran_10 (by decide) E (fun _ E => ?_) (fun _ E => ?_)
  · refine ww_iconst (v := 0) C dX10_ran_16 (by decide) ?_
    refine ww_iload_n C dX10_ran_17 rfl 1 rfl ?_
    obtain ⟨u4, e_5, E⟩ := bind_of E
    refine ww_callI C (runs_S (n := 2) (st := []) C [.int (0 : Int32), .int a1] (M_X10_at l G ad N hG (0 : Int32) a1 u2.2 e_5) ⟨q1644, q118, by decide⟩ q1642 q1643 rfl (Nat.le_of_ble_eq_true rfl) ⟨Nat.le_of_ble_eq_true rfl, Nat.le_of_ble_eq_true rfl⟩ ⟨Nat.zero_le _, Nat.zero_le _⟩ dX10_ran_18 rfl) ?_
    refine ww_istore_n (lv' := [(3, .int u4.1), (0, .ref (ad a0)), (1, .int a1), (2, .int a2)]) C dX10_ran_21 rfl (by decide) rfl ?_
    refine ww_iload_n C dX10_ran_22 rfl 3 rfl ?_
    by_cases s_6 : a2 = (0 : Int32)
    · rw [if_pos s_6] at E
      refine ww_tabIn (tgt := 64) C dX10_ran_23 s_6 (by decide) (by decide) rfl (by decide) ?_
      refine ww_aload_n C dX10_ran_64 rfl 1 rfl ?_
      have T_7 : gs S (gr S a0 39) = (1, 10080) := hG.1 _ 10 T0 39 (by decide)
      refine ww_getr (ci := 10) (k0 := 39) C dX10_ran_65 rfl rfl inm10 (by decide) T0 q1317 rfl T_7 (by decide) ?_
      refine ww_iload_n C dX10_ran_68 rfl 0 rfl ?_
      refine ww_iald C dX10_ran_69 T_7 E (fun _ E => ?_)
      exact ww_iret C HR HL dX10_ran_70 E
    rw [if_neg s_6] at E
    by_cases s_8 : a2 = (1 : Int32)
    · rw [if_pos s_8] at E
      refine ww_tabIn (tgt := 71) C dX10_ran_23 s_8 (by decide) (by decide) rfl (by decide) ?_
      refine ww_aload_n C dX10_ran_71 rfl 1 rfl ?_
      have T_9 : gs S (gr S a0 39) = (1, 10080) := hG.1 _ 10 T0 39 (by decide)
      refine ww_getr (ci := 10) (k0 := 39) C dX10_ran_72 rfl rfl inm10 (by decide) T0 q1317 rfl T_9 (by decide) ?_
      refine ww_iload_n C dX10_ran_75 rfl 0 rfl ?_
      refine ww_iconst (v := 4) C dX10_ran_76 (by decide) ?_
      refine ww_iadd C dX10_ran_77 ?_
      refine ww_iald C dX10_ran_78 T_9 E (fun _ E => ?_)
      exact ww_iret C HR HL dX10_ran_79 E
    rw [if_neg s_8] at E
    by_cases s_10 : a2 = (2 : Int32)
    · rw [if_pos s_10] at E
      refine ww_tabIn (tgt := 80) C dX10_ran_23 s_10 (by decide) (by decide) rfl (by decide) ?_
      refine ww_aload_n C dX10_ran_80 rfl 1 rfl ?_
      have T_11 : gs S (gr S a0 39) = (1, 10080) := hG.1 _ 10 T0 39 (by decide)
      refine ww_getr (ci := 10) (k0 := 39) C dX10_ran_81 rfl rfl inm10 (by decide) T0 q1317 rfl T_11 (by decide) ?_
      refine ww_iload_n C dX10_ran_84 rfl 0 rfl ?_
      refine ww_bipush (v := 14) C dX10_ran_85 (by decide) ?_
      refine ww_iadd C dX10_ran_87 ?_
      refine ww_iald C dX10_ran_88 T_11 E (fun _ E => ?_)
      exact ww_iret C HR HL dX10_ran_89 E
    rw [if_neg s_10] at E
    by_cases s_12 : a2 = (3 : Int32)
    · rw [if_pos s_12] at E
      refine ww_tabIn (tgt := 90) C dX10_ran_23 s_12 (by decide) (by decide) rfl (by decide) ?_
      refine ww_aload_n C dX10_ran_90 rfl 1 rfl ?_
      have T_13 : gs S (gr S a0 39) = (1, 10080) := hG.1 _ 10 T0 39 (by decide)
      refine ww_getr (ci := 10) (k0 := 39) C dX10_ran_91 rfl rfl inm10 (by decide) T0 q1317 rfl T_13 (by decide) ?_
      refine ww_iload_n C dX10_ran_94 rfl 0 rfl ?_
      refine ww_bipush (v := 15) C dX10_ran_95 (by decide) ?_
      refine ww_iadd C dX10_ran_97 ?_
      refine ww_iald C dX10_ran_98 T_13 E (fun _ E => ?_)
      exact ww_iret C HR HL dX10_ran_99 E
    rw [if_neg s_12] at E
    by_cases s_14 : a2 = (4 : Int32)
    · rw [if_pos s_14] at E
      refine ww_tabIn (tgt := 100) C dX10_ran_23 s_14 (by decide) (by decide) rfl (by decide) ?_
      refine ww_aload_n C dX10_ran_100 rfl 1 rfl ?_
      have T_15 : gs S (gr S a0 39) = (1, 10080) := hG.1 _ 10 T0 39 (by decide)
      refine ww_getr (ci := 10) (k0 := 39) C dX10_ran_101 rfl rfl inm10 (by decide) T0 q1317 rfl T_15 (by decide) ?_
      refine ww_iload_n C dX10_ran_104 rfl 0 rfl ?_
      refine ww_bipush (v := 16) C dX10_ran_105 (by decide) ?_
      refine ww_iadd C dX10_ran_107 ?_
      refine ww_iald C dX10_ran_108 T_15 E (fun _ E => ?_)
      exact ww_iret C HR HL dX10_ran_109 E
    rw [if_neg s_14] at E
    by_cases s_16 : a2 = (5 : Int32)
    · rw [if_pos s_16] at E
      refine ww_tabIn (tgt := 110) C dX10_ran_23 s_16 (by decide) (by decide) rfl (by decide) ?_
      refine ww_aload_n C dX10_ran_110 rfl 1 rfl ?_
      have T_17 : gs S (gr S a0 39) = (1, 10080) := hG.1 _ 10 T0 39 (by decide)
      refine ww_getr (ci := 10) (k0 := 39) C dX10_ran_111 rfl rfl inm10 (by decide) T0 q1317 rfl T_17 (by decide) ?_
      refine ww_iload_n C dX10_ran_114 rfl 0 rfl ?_
      refine ww_bipush (v := 17) C dX10_ran_115 (by decide) ?_
      refine ww_iadd C dX10_ran_117 ?_
      refine ww_iald C dX10_ran_118 T_17 E (fun _ E => ?_)
      exact ww_iret C HR HL dX10_ran_119 E
    rw [if_neg s_16] at E
    by_cases s_18 : a2 = (6 : Int32)
    · rw [if_pos s_18] at E
      refine ww_tabIn (tgt := 120) C dX10_ran_23 s_18 (by decide) (by decide) rfl (by decide) ?_
      refine ww_aload_n C dX10_ran_120 rfl 1 rfl ?_
      have T_19 : gs S (gr S a0 39) = (1, 10080) := hG.1 _ 10 T0 39 (by decide)
      refine ww_getr (ci := 10) (k0 := 39) C dX10_ran_121 rfl rfl inm10 (by decide) T0 q1317 rfl T_19 (by decide) ?_
      refine ww_iload_n C dX10_ran_124 rfl 0 rfl ?_
      refine ww_bipush (v := 18) C dX10_ran_125 (by decide) ?_
      refine ww_iadd C dX10_ran_127 ?_
      refine ww_iald C dX10_ran_128 T_19 E (fun _ E => ?_)
      exact ww_iret C HR HL dX10_ran_129 E
    rw [if_neg s_18] at E
    refine ww_tabOut (tgt := 130) C dX10_ran_23 (tab_out (fun v h1 h2 => ?_)) (by decide) ?_
    · rcases (show v = 0 ∨ v = 1 ∨ v = 2 ∨ v = 3 ∨ v = 4 ∨ v = 5 ∨ v = 6 by omega) with rfl | rfl | rfl | rfl | rfl | rfl | rfl
      · exact ti_ne s_6 (by decide)
      · exact ti_ne s_8 (by decide)
      · exact ti_ne s_10 (by decide)
      · exact ti_ne s_12 (by decide)
      · exact ti_ne s_14 (by decide)
      · exact ti_ne s_16 (by decide)
      · exact ti_ne s_18 (by decide)
    refine ww_bipush (v := (-2)) C dX10_ran_130 (by decide) ?_
    exact ww_iret C HR HL dX10_ran_132 E
  · refine ww_bipush (v := (-2)) C dX10_ran_13 (by decide) ?_
    exact ww_iret C HR HL dX10_ran_15 E
section P_X10_rules
variable {p : Program} {l : Launch} {e : Env} {s : State} {m : MethodId} {args : Array Value} {below : List Frame} {meth : Method} {c : Code} {G : GG} {A : Nat → Prop} {ad : Nat → Nat} {S : ST} {N : Nat} {r : Int32} {dy' : DY}
end P_X10_rules
set_option maxHeartbeats 4000000 in
set_option maxRecDepth 100000 in
theorem M_X10_rules (l : Launch) (G : GG) (ad : Nat → Nat) {S : ST} (N : Nat) (hG : Good S) (a0 : Nat) (a1 : Int32) (dy : DY) (T0 : gs S a0 = (0, 10)) {r : Int32} {dy' : DY} (E : F_X10_rules S N a0 a1 dy = some (r, dy')) : MC l yX10_rules cX10_rules 2 (Option.some Jvm.ClassFile.FieldType.int) (3) G ad [.ref (ad a0), .int a1] S dy (fun A => QI G ad A S r dy') := by
  rw [F_X10_rules_s] at E
  refine mc_of RX10 (by decide) rfl (Nat.le_of_ble_eq_true rfl) (fun p e s m args below meth c A C HR HL => ?_)
  refine ww_sub (lv' := [(0, .ref (ad a0)), (1, .int a1)]) [0, 1] rfl ?_
  refine ww_aload_n C dX10_rules_0 rfl 0 rfl ?_
  refine ww_iconst (v := 0) C dX10_rules_1 (by decide) ?_
  refine ww_puti (ci := 10) (k0 := 0) C dX10_rules_2 rfl rfl inm10 tyX10_ok nmX10 (by decide) T0 q1278 rfl rfl rfl ?_
  refine ww_bd E (fun dy1 E => ?_)
  refine ww_aload_n C dX10_rules_5 rfl 0 rfl ?_
  refine ww_iload_n C dX10_rules_6 rfl 1 rfl ?_
  obtain ⟨u2, e_3, E⟩ := bind_of E
  refine ww_callI C (runs_V (n := 1) (st := []) C [.int a1] (M_X10_isLaw l G ad N hG a0 a1 dy1 T0 e_3) ⟨q1587, q118, by decide⟩ q1584 q1586 q61 (ci := 10) rfl T0 rfl (Nat.le_of_ble_eq_true rfl) ⟨Nat.le_of_ble_eq_true rfl, Nat.le_of_ble_eq_true rfl⟩ ⟨Nat.zero_le _, Nat.zero_le _⟩ dX10_rules_7 rfl) ?_
  refine ww_if_eq (tgt := 22) C dX10_rules_10 (by decide) E (fun _ E => ?_) (fun _ E => ?_)
  · refine ww_iconst (v := (-1)) C dX10_rules_22 (by decide) ?_
    exact ww_iret C HR HL dX10_rules_23 E
  · refine ww_aload_n C dX10_rules_13 rfl 0 rfl ?_
    have T_4 : gs S (gr S a0 13) = (1, 12) := hG.1 _ 10 T0 13 (by decide)
    refine ww_getr (ci := 10) (k0 := 13) C dX10_rules_14 rfl rfl inm10 (by decide) T0 q1291 rfl T_4 (by decide) ?_
    refine ww_iload_n C dX10_rules_17 rfl 1 rfl ?_
    refine ww_iald C dX10_rules_18 T_4 E (fun _ E => ?_)
    refine ww_goto (tgt := 23) C dX10_rules_19 (by decide) ?_
    exact ww_iret C HR HL dX10_rules_23 E
section P_X10_run
variable {p : Program} {l : Launch} {e : Env} {s : State} {m : MethodId} {args : Array Value} {below : List Frame} {meth : Method} {c : Code} {G : GG} {A : Nat → Prop} {ad : Nat → Nat} {S : ST} {N : Nat} {r : Int32} {dy' : DY}
end P_X10_run
set_option maxHeartbeats 4000000 in
set_option maxRecDepth 100000 in
theorem M_X10_run (l : Launch) (G : GG) (ad : Nat → Nat) {S : ST} (N : Nat) (hG : Good S) (a0 : Nat) (a1 : Int32) (a2 : Int32) (a3 : Int32) (dy : DY) (T0 : gs S a0 = (0, 10)) {r : Int32} {dy' : DY} (E : F_X10_run S N a0 a1 a2 a3 dy = some (r, dy')) : MC l yX10_run cX10_run 4 (Option.some Jvm.ClassFile.FieldType.boolean) (3) G ad [.ref (ad a0), .int a1, .int a2, .int a3] S dy (fun A => QI G ad A S r dy') := by
  rw [F_X10_run_s] at E
  refine mc_of RX10 (by decide) rfl (Nat.le_of_ble_eq_true rfl) (fun p e s m args below meth c A C HR HL => ?_)
  refine ww_sub (lv' := [(0, .ref (ad a0)), (1, .int a1), (2, .int a2), (3, .int a3)]) [0, 1, 2, 3] rfl ?_
  refine ww_aload_n C dX10_run_0 rfl 0 rfl ?_
  refine ww_iconst (v := 0) C dX10_run_1 (by decide) ?_
  refine ww_puti (ci := 10) (k0 := 0) C dX10_run_2 rfl rfl inm10 tyX10_ok nmX10 (by decide) T0 q1278 rfl rfl rfl ?_
  refine ww_bd E (fun dy1 E => ?_)
  refine ww_aload_n C dX10_run_5 rfl 0 rfl ?_
  refine ww_iload_n C dX10_run_6 rfl 1 rfl ?_
  obtain ⟨u2, e_3, E⟩ := bind_of E
  refine ww_callI C (runs_V (n := 1) (st := []) C [.int a1] (M_X10_isPassage l G ad N hG a0 a1 dy1 T0 e_3) ⟨q1488, q118, by decide⟩ q1485 q1487 q41 (ci := 10) rfl T0 rfl (Nat.le_of_ble_eq_true rfl) ⟨Nat.le_of_ble_eq_true rfl, Nat.le_of_ble_eq_true rfl⟩ ⟨Nat.zero_le _, Nat.zero_le _⟩ dX10_run_7 rfl) ?_
  refine ww_if_eq (tgt := 21) C dX10_run_10 (by decide) E (fun _ E => ?_) (fun _ E => ?_)
  · refine ww_iconst (v := 0) C dX10_run_21 (by decide) ?_
    exact ww_zret C HR HL dX10_run_22 (Or.inl rfl) E
  · refine ww_aload_n C dX10_run_13 rfl 0 rfl ?_
    refine ww_iload_n C dX10_run_14 rfl 2 rfl ?_
    obtain ⟨u4, e_5, E⟩ := bind_of E
    refine ww_callI C (runs_V (n := 1) (st := []) C [.int a2] (M_X10_isLaw l G ad N hG a0 a2 u2.2 T0 e_5) ⟨q1587, q118, by decide⟩ q1584 q1586 q61 (ci := 10) rfl T0 rfl (Nat.le_of_ble_eq_true rfl) ⟨Nat.le_of_ble_eq_true rfl, Nat.le_of_ble_eq_true rfl⟩ ⟨Nat.zero_le _, Nat.zero_le _⟩ dX10_run_15 rfl) ?_
    refine ww_if_ne (tgt := 23) C dX10_run_18 (by decide) E (fun _ E => ?_) (fun _ E => ?_)
    · refine ww_aload_n C dX10_run_23 rfl 0 rfl ?_
      refine ww_iconst (v := 0) C dX10_run_24 (by decide) ?_
      refine ww_iload_n C dX10_run_25 rfl 1 rfl ?_
      refine ww_iload_n C dX10_run_26 rfl 2 rfl ?_
      refine ww_iload_n C dX10_run_27 rfl 3 rfl ?_
      refine ww_bipush (v := 12) C dX10_run_28 (by decide) ?_
      refine ww_iconst (v := (-1)) C dX10_run_30 (by decide) ?_
      obtain ⟨u6, e_7, E⟩ := bind_of E
      refine ww_callV C (runs_V (n := 6) (st := []) C [.int (0 : Int32), .int a1, .int a2, .int a3, .int (12 : Int32), .int (-1 : Int32)] (M_X10_lay l G ad N hG a0 (0 : Int32) a1 a2 a3 (12 : Int32) (-1 : Int32) u4.2 T0 e_7) ⟨q1641, q118, by decide⟩ q1638 q1640 q66 (ci := 10) rfl T0 rfl (Nat.le_of_ble_eq_true rfl) ⟨Nat.le_of_ble_eq_true rfl, Nat.le_of_ble_eq_true rfl⟩ ⟨Nat.zero_le _, Nat.zero_le _⟩ dX10_run_31 rfl) ?_
      refine ww_iconst (v := 1) C dX10_run_34 (by decide) ?_
      exact ww_zret C HR HL dX10_run_35 (Or.inr rfl) E
    · refine ww_iconst (v := 0) C dX10_run_21 (by decide) ?_
      exact ww_zret C HR HL dX10_run_22 (Or.inl rfl) E
section P_X10_slack
variable {p : Program} {l : Launch} {e : Env} {s : State} {m : MethodId} {args : Array Value} {below : List Frame} {meth : Method} {c : Code} {G : GG} {A : Nat → Prop} {ad : Nat → Nat} {S : ST} {N : Nat} {r : Int32} {dy' : DY}
set_option maxHeartbeats 4000000 in
set_option maxRecDepth 100000 in
theorem B_X10_slack_41 (C : CX p s m args c cX10_slack 7 RX10 G A) (HR : meth.sig.returnType = (Option.some Jvm.ClassFile.FieldType.int)) (HL : meth.locks = false) (hG : Good S) : ∀ k : Nat, ∀ (x0 : Nat) (x1 : Int32) (x2 : Int32) (x3 : Int32) (x4 : Int32) (x5 : Int32) (x6 : Int32) (dy : DY), gs S x0 = (0, 10) → (F_X10_slack_41 S N k) x0 x1 x2 x3 x4 x5 x6 dy = some (r, dy') → WJ p l e (rmD (11)) s m args below meth c 7 G A 0 0 (MQ below (QI G ad A S r dy') args s 0 0 A) ad 41 [(0, .ref (ad x0)), (1, .int x1), (2, .int x2), (3, .int x3), (4, .int x4), (5, .int x5), (6, .int x6)] [] S dy := by
  intro k
  induction k with
  | zero => exact fun _ _ _ _ _ _ _ _ _ E => nomatch (show none = some (r, dy') from E)
  | succ k ih =>
    intro x0 x1 x2 x3 x4 x5 x6 dy Tx0 E
    rw [F_X10_slack_41_s] at E
    refine ww_iload C dX10_slack_41 6 rfl ?_
    refine ww_if_lt (tgt := 105) C dX10_slack_43 (by decide) E (fun _ E => ?_) (fun _ E => ?_)
    · refine ww_iconst (v := (-1)) C dX10_slack_105 (by decide) ?_
      exact ww_iret C HR HL dX10_slack_106 E
    · refine ww_aload_n C dX10_slack_46 rfl 0 rfl ?_
      refine ww_iconst (v := 4) C dX10_slack_47 (by decide) ?_
      refine ww_iload_n C dX10_slack_48 rfl 1 rfl ?_
      refine ww_iload_n C dX10_slack_49 rfl 2 rfl ?_
      refine ww_iload_n C dX10_slack_50 rfl 3 rfl ?_
      refine ww_bipush (v := 12) C dX10_slack_51 (by decide) ?_
      refine ww_iconst (v := (-1)) C dX10_slack_53 (by decide) ?_
      obtain ⟨u1, e_2, E⟩ := bind_of E
      refine ww_callV C (runs_V (n := 6) (st := []) C [.int (4 : Int32), .int x1, .int x2, .int x3, .int (12 : Int32), .int (-1 : Int32)] (M_X10_lay l G ad N hG x0 (4 : Int32) x1 x2 x3 (12 : Int32) (-1 : Int32) dy Tx0 e_2) ⟨q1641, q118, by decide⟩ q1638 q1640 q66 (ci := 10) rfl Tx0 rfl (Nat.le_of_ble_eq_true rfl) ⟨Nat.le_of_ble_eq_true rfl, Nat.le_of_ble_eq_true rfl⟩ ⟨Nat.zero_le _, Nat.zero_le _⟩ dX10_slack_54 rfl) ?_
      refine ww_aload_n C dX10_slack_57 rfl 0 rfl ?_
      have T_3 : gs S (gr S x0 39) = (1, 10080) := hG.1 _ 10 Tx0 39 (by decide)
      refine ww_getr (ci := 10) (k0 := 39) C dX10_slack_58 rfl rfl inm10 (by decide) Tx0 q1317 rfl T_3 (by decide) ?_
      refine ww_iconst (v := 4) C dX10_slack_61 (by decide) ?_
      refine ww_iload C dX10_slack_62 5 rfl ?_
      obtain ⟨u4, e_5, E⟩ := bind_of E
      refine ww_callI C (runs_S (n := 2) (st := [.ref (ad (gr S x0 39))]) C [.int (4 : Int32), .int x5] (M_X10_at l G ad N hG (4 : Int32) x5 u1 e_5) ⟨q1644, q118, by decide⟩ q1642 q1643 rfl (Nat.le_of_ble_eq_true rfl) ⟨Nat.le_of_ble_eq_true rfl, Nat.le_of_ble_eq_true rfl⟩ ⟨Nat.zero_le _, Nat.zero_le _⟩ dX10_slack_64 rfl) ?_
      refine ww_bipush (v := 10) C dX10_slack_67 (by decide) ?_
      refine ww_iadd C dX10_slack_69 ?_
      refine ww_iload C dX10_slack_70 6 rfl ?_
      refine ww_iast C dX10_slack_72 T_3 E (fun _ E => ?_)
      refine ww_bd E (fun dy6 E => ?_)
      refine ww_aload_n C dX10_slack_73 rfl 0 rfl ?_
      refine ww_iload C dX10_slack_74 4 rfl ?_
      obtain ⟨u7, e_8, E⟩ := bind_of E
      refine ww_callV C (runs_V (n := 1) (st := []) C [.int x4] (M_X10_tryOn l G ad N hG x0 x4 dy6 Tx0 e_8) ⟨q1801, q118, by decide⟩ q1798 q1800 q96 (ci := 10) rfl Tx0 rfl (Nat.le_of_ble_eq_true rfl) ⟨Nat.le_of_ble_eq_true rfl, Nat.le_of_ble_eq_true rfl⟩ ⟨Nat.zero_le _, Nat.zero_le _⟩ dX10_slack_76 rfl) ?_
      refine ww_aload_n C dX10_slack_79 rfl 0 rfl ?_
      have T_9 : gs S (gr S x0 39) = (1, 10080) := hG.1 _ 10 Tx0 39 (by decide)
      refine ww_getr (ci := 10) (k0 := 39) C dX10_slack_80 rfl rfl inm10 (by decide) Tx0 q1317 rfl T_9 (by decide) ?_
      refine ww_sipush (v := 2886) C dX10_slack_83 (by decide) ?_
      refine ww_iald C dX10_slack_86 T_9 E (fun _ E => ?_)
      refine ww_aload_n C dX10_slack_87 rfl 0 rfl ?_
      have T_10 : gs S (gr S x0 8) = (1, 12) := hG.1 _ 10 Tx0 8 (by decide)
      refine ww_getr (ci := 10) (k0 := 8) C dX10_slack_88 rfl rfl inm10 (by decide) Tx0 q1286 rfl T_10 (by decide) ?_
      refine ww_iload_n C dX10_slack_91 rfl 1 rfl ?_
      refine ww_iald C dX10_slack_92 T_10 E (fun _ E => ?_)
      refine ww_icmp_ne (tgt := 99) C dX10_slack_93 (by decide) E (fun _ E => ?_) (fun _ E => ?_)
      · refine ww_iinc (v := (x6 + (-1 : Int32))) (lv' := [(6, .int (x6 + (-1 : Int32))), (0, .ref (ad x0)), (1, .int x1), (2, .int x2), (3, .int x3), (4, .int x4), (5, .int x5)]) C dX10_slack_99 6 rfl rfl (by decide) rfl ?_
        refine ww_goto (tgt := 41) C dX10_slack_102 (by decide) ?_
        refine ww_sub (lv' := [(0, .ref (ad x0)), (1, .int x1), (2, .int x2), (3, .int x3), (4, .int x4), (5, .int x5), (6, .int (x6 + (-1 : Int32)))]) [1, 2, 3, 4, 5, 6, 0] rfl ?_
        exact ih x0 x1 x2 x3 x4 x5 (x6 + (-1 : Int32)) u7 Tx0 E
      · refine ww_iload C dX10_slack_96 6 rfl ?_
        exact ww_iret C HR HL dX10_slack_98 E
end P_X10_slack
set_option maxHeartbeats 4000000 in
set_option maxRecDepth 100000 in
theorem M_X10_slack (l : Launch) (G : GG) (ad : Nat → Nat) {S : ST} (N : Nat) (hG : Good S) (a0 : Nat) (a1 : Int32) (a2 : Int32) (a3 : Int32) (a4 : Int32) (a5 : Int32) (dy : DY) (T0 : gs S a0 = (0, 10)) {r : Int32} {dy' : DY} (E : F_X10_slack S N a0 a1 a2 a3 a4 a5 dy = some (r, dy')) : MC l yX10_slack cX10_slack 7 (Option.some Jvm.ClassFile.FieldType.int) (11) G ad [.ref (ad a0), .int a1, .int a2, .int a3, .int a4, .int a5] S dy (fun A => QI G ad A S r dy') := by
  rw [F_X10_slack_s] at E
  refine mc_of RX10 (by decide) rfl (Nat.le_of_ble_eq_true rfl) (fun p e s m args below meth c A C HR HL => ?_)
  refine ww_sub (lv' := [(0, .ref (ad a0)), (1, .int a1), (2, .int a2), (3, .int a3), (4, .int a4), (5, .int a5)]) [0, 1, 2, 3, 4, 5] rfl ?_
  refine ww_aload_n C dX10_slack_0 rfl 0 rfl ?_
  refine ww_iconst (v := 0) C dX10_slack_1 (by decide) ?_
  refine ww_puti (ci := 10) (k0 := 0) C dX10_slack_2 rfl rfl inm10 tyX10_ok nmX10 (by decide) T0 q1278 rfl rfl rfl ?_
  refine ww_bd E (fun dy1 E => ?_)
  refine ww_aload_n C dX10_slack_5 rfl 0 rfl ?_
  refine ww_iload_n C dX10_slack_6 rfl 1 rfl ?_
  refine ww_iload_n C dX10_slack_7 rfl 2 rfl ?_
  refine ww_iload C dX10_slack_8 4 rfl ?_
  refine ww_sipush (v := 200) C dX10_slack_10 (by decide) ?_
  obtain ⟨u2, e_3, E⟩ := bind_of E
  refine ww_callI C (runs_V (n := 4) (st := []) C [.int a1, .int a2, .int a4, .int (200 : Int32)] (M_X10_isTried l G ad N hG a0 a1 a2 a4 (200 : Int32) dy1 T0 e_3) ⟨q1797, q118, by decide⟩ q1794 q1796 q95 (ci := 10) rfl T0 rfl (Nat.le_of_ble_eq_true rfl) ⟨Nat.le_of_ble_eq_true rfl, Nat.le_of_ble_eq_true rfl⟩ ⟨Nat.zero_le _, Nat.zero_le _⟩ dX10_slack_13 rfl) ?_
  refine ww_if_eq (tgt := 36) C dX10_slack_16 (by decide) E (fun _ E => ?_) (fun _ E => ?_)
  · refine ww_iconst (v := (-1)) C dX10_slack_36 (by decide) ?_
    exact ww_iret C HR HL dX10_slack_37 E
  · refine ww_iload C dX10_slack_19 5 rfl ?_
    refine ww_iconst (v := 0) C dX10_slack_21 (by decide) ?_
    refine ww_aload_n C dX10_slack_22 rfl 0 rfl ?_
    have T_4 : gs S (gr S a0 8) = (1, 12) := hG.1 _ 10 T0 8 (by decide)
    refine ww_getr (ci := 10) (k0 := 8) C dX10_slack_23 rfl rfl inm10 (by decide) T0 q1286 rfl T_4 (by decide) ?_
    refine ww_iload_n C dX10_slack_26 rfl 1 rfl ?_
    refine ww_iald C dX10_slack_27 T_4 E (fun _ E => ?_)
    refine ww_iconst (v := 1) C dX10_slack_28 (by decide) ?_
    refine ww_isub C dX10_slack_29 ?_
    obtain ⟨u5, e_6, E⟩ := bind_of E
    refine ww_callI C (runs_S (n := 3) (st := []) C [.int a5, .int (0 : Int32), .int ((gi u2.2 (gr S a0 8) a1.toNatClampNeg) - (1 : Int32))] (M_X10_in l G ad N hG a5 (0 : Int32) ((gi u2.2 (gr S a0 8) a1.toNatClampNeg) - (1 : Int32)) u2.2 e_6) ⟨q1476, q118, by decide⟩ q1474 q1475 rfl (Nat.le_of_ble_eq_true rfl) ⟨Nat.le_of_ble_eq_true rfl, Nat.le_of_ble_eq_true rfl⟩ ⟨Nat.zero_le _, Nat.zero_le _⟩ dX10_slack_30 rfl) ?_
    refine ww_if_ne (tgt := 38) C dX10_slack_33 (by decide) E (fun _ E => ?_) (fun _ E => ?_)
    · refine ww_iconst (v := 3) C dX10_slack_38 (by decide) ?_
      refine ww_istore (lv' := [(6, .int (3 : Int32)), (0, .ref (ad a0)), (1, .int a1), (2, .int a2), (3, .int a3), (4, .int a4), (5, .int a5)]) C dX10_slack_39 (by decide) rfl ?_
      refine ww_sub (lv' := [(0, .ref (ad a0)), (1, .int a1), (2, .int a2), (3, .int a3), (4, .int a4), (5, .int a5), (6, .int (3 : Int32))]) [1, 2, 3, 4, 5, 6, 0] rfl ?_
      exact (B_X10_slack_41 C HR HL hG N) a0 a1 a2 a3 a4 a5 (3 : Int32) u5.2 T0 E
    · refine ww_iconst (v := (-1)) C dX10_slack_36 (by decide) ?_
      exact ww_iret C HR HL dX10_slack_37 E
section P_X10_state
variable {p : Program} {l : Launch} {e : Env} {s : State} {m : MethodId} {args : Array Value} {below : List Frame} {meth : Method} {c : Code} {G : GG} {A : Nat → Prop} {ad : Nat → Nat} {S : ST} {N : Nat} {r : Int32} {dy' : DY}
end P_X10_state
set_option maxHeartbeats 4000000 in
set_option maxRecDepth 100000 in
theorem M_X10_state (l : Launch) (G : GG) (ad : Nat → Nat) {S : ST} (N : Nat) (hG : Good S) (a0 : Nat) (a1 : Int32) (dy : DY) (T0 : gs S a0 = (0, 10)) {r : Int32} {dy' : DY} (E : F_X10_state S N a0 a1 dy = some (r, dy')) : MC l yX10_state cX10_state 2 (Option.some Jvm.ClassFile.FieldType.int) (4) G ad [.ref (ad a0), .int a1] S dy (fun A => QI G ad A S r dy') := by
  rw [F_X10_state_s] at E
  refine mc_of RX10 (by decide) rfl (Nat.le_of_ble_eq_true rfl) (fun p e s m args below meth c A C HR HL => ?_)
  refine ww_sub (lv' := [(0, .ref (ad a0)), (1, .int a1)]) [0, 1] rfl ?_
  refine ww_aload_n C dX10_state_0 rfl 0 rfl ?_
  refine ww_iconst (v := 0) C dX10_state_1 (by decide) ?_
  refine ww_puti (ci := 10) (k0 := 0) C dX10_state_2 rfl rfl inm10 tyX10_ok nmX10 (by decide) T0 q1278 rfl rfl rfl ?_
  refine ww_bd E (fun dy1 E => ?_)
  refine ww_aload_n C dX10_state_5 rfl 0 rfl ?_
  have T_2 : gs S (gr S a0 39) = (1, 10080) := hG.1 _ 10 T0 39 (by decide)
  refine ww_getr (ci := 10) (k0 := 39) C dX10_state_6 rfl rfl inm10 (by decide) T0 q1317 rfl T_2 (by decide) ?_
  refine ww_bipush (v := 10) C dX10_state_9 (by decide) ?_
  refine ww_iald C dX10_state_11 T_2 E (fun _ E => ?_)
  refine ww_if_ne (tgt := 17) C dX10_state_12 (by decide) E (fun _ E => ?_) (fun _ E => ?_)
  · refine ww_iload_n C dX10_state_17 rfl 1 rfl ?_
    by_cases s_3 : a1 = (0 : Int32)
    · rw [if_pos s_3] at E
      refine ww_tabIn (tgt := 60) C dX10_state_18 s_3 (by decide) (by decide) rfl (by decide) ?_
      refine ww_aload_n C dX10_state_60 rfl 0 rfl ?_
      have T_4 : gs S (gr S a0 39) = (1, 10080) := hG.1 _ 10 T0 39 (by decide)
      refine ww_getr (ci := 10) (k0 := 39) C dX10_state_61 rfl rfl inm10 (by decide) T0 q1317 rfl T_4 (by decide) ?_
      refine ww_iconst (v := 3) C dX10_state_64 (by decide) ?_
      refine ww_iald C dX10_state_65 T_4 E (fun _ E => ?_)
      exact ww_iret C HR HL dX10_state_66 E
    rw [if_neg s_3] at E
    by_cases s_5 : a1 = (1 : Int32)
    · rw [if_pos s_5] at E
      refine ww_tabIn (tgt := 67) C dX10_state_18 s_5 (by decide) (by decide) rfl (by decide) ?_
      refine ww_aload_n C dX10_state_67 rfl 0 rfl ?_
      have T_6 : gs S (gr S a0 39) = (1, 10080) := hG.1 _ 10 T0 39 (by decide)
      refine ww_getr (ci := 10) (k0 := 39) C dX10_state_68 rfl rfl inm10 (by decide) T0 q1317 rfl T_6 (by decide) ?_
      refine ww_bipush (v := 6) C dX10_state_71 (by decide) ?_
      refine ww_iald C dX10_state_73 T_6 E (fun _ E => ?_)
      exact ww_iret C HR HL dX10_state_74 E
    rw [if_neg s_5] at E
    by_cases s_7 : a1 = (2 : Int32)
    · rw [if_pos s_7] at E
      refine ww_tabIn (tgt := 75) C dX10_state_18 s_7 (by decide) (by decide) rfl (by decide) ?_
      refine ww_aload_n C dX10_state_75 rfl 0 rfl ?_
      have T_8 : gs S (gr S a0 39) = (1, 10080) := hG.1 _ 10 T0 39 (by decide)
      refine ww_getr (ci := 10) (k0 := 39) C dX10_state_76 rfl rfl inm10 (by decide) T0 q1317 rfl T_8 (by decide) ?_
      refine ww_bipush (v := 7) C dX10_state_79 (by decide) ?_
      refine ww_iald C dX10_state_81 T_8 E (fun _ E => ?_)
      refine ww_bipush (v := 10) C dX10_state_82 (by decide) ?_
      refine ww_icmp_lt (tgt := 91) C dX10_state_84 (by decide) E (fun _ E => ?_) (fun _ E => ?_)
      · refine ww_iconst (v := 0) C dX10_state_91 (by decide) ?_
        exact ww_iret C HR HL dX10_state_92 E
      · refine ww_iconst (v := 1) C dX10_state_87 (by decide) ?_
        refine ww_goto (tgt := 92) C dX10_state_88 (by decide) ?_
        exact ww_iret C HR HL dX10_state_92 E
    rw [if_neg s_7] at E
    by_cases s_9 : a1 = (3 : Int32)
    · rw [if_pos s_9] at E
      refine ww_tabIn (tgt := 93) C dX10_state_18 s_9 (by decide) (by decide) rfl (by decide) ?_
      refine ww_aload_n C dX10_state_93 rfl 0 rfl ?_
      have T_10 : gs S (gr S a0 39) = (1, 10080) := hG.1 _ 10 T0 39 (by decide)
      refine ww_getr (ci := 10) (k0 := 39) C dX10_state_94 rfl rfl inm10 (by decide) T0 q1317 rfl T_10 (by decide) ?_
      refine ww_bipush (v := 8) C dX10_state_97 (by decide) ?_
      refine ww_iald C dX10_state_99 T_10 E (fun _ E => ?_)
      exact ww_iret C HR HL dX10_state_100 E
    rw [if_neg s_9] at E
    by_cases s_11 : a1 = (4 : Int32)
    · rw [if_pos s_11] at E
      refine ww_tabIn (tgt := 101) C dX10_state_18 s_11 (by decide) (by decide) rfl (by decide) ?_
      refine ww_aload_n C dX10_state_101 rfl 0 rfl ?_
      refine ww_iconst (v := 0) C dX10_state_102 (by decide) ?_
      obtain ⟨u12, e_13, E⟩ := bind_of E
      refine ww_callI C (runs_V (n := 1) (st := []) C [.int (0 : Int32)] (M_X10_lanes l G ad N hG a0 (0 : Int32) dy1 T0 e_13) ⟨q1769, q118, by decide⟩ q1766 q1768 q91 (ci := 10) rfl T0 rfl (Nat.le_of_ble_eq_true rfl) ⟨Nat.le_of_ble_eq_true rfl, Nat.le_of_ble_eq_true rfl⟩ ⟨Nat.zero_le _, Nat.zero_le _⟩ dX10_state_103 rfl) ?_
      exact ww_iret C HR HL dX10_state_106 E
    rw [if_neg s_11] at E
    by_cases s_14 : a1 = (5 : Int32)
    · rw [if_pos s_14] at E
      refine ww_tabIn (tgt := 107) C dX10_state_18 s_14 (by decide) (by decide) rfl (by decide) ?_
      refine ww_aload_n C dX10_state_107 rfl 0 rfl ?_
      refine ww_iconst (v := 1) C dX10_state_108 (by decide) ?_
      obtain ⟨u15, e_16, E⟩ := bind_of E
      refine ww_callI C (runs_V (n := 1) (st := []) C [.int (1 : Int32)] (M_X10_lanes l G ad N hG a0 (1 : Int32) dy1 T0 e_16) ⟨q1769, q118, by decide⟩ q1766 q1768 q91 (ci := 10) rfl T0 rfl (Nat.le_of_ble_eq_true rfl) ⟨Nat.le_of_ble_eq_true rfl, Nat.le_of_ble_eq_true rfl⟩ ⟨Nat.zero_le _, Nat.zero_le _⟩ dX10_state_109 rfl) ?_
      exact ww_iret C HR HL dX10_state_112 E
    rw [if_neg s_14] at E
    by_cases s_17 : a1 = (6 : Int32)
    · rw [if_pos s_17] at E
      refine ww_tabIn (tgt := 113) C dX10_state_18 s_17 (by decide) (by decide) rfl (by decide) ?_
      refine ww_aload_n C dX10_state_113 rfl 0 rfl ?_
      have T_18 : gs S (gr S a0 39) = (1, 10080) := hG.1 _ 10 T0 39 (by decide)
      refine ww_getr (ci := 10) (k0 := 39) C dX10_state_114 rfl rfl inm10 (by decide) T0 q1317 rfl T_18 (by decide) ?_
      refine ww_iconst (v := 5) C dX10_state_117 (by decide) ?_
      refine ww_iald C dX10_state_118 T_18 E (fun _ E => ?_)
      exact ww_iret C HR HL dX10_state_119 E
    rw [if_neg s_17] at E
    refine ww_tabOut (tgt := 120) C dX10_state_18 (tab_out (fun v h1 h2 => ?_)) (by decide) ?_
    · rcases (show v = 0 ∨ v = 1 ∨ v = 2 ∨ v = 3 ∨ v = 4 ∨ v = 5 ∨ v = 6 by omega) with rfl | rfl | rfl | rfl | rfl | rfl | rfl
      · exact ti_ne s_3 (by decide)
      · exact ti_ne s_5 (by decide)
      · exact ti_ne s_7 (by decide)
      · exact ti_ne s_9 (by decide)
      · exact ti_ne s_11 (by decide)
      · exact ti_ne s_14 (by decide)
      · exact ti_ne s_17 (by decide)
    refine ww_iconst (v := (-1)) C dX10_state_120 (by decide) ?_
    exact ww_iret C HR HL dX10_state_121 E
  · refine ww_iconst (v := (-1)) C dX10_state_15 (by decide) ?_
    exact ww_iret C HR HL dX10_state_16 E
section P_X10_touch
variable {p : Program} {l : Launch} {e : Env} {s : State} {m : MethodId} {args : Array Value} {below : List Frame} {meth : Method} {c : Code} {G : GG} {A : Nat → Prop} {ad : Nat → Nat} {S : ST} {N : Nat} {r : Int32} {dy' : DY}
set_option maxHeartbeats 4000000 in
set_option maxRecDepth 100000 in
theorem B_X10_touch_76 (C : CX p s m args c cX10_touch 8 RX10 G A) (HR : meth.sig.returnType = (Option.some Jvm.ClassFile.FieldType.int)) (HL : meth.locks = false) (hG : Good S) : ∀ k : Nat, ∀ (x0 : Nat) (x4 : Int32) (x5 : Int32) (x6 : Int32) (x7 : Int32) (dy : DY), gs S x0 = (0, 10) → (F_X10_touch_76 S N k) x0 x4 x5 x6 x7 dy = some (r, dy') → WJ p l e (rmD (11)) s m args below meth c 8 G A 0 0 (MQ below (QI G ad A S r dy') args s 0 0 A) ad 76 [(0, .ref (ad x0)), (4, .int x4), (5, .int x5), (6, .int x6), (7, .int x7)] [] S dy := by
  intro k
  induction k with
  | zero => exact fun _ _ _ _ _ _ _ E => nomatch (show none = some (r, dy') from E)
  | succ k ih =>
    intro x0 x4 x5 x6 x7 dy Tx0 E
    rw [F_X10_touch_76_s] at E
    refine ww_iload C dX10_touch_76 4 rfl ?_
    refine ww_iload C dX10_touch_78 1 rfl ?_
    refine ww_icmp_ge (tgt := 108) C dX10_touch_80 (by decide) E (fun _ E => ?_) (fun _ E => ?_)
    · refine ww_iconst (v := (-1)) C dX10_touch_108 (by decide) ?_
      exact ww_iret C HR HL dX10_touch_109 E
    · refine ww_aload_n C dX10_touch_83 rfl 0 rfl ?_
      refine ww_iload C dX10_touch_84 2 rfl ?_
      refine ww_iload C dX10_touch_86 3 rfl ?_
      obtain ⟨u1, e_2, E⟩ := bind_of E
      refine ww_callI C (runs_V (n := 2) (st := []) C [.int x5, .int x6] (M_X10_areBeside l G ad N hG x0 x5 x6 dy Tx0 e_2) ⟨q1838, q118, by decide⟩ q1835 q1837 q100 (ci := 10) rfl Tx0 rfl (Nat.le_of_ble_eq_true rfl) ⟨Nat.le_of_ble_eq_true rfl, Nat.le_of_ble_eq_true rfl⟩ ⟨Nat.zero_le _, Nat.zero_le _⟩ dX10_touch_88 rfl) ?_
      refine ww_if_eq (tgt := 97) C dX10_touch_91 (by decide) E (fun _ E => ?_) (fun _ E => ?_)
      · refine ww_aload_n C dX10_touch_97 rfl 0 rfl ?_
        refine ww_iconst (v := 1) C dX10_touch_98 (by decide) ?_
        obtain ⟨u3, e_4, E⟩ := bind_of E
        refine ww_callV C (runs_V (n := 1) (st := []) C [.int (1 : Int32)] (M_X10_tryOn l G ad N hG x0 (1 : Int32) u1.2 Tx0 e_4) ⟨q1801, q118, by decide⟩ q1798 q1800 q96 (ci := 10) rfl Tx0 rfl (Nat.le_of_ble_eq_true rfl) ⟨Nat.le_of_ble_eq_true rfl, Nat.le_of_ble_eq_true rfl⟩ ⟨Nat.zero_le _, Nat.zero_le _⟩ dX10_touch_99 rfl) ?_
        refine ww_iinc (v := (x7 + (1 : Int32))) (lv' := [(7, .int (x7 + (1 : Int32))), (0, .ref (ad x0)), (4, .int x4), (5, .int x5), (6, .int x6)]) C dX10_touch_102 4 rfl rfl (by decide) rfl ?_
        refine ww_goto (tgt := 76) C dX10_touch_105 (by decide) ?_
        refine ww_sub (lv' := [(0, .ref (ad x0)), (4, .int x4), (5, .int x5), (6, .int x6), (7, .int (x7 + (1 : Int32)))]) [1, 2, 3, 4, 0] rfl ?_
        exact ih x0 x4 x5 x6 (x7 + (1 : Int32)) u3 Tx0 E
      · refine ww_iload C dX10_touch_94 4 rfl ?_
        exact ww_iret C HR HL dX10_touch_96 E
end P_X10_touch
set_option maxHeartbeats 4000000 in
set_option maxRecDepth 100000 in
theorem M_X10_touch (l : Launch) (G : GG) (ad : Nat → Nat) {S : ST} (N : Nat) (hG : Good S) (a0 : Nat) (a1 : Int32) (a2 : Int32) (a3 : Int32) (a4 : Int32) (a5 : Int32) (a6 : Int32) (dy : DY) (T0 : gs S a0 = (0, 10)) {r : Int32} {dy' : DY} (E : F_X10_touch S N a0 a1 a2 a3 a4 a5 a6 dy = some (r, dy')) : MC l yX10_touch cX10_touch 8 (Option.some Jvm.ClassFile.FieldType.int) (11) G ad [.ref (ad a0), .int a1, .int a2, .int a3, .int a4, .int a5, .int a6] S dy (fun A => QI G ad A S r dy') := by
  rw [F_X10_touch_s] at E
  refine mc_of RX10 (by decide) rfl (Nat.le_of_ble_eq_true rfl) (fun p e s m args below meth c A C HR HL => ?_)
  refine ww_sub (lv' := [(0, .ref (ad a0)), (1, .int a1), (2, .int a2), (3, .int a3), (4, .int a4), (5, .int a5), (6, .int a6)]) [0, 1, 2, 3, 4, 5, 6] rfl ?_
  refine ww_aload_n C dX10_touch_0 rfl 0 rfl ?_
  refine ww_iconst (v := 0) C dX10_touch_1 (by decide) ?_
  refine ww_puti (ci := 10) (k0 := 0) C dX10_touch_2 rfl rfl inm10 tyX10_ok nmX10 (by decide) T0 q1278 rfl rfl rfl ?_
  refine ww_bd E (fun dy1 E => ?_)
  refine ww_aload_n C dX10_touch_5 rfl 0 rfl ?_
  refine ww_iload_n C dX10_touch_6 rfl 1 rfl ?_
  refine ww_iload_n C dX10_touch_7 rfl 2 rfl ?_
  refine ww_iload C dX10_touch_8 4 rfl ?_
  refine ww_sipush (v := 200) C dX10_touch_10 (by decide) ?_
  obtain ⟨u2, e_3, E⟩ := bind_of E
  refine ww_callI C (runs_V (n := 4) (st := []) C [.int a1, .int a2, .int a4, .int (200 : Int32)] (M_X10_isTried l G ad N hG a0 a1 a2 a4 (200 : Int32) dy1 T0 e_3) ⟨q1797, q118, by decide⟩ q1794 q1796 q95 (ci := 10) rfl T0 rfl (Nat.le_of_ble_eq_true rfl) ⟨Nat.le_of_ble_eq_true rfl, Nat.le_of_ble_eq_true rfl⟩ ⟨Nat.zero_le _, Nat.zero_le _⟩ dX10_touch_13 rfl) ?_
  refine ww_if_eq (tgt := 60) C dX10_touch_16 (by decide) E (fun _ E => ?_) (fun _ E => ?_)
  · refine ww_iconst (v := (-1)) C dX10_touch_60 (by decide) ?_
    exact ww_iret C HR HL dX10_touch_61 E
  · refine ww_iload C dX10_touch_19 5 rfl ?_
    refine ww_iconst (v := 0) C dX10_touch_21 (by decide) ?_
    refine ww_aload_n C dX10_touch_22 rfl 0 rfl ?_
    have T_4 : gs S (gr S a0 8) = (1, 12) := hG.1 _ 10 T0 8 (by decide)
    refine ww_getr (ci := 10) (k0 := 8) C dX10_touch_23 rfl rfl inm10 (by decide) T0 q1286 rfl T_4 (by decide) ?_
    refine ww_iload_n C dX10_touch_26 rfl 1 rfl ?_
    refine ww_iald C dX10_touch_27 T_4 E (fun _ E => ?_)
    refine ww_iconst (v := 1) C dX10_touch_28 (by decide) ?_
    refine ww_isub C dX10_touch_29 ?_
    obtain ⟨u5, e_6, E⟩ := bind_of E
    refine ww_callI C (runs_S (n := 3) (st := []) C [.int a5, .int (0 : Int32), .int ((gi u2.2 (gr S a0 8) a1.toNatClampNeg) - (1 : Int32))] (M_X10_in l G ad N hG a5 (0 : Int32) ((gi u2.2 (gr S a0 8) a1.toNatClampNeg) - (1 : Int32)) u2.2 e_6) ⟨q1476, q118, by decide⟩ q1474 q1475 rfl (Nat.le_of_ble_eq_true rfl) ⟨Nat.le_of_ble_eq_true rfl, Nat.le_of_ble_eq_true rfl⟩ ⟨Nat.zero_le _, Nat.zero_le _⟩ dX10_touch_30 rfl) ?_
    refine ww_if_eq (tgt := 60) C dX10_touch_33 (by decide) E (fun _ E => ?_) (fun _ E => ?_)
    · refine ww_iconst (v := (-1)) C dX10_touch_60 (by decide) ?_
      exact ww_iret C HR HL dX10_touch_61 E
    · refine ww_iload C dX10_touch_36 6 rfl ?_
      refine ww_iconst (v := 0) C dX10_touch_38 (by decide) ?_
      refine ww_aload_n C dX10_touch_39 rfl 0 rfl ?_
      have T_7 : gs S (gr S a0 8) = (1, 12) := hG.1 _ 10 T0 8 (by decide)
      refine ww_getr (ci := 10) (k0 := 8) C dX10_touch_40 rfl rfl inm10 (by decide) T0 q1286 rfl T_7 (by decide) ?_
      refine ww_iload_n C dX10_touch_43 rfl 1 rfl ?_
      refine ww_iald C dX10_touch_44 T_7 E (fun _ E => ?_)
      refine ww_iconst (v := 1) C dX10_touch_45 (by decide) ?_
      refine ww_isub C dX10_touch_46 ?_
      obtain ⟨u8, e_9, E⟩ := bind_of E
      refine ww_callI C (runs_S (n := 3) (st := []) C [.int a6, .int (0 : Int32), .int ((gi u5.2 (gr S a0 8) a1.toNatClampNeg) - (1 : Int32))] (M_X10_in l G ad N hG a6 (0 : Int32) ((gi u5.2 (gr S a0 8) a1.toNatClampNeg) - (1 : Int32)) u5.2 e_9) ⟨q1476, q118, by decide⟩ q1474 q1475 rfl (Nat.le_of_ble_eq_true rfl) ⟨Nat.le_of_ble_eq_true rfl, Nat.le_of_ble_eq_true rfl⟩ ⟨Nat.zero_le _, Nat.zero_le _⟩ dX10_touch_47 rfl) ?_
      refine ww_if_eq (tgt := 60) C dX10_touch_50 (by decide) E (fun _ E => ?_) (fun _ E => ?_)
      · refine ww_iconst (v := (-1)) C dX10_touch_60 (by decide) ?_
        exact ww_iret C HR HL dX10_touch_61 E
      · refine ww_iload C dX10_touch_53 5 rfl ?_
        refine ww_iload C dX10_touch_55 6 rfl ?_
        refine ww_icmp_ne (tgt := 62) C dX10_touch_57 (by decide) E (fun _ E => ?_) (fun _ E => ?_)
        · refine ww_aload_n C dX10_touch_62 rfl 0 rfl ?_
          refine ww_iconst (v := 4) C dX10_touch_63 (by decide) ?_
          refine ww_iload_n C dX10_touch_64 rfl 1 rfl ?_
          refine ww_iload_n C dX10_touch_65 rfl 2 rfl ?_
          refine ww_iload_n C dX10_touch_66 rfl 3 rfl ?_
          refine ww_bipush (v := 12) C dX10_touch_67 (by decide) ?_
          refine ww_iconst (v := (-1)) C dX10_touch_69 (by decide) ?_
          obtain ⟨u10, e_11, E⟩ := bind_of E
          refine ww_callV C (runs_V (n := 6) (st := []) C [.int (4 : Int32), .int a1, .int a2, .int a3, .int (12 : Int32), .int (-1 : Int32)] (M_X10_lay l G ad N hG a0 (4 : Int32) a1 a2 a3 (12 : Int32) (-1 : Int32) u8.2 T0 e_11) ⟨q1641, q118, by decide⟩ q1638 q1640 q66 (ci := 10) rfl T0 rfl (Nat.le_of_ble_eq_true rfl) ⟨Nat.le_of_ble_eq_true rfl, Nat.le_of_ble_eq_true rfl⟩ ⟨Nat.zero_le _, Nat.zero_le _⟩ dX10_touch_70 rfl) ?_
          refine ww_iconst (v := 0) C dX10_touch_73 (by decide) ?_
          refine ww_istore (lv' := [(7, .int (0 : Int32)), (0, .ref (ad a0)), (1, .int a1), (2, .int a2), (3, .int a3), (4, .int a4), (5, .int a5), (6, .int a6)]) C dX10_touch_74 (by decide) rfl ?_
          refine ww_sub (lv' := [(0, .ref (ad a0)), (4, .int a4), (5, .int a5), (6, .int a6), (7, .int (0 : Int32))]) [1, 5, 6, 7, 0] rfl ?_
          exact (B_X10_touch_76 C HR HL hG N) a0 a4 a5 a6 (0 : Int32) u10 T0 E
        · refine ww_iconst (v := (-1)) C dX10_touch_60 (by decide) ?_
          exact ww_iret C HR HL dX10_touch_61 E
section P_X10_track
variable {p : Program} {l : Launch} {e : Env} {s : State} {m : MethodId} {args : Array Value} {below : List Frame} {meth : Method} {c : Code} {G : GG} {A : Nat → Prop} {ad : Nat → Nat} {S : ST} {N : Nat} {r : Int32} {dy' : DY}
set_option maxHeartbeats 4000000 in
set_option maxRecDepth 100000 in
theorem B_X10_track_60 (C : CX p s m args c cX10_track 7 RX10 G A) (HR : meth.sig.returnType = (Option.some Jvm.ClassFile.FieldType.int)) (HL : meth.locks = false) (hG : Good S) : ∀ k : Nat, ∀ (x0 : Nat) (x3 : Int32) (x4 : Int32) (x5 : Int32) (x6 : Int32) (dy : DY), gs S x0 = (0, 10) → (F_X10_track_60 S N k) x0 x3 x4 x5 x6 dy = some (r, dy') → WJ p l e (rmD (3)) s m args below meth c 7 G A 0 0 (MQ below (QI G ad A S r dy') args s 0 0 A) ad 60 [(0, .ref (ad x0)), (3, .int x3), (4, .int x4), (5, .int x5), (6, .int x6)] [] S dy := by
  intro k
  induction k with
  | zero => exact fun _ _ _ _ _ _ _ E => nomatch (show none = some (r, dy') from E)
  | succ k ih =>
    intro x0 x3 x4 x5 x6 dy Tx0 E
    rw [F_X10_track_60_s] at E
    refine ww_iload C dX10_track_60 4 rfl ?_
    refine ww_iload C dX10_track_62 2 rfl ?_
    refine ww_icmp_ge (tgt := 95) C dX10_track_64 (by decide) E (fun _ E => ?_) (fun _ E => ?_)
    · refine ww_iload C dX10_track_95 3 rfl ?_
      exact ww_iret C HR HL dX10_track_97 E
    · refine ww_iload C dX10_track_67 3 rfl ?_
      refine ww_iconst (v := (-1)) C dX10_track_69 (by decide) ?_
      refine ww_icmp_eq (tgt := 95) C dX10_track_70 (by decide) E (fun _ E => ?_) (fun _ E => ?_)
      · refine ww_iload C dX10_track_95 3 rfl ?_
        exact ww_iret C HR HL dX10_track_97 E
      · refine ww_aload_n C dX10_track_73 rfl 0 rfl ?_
        refine ww_iload C dX10_track_74 4 rfl ?_
        refine ww_iload_n C dX10_track_76 rfl 1 rfl ?_
        obtain ⟨u1, e_2, E⟩ := bind_of E
        refine ww_callV C (runs_V (n := 2) (st := []) C [.int x6, .int x3] (M_X10_findMatch l G ad N hG x0 x6 x3 dy Tx0 e_2) ⟨q1881, q118, by decide⟩ q1878 q1880 q104 (ci := 10) rfl Tx0 rfl (Nat.le_of_ble_eq_true rfl) ⟨Nat.le_of_ble_eq_true rfl, Nat.le_of_ble_eq_true rfl⟩ ⟨Nat.zero_le _, Nat.zero_le _⟩ dX10_track_77 rfl) ?_
        refine ww_aload_n C dX10_track_80 rfl 0 rfl ?_
        have T_3 : gs S (gr S x0 57) = (1, 6) := hG.1 _ 10 Tx0 57 (by decide)
        refine ww_getr (ci := 10) (k0 := 57) C dX10_track_81 rfl rfl inm10 (by decide) Tx0 q1335 rfl T_3 (by decide) ?_
        refine ww_iload C dX10_track_84 3 rfl ?_
        refine ww_iald C dX10_track_86 T_3 E (fun _ E => ?_)
        refine ww_istore (lv' := [(5, .int (gi u1 (gr S x0 57) x5.toNatClampNeg)), (0, .ref (ad x0)), (3, .int x3), (4, .int x4), (6, .int x6)]) C dX10_track_87 (by decide) rfl ?_
        refine ww_iinc (v := (x6 + (1 : Int32))) (lv' := [(6, .int (x6 + (1 : Int32))), (5, .int (gi u1 (gr S x0 57) x5.toNatClampNeg)), (0, .ref (ad x0)), (3, .int x3), (4, .int x4)]) C dX10_track_89 4 rfl rfl (by decide) rfl ?_
        refine ww_goto (tgt := 60) C dX10_track_92 (by decide) ?_
        refine ww_sub (lv' := [(0, .ref (ad x0)), (3, .int x3), (4, .int x4), (5, .int (gi u1 (gr S x0 57) x5.toNatClampNeg)), (6, .int (x6 + (1 : Int32)))]) [2, 3, 4, 1, 0] rfl ?_
        exact ih x0 x3 x4 (gi u1 (gr S x0 57) x5.toNatClampNeg) (x6 + (1 : Int32)) u1 Tx0 E
end P_X10_track
set_option maxHeartbeats 4000000 in
set_option maxRecDepth 100000 in
theorem M_X10_track (l : Launch) (G : GG) (ad : Nat → Nat) {S : ST} (N : Nat) (hG : Good S) (a0 : Nat) (a1 : Int32) (a2 : Int32) (a3 : Int32) (a4 : Int32) (dy : DY) (T0 : gs S a0 = (0, 10)) {r : Int32} {dy' : DY} (E : F_X10_track S N a0 a1 a2 a3 a4 dy = some (r, dy')) : MC l yX10_track cX10_track 7 (Option.some Jvm.ClassFile.FieldType.int) (3) G ad [.ref (ad a0), .int a1, .int a2, .int a3, .int a4] S dy (fun A => QI G ad A S r dy') := by
  rw [F_X10_track_s] at E
  refine mc_of RX10 (by decide) rfl (Nat.le_of_ble_eq_true rfl) (fun p e s m args below meth c A C HR HL => ?_)
  refine ww_sub (lv' := [(0, .ref (ad a0)), (1, .int a1), (2, .int a2), (3, .int a3), (4, .int a4)]) [0, 1, 2, 3, 4] rfl ?_
  refine ww_aload_n C dX10_track_0 rfl 0 rfl ?_
  refine ww_iconst (v := 0) C dX10_track_1 (by decide) ?_
  refine ww_puti (ci := 10) (k0 := 0) C dX10_track_2 rfl rfl inm10 tyX10_ok nmX10 (by decide) T0 q1278 rfl rfl rfl ?_
  refine ww_bd E (fun dy1 E => ?_)
  refine ww_iload_n C dX10_track_5 rfl 1 rfl ?_
  refine ww_iconst (v := 0) C dX10_track_6 (by decide) ?_
  refine ww_bipush (v := 7) C dX10_track_7 (by decide) ?_
  obtain ⟨u2, e_3, E⟩ := bind_of E
  refine ww_callI C (runs_S (n := 3) (st := []) C [.int a1, .int (0 : Int32), .int (7 : Int32)] (M_X10_in l G ad N hG a1 (0 : Int32) (7 : Int32) dy1 e_3) ⟨q1476, q118, by decide⟩ q1474 q1475 rfl (Nat.le_of_ble_eq_true rfl) ⟨Nat.le_of_ble_eq_true rfl, Nat.le_of_ble_eq_true rfl⟩ ⟨Nat.zero_le _, Nat.zero_le _⟩ dX10_track_9 rfl) ?_
  refine ww_if_eq (tgt := 52) C dX10_track_12 (by decide) E (fun _ E => ?_) (fun _ E => ?_)
  · refine ww_iconst (v := (-1)) C dX10_track_52 (by decide) ?_
    exact ww_iret C HR HL dX10_track_53 E
  · refine ww_iload C dX10_track_15 4 rfl ?_
    refine ww_iload_n C dX10_track_17 rfl 1 rfl ?_
    refine ww_bipush (v := 7) C dX10_track_18 (by decide) ?_
    obtain ⟨u4, e_5, E⟩ := bind_of E
    refine ww_callI C (runs_S (n := 3) (st := []) C [.int a4, .int a1, .int (7 : Int32)] (M_X10_in l G ad N hG a4 a1 (7 : Int32) u2.2 e_5) ⟨q1476, q118, by decide⟩ q1474 q1475 rfl (Nat.le_of_ble_eq_true rfl) ⟨Nat.le_of_ble_eq_true rfl, Nat.le_of_ble_eq_true rfl⟩ ⟨Nat.zero_le _, Nat.zero_le _⟩ dX10_track_20 rfl) ?_
    refine ww_if_eq (tgt := 52) C dX10_track_23 (by decide) E (fun _ E => ?_) (fun _ E => ?_)
    · refine ww_iconst (v := (-1)) C dX10_track_52 (by decide) ?_
      exact ww_iret C HR HL dX10_track_53 E
    · refine ww_iload_n C dX10_track_26 rfl 3 rfl ?_
      refine ww_iconst (v := 0) C dX10_track_27 (by decide) ?_
      refine ww_bipush (v := 99) C dX10_track_28 (by decide) ?_
      obtain ⟨u6, e_7, E⟩ := bind_of E
      refine ww_callI C (runs_S (n := 3) (st := []) C [.int a3, .int (0 : Int32), .int (99 : Int32)] (M_X10_in l G ad N hG a3 (0 : Int32) (99 : Int32) u4.2 e_7) ⟨q1476, q118, by decide⟩ q1474 q1475 rfl (Nat.le_of_ble_eq_true rfl) ⟨Nat.le_of_ble_eq_true rfl, Nat.le_of_ble_eq_true rfl⟩ ⟨Nat.zero_le _, Nat.zero_le _⟩ dX10_track_30 rfl) ?_
      refine ww_if_eq (tgt := 52) C dX10_track_33 (by decide) E (fun _ E => ?_) (fun _ E => ?_)
      · refine ww_iconst (v := (-1)) C dX10_track_52 (by decide) ?_
        exact ww_iret C HR HL dX10_track_53 E
      · refine ww_iload_n C dX10_track_36 rfl 2 rfl ?_
        refine ww_iconst (v := 0) C dX10_track_37 (by decide) ?_
        refine ww_aload_n C dX10_track_38 rfl 0 rfl ?_
        have T_8 : gs S (gr S a0 15) = (1, 32) := hG.1 _ 10 T0 15 (by decide)
        refine ww_getr (ci := 10) (k0 := 15) C dX10_track_39 rfl rfl inm10 (by decide) T0 q1293 rfl T_8 (by decide) ?_
        refine ww_iload_n C dX10_track_42 rfl 1 rfl ?_
        refine ww_iald C dX10_track_43 T_8 E (fun _ E => ?_)
        refine ww_iconst (v := 1) C dX10_track_44 (by decide) ?_
        refine ww_isub C dX10_track_45 ?_
        obtain ⟨u9, e_10, E⟩ := bind_of E
        refine ww_callI C (runs_S (n := 3) (st := []) C [.int a2, .int (0 : Int32), .int ((gi u6.2 (gr S a0 15) a1.toNatClampNeg) - (1 : Int32))] (M_X10_in l G ad N hG a2 (0 : Int32) ((gi u6.2 (gr S a0 15) a1.toNatClampNeg) - (1 : Int32)) u6.2 e_10) ⟨q1476, q118, by decide⟩ q1474 q1475 rfl (Nat.le_of_ble_eq_true rfl) ⟨Nat.le_of_ble_eq_true rfl, Nat.le_of_ble_eq_true rfl⟩ ⟨Nat.zero_le _, Nat.zero_le _⟩ dX10_track_46 rfl) ?_
        refine ww_if_ne (tgt := 54) C dX10_track_49 (by decide) E (fun _ E => ?_) (fun _ E => ?_)
        · refine ww_iload_n C dX10_track_54 rfl 2 rfl ?_
          refine ww_istore (lv' := [(5, .int a2), (0, .ref (ad a0)), (1, .int a1), (2, .int a2), (3, .int a3), (4, .int a4)]) C dX10_track_55 (by decide) rfl ?_
          refine ww_iload_n C dX10_track_57 rfl 2 rfl ?_
          refine ww_istore (lv' := [(6, .int a1), (5, .int a2), (0, .ref (ad a0)), (1, .int a1), (2, .int a2), (3, .int a3), (4, .int a4)]) C dX10_track_58 (by decide) rfl ?_
          refine ww_sub (lv' := [(0, .ref (ad a0)), (3, .int a3), (4, .int a4), (5, .int a2), (6, .int a1)]) [2, 5, 6, 1, 0] rfl ?_
          exact (B_X10_track_60 C HR HL hG N) a0 a3 a4 a2 a1 u9.2 T0 E
        · refine ww_iconst (v := (-1)) C dX10_track_52 (by decide) ?_
          exact ww_iret C HR HL dX10_track_53 E
section P_X10_two
variable {p : Program} {l : Launch} {e : Env} {s : State} {m : MethodId} {args : Array Value} {below : List Frame} {meth : Method} {c : Code} {G : GG} {A : Nat → Prop} {ad : Nat → Nat} {S : ST} {N : Nat} {r : Int32} {dy' : DY}
set_option maxHeartbeats 4000000 in
set_option maxRecDepth 100000 in
theorem B_X10_two_60 (C : CX p s m args c cX10_two 5 RX10 G A) (HR : meth.sig.returnType = (Option.some Jvm.ClassFile.FieldType.int)) (HL : meth.locks = false) (hG : Good S) : ∀ (x0 : Nat) (x1 : Int32) (x2 : Int32) (x3 : Int32) (x4 : Int32) (dy : DY), gs S x0 = (0, 10) → F_X10_two_60 S N x0 x1 x2 x3 x4 dy = some (r, dy') → WJ p l e (rmD (11)) s m args below meth c 5 G A 0 0 (MQ below (QI G ad A S r dy') args s 0 0 A) ad 60 [(0, .ref (ad x0)), (1, .int x1), (2, .int x2), (3, .int x3), (4, .int x4)] [] S dy := by
  intro x0 x1 x2 x3 x4 dy Tx0 E
  rw [F_X10_two_60_s] at E
  refine ww_aload_n C dX10_two_60 rfl 0 rfl ?_
  refine ww_iconst (v := 5) C dX10_two_61 (by decide) ?_
  refine ww_iload_n C dX10_two_62 rfl 1 rfl ?_
  refine ww_iload_n C dX10_two_63 rfl 2 rfl ?_
  refine ww_iconst (v := 0) C dX10_two_64 (by decide) ?_
  refine ww_bipush (v := 12) C dX10_two_65 (by decide) ?_
  refine ww_iconst (v := (-1)) C dX10_two_67 (by decide) ?_
  obtain ⟨u1, e_2, E⟩ := bind_of E
  refine ww_callV C (runs_V (n := 6) (st := []) C [.int (5 : Int32), .int x1, .int x2, .int (0 : Int32), .int (12 : Int32), .int (-1 : Int32)] (M_X10_lay l G ad N hG x0 (5 : Int32) x1 x2 (0 : Int32) (12 : Int32) (-1 : Int32) dy Tx0 e_2) ⟨q1641, q118, by decide⟩ q1638 q1640 q66 (ci := 10) rfl Tx0 rfl (Nat.le_of_ble_eq_true rfl) ⟨Nat.le_of_ble_eq_true rfl, Nat.le_of_ble_eq_true rfl⟩ ⟨Nat.zero_le _, Nat.zero_le _⟩ dX10_two_68 rfl) ?_
  refine ww_aload_n C dX10_two_71 rfl 0 rfl ?_
  refine ww_iload_n C dX10_two_72 rfl 3 rfl ?_
  obtain ⟨u3, e_4, E⟩ := bind_of E
  refine ww_callV C (runs_V (n := 1) (st := []) C [.int x3] (M_X10_findTwo l G ad N hG x0 x3 u1 Tx0 e_4) ⟨q1785, q118, by decide⟩ q1782 q1784 q93 (ci := 10) rfl Tx0 rfl (Nat.le_of_ble_eq_true rfl) ⟨Nat.le_of_ble_eq_true rfl, Nat.le_of_ble_eq_true rfl⟩ ⟨Nat.zero_le _, Nat.zero_le _⟩ dX10_two_73 rfl) ?_
  refine ww_iload C dX10_two_76 4 rfl ?_
  refine ww_if_ne (tgt := 88) C dX10_two_78 (by decide) E (fun _ E => ?_) (fun _ E => ?_)
  · refine ww_aload_n C dX10_two_88 rfl 0 rfl ?_
    have T_5 : gs S (gr S x0 54) = (1, 9) := hG.1 _ 10 Tx0 54 (by decide)
    refine ww_getr (ci := 10) (k0 := 54) C dX10_two_89 rfl rfl inm10 (by decide) Tx0 q1332 rfl T_5 (by decide) ?_
    refine ww_iload C dX10_two_92 4 rfl ?_
    refine ww_bipush (v := 10) C dX10_two_94 (by decide) ?_
    refine ww_isub C dX10_two_96 ?_
    refine ww_iald C dX10_two_97 T_5 E (fun _ E => ?_)
    exact ww_iret C HR HL dX10_two_98 E
  · refine ww_aload_n C dX10_two_81 rfl 0 rfl ?_
    refine ww_geti (ci := 10) (k0 := 53) C dX10_two_82 rfl rfl inm10 (by decide) Tx0 q1331 rfl ?_
    refine ww_goto (tgt := 98) C dX10_two_85 (by decide) ?_
    exact ww_iret C HR HL dX10_two_98 E
end P_X10_two
set_option maxHeartbeats 4000000 in
set_option maxRecDepth 100000 in
theorem M_X10_two (l : Launch) (G : GG) (ad : Nat → Nat) {S : ST} (N : Nat) (hG : Good S) (a0 : Nat) (a1 : Int32) (a2 : Int32) (a3 : Int32) (a4 : Int32) (dy : DY) (T0 : gs S a0 = (0, 10)) {r : Int32} {dy' : DY} (E : F_X10_two S N a0 a1 a2 a3 a4 dy = some (r, dy')) : MC l yX10_two cX10_two 5 (Option.some Jvm.ClassFile.FieldType.int) (11) G ad [.ref (ad a0), .int a1, .int a2, .int a3, .int a4] S dy (fun A => QI G ad A S r dy') := by
  rw [F_X10_two_s] at E
  refine mc_of RX10 (by decide) rfl (Nat.le_of_ble_eq_true rfl) (fun p e s m args below meth c A C HR HL => ?_)
  refine ww_sub (lv' := [(0, .ref (ad a0)), (1, .int a1), (2, .int a2), (3, .int a3), (4, .int a4)]) [0, 1, 2, 3, 4] rfl ?_
  refine ww_aload_n C dX10_two_0 rfl 0 rfl ?_
  refine ww_iconst (v := 0) C dX10_two_1 (by decide) ?_
  refine ww_puti (ci := 10) (k0 := 0) C dX10_two_2 rfl rfl inm10 tyX10_ok nmX10 (by decide) T0 q1278 rfl rfl rfl ?_
  refine ww_bd E (fun dy1 E => ?_)
  refine ww_aload_n C dX10_two_5 rfl 0 rfl ?_
  refine ww_iload_n C dX10_two_6 rfl 1 rfl ?_
  obtain ⟨u2, e_3, E⟩ := bind_of E
  refine ww_callI C (runs_V (n := 1) (st := []) C [.int a1] (M_X10_isPassage l G ad N hG a0 a1 dy1 T0 e_3) ⟨q1488, q118, by decide⟩ q1485 q1487 q41 (ci := 10) rfl T0 rfl (Nat.le_of_ble_eq_true rfl) ⟨Nat.le_of_ble_eq_true rfl, Nat.le_of_ble_eq_true rfl⟩ ⟨Nat.zero_le _, Nat.zero_le _⟩ dX10_two_7 rfl) ?_
  refine ww_if_eq (tgt := 58) C dX10_two_10 (by decide) E (fun _ E => ?_) (fun _ E => ?_)
  · refine ww_iconst (v := (-1)) C dX10_two_58 (by decide) ?_
    exact ww_iret C HR HL dX10_two_59 E
  · refine ww_aload_n C dX10_two_13 rfl 0 rfl ?_
    refine ww_iload_n C dX10_two_14 rfl 2 rfl ?_
    obtain ⟨u4, e_5, E⟩ := bind_of E
    refine ww_callI C (runs_V (n := 1) (st := []) C [.int a2] (M_X10_isLaw l G ad N hG a0 a2 u2.2 T0 e_5) ⟨q1587, q118, by decide⟩ q1584 q1586 q61 (ci := 10) rfl T0 rfl (Nat.le_of_ble_eq_true rfl) ⟨Nat.le_of_ble_eq_true rfl, Nat.le_of_ble_eq_true rfl⟩ ⟨Nat.zero_le _, Nat.zero_le _⟩ dX10_two_15 rfl) ?_
    refine ww_if_eq (tgt := 58) C dX10_two_18 (by decide) E (fun _ E => ?_) (fun _ E => ?_)
    · refine ww_iconst (v := (-1)) C dX10_two_58 (by decide) ?_
      exact ww_iret C HR HL dX10_two_59 E
    · refine ww_aload_n C dX10_two_21 rfl 0 rfl ?_
      have T_6 : gs S (gr S a0 8) = (1, 12) := hG.1 _ 10 T0 8 (by decide)
      refine ww_getr (ci := 10) (k0 := 8) C dX10_two_22 rfl rfl inm10 (by decide) T0 q1286 rfl T_6 (by decide) ?_
      refine ww_iload_n C dX10_two_25 rfl 1 rfl ?_
      refine ww_iald C dX10_two_26 T_6 E (fun _ E => ?_)
      refine ww_iconst (v := 2) C dX10_two_27 (by decide) ?_
      refine ww_icmp_ne (tgt := 58) C dX10_two_28 (by decide) E (fun _ E => ?_) (fun _ E => ?_)
      · refine ww_iconst (v := (-1)) C dX10_two_58 (by decide) ?_
        exact ww_iret C HR HL dX10_two_59 E
      · refine ww_iload_n C dX10_two_31 rfl 3 rfl ?_
        refine ww_iconst (v := 0) C dX10_two_32 (by decide) ?_
        refine ww_bipush (v := 8) C dX10_two_33 (by decide) ?_
        obtain ⟨u7, e_8, E⟩ := bind_of E
        refine ww_callI C (runs_S (n := 3) (st := []) C [.int a3, .int (0 : Int32), .int (8 : Int32)] (M_X10_in l G ad N hG a3 (0 : Int32) (8 : Int32) u4.2 e_8) ⟨q1476, q118, by decide⟩ q1474 q1475 rfl (Nat.le_of_ble_eq_true rfl) ⟨Nat.le_of_ble_eq_true rfl, Nat.le_of_ble_eq_true rfl⟩ ⟨Nat.zero_le _, Nat.zero_le _⟩ dX10_two_35 rfl) ?_
        refine ww_if_eq (tgt := 58) C dX10_two_38 (by decide) E (fun _ E => ?_) (fun _ E => ?_)
        · refine ww_iconst (v := (-1)) C dX10_two_58 (by decide) ?_
          exact ww_iret C HR HL dX10_two_59 E
        · refine ww_iload C dX10_two_41 4 rfl ?_
          refine ww_if_eq (tgt := 60) C dX10_two_43 (by decide) E (fun _ E => ?_) (fun _ E => ?_)
          · refine ww_sub (lv' := [(0, .ref (ad a0)), (1, .int a1), (2, .int a2), (3, .int a3), (4, .int a4)]) [0, 1, 2, 3, 4] rfl ?_
            exact (B_X10_two_60 C HR HL hG) a0 a1 a2 a3 a4 u7.2 T0 E
          · refine ww_iload C dX10_two_46 4 rfl ?_
            refine ww_bipush (v := 10) C dX10_two_48 (by decide) ?_
            refine ww_bipush (v := 18) C dX10_two_50 (by decide) ?_
            obtain ⟨u9, e_10, E⟩ := bind_of E
            refine ww_callI C (runs_S (n := 3) (st := []) C [.int a4, .int (10 : Int32), .int (18 : Int32)] (M_X10_in l G ad N hG a4 (10 : Int32) (18 : Int32) u7.2 e_10) ⟨q1476, q118, by decide⟩ q1474 q1475 rfl (Nat.le_of_ble_eq_true rfl) ⟨Nat.le_of_ble_eq_true rfl, Nat.le_of_ble_eq_true rfl⟩ ⟨Nat.zero_le _, Nat.zero_le _⟩ dX10_two_52 rfl) ?_
            refine ww_if_ne (tgt := 60) C dX10_two_55 (by decide) E (fun _ E => ?_) (fun _ E => ?_)
            · refine ww_sub (lv' := [(0, .ref (ad a0)), (1, .int a1), (2, .int a2), (3, .int a3), (4, .int a4)]) [0, 1, 2, 3, 4] rfl ?_
              exact (B_X10_two_60 C HR HL hG) a0 a1 a2 a3 a4 u9.2 T0 E
            · refine ww_iconst (v := (-1)) C dX10_two_58 (by decide) ?_
              exact ww_iret C HR HL dX10_two_59 E
section P_X10_walker
variable {p : Program} {l : Launch} {e : Env} {s : State} {m : MethodId} {args : Array Value} {below : List Frame} {meth : Method} {c : Code} {G : GG} {A : Nat → Prop} {ad : Nat → Nat} {S : ST} {N : Nat} {r : Int32} {dy' : DY}
end P_X10_walker
set_option maxHeartbeats 4000000 in
set_option maxRecDepth 100000 in
theorem M_X10_walker (l : Launch) (G : GG) (ad : Nat → Nat) {S : ST} (N : Nat) (hG : Good S) (a0 : Nat) (a1 : Int32) (a2 : Int32) (a3 : Int32) (dy : DY) (T0 : gs S a0 = (0, 10)) {r : Int32} {dy' : DY} (E : F_X10_walker S N a0 a1 a2 a3 dy = some (r, dy')) : MC l yX10_walker cX10_walker 4 (Option.some Jvm.ClassFile.FieldType.int) (3) G ad [.ref (ad a0), .int a1, .int a2, .int a3] S dy (fun A => QI G ad A S r dy') := by
  rw [F_X10_walker_s] at E
  refine mc_of RX10 (by decide) rfl (Nat.le_of_ble_eq_true rfl) (fun p e s m args below meth c A C HR HL => ?_)
  refine ww_sub (lv' := [(0, .ref (ad a0)), (1, .int a1), (2, .int a2), (3, .int a3)]) [0, 1, 2, 3] rfl ?_
  refine ww_aload_n C dX10_walker_0 rfl 0 rfl ?_
  refine ww_iconst (v := 0) C dX10_walker_1 (by decide) ?_
  refine ww_puti (ci := 10) (k0 := 0) C dX10_walker_2 rfl rfl inm10 tyX10_ok nmX10 (by decide) T0 q1278 rfl rfl rfl ?_
  refine ww_bd E (fun dy1 E => ?_)
  refine ww_aload_n C dX10_walker_5 rfl 0 rfl ?_
  refine ww_iload_n C dX10_walker_6 rfl 1 rfl ?_
  obtain ⟨u2, e_3, E⟩ := bind_of E
  refine ww_callI C (runs_V (n := 1) (st := []) C [.int a1] (M_X10_isPassage l G ad N hG a0 a1 dy1 T0 e_3) ⟨q1488, q118, by decide⟩ q1485 q1487 q41 (ci := 10) rfl T0 rfl (Nat.le_of_ble_eq_true rfl) ⟨Nat.le_of_ble_eq_true rfl, Nat.le_of_ble_eq_true rfl⟩ ⟨Nat.zero_le _, Nat.zero_le _⟩ dX10_walker_7 rfl) ?_
  refine ww_if_eq (tgt := 58) C dX10_walker_10 (by decide) E (fun _ E => ?_) (fun _ E => ?_)
  · refine ww_bipush (v := (-2)) C dX10_walker_58 (by decide) ?_
    exact ww_iret C HR HL dX10_walker_60 E
  · refine ww_iload_n C dX10_walker_13 rfl 2 rfl ?_
    refine ww_iconst (v := 0) C dX10_walker_14 (by decide) ?_
    refine ww_aload_n C dX10_walker_15 rfl 0 rfl ?_
    have T_4 : gs S (gr S a0 8) = (1, 12) := hG.1 _ 10 T0 8 (by decide)
    refine ww_getr (ci := 10) (k0 := 8) C dX10_walker_16 rfl rfl inm10 (by decide) T0 q1286 rfl T_4 (by decide) ?_
    refine ww_iload_n C dX10_walker_19 rfl 1 rfl ?_
    refine ww_iald C dX10_walker_20 T_4 E (fun _ E => ?_)
    refine ww_iconst (v := 1) C dX10_walker_21 (by decide) ?_
    refine ww_isub C dX10_walker_22 ?_
    obtain ⟨u5, e_6, E⟩ := bind_of E
    refine ww_callI C (runs_S (n := 3) (st := []) C [.int a2, .int (0 : Int32), .int ((gi u2.2 (gr S a0 8) a1.toNatClampNeg) - (1 : Int32))] (M_X10_in l G ad N hG a2 (0 : Int32) ((gi u2.2 (gr S a0 8) a1.toNatClampNeg) - (1 : Int32)) u2.2 e_6) ⟨q1476, q118, by decide⟩ q1474 q1475 rfl (Nat.le_of_ble_eq_true rfl) ⟨Nat.le_of_ble_eq_true rfl, Nat.le_of_ble_eq_true rfl⟩ ⟨Nat.zero_le _, Nat.zero_le _⟩ dX10_walker_23 rfl) ?_
    refine ww_if_eq (tgt := 58) C dX10_walker_26 (by decide) E (fun _ E => ?_) (fun _ E => ?_)
    · refine ww_bipush (v := (-2)) C dX10_walker_58 (by decide) ?_
      exact ww_iret C HR HL dX10_walker_60 E
    · refine ww_iload_n C dX10_walker_29 rfl 3 rfl ?_
      refine ww_iconst (v := 0) C dX10_walker_30 (by decide) ?_
      refine ww_bipush (v := 7) C dX10_walker_31 (by decide) ?_
      obtain ⟨u7, e_8, E⟩ := bind_of E
      refine ww_callI C (runs_S (n := 3) (st := []) C [.int a3, .int (0 : Int32), .int (7 : Int32)] (M_X10_in l G ad N hG a3 (0 : Int32) (7 : Int32) u5.2 e_8) ⟨q1476, q118, by decide⟩ q1474 q1475 rfl (Nat.le_of_ble_eq_true rfl) ⟨Nat.le_of_ble_eq_true rfl, Nat.le_of_ble_eq_true rfl⟩ ⟨Nat.zero_le _, Nat.zero_le _⟩ dX10_walker_33 rfl) ?_
      refine ww_if_eq (tgt := 58) C dX10_walker_36 (by decide) E (fun _ E => ?_) (fun _ E => ?_)
      · refine ww_bipush (v := (-2)) C dX10_walker_58 (by decide) ?_
        exact ww_iret C HR HL dX10_walker_60 E
      · refine ww_aload_n C dX10_walker_39 rfl 0 rfl ?_
        have T_9 : gs S (gr S a0 11) = (1, 1152) := hG.1 _ 10 T0 11 (by decide)
        refine ww_getr (ci := 10) (k0 := 11) C dX10_walker_40 rfl rfl inm10 (by decide) T0 q1289 rfl T_9 (by decide) ?_
        refine ww_bipush (v := 8) C dX10_walker_43 (by decide) ?_
        refine ww_bipush (v := 12) C dX10_walker_45 (by decide) ?_
        refine ww_iload_n C dX10_walker_47 rfl 1 rfl ?_
        refine ww_imul C dX10_walker_48 ?_
        refine ww_iload_n C dX10_walker_49 rfl 2 rfl ?_
        refine ww_iadd C dX10_walker_50 ?_
        refine ww_imul C dX10_walker_51 ?_
        refine ww_iload_n C dX10_walker_52 rfl 3 rfl ?_
        refine ww_iadd C dX10_walker_53 ?_
        refine ww_iald C dX10_walker_54 T_9 E (fun _ E => ?_)
        refine ww_goto (tgt := 60) C dX10_walker_55 (by decide) ?_
        exact ww_iret C HR HL dX10_walker_60 E
section P_X10_worth
variable {p : Program} {l : Launch} {e : Env} {s : State} {m : MethodId} {args : Array Value} {below : List Frame} {meth : Method} {c : Code} {G : GG} {A : Nat → Prop} {ad : Nat → Nat} {S : ST} {N : Nat} {r : Int32} {dy' : DY}
end P_X10_worth
set_option maxHeartbeats 4000000 in
set_option maxRecDepth 100000 in
theorem M_X10_worth (l : Launch) (G : GG) (ad : Nat → Nat) {S : ST} (N : Nat) (hG : Good S) (a0 : Nat) (a1 : Int32) (a2 : Int32) (dy : DY) (T0 : gs S a0 = (0, 10)) {r : Int32} {dy' : DY} (E : F_X10_worth S N a0 a1 a2 dy = some (r, dy')) : MC l yX10_worth cX10_worth 3 (Option.some Jvm.ClassFile.FieldType.int) (3) G ad [.ref (ad a0), .int a1, .int a2] S dy (fun A => QI G ad A S r dy') := by
  rw [F_X10_worth_s] at E
  refine mc_of RX10 (by decide) rfl (Nat.le_of_ble_eq_true rfl) (fun p e s m args below meth c A C HR HL => ?_)
  refine ww_sub (lv' := [(0, .ref (ad a0)), (1, .int a1), (2, .int a2)]) [0, 1, 2] rfl ?_
  refine ww_aload_n C dX10_worth_0 rfl 0 rfl ?_
  refine ww_iconst (v := 0) C dX10_worth_1 (by decide) ?_
  refine ww_puti (ci := 10) (k0 := 0) C dX10_worth_2 rfl rfl inm10 tyX10_ok nmX10 (by decide) T0 q1278 rfl rfl rfl ?_
  refine ww_bd E (fun dy1 E => ?_)
  refine ww_iload_n C dX10_worth_5 rfl 1 rfl ?_
  refine ww_iload_n C dX10_worth_6 rfl 2 rfl ?_
  obtain ⟨u2, e_3, E⟩ := bind_of E
  refine ww_callI C (runs_S (n := 2) (st := []) C [.int a1, .int a2] (M_X10_isMatch l G ad N hG a1 a2 dy1 e_3) ⟨q1877, q118, by decide⟩ q1875 q1876 rfl (Nat.le_of_ble_eq_true rfl) ⟨Nat.le_of_ble_eq_true rfl, Nat.le_of_ble_eq_true rfl⟩ ⟨Nat.zero_le _, Nat.zero_le _⟩ dX10_worth_7 rfl) ?_
  refine ww_if_ne (tgt := 15) C dX10_worth_10 (by decide) E (fun _ E => ?_) (fun _ E => ?_)
  · refine ww_aload_n C dX10_worth_15 rfl 0 rfl ?_
    refine ww_iload_n C dX10_worth_16 rfl 1 rfl ?_
    refine ww_iload_n C dX10_worth_17 rfl 2 rfl ?_
    obtain ⟨u4, e_5, E⟩ := bind_of E
    refine ww_callV C (runs_V (n := 2) (st := []) C [.int a1, .int a2] (M_X10_findMatch l G ad N hG a0 a1 a2 u2.2 T0 e_5) ⟨q1881, q118, by decide⟩ q1878 q1880 q104 (ci := 10) rfl T0 rfl (Nat.le_of_ble_eq_true rfl) ⟨Nat.le_of_ble_eq_true rfl, Nat.le_of_ble_eq_true rfl⟩ ⟨Nat.zero_le _, Nat.zero_le _⟩ dX10_worth_18 rfl) ?_
    refine ww_aload_n C dX10_worth_21 rfl 0 rfl ?_
    refine ww_geti (ci := 10) (k0 := 58) C dX10_worth_22 rfl rfl inm10 (by decide) T0 q1336 rfl ?_
    exact ww_iret C HR HL dX10_worth_25 E
  · refine ww_iconst (v := (-1)) C dX10_worth_13 (by decide) ?_
    exact ww_iret C HR HL dX10_worth_14 E
