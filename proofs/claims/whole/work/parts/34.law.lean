section LW
variable {p : Program} {l : Launch} {e : Env} {R : Room} {s : State} {m : MethodId} {args : Array Value} {below : List Frame} {meth : Method} {c : Code} {cells slots : Nat} {Q : State → Prop}
variable {cc : ByteArray} {nL : Nat} {own : String} {G : GG} {A : Nat → Prop} {ad : Nat → Nat} {pc : Nat} {lv lv' : List (Nat × Value)} {st : List Value} {S : ST} {dy dy' : DY} {b L : Nat} {xs : Nat → Int32}
theorem ww_sld (C : CX p s m args c cc nL own G A) (hX : va_X b L xs s s.heap) (hbl : b < s.heap.size) (hbA : ¬ A b) {i : Int32} {α : Type} {t1 : Option α} {res : α} (d : decode cc pc = .ok (.iaload, 1)) (E : (if ib i L then t1 else none) = some res) (k : ib i L → t1 = some res → WJ p l e R s m args below meth c nL G A cells slots Q ad (pc + 1) lv (.int (xs i.toNatClampNeg) :: st) S dy) : WJ p l e R s m args below meth c nL G A cells slots Q ad pc lv (.int i :: .ref b :: st) S dy := by
  intro H locs ls hP hD hS hl
  obtain ⟨q, E⟩ := gd_of E
  exact va_sld C.1 C.2.1 hX hbl hbA hS (ib_in q) d (k q E H locs ls hP hD hS hl)
theorem ww_slenS (C : CX p s m args c cc nL own G A) (hX : va_X b L xs s s.heap) (hbl : b < s.heap.size) (hbA : ¬ A b) (d : decode cc pc = .ok (.arraylength, 1)) (k : WJ p l e R s m args below meth c nL G A cells slots Q ad (pc + 1) lv (.int (Int32.ofNat L) :: st) S dy) : WJ p l e R s m args below meth c nL G A cells slots Q ad pc lv (.ref b :: st) S dy :=
  fun H locs ls hP hD hS hl => va_slen C.1 C.2.1 hX hbl hbA hS d (k H locs ls hP hD hS hl)
theorem ww_lawend (C : CX p s m #[Value.ref b] c code nL own G A) (hr : meth.sig.returnType = ret) (hlk : meth.locks = false) (hAe : ∀ q, A q → s.heap.size ≤ q) (hce : cells ≤ 600000) (hsl : slots ≤ 7302250) (d : decode code pc = .ok (.ireturn, 1)) : WJ p l e room_1 s m #[Value.ref b] below meth c nL G A cells slots (lw_Z below #[Value.ref b] s) ad pc lv [.int 1] S dy := by
  intro H locs ls hP hD hS hl
  refine va_forget (fun q hq => hAe _ (hS.2.2 q hq)) ?_
  refine W.widen (k := 600000) (n := 7302250) hce hsl ?_
  exact lw_ret C.1 C.2.1 hr hlk d
end LW
set_option maxRecDepth 100000 in
noncomputable def F_law_18 (S : ST) (N L : Nat) (xs : Nat → Int32) : Nat → Nat → Nat → Int32 → DY → Option DY := fun k => Nat.rec (motive := fun _ => Nat → Nat → Int32 → DY → Option DY) (fun _ _ _ _ => none) (fun _ ih x1 x2 x3 dy => (if ((Int32.ofNat L) - (7 : Int32)) < x3 then some dy else if ib x3 L then (if ((xs x3.toNatClampNeg) &&& (63 : Int32)) = (0 : Int32) then if ib (x3 + (1 : Int32)) L then if ib (x3 + (2 : Int32)) L then if ib (x3 + (3 : Int32)) L then if ib (x3 + (4 : Int32)) L then if ib (x3 + (5 : Int32)) L then (F_X9_feed S N x1 (xs (x3 + (1 : Int32)).toNatClampNeg) (xs (x3 + (2 : Int32)).toNatClampNeg) (xs (x3 + (3 : Int32)).toNatClampNeg) (xs (x3 + (4 : Int32)).toNatClampNeg) (xs (x3 + (5 : Int32)).toNatClampNeg) dy).bind fun u2 => if ib (x3 + (1 : Int32)) L then if ib (x3 + (2 : Int32)) L then if ib (x3 + (3 : Int32)) L then if ib (x3 + (4 : Int32)) L then if ib (x3 + (5 : Int32)) L then (F_X10_feed S N x2 (xs (x3 + (1 : Int32)).toNatClampNeg) (xs (x3 + (2 : Int32)).toNatClampNeg) (xs (x3 + (3 : Int32)).toNatClampNeg) (xs (x3 + (4 : Int32)).toNatClampNeg) (xs (x3 + (5 : Int32)).toNatClampNeg) u2.2).bind fun u4 => (if u2.1 = u4.1 then ih x1 x2 (x3 + (7 : Int32)) u4.2 else none) else none else none else none else none else none else none else none else none else none else none else if ((xs x3.toNatClampNeg) &&& (63 : Int32)) = (1 : Int32) then if ib (x3 + (1 : Int32)) L then (F_X9_end S N x1 (xs (x3 + (1 : Int32)).toNatClampNeg) dy).bind fun u7 => if ib (x3 + (1 : Int32)) L then (F_X10_end S N x2 (xs (x3 + (1 : Int32)).toNatClampNeg) u7.2).bind fun u9 => (if u7.1 = u9.1 then ih x1 x2 (x3 + (7 : Int32)) u9.2 else none) else none else none else if ((xs x3.toNatClampNeg) &&& (63 : Int32)) = (2 : Int32) then if ib (x3 + (1 : Int32)) L then (F_X9_passage S N x1 (xs (x3 + (1 : Int32)).toNatClampNeg) dy).bind fun u12 => if ib (x3 + (1 : Int32)) L then (F_X10_passage S N x2 (xs (x3 + (1 : Int32)).toNatClampNeg) u12.2).bind fun u14 => (if u12.1 = u14.1 then ih x1 x2 (x3 + (7 : Int32)) u14.2 else none) else none else none else if ((xs x3.toNatClampNeg) &&& (63 : Int32)) = (3 : Int32) then if ib (x3 + (1 : Int32)) L then (F_X9_law S N x1 (xs (x3 + (1 : Int32)).toNatClampNeg) dy).bind fun u17 => if ib (x3 + (1 : Int32)) L then (F_X10_law S N x2 (xs (x3 + (1 : Int32)).toNatClampNeg) u17.2).bind fun u19 => (if u17.1 = u19.1 then ih x1 x2 (x3 + (7 : Int32)) u19.2 else none) else none else none else if ((xs x3.toNatClampNeg) &&& (63 : Int32)) = (4 : Int32) then if ib (x3 + (1 : Int32)) L then (F_X9_fault S N x1 (xs (x3 + (1 : Int32)).toNatClampNeg) dy).bind fun u22 => if ib (x3 + (1 : Int32)) L then (F_X10_fault S N x2 (xs (x3 + (1 : Int32)).toNatClampNeg) u22.2).bind fun u24 => (if u22.1 = u24.1 then ih x1 x2 (x3 + (7 : Int32)) u24.2 else none) else none else none else if ((xs x3.toNatClampNeg) &&& (63 : Int32)) = (5 : Int32) then if ib (x3 + (1 : Int32)) L then if ib (x3 + (2 : Int32)) L then (F_X9_about S N x1 (xs (x3 + (1 : Int32)).toNatClampNeg) (xs (x3 + (2 : Int32)).toNatClampNeg) dy).bind fun u27 => if ib (x3 + (1 : Int32)) L then if ib (x3 + (2 : Int32)) L then (F_X10_about S N x2 (xs (x3 + (1 : Int32)).toNatClampNeg) (xs (x3 + (2 : Int32)).toNatClampNeg) u27.2).bind fun u29 => (if u27.1 = u29.1 then ih x1 x2 (x3 + (7 : Int32)) u29.2 else none) else none else none else none else none else if ((xs x3.toNatClampNeg) &&& (63 : Int32)) = (6 : Int32) then if ib (x3 + (1 : Int32)) L then if ib (x3 + (2 : Int32)) L then if ib (x3 + (3 : Int32)) L then (F_X9_walker S N x1 (xs (x3 + (1 : Int32)).toNatClampNeg) (xs (x3 + (2 : Int32)).toNatClampNeg) (xs (x3 + (3 : Int32)).toNatClampNeg) dy).bind fun u32 => if ib (x3 + (1 : Int32)) L then if ib (x3 + (2 : Int32)) L then if ib (x3 + (3 : Int32)) L then (F_X10_walker S N x2 (xs (x3 + (1 : Int32)).toNatClampNeg) (xs (x3 + (2 : Int32)).toNatClampNeg) (xs (x3 + (3 : Int32)).toNatClampNeg) u32.2).bind fun u34 => (if u32.1 = u34.1 then ih x1 x2 (x3 + (7 : Int32)) u34.2 else none) else none else none else none else none else none else none else if ((xs x3.toNatClampNeg) &&& (63 : Int32)) = (7 : Int32) then if ib (x3 + (1 : Int32)) L then (F_X9_rules S N x1 (xs (x3 + (1 : Int32)).toNatClampNeg) dy).bind fun u37 => if ib (x3 + (1 : Int32)) L then (F_X10_rules S N x2 (xs (x3 + (1 : Int32)).toNatClampNeg) u37.2).bind fun u39 => (if u37.1 = u39.1 then ih x1 x2 (x3 + (7 : Int32)) u39.2 else none) else none else none else if ((xs x3.toNatClampNeg) &&& (63 : Int32)) = (8 : Int32) then if ib (x3 + (1 : Int32)) L then if ib (x3 + (2 : Int32)) L then if ib (x3 + (3 : Int32)) L then (F_X9_run S N x1 (xs (x3 + (1 : Int32)).toNatClampNeg) (xs (x3 + (2 : Int32)).toNatClampNeg) (xs (x3 + (3 : Int32)).toNatClampNeg) dy).bind fun u42 => if ib (x3 + (1 : Int32)) L then if ib (x3 + (2 : Int32)) L then if ib (x3 + (3 : Int32)) L then (F_X10_run S N x2 (xs (x3 + (1 : Int32)).toNatClampNeg) (xs (x3 + (2 : Int32)).toNatClampNeg) (xs (x3 + (3 : Int32)).toNatClampNeg) u42.2).bind fun u44 => (if u42.1 = u44.1 then ih x1 x2 (x3 + (7 : Int32)) u44.2 else none) else none else none else none else none else none else none else if ((xs x3.toNatClampNeg) &&& (63 : Int32)) = (9 : Int32) then if ib (x3 + (1 : Int32)) L then (F_X9_go S N x1 (xs (x3 + (1 : Int32)).toNatClampNeg) dy).bind fun u47 => if ib (x3 + (1 : Int32)) L then (F_X10_go S N x2 (xs (x3 + (1 : Int32)).toNatClampNeg) u47.2).bind fun u49 => (if u47.1 = u49.1 then ih x1 x2 (x3 + (7 : Int32)) u49.2 else none) else none else none else if ((xs x3.toNatClampNeg) &&& (63 : Int32)) = (10 : Int32) then if ib (x3 + (1 : Int32)) L then if ib (x3 + (2 : Int32)) L then (F_X9_ran S N x1 (xs (x3 + (1 : Int32)).toNatClampNeg) (xs (x3 + (2 : Int32)).toNatClampNeg) dy).bind fun u52 => if ib (x3 + (1 : Int32)) L then if ib (x3 + (2 : Int32)) L then (F_X10_ran S N x2 (xs (x3 + (1 : Int32)).toNatClampNeg) (xs (x3 + (2 : Int32)).toNatClampNeg) u52.2).bind fun u54 => (if u52.1 = u54.1 then ih x1 x2 (x3 + (7 : Int32)) u54.2 else none) else none else none else none else none else if ((xs x3.toNatClampNeg) &&& (63 : Int32)) = (11 : Int32) then if ib (x3 + (1 : Int32)) L then if ib (x3 + (2 : Int32)) L then (F_X9_finds S N x1 (xs (x3 + (1 : Int32)).toNatClampNeg) (xs (x3 + (2 : Int32)).toNatClampNeg) dy).bind fun u57 => if ib (x3 + (1 : Int32)) L then if ib (x3 + (2 : Int32)) L then (F_X10_finds S N x2 (xs (x3 + (1 : Int32)).toNatClampNeg) (xs (x3 + (2 : Int32)).toNatClampNeg) u57.2).bind fun u59 => (if u57.1 = u59.1 then ih x1 x2 (x3 + (7 : Int32)) u59.2 else none) else none else none else none else none else if ((xs x3.toNatClampNeg) &&& (63 : Int32)) = (12 : Int32) then if ib (x3 + (1 : Int32)) L then (F_X9_does S N x1 (xs (x3 + (1 : Int32)).toNatClampNeg) dy).bind fun u62 => if ib (x3 + (1 : Int32)) L then (F_X10_does S N x2 (xs (x3 + (1 : Int32)).toNatClampNeg) u62.2).bind fun u64 => (if u62.1 = u64.1 then ih x1 x2 (x3 + (7 : Int32)) u64.2 else none) else none else none else if ((xs x3.toNatClampNeg) &&& (63 : Int32)) = (13 : Int32) then if ib (x3 + (1 : Int32)) L then if ib (x3 + (2 : Int32)) L then (F_X9_on S N x1 (xs (x3 + (1 : Int32)).toNatClampNeg) (xs (x3 + (2 : Int32)).toNatClampNeg) dy).bind fun u67 => if ib (x3 + (1 : Int32)) L then if ib (x3 + (2 : Int32)) L then (F_X10_on S N x2 (xs (x3 + (1 : Int32)).toNatClampNeg) (xs (x3 + (2 : Int32)).toNatClampNeg) u67.2).bind fun u69 => (if u67.1 = u69.1 then ih x1 x2 (x3 + (7 : Int32)) u69.2 else none) else none else none else none else none else if ((xs x3.toNatClampNeg) &&& (63 : Int32)) = (14 : Int32) then if ib (x3 + (1 : Int32)) L then (F_X9_state S N x1 (xs (x3 + (1 : Int32)).toNatClampNeg) dy).bind fun u72 => if ib (x3 + (1 : Int32)) L then (F_X10_state S N x2 (xs (x3 + (1 : Int32)).toNatClampNeg) u72.2).bind fun u74 => (if u72.1 = u74.1 then ih x1 x2 (x3 + (7 : Int32)) u74.2 else none) else none else none else if ((xs x3.toNatClampNeg) &&& (63 : Int32)) = (15 : Int32) then if ib (x3 + (1 : Int32)) L then if ib (x3 + (2 : Int32)) L then (F_X9_door S N x1 (xs (x3 + (1 : Int32)).toNatClampNeg) (xs (x3 + (2 : Int32)).toNatClampNeg) dy).bind fun u77 => if ib (x3 + (1 : Int32)) L then if ib (x3 + (2 : Int32)) L then (F_X10_door S N x2 (xs (x3 + (1 : Int32)).toNatClampNeg) (xs (x3 + (2 : Int32)).toNatClampNeg) u77.2).bind fun u79 => (if u77.1 = u79.1 then ih x1 x2 (x3 + (7 : Int32)) u79.2 else none) else none else none else none else none else if ((xs x3.toNatClampNeg) &&& (63 : Int32)) = (16 : Int32) then if ib (x3 + (1 : Int32)) L then if ib (x3 + (2 : Int32)) L then if ib (x3 + (3 : Int32)) L then if ib (x3 + (4 : Int32)) L then (F_X9_two S N x1 (xs (x3 + (1 : Int32)).toNatClampNeg) (xs (x3 + (2 : Int32)).toNatClampNeg) (xs (x3 + (3 : Int32)).toNatClampNeg) (xs (x3 + (4 : Int32)).toNatClampNeg) dy).bind fun u82 => if ib (x3 + (1 : Int32)) L then if ib (x3 + (2 : Int32)) L then if ib (x3 + (3 : Int32)) L then if ib (x3 + (4 : Int32)) L then (F_X10_two S N x2 (xs (x3 + (1 : Int32)).toNatClampNeg) (xs (x3 + (2 : Int32)).toNatClampNeg) (xs (x3 + (3 : Int32)).toNatClampNeg) (xs (x3 + (4 : Int32)).toNatClampNeg) u82.2).bind fun u84 => (if u82.1 = u84.1 then ih x1 x2 (x3 + (7 : Int32)) u84.2 else none) else none else none else none else none else none else none else none else none else if ((xs x3.toNatClampNeg) &&& (63 : Int32)) = (17 : Int32) then if ib (x3 + (1 : Int32)) L then if ib (x3 + (2 : Int32)) L then if ib (x3 + (3 : Int32)) L then if ib (x3 + (4 : Int32)) L then (F_X9_fullest S N x1 (xs (x3 + (1 : Int32)).toNatClampNeg) (xs (x3 + (2 : Int32)).toNatClampNeg) (xs (x3 + (3 : Int32)).toNatClampNeg) (xs (x3 + (4 : Int32)).toNatClampNeg) dy).bind fun u87 => if ib (x3 + (1 : Int32)) L then if ib (x3 + (2 : Int32)) L then if ib (x3 + (3 : Int32)) L then if ib (x3 + (4 : Int32)) L then (F_X10_fullest S N x2 (xs (x3 + (1 : Int32)).toNatClampNeg) (xs (x3 + (2 : Int32)).toNatClampNeg) (xs (x3 + (3 : Int32)).toNatClampNeg) (xs (x3 + (4 : Int32)).toNatClampNeg) u87.2).bind fun u89 => (if u87.1 = u89.1 then ih x1 x2 (x3 + (7 : Int32)) u89.2 else none) else none else none else none else none else none else none else none else none else if ((xs x3.toNatClampNeg) &&& (63 : Int32)) = (18 : Int32) then if ib (x3 + (1 : Int32)) L then if ib (x3 + (2 : Int32)) L then if ib (x3 + (3 : Int32)) L then if ib (x3 + (4 : Int32)) L then (F_X9_pillar S N x1 (xs (x3 + (1 : Int32)).toNatClampNeg) (xs (x3 + (2 : Int32)).toNatClampNeg) (xs (x3 + (3 : Int32)).toNatClampNeg) (xs (x3 + (4 : Int32)).toNatClampNeg) dy).bind fun u92 => if ib (x3 + (1 : Int32)) L then if ib (x3 + (2 : Int32)) L then if ib (x3 + (3 : Int32)) L then if ib (x3 + (4 : Int32)) L then (F_X10_pillar S N x2 (xs (x3 + (1 : Int32)).toNatClampNeg) (xs (x3 + (2 : Int32)).toNatClampNeg) (xs (x3 + (3 : Int32)).toNatClampNeg) (xs (x3 + (4 : Int32)).toNatClampNeg) u92.2).bind fun u94 => (if u92.1 = u94.1 then ih x1 x2 (x3 + (7 : Int32)) u94.2 else none) else none else none else none else none else none else none else none else none else if ((xs x3.toNatClampNeg) &&& (63 : Int32)) = (19 : Int32) then if ib (x3 + (1 : Int32)) L then if ib (x3 + (2 : Int32)) L then if ib (x3 + (3 : Int32)) L then if ib (x3 + (4 : Int32)) L then if ib (x3 + (5 : Int32)) L then (F_X9_cost S N x1 (xs (x3 + (1 : Int32)).toNatClampNeg) (xs (x3 + (2 : Int32)).toNatClampNeg) (xs (x3 + (3 : Int32)).toNatClampNeg) (xs (x3 + (4 : Int32)).toNatClampNeg) (xs (x3 + (5 : Int32)).toNatClampNeg) dy).bind fun u97 => if ib (x3 + (1 : Int32)) L then if ib (x3 + (2 : Int32)) L then if ib (x3 + (3 : Int32)) L then if ib (x3 + (4 : Int32)) L then if ib (x3 + (5 : Int32)) L then (F_X10_cost S N x2 (xs (x3 + (1 : Int32)).toNatClampNeg) (xs (x3 + (2 : Int32)).toNatClampNeg) (xs (x3 + (3 : Int32)).toNatClampNeg) (xs (x3 + (4 : Int32)).toNatClampNeg) (xs (x3 + (5 : Int32)).toNatClampNeg) u97.2).bind fun u99 => (if u97.1 = u99.1 then ih x1 x2 (x3 + (7 : Int32)) u99.2 else none) else none else none else none else none else none else none else none else none else none else none else if ((xs x3.toNatClampNeg) &&& (63 : Int32)) = (20 : Int32) then if ib (x3 + (1 : Int32)) L then if ib (x3 + (2 : Int32)) L then if ib (x3 + (3 : Int32)) L then (F_X9_better S N x1 (xs (x3 + (1 : Int32)).toNatClampNeg) (xs (x3 + (2 : Int32)).toNatClampNeg) (xs (x3 + (3 : Int32)).toNatClampNeg) dy).bind fun u102 => if ib (x3 + (1 : Int32)) L then if ib (x3 + (2 : Int32)) L then if ib (x3 + (3 : Int32)) L then (F_X10_better S N x2 (xs (x3 + (1 : Int32)).toNatClampNeg) (xs (x3 + (2 : Int32)).toNatClampNeg) (xs (x3 + (3 : Int32)).toNatClampNeg) u102.2).bind fun u104 => (if u102.1 = u104.1 then ih x1 x2 (x3 + (7 : Int32)) u104.2 else none) else none else none else none else none else none else none else if ((xs x3.toNatClampNeg) &&& (63 : Int32)) = (21 : Int32) then if ib (x3 + (1 : Int32)) L then if ib (x3 + (2 : Int32)) L then if ib (x3 + (3 : Int32)) L then if ib (x3 + (4 : Int32)) L then (F_X9_flow S N x1 (xs (x3 + (1 : Int32)).toNatClampNeg) (xs (x3 + (2 : Int32)).toNatClampNeg) (xs (x3 + (3 : Int32)).toNatClampNeg) (xs (x3 + (4 : Int32)).toNatClampNeg) dy).bind fun u107 => if ib (x3 + (1 : Int32)) L then if ib (x3 + (2 : Int32)) L then if ib (x3 + (3 : Int32)) L then if ib (x3 + (4 : Int32)) L then (F_X10_flow S N x2 (xs (x3 + (1 : Int32)).toNatClampNeg) (xs (x3 + (2 : Int32)).toNatClampNeg) (xs (x3 + (3 : Int32)).toNatClampNeg) (xs (x3 + (4 : Int32)).toNatClampNeg) u107.2).bind fun u109 => (if u107.1 = u109.1 then ih x1 x2 (x3 + (7 : Int32)) u109.2 else none) else none else none else none else none else none else none else none else none else if ((xs x3.toNatClampNeg) &&& (63 : Int32)) = (22 : Int32) then if ib (x3 + (1 : Int32)) L then if ib (x3 + (2 : Int32)) L then if ib (x3 + (3 : Int32)) L then if ib (x3 + (4 : Int32)) L then if ib (x3 + (5 : Int32)) L then if ib (x3 + (6 : Int32)) L then (F_X9_touch S N x1 (xs (x3 + (1 : Int32)).toNatClampNeg) (xs (x3 + (2 : Int32)).toNatClampNeg) (xs (x3 + (3 : Int32)).toNatClampNeg) (xs (x3 + (4 : Int32)).toNatClampNeg) (xs (x3 + (5 : Int32)).toNatClampNeg) (xs (x3 + (6 : Int32)).toNatClampNeg) dy).bind fun u112 => if ib (x3 + (1 : Int32)) L then if ib (x3 + (2 : Int32)) L then if ib (x3 + (3 : Int32)) L then if ib (x3 + (4 : Int32)) L then if ib (x3 + (5 : Int32)) L then if ib (x3 + (6 : Int32)) L then (F_X10_touch S N x2 (xs (x3 + (1 : Int32)).toNatClampNeg) (xs (x3 + (2 : Int32)).toNatClampNeg) (xs (x3 + (3 : Int32)).toNatClampNeg) (xs (x3 + (4 : Int32)).toNatClampNeg) (xs (x3 + (5 : Int32)).toNatClampNeg) (xs (x3 + (6 : Int32)).toNatClampNeg) u112.2).bind fun u114 => (if u112.1 = u114.1 then ih x1 x2 (x3 + (7 : Int32)) u114.2 else none) else none else none else none else none else none else none else none else none else none else none else none else none else if ((xs x3.toNatClampNeg) &&& (63 : Int32)) = (23 : Int32) then if ib (x3 + (1 : Int32)) L then if ib (x3 + (2 : Int32)) L then if ib (x3 + (3 : Int32)) L then if ib (x3 + (4 : Int32)) L then if ib (x3 + (5 : Int32)) L then (F_X9_slack S N x1 (xs (x3 + (1 : Int32)).toNatClampNeg) (xs (x3 + (2 : Int32)).toNatClampNeg) (xs (x3 + (3 : Int32)).toNatClampNeg) (xs (x3 + (4 : Int32)).toNatClampNeg) (xs (x3 + (5 : Int32)).toNatClampNeg) dy).bind fun u117 => if ib (x3 + (1 : Int32)) L then if ib (x3 + (2 : Int32)) L then if ib (x3 + (3 : Int32)) L then if ib (x3 + (4 : Int32)) L then if ib (x3 + (5 : Int32)) L then (F_X10_slack S N x2 (xs (x3 + (1 : Int32)).toNatClampNeg) (xs (x3 + (2 : Int32)).toNatClampNeg) (xs (x3 + (3 : Int32)).toNatClampNeg) (xs (x3 + (4 : Int32)).toNatClampNeg) (xs (x3 + (5 : Int32)).toNatClampNeg) u117.2).bind fun u119 => (if u117.1 = u119.1 then ih x1 x2 (x3 + (7 : Int32)) u119.2 else none) else none else none else none else none else none else none else none else none else none else none else if ((xs x3.toNatClampNeg) &&& (63 : Int32)) = (24 : Int32) then if ib (x3 + (1 : Int32)) L then if ib (x3 + (2 : Int32)) L then if ib (x3 + (3 : Int32)) L then if ib (x3 + (4 : Int32)) L then (F_X9_opened S N x1 (xs (x3 + (1 : Int32)).toNatClampNeg) (xs (x3 + (2 : Int32)).toNatClampNeg) (xs (x3 + (3 : Int32)).toNatClampNeg) (xs (x3 + (4 : Int32)).toNatClampNeg) dy).bind fun u122 => if ib (x3 + (1 : Int32)) L then if ib (x3 + (2 : Int32)) L then if ib (x3 + (3 : Int32)) L then if ib (x3 + (4 : Int32)) L then (F_X10_opened S N x2 (xs (x3 + (1 : Int32)).toNatClampNeg) (xs (x3 + (2 : Int32)).toNatClampNeg) (xs (x3 + (3 : Int32)).toNatClampNeg) (xs (x3 + (4 : Int32)).toNatClampNeg) u122.2).bind fun u124 => (if u122.1 = u124.1 then ih x1 x2 (x3 + (7 : Int32)) u124.2 else none) else none else none else none else none else none else none else none else none else if ((xs x3.toNatClampNeg) &&& (63 : Int32)) = (25 : Int32) then if ib (x3 + (1 : Int32)) L then if ib (x3 + (2 : Int32)) L then if ib (x3 + (3 : Int32)) L then (F_X9_fits S N x1 (xs (x3 + (1 : Int32)).toNatClampNeg) (xs (x3 + (2 : Int32)).toNatClampNeg) (xs (x3 + (3 : Int32)).toNatClampNeg) dy).bind fun u127 => if ib (x3 + (1 : Int32)) L then if ib (x3 + (2 : Int32)) L then if ib (x3 + (3 : Int32)) L then (F_X10_fits S N x2 (xs (x3 + (1 : Int32)).toNatClampNeg) (xs (x3 + (2 : Int32)).toNatClampNeg) (xs (x3 + (3 : Int32)).toNatClampNeg) u127.2).bind fun u129 => (if u127.1 = u129.1 then ih x1 x2 (x3 + (7 : Int32)) u129.2 else none) else none else none else none else none else none else none else if ((xs x3.toNatClampNeg) &&& (63 : Int32)) = (26 : Int32) then if ib (x3 + (1 : Int32)) L then if ib (x3 + (2 : Int32)) L then if ib (x3 + (3 : Int32)) L then (F_X9_hat S N x1 (xs (x3 + (1 : Int32)).toNatClampNeg) (xs (x3 + (2 : Int32)).toNatClampNeg) (xs (x3 + (3 : Int32)).toNatClampNeg) dy).bind fun u132 => if ib (x3 + (1 : Int32)) L then if ib (x3 + (2 : Int32)) L then if ib (x3 + (3 : Int32)) L then (F_X10_hat S N x2 (xs (x3 + (1 : Int32)).toNatClampNeg) (xs (x3 + (2 : Int32)).toNatClampNeg) (xs (x3 + (3 : Int32)).toNatClampNeg) u132.2).bind fun u134 => (if u132.1 = u134.1 then ih x1 x2 (x3 + (7 : Int32)) u134.2 else none) else none else none else none else none else none else none else if ((xs x3.toNatClampNeg) &&& (63 : Int32)) = (27 : Int32) then (F_X9_dark S N x1 dy).bind fun u137 => (F_X10_dark S N x2 u137.2).bind fun u139 => (if u137.1 = u139.1 then ih x1 x2 (x3 + (7 : Int32)) u139.2 else none) else if ((xs x3.toNatClampNeg) &&& (63 : Int32)) = (28 : Int32) then if ib (x3 + (1 : Int32)) L then if ib (x3 + (2 : Int32)) L then if ib (x3 + (3 : Int32)) L then (F_X9_match S N x1 (xs (x3 + (1 : Int32)).toNatClampNeg) (xs (x3 + (2 : Int32)).toNatClampNeg) (xs (x3 + (3 : Int32)).toNatClampNeg) dy).bind fun u142 => if ib (x3 + (1 : Int32)) L then if ib (x3 + (2 : Int32)) L then if ib (x3 + (3 : Int32)) L then (F_X10_match S N x2 (xs (x3 + (1 : Int32)).toNatClampNeg) (xs (x3 + (2 : Int32)).toNatClampNeg) (xs (x3 + (3 : Int32)).toNatClampNeg) u142.2).bind fun u144 => (if u142.1 = u144.1 then ih x1 x2 (x3 + (7 : Int32)) u144.2 else none) else none else none else none else none else none else none else if ((xs x3.toNatClampNeg) &&& (63 : Int32)) = (29 : Int32) then if ib (x3 + (1 : Int32)) L then if ib (x3 + (2 : Int32)) L then (F_X9_worth S N x1 (xs (x3 + (1 : Int32)).toNatClampNeg) (xs (x3 + (2 : Int32)).toNatClampNeg) dy).bind fun u147 => if ib (x3 + (1 : Int32)) L then if ib (x3 + (2 : Int32)) L then (F_X10_worth S N x2 (xs (x3 + (1 : Int32)).toNatClampNeg) (xs (x3 + (2 : Int32)).toNatClampNeg) u147.2).bind fun u149 => (if u147.1 = u149.1 then ih x1 x2 (x3 + (7 : Int32)) u149.2 else none) else none else none else none else none else if ((xs x3.toNatClampNeg) &&& (63 : Int32)) = (30 : Int32) then if ib (x3 + (1 : Int32)) L then if ib (x3 + (2 : Int32)) L then if ib (x3 + (3 : Int32)) L then if ib (x3 + (4 : Int32)) L then (F_X9_track S N x1 (xs (x3 + (1 : Int32)).toNatClampNeg) (xs (x3 + (2 : Int32)).toNatClampNeg) (xs (x3 + (3 : Int32)).toNatClampNeg) (xs (x3 + (4 : Int32)).toNatClampNeg) dy).bind fun u152 => if ib (x3 + (1 : Int32)) L then if ib (x3 + (2 : Int32)) L then if ib (x3 + (3 : Int32)) L then if ib (x3 + (4 : Int32)) L then (F_X10_track S N x2 (xs (x3 + (1 : Int32)).toNatClampNeg) (xs (x3 + (2 : Int32)).toNatClampNeg) (xs (x3 + (3 : Int32)).toNatClampNeg) (xs (x3 + (4 : Int32)).toNatClampNeg) u152.2).bind fun u154 => (if u152.1 = u154.1 then ih x1 x2 (x3 + (7 : Int32)) u154.2 else none) else none else none else none else none else none else none else none else none else if ((xs x3.toNatClampNeg) &&& (63 : Int32)) = (31 : Int32) then if ib (x3 + (1 : Int32)) L then if ib (x3 + (2 : Int32)) L then if ib (x3 + (3 : Int32)) L then if ib (x3 + (4 : Int32)) L then if ib (x3 + (5 : Int32)) L then if ib (x3 + (6 : Int32)) L then (F_X9_habit S N x1 (xs (x3 + (1 : Int32)).toNatClampNeg) (xs (x3 + (2 : Int32)).toNatClampNeg) (xs (x3 + (3 : Int32)).toNatClampNeg) (xs (x3 + (4 : Int32)).toNatClampNeg) (xs (x3 + (5 : Int32)).toNatClampNeg) (xs (x3 + (6 : Int32)).toNatClampNeg) dy).bind fun u157 => if ib (x3 + (1 : Int32)) L then if ib (x3 + (2 : Int32)) L then if ib (x3 + (3 : Int32)) L then if ib (x3 + (4 : Int32)) L then if ib (x3 + (5 : Int32)) L then if ib (x3 + (6 : Int32)) L then (F_X10_habit S N x2 (xs (x3 + (1 : Int32)).toNatClampNeg) (xs (x3 + (2 : Int32)).toNatClampNeg) (xs (x3 + (3 : Int32)).toNatClampNeg) (xs (x3 + (4 : Int32)).toNatClampNeg) (xs (x3 + (5 : Int32)).toNatClampNeg) (xs (x3 + (6 : Int32)).toNatClampNeg) u157.2).bind fun u159 => (if (lg_cmp u157.1 u159.1) = 0 then ih x1 x2 (x3 + (7 : Int32)) u159.2 else none) else none else none else none else none else none else none else none else none else none else none else none else none else if ((xs x3.toNatClampNeg) &&& (63 : Int32)) = (32 : Int32) then if ib (x3 + (1 : Int32)) L then (F_X9_count S N x1 (xs (x3 + (1 : Int32)).toNatClampNeg) dy).bind fun u162 => if ib (x3 + (1 : Int32)) L then (F_X10_count S N x2 (xs (x3 + (1 : Int32)).toNatClampNeg) u162.2).bind fun u164 => (if u162.1 = u164.1 then ih x1 x2 (x3 + (7 : Int32)) u164.2 else none) else none else none else if ((xs x3.toNatClampNeg) &&& (63 : Int32)) = (33 : Int32) then if ib (x3 + (1 : Int32)) L then (F_X9_image S N x1 (xs (x3 + (1 : Int32)).toNatClampNeg) dy).bind fun u167 => if ib (x3 + (1 : Int32)) L then (F_X10_image S N x2 (xs (x3 + (1 : Int32)).toNatClampNeg) u167.2).bind fun u169 => (if u167.1 = u169.1 then ih x1 x2 (x3 + (7 : Int32)) u169.2 else none) else none else none else if ((xs x3.toNatClampNeg) &&& (63 : Int32)) = (34 : Int32) then if ib (x3 + (1 : Int32)) L then (F_X9_again S N x1 (xs (x3 + (1 : Int32)).toNatClampNeg) dy).bind fun u172 => if ib (x3 + (1 : Int32)) L then (F_X10_again S N x2 (xs (x3 + (1 : Int32)).toNatClampNeg) u172.2).bind fun u174 => (if u172.1 = u174.1 then ih x1 x2 (x3 + (7 : Int32)) u174.2 else none) else none else none else ih x1 x2 (x3 + (7 : Int32)) dy) else none)) k
set_option maxRecDepth 100000 in
theorem F_law_18_s (S : ST) (N L : Nat) (xs : Nat → Int32) (k : Nat) (x1 x2 : Nat) (x3 : Int32) (dy : DY) : F_law_18 S N L xs (k + 1) x1 x2 x3 dy = (if ((Int32.ofNat L) - (7 : Int32)) < x3 then some dy else if ib x3 L then (if ((xs x3.toNatClampNeg) &&& (63 : Int32)) = (0 : Int32) then if ib (x3 + (1 : Int32)) L then if ib (x3 + (2 : Int32)) L then if ib (x3 + (3 : Int32)) L then if ib (x3 + (4 : Int32)) L then if ib (x3 + (5 : Int32)) L then (F_X9_feed S N x1 (xs (x3 + (1 : Int32)).toNatClampNeg) (xs (x3 + (2 : Int32)).toNatClampNeg) (xs (x3 + (3 : Int32)).toNatClampNeg) (xs (x3 + (4 : Int32)).toNatClampNeg) (xs (x3 + (5 : Int32)).toNatClampNeg) dy).bind fun u2 => if ib (x3 + (1 : Int32)) L then if ib (x3 + (2 : Int32)) L then if ib (x3 + (3 : Int32)) L then if ib (x3 + (4 : Int32)) L then if ib (x3 + (5 : Int32)) L then (F_X10_feed S N x2 (xs (x3 + (1 : Int32)).toNatClampNeg) (xs (x3 + (2 : Int32)).toNatClampNeg) (xs (x3 + (3 : Int32)).toNatClampNeg) (xs (x3 + (4 : Int32)).toNatClampNeg) (xs (x3 + (5 : Int32)).toNatClampNeg) u2.2).bind fun u4 => (if u2.1 = u4.1 then (F_law_18 S N L xs k) x1 x2 (x3 + (7 : Int32)) u4.2 else none) else none else none else none else none else none else none else none else none else none else none else if ((xs x3.toNatClampNeg) &&& (63 : Int32)) = (1 : Int32) then if ib (x3 + (1 : Int32)) L then (F_X9_end S N x1 (xs (x3 + (1 : Int32)).toNatClampNeg) dy).bind fun u7 => if ib (x3 + (1 : Int32)) L then (F_X10_end S N x2 (xs (x3 + (1 : Int32)).toNatClampNeg) u7.2).bind fun u9 => (if u7.1 = u9.1 then (F_law_18 S N L xs k) x1 x2 (x3 + (7 : Int32)) u9.2 else none) else none else none else if ((xs x3.toNatClampNeg) &&& (63 : Int32)) = (2 : Int32) then if ib (x3 + (1 : Int32)) L then (F_X9_passage S N x1 (xs (x3 + (1 : Int32)).toNatClampNeg) dy).bind fun u12 => if ib (x3 + (1 : Int32)) L then (F_X10_passage S N x2 (xs (x3 + (1 : Int32)).toNatClampNeg) u12.2).bind fun u14 => (if u12.1 = u14.1 then (F_law_18 S N L xs k) x1 x2 (x3 + (7 : Int32)) u14.2 else none) else none else none else if ((xs x3.toNatClampNeg) &&& (63 : Int32)) = (3 : Int32) then if ib (x3 + (1 : Int32)) L then (F_X9_law S N x1 (xs (x3 + (1 : Int32)).toNatClampNeg) dy).bind fun u17 => if ib (x3 + (1 : Int32)) L then (F_X10_law S N x2 (xs (x3 + (1 : Int32)).toNatClampNeg) u17.2).bind fun u19 => (if u17.1 = u19.1 then (F_law_18 S N L xs k) x1 x2 (x3 + (7 : Int32)) u19.2 else none) else none else none else if ((xs x3.toNatClampNeg) &&& (63 : Int32)) = (4 : Int32) then if ib (x3 + (1 : Int32)) L then (F_X9_fault S N x1 (xs (x3 + (1 : Int32)).toNatClampNeg) dy).bind fun u22 => if ib (x3 + (1 : Int32)) L then (F_X10_fault S N x2 (xs (x3 + (1 : Int32)).toNatClampNeg) u22.2).bind fun u24 => (if u22.1 = u24.1 then (F_law_18 S N L xs k) x1 x2 (x3 + (7 : Int32)) u24.2 else none) else none else none else if ((xs x3.toNatClampNeg) &&& (63 : Int32)) = (5 : Int32) then if ib (x3 + (1 : Int32)) L then if ib (x3 + (2 : Int32)) L then (F_X9_about S N x1 (xs (x3 + (1 : Int32)).toNatClampNeg) (xs (x3 + (2 : Int32)).toNatClampNeg) dy).bind fun u27 => if ib (x3 + (1 : Int32)) L then if ib (x3 + (2 : Int32)) L then (F_X10_about S N x2 (xs (x3 + (1 : Int32)).toNatClampNeg) (xs (x3 + (2 : Int32)).toNatClampNeg) u27.2).bind fun u29 => (if u27.1 = u29.1 then (F_law_18 S N L xs k) x1 x2 (x3 + (7 : Int32)) u29.2 else none) else none else none else none else none else if ((xs x3.toNatClampNeg) &&& (63 : Int32)) = (6 : Int32) then if ib (x3 + (1 : Int32)) L then if ib (x3 + (2 : Int32)) L then if ib (x3 + (3 : Int32)) L then (F_X9_walker S N x1 (xs (x3 + (1 : Int32)).toNatClampNeg) (xs (x3 + (2 : Int32)).toNatClampNeg) (xs (x3 + (3 : Int32)).toNatClampNeg) dy).bind fun u32 => if ib (x3 + (1 : Int32)) L then if ib (x3 + (2 : Int32)) L then if ib (x3 + (3 : Int32)) L then (F_X10_walker S N x2 (xs (x3 + (1 : Int32)).toNatClampNeg) (xs (x3 + (2 : Int32)).toNatClampNeg) (xs (x3 + (3 : Int32)).toNatClampNeg) u32.2).bind fun u34 => (if u32.1 = u34.1 then (F_law_18 S N L xs k) x1 x2 (x3 + (7 : Int32)) u34.2 else none) else none else none else none else none else none else none else if ((xs x3.toNatClampNeg) &&& (63 : Int32)) = (7 : Int32) then if ib (x3 + (1 : Int32)) L then (F_X9_rules S N x1 (xs (x3 + (1 : Int32)).toNatClampNeg) dy).bind fun u37 => if ib (x3 + (1 : Int32)) L then (F_X10_rules S N x2 (xs (x3 + (1 : Int32)).toNatClampNeg) u37.2).bind fun u39 => (if u37.1 = u39.1 then (F_law_18 S N L xs k) x1 x2 (x3 + (7 : Int32)) u39.2 else none) else none else none else if ((xs x3.toNatClampNeg) &&& (63 : Int32)) = (8 : Int32) then if ib (x3 + (1 : Int32)) L then if ib (x3 + (2 : Int32)) L then if ib (x3 + (3 : Int32)) L then (F_X9_run S N x1 (xs (x3 + (1 : Int32)).toNatClampNeg) (xs (x3 + (2 : Int32)).toNatClampNeg) (xs (x3 + (3 : Int32)).toNatClampNeg) dy).bind fun u42 => if ib (x3 + (1 : Int32)) L then if ib (x3 + (2 : Int32)) L then if ib (x3 + (3 : Int32)) L then (F_X10_run S N x2 (xs (x3 + (1 : Int32)).toNatClampNeg) (xs (x3 + (2 : Int32)).toNatClampNeg) (xs (x3 + (3 : Int32)).toNatClampNeg) u42.2).bind fun u44 => (if u42.1 = u44.1 then (F_law_18 S N L xs k) x1 x2 (x3 + (7 : Int32)) u44.2 else none) else none else none else none else none else none else none else if ((xs x3.toNatClampNeg) &&& (63 : Int32)) = (9 : Int32) then if ib (x3 + (1 : Int32)) L then (F_X9_go S N x1 (xs (x3 + (1 : Int32)).toNatClampNeg) dy).bind fun u47 => if ib (x3 + (1 : Int32)) L then (F_X10_go S N x2 (xs (x3 + (1 : Int32)).toNatClampNeg) u47.2).bind fun u49 => (if u47.1 = u49.1 then (F_law_18 S N L xs k) x1 x2 (x3 + (7 : Int32)) u49.2 else none) else none else none else if ((xs x3.toNatClampNeg) &&& (63 : Int32)) = (10 : Int32) then if ib (x3 + (1 : Int32)) L then if ib (x3 + (2 : Int32)) L then (F_X9_ran S N x1 (xs (x3 + (1 : Int32)).toNatClampNeg) (xs (x3 + (2 : Int32)).toNatClampNeg) dy).bind fun u52 => if ib (x3 + (1 : Int32)) L then if ib (x3 + (2 : Int32)) L then (F_X10_ran S N x2 (xs (x3 + (1 : Int32)).toNatClampNeg) (xs (x3 + (2 : Int32)).toNatClampNeg) u52.2).bind fun u54 => (if u52.1 = u54.1 then (F_law_18 S N L xs k) x1 x2 (x3 + (7 : Int32)) u54.2 else none) else none else none else none else none else if ((xs x3.toNatClampNeg) &&& (63 : Int32)) = (11 : Int32) then if ib (x3 + (1 : Int32)) L then if ib (x3 + (2 : Int32)) L then (F_X9_finds S N x1 (xs (x3 + (1 : Int32)).toNatClampNeg) (xs (x3 + (2 : Int32)).toNatClampNeg) dy).bind fun u57 => if ib (x3 + (1 : Int32)) L then if ib (x3 + (2 : Int32)) L then (F_X10_finds S N x2 (xs (x3 + (1 : Int32)).toNatClampNeg) (xs (x3 + (2 : Int32)).toNatClampNeg) u57.2).bind fun u59 => (if u57.1 = u59.1 then (F_law_18 S N L xs k) x1 x2 (x3 + (7 : Int32)) u59.2 else none) else none else none else none else none else if ((xs x3.toNatClampNeg) &&& (63 : Int32)) = (12 : Int32) then if ib (x3 + (1 : Int32)) L then (F_X9_does S N x1 (xs (x3 + (1 : Int32)).toNatClampNeg) dy).bind fun u62 => if ib (x3 + (1 : Int32)) L then (F_X10_does S N x2 (xs (x3 + (1 : Int32)).toNatClampNeg) u62.2).bind fun u64 => (if u62.1 = u64.1 then (F_law_18 S N L xs k) x1 x2 (x3 + (7 : Int32)) u64.2 else none) else none else none else if ((xs x3.toNatClampNeg) &&& (63 : Int32)) = (13 : Int32) then if ib (x3 + (1 : Int32)) L then if ib (x3 + (2 : Int32)) L then (F_X9_on S N x1 (xs (x3 + (1 : Int32)).toNatClampNeg) (xs (x3 + (2 : Int32)).toNatClampNeg) dy).bind fun u67 => if ib (x3 + (1 : Int32)) L then if ib (x3 + (2 : Int32)) L then (F_X10_on S N x2 (xs (x3 + (1 : Int32)).toNatClampNeg) (xs (x3 + (2 : Int32)).toNatClampNeg) u67.2).bind fun u69 => (if u67.1 = u69.1 then (F_law_18 S N L xs k) x1 x2 (x3 + (7 : Int32)) u69.2 else none) else none else none else none else none else if ((xs x3.toNatClampNeg) &&& (63 : Int32)) = (14 : Int32) then if ib (x3 + (1 : Int32)) L then (F_X9_state S N x1 (xs (x3 + (1 : Int32)).toNatClampNeg) dy).bind fun u72 => if ib (x3 + (1 : Int32)) L then (F_X10_state S N x2 (xs (x3 + (1 : Int32)).toNatClampNeg) u72.2).bind fun u74 => (if u72.1 = u74.1 then (F_law_18 S N L xs k) x1 x2 (x3 + (7 : Int32)) u74.2 else none) else none else none else if ((xs x3.toNatClampNeg) &&& (63 : Int32)) = (15 : Int32) then if ib (x3 + (1 : Int32)) L then if ib (x3 + (2 : Int32)) L then (F_X9_door S N x1 (xs (x3 + (1 : Int32)).toNatClampNeg) (xs (x3 + (2 : Int32)).toNatClampNeg) dy).bind fun u77 => if ib (x3 + (1 : Int32)) L then if ib (x3 + (2 : Int32)) L then (F_X10_door S N x2 (xs (x3 + (1 : Int32)).toNatClampNeg) (xs (x3 + (2 : Int32)).toNatClampNeg) u77.2).bind fun u79 => (if u77.1 = u79.1 then (F_law_18 S N L xs k) x1 x2 (x3 + (7 : Int32)) u79.2 else none) else none else none else none else none else if ((xs x3.toNatClampNeg) &&& (63 : Int32)) = (16 : Int32) then if ib (x3 + (1 : Int32)) L then if ib (x3 + (2 : Int32)) L then if ib (x3 + (3 : Int32)) L then if ib (x3 + (4 : Int32)) L then (F_X9_two S N x1 (xs (x3 + (1 : Int32)).toNatClampNeg) (xs (x3 + (2 : Int32)).toNatClampNeg) (xs (x3 + (3 : Int32)).toNatClampNeg) (xs (x3 + (4 : Int32)).toNatClampNeg) dy).bind fun u82 => if ib (x3 + (1 : Int32)) L then if ib (x3 + (2 : Int32)) L then if ib (x3 + (3 : Int32)) L then if ib (x3 + (4 : Int32)) L then (F_X10_two S N x2 (xs (x3 + (1 : Int32)).toNatClampNeg) (xs (x3 + (2 : Int32)).toNatClampNeg) (xs (x3 + (3 : Int32)).toNatClampNeg) (xs (x3 + (4 : Int32)).toNatClampNeg) u82.2).bind fun u84 => (if u82.1 = u84.1 then (F_law_18 S N L xs k) x1 x2 (x3 + (7 : Int32)) u84.2 else none) else none else none else none else none else none else none else none else none else if ((xs x3.toNatClampNeg) &&& (63 : Int32)) = (17 : Int32) then if ib (x3 + (1 : Int32)) L then if ib (x3 + (2 : Int32)) L then if ib (x3 + (3 : Int32)) L then if ib (x3 + (4 : Int32)) L then (F_X9_fullest S N x1 (xs (x3 + (1 : Int32)).toNatClampNeg) (xs (x3 + (2 : Int32)).toNatClampNeg) (xs (x3 + (3 : Int32)).toNatClampNeg) (xs (x3 + (4 : Int32)).toNatClampNeg) dy).bind fun u87 => if ib (x3 + (1 : Int32)) L then if ib (x3 + (2 : Int32)) L then if ib (x3 + (3 : Int32)) L then if ib (x3 + (4 : Int32)) L then (F_X10_fullest S N x2 (xs (x3 + (1 : Int32)).toNatClampNeg) (xs (x3 + (2 : Int32)).toNatClampNeg) (xs (x3 + (3 : Int32)).toNatClampNeg) (xs (x3 + (4 : Int32)).toNatClampNeg) u87.2).bind fun u89 => (if u87.1 = u89.1 then (F_law_18 S N L xs k) x1 x2 (x3 + (7 : Int32)) u89.2 else none) else none else none else none else none else none else none else none else none else if ((xs x3.toNatClampNeg) &&& (63 : Int32)) = (18 : Int32) then if ib (x3 + (1 : Int32)) L then if ib (x3 + (2 : Int32)) L then if ib (x3 + (3 : Int32)) L then if ib (x3 + (4 : Int32)) L then (F_X9_pillar S N x1 (xs (x3 + (1 : Int32)).toNatClampNeg) (xs (x3 + (2 : Int32)).toNatClampNeg) (xs (x3 + (3 : Int32)).toNatClampNeg) (xs (x3 + (4 : Int32)).toNatClampNeg) dy).bind fun u92 => if ib (x3 + (1 : Int32)) L then if ib (x3 + (2 : Int32)) L then if ib (x3 + (3 : Int32)) L then if ib (x3 + (4 : Int32)) L then (F_X10_pillar S N x2 (xs (x3 + (1 : Int32)).toNatClampNeg) (xs (x3 + (2 : Int32)).toNatClampNeg) (xs (x3 + (3 : Int32)).toNatClampNeg) (xs (x3 + (4 : Int32)).toNatClampNeg) u92.2).bind fun u94 => (if u92.1 = u94.1 then (F_law_18 S N L xs k) x1 x2 (x3 + (7 : Int32)) u94.2 else none) else none else none else none else none else none else none else none else none else if ((xs x3.toNatClampNeg) &&& (63 : Int32)) = (19 : Int32) then if ib (x3 + (1 : Int32)) L then if ib (x3 + (2 : Int32)) L then if ib (x3 + (3 : Int32)) L then if ib (x3 + (4 : Int32)) L then if ib (x3 + (5 : Int32)) L then (F_X9_cost S N x1 (xs (x3 + (1 : Int32)).toNatClampNeg) (xs (x3 + (2 : Int32)).toNatClampNeg) (xs (x3 + (3 : Int32)).toNatClampNeg) (xs (x3 + (4 : Int32)).toNatClampNeg) (xs (x3 + (5 : Int32)).toNatClampNeg) dy).bind fun u97 => if ib (x3 + (1 : Int32)) L then if ib (x3 + (2 : Int32)) L then if ib (x3 + (3 : Int32)) L then if ib (x3 + (4 : Int32)) L then if ib (x3 + (5 : Int32)) L then (F_X10_cost S N x2 (xs (x3 + (1 : Int32)).toNatClampNeg) (xs (x3 + (2 : Int32)).toNatClampNeg) (xs (x3 + (3 : Int32)).toNatClampNeg) (xs (x3 + (4 : Int32)).toNatClampNeg) (xs (x3 + (5 : Int32)).toNatClampNeg) u97.2).bind fun u99 => (if u97.1 = u99.1 then (F_law_18 S N L xs k) x1 x2 (x3 + (7 : Int32)) u99.2 else none) else none else none else none else none else none else none else none else none else none else none else if ((xs x3.toNatClampNeg) &&& (63 : Int32)) = (20 : Int32) then if ib (x3 + (1 : Int32)) L then if ib (x3 + (2 : Int32)) L then if ib (x3 + (3 : Int32)) L then (F_X9_better S N x1 (xs (x3 + (1 : Int32)).toNatClampNeg) (xs (x3 + (2 : Int32)).toNatClampNeg) (xs (x3 + (3 : Int32)).toNatClampNeg) dy).bind fun u102 => if ib (x3 + (1 : Int32)) L then if ib (x3 + (2 : Int32)) L then if ib (x3 + (3 : Int32)) L then (F_X10_better S N x2 (xs (x3 + (1 : Int32)).toNatClampNeg) (xs (x3 + (2 : Int32)).toNatClampNeg) (xs (x3 + (3 : Int32)).toNatClampNeg) u102.2).bind fun u104 => (if u102.1 = u104.1 then (F_law_18 S N L xs k) x1 x2 (x3 + (7 : Int32)) u104.2 else none) else none else none else none else none else none else none else if ((xs x3.toNatClampNeg) &&& (63 : Int32)) = (21 : Int32) then if ib (x3 + (1 : Int32)) L then if ib (x3 + (2 : Int32)) L then if ib (x3 + (3 : Int32)) L then if ib (x3 + (4 : Int32)) L then (F_X9_flow S N x1 (xs (x3 + (1 : Int32)).toNatClampNeg) (xs (x3 + (2 : Int32)).toNatClampNeg) (xs (x3 + (3 : Int32)).toNatClampNeg) (xs (x3 + (4 : Int32)).toNatClampNeg) dy).bind fun u107 => if ib (x3 + (1 : Int32)) L then if ib (x3 + (2 : Int32)) L then if ib (x3 + (3 : Int32)) L then if ib (x3 + (4 : Int32)) L then (F_X10_flow S N x2 (xs (x3 + (1 : Int32)).toNatClampNeg) (xs (x3 + (2 : Int32)).toNatClampNeg) (xs (x3 + (3 : Int32)).toNatClampNeg) (xs (x3 + (4 : Int32)).toNatClampNeg) u107.2).bind fun u109 => (if u107.1 = u109.1 then (F_law_18 S N L xs k) x1 x2 (x3 + (7 : Int32)) u109.2 else none) else none else none else none else none else none else none else none else none else if ((xs x3.toNatClampNeg) &&& (63 : Int32)) = (22 : Int32) then if ib (x3 + (1 : Int32)) L then if ib (x3 + (2 : Int32)) L then if ib (x3 + (3 : Int32)) L then if ib (x3 + (4 : Int32)) L then if ib (x3 + (5 : Int32)) L then if ib (x3 + (6 : Int32)) L then (F_X9_touch S N x1 (xs (x3 + (1 : Int32)).toNatClampNeg) (xs (x3 + (2 : Int32)).toNatClampNeg) (xs (x3 + (3 : Int32)).toNatClampNeg) (xs (x3 + (4 : Int32)).toNatClampNeg) (xs (x3 + (5 : Int32)).toNatClampNeg) (xs (x3 + (6 : Int32)).toNatClampNeg) dy).bind fun u112 => if ib (x3 + (1 : Int32)) L then if ib (x3 + (2 : Int32)) L then if ib (x3 + (3 : Int32)) L then if ib (x3 + (4 : Int32)) L then if ib (x3 + (5 : Int32)) L then if ib (x3 + (6 : Int32)) L then (F_X10_touch S N x2 (xs (x3 + (1 : Int32)).toNatClampNeg) (xs (x3 + (2 : Int32)).toNatClampNeg) (xs (x3 + (3 : Int32)).toNatClampNeg) (xs (x3 + (4 : Int32)).toNatClampNeg) (xs (x3 + (5 : Int32)).toNatClampNeg) (xs (x3 + (6 : Int32)).toNatClampNeg) u112.2).bind fun u114 => (if u112.1 = u114.1 then (F_law_18 S N L xs k) x1 x2 (x3 + (7 : Int32)) u114.2 else none) else none else none else none else none else none else none else none else none else none else none else none else none else if ((xs x3.toNatClampNeg) &&& (63 : Int32)) = (23 : Int32) then if ib (x3 + (1 : Int32)) L then if ib (x3 + (2 : Int32)) L then if ib (x3 + (3 : Int32)) L then if ib (x3 + (4 : Int32)) L then if ib (x3 + (5 : Int32)) L then (F_X9_slack S N x1 (xs (x3 + (1 : Int32)).toNatClampNeg) (xs (x3 + (2 : Int32)).toNatClampNeg) (xs (x3 + (3 : Int32)).toNatClampNeg) (xs (x3 + (4 : Int32)).toNatClampNeg) (xs (x3 + (5 : Int32)).toNatClampNeg) dy).bind fun u117 => if ib (x3 + (1 : Int32)) L then if ib (x3 + (2 : Int32)) L then if ib (x3 + (3 : Int32)) L then if ib (x3 + (4 : Int32)) L then if ib (x3 + (5 : Int32)) L then (F_X10_slack S N x2 (xs (x3 + (1 : Int32)).toNatClampNeg) (xs (x3 + (2 : Int32)).toNatClampNeg) (xs (x3 + (3 : Int32)).toNatClampNeg) (xs (x3 + (4 : Int32)).toNatClampNeg) (xs (x3 + (5 : Int32)).toNatClampNeg) u117.2).bind fun u119 => (if u117.1 = u119.1 then (F_law_18 S N L xs k) x1 x2 (x3 + (7 : Int32)) u119.2 else none) else none else none else none else none else none else none else none else none else none else none else if ((xs x3.toNatClampNeg) &&& (63 : Int32)) = (24 : Int32) then if ib (x3 + (1 : Int32)) L then if ib (x3 + (2 : Int32)) L then if ib (x3 + (3 : Int32)) L then if ib (x3 + (4 : Int32)) L then (F_X9_opened S N x1 (xs (x3 + (1 : Int32)).toNatClampNeg) (xs (x3 + (2 : Int32)).toNatClampNeg) (xs (x3 + (3 : Int32)).toNatClampNeg) (xs (x3 + (4 : Int32)).toNatClampNeg) dy).bind fun u122 => if ib (x3 + (1 : Int32)) L then if ib (x3 + (2 : Int32)) L then if ib (x3 + (3 : Int32)) L then if ib (x3 + (4 : Int32)) L then (F_X10_opened S N x2 (xs (x3 + (1 : Int32)).toNatClampNeg) (xs (x3 + (2 : Int32)).toNatClampNeg) (xs (x3 + (3 : Int32)).toNatClampNeg) (xs (x3 + (4 : Int32)).toNatClampNeg) u122.2).bind fun u124 => (if u122.1 = u124.1 then (F_law_18 S N L xs k) x1 x2 (x3 + (7 : Int32)) u124.2 else none) else none else none else none else none else none else none else none else none else if ((xs x3.toNatClampNeg) &&& (63 : Int32)) = (25 : Int32) then if ib (x3 + (1 : Int32)) L then if ib (x3 + (2 : Int32)) L then if ib (x3 + (3 : Int32)) L then (F_X9_fits S N x1 (xs (x3 + (1 : Int32)).toNatClampNeg) (xs (x3 + (2 : Int32)).toNatClampNeg) (xs (x3 + (3 : Int32)).toNatClampNeg) dy).bind fun u127 => if ib (x3 + (1 : Int32)) L then if ib (x3 + (2 : Int32)) L then if ib (x3 + (3 : Int32)) L then (F_X10_fits S N x2 (xs (x3 + (1 : Int32)).toNatClampNeg) (xs (x3 + (2 : Int32)).toNatClampNeg) (xs (x3 + (3 : Int32)).toNatClampNeg) u127.2).bind fun u129 => (if u127.1 = u129.1 then (F_law_18 S N L xs k) x1 x2 (x3 + (7 : Int32)) u129.2 else none) else none else none else none else none else none else none else if ((xs x3.toNatClampNeg) &&& (63 : Int32)) = (26 : Int32) then if ib (x3 + (1 : Int32)) L then if ib (x3 + (2 : Int32)) L then if ib (x3 + (3 : Int32)) L then (F_X9_hat S N x1 (xs (x3 + (1 : Int32)).toNatClampNeg) (xs (x3 + (2 : Int32)).toNatClampNeg) (xs (x3 + (3 : Int32)).toNatClampNeg) dy).bind fun u132 => if ib (x3 + (1 : Int32)) L then if ib (x3 + (2 : Int32)) L then if ib (x3 + (3 : Int32)) L then (F_X10_hat S N x2 (xs (x3 + (1 : Int32)).toNatClampNeg) (xs (x3 + (2 : Int32)).toNatClampNeg) (xs (x3 + (3 : Int32)).toNatClampNeg) u132.2).bind fun u134 => (if u132.1 = u134.1 then (F_law_18 S N L xs k) x1 x2 (x3 + (7 : Int32)) u134.2 else none) else none else none else none else none else none else none else if ((xs x3.toNatClampNeg) &&& (63 : Int32)) = (27 : Int32) then (F_X9_dark S N x1 dy).bind fun u137 => (F_X10_dark S N x2 u137.2).bind fun u139 => (if u137.1 = u139.1 then (F_law_18 S N L xs k) x1 x2 (x3 + (7 : Int32)) u139.2 else none) else if ((xs x3.toNatClampNeg) &&& (63 : Int32)) = (28 : Int32) then if ib (x3 + (1 : Int32)) L then if ib (x3 + (2 : Int32)) L then if ib (x3 + (3 : Int32)) L then (F_X9_match S N x1 (xs (x3 + (1 : Int32)).toNatClampNeg) (xs (x3 + (2 : Int32)).toNatClampNeg) (xs (x3 + (3 : Int32)).toNatClampNeg) dy).bind fun u142 => if ib (x3 + (1 : Int32)) L then if ib (x3 + (2 : Int32)) L then if ib (x3 + (3 : Int32)) L then (F_X10_match S N x2 (xs (x3 + (1 : Int32)).toNatClampNeg) (xs (x3 + (2 : Int32)).toNatClampNeg) (xs (x3 + (3 : Int32)).toNatClampNeg) u142.2).bind fun u144 => (if u142.1 = u144.1 then (F_law_18 S N L xs k) x1 x2 (x3 + (7 : Int32)) u144.2 else none) else none else none else none else none else none else none else if ((xs x3.toNatClampNeg) &&& (63 : Int32)) = (29 : Int32) then if ib (x3 + (1 : Int32)) L then if ib (x3 + (2 : Int32)) L then (F_X9_worth S N x1 (xs (x3 + (1 : Int32)).toNatClampNeg) (xs (x3 + (2 : Int32)).toNatClampNeg) dy).bind fun u147 => if ib (x3 + (1 : Int32)) L then if ib (x3 + (2 : Int32)) L then (F_X10_worth S N x2 (xs (x3 + (1 : Int32)).toNatClampNeg) (xs (x3 + (2 : Int32)).toNatClampNeg) u147.2).bind fun u149 => (if u147.1 = u149.1 then (F_law_18 S N L xs k) x1 x2 (x3 + (7 : Int32)) u149.2 else none) else none else none else none else none else if ((xs x3.toNatClampNeg) &&& (63 : Int32)) = (30 : Int32) then if ib (x3 + (1 : Int32)) L then if ib (x3 + (2 : Int32)) L then if ib (x3 + (3 : Int32)) L then if ib (x3 + (4 : Int32)) L then (F_X9_track S N x1 (xs (x3 + (1 : Int32)).toNatClampNeg) (xs (x3 + (2 : Int32)).toNatClampNeg) (xs (x3 + (3 : Int32)).toNatClampNeg) (xs (x3 + (4 : Int32)).toNatClampNeg) dy).bind fun u152 => if ib (x3 + (1 : Int32)) L then if ib (x3 + (2 : Int32)) L then if ib (x3 + (3 : Int32)) L then if ib (x3 + (4 : Int32)) L then (F_X10_track S N x2 (xs (x3 + (1 : Int32)).toNatClampNeg) (xs (x3 + (2 : Int32)).toNatClampNeg) (xs (x3 + (3 : Int32)).toNatClampNeg) (xs (x3 + (4 : Int32)).toNatClampNeg) u152.2).bind fun u154 => (if u152.1 = u154.1 then (F_law_18 S N L xs k) x1 x2 (x3 + (7 : Int32)) u154.2 else none) else none else none else none else none else none else none else none else none else if ((xs x3.toNatClampNeg) &&& (63 : Int32)) = (31 : Int32) then if ib (x3 + (1 : Int32)) L then if ib (x3 + (2 : Int32)) L then if ib (x3 + (3 : Int32)) L then if ib (x3 + (4 : Int32)) L then if ib (x3 + (5 : Int32)) L then if ib (x3 + (6 : Int32)) L then (F_X9_habit S N x1 (xs (x3 + (1 : Int32)).toNatClampNeg) (xs (x3 + (2 : Int32)).toNatClampNeg) (xs (x3 + (3 : Int32)).toNatClampNeg) (xs (x3 + (4 : Int32)).toNatClampNeg) (xs (x3 + (5 : Int32)).toNatClampNeg) (xs (x3 + (6 : Int32)).toNatClampNeg) dy).bind fun u157 => if ib (x3 + (1 : Int32)) L then if ib (x3 + (2 : Int32)) L then if ib (x3 + (3 : Int32)) L then if ib (x3 + (4 : Int32)) L then if ib (x3 + (5 : Int32)) L then if ib (x3 + (6 : Int32)) L then (F_X10_habit S N x2 (xs (x3 + (1 : Int32)).toNatClampNeg) (xs (x3 + (2 : Int32)).toNatClampNeg) (xs (x3 + (3 : Int32)).toNatClampNeg) (xs (x3 + (4 : Int32)).toNatClampNeg) (xs (x3 + (5 : Int32)).toNatClampNeg) (xs (x3 + (6 : Int32)).toNatClampNeg) u157.2).bind fun u159 => (if (lg_cmp u157.1 u159.1) = 0 then (F_law_18 S N L xs k) x1 x2 (x3 + (7 : Int32)) u159.2 else none) else none else none else none else none else none else none else none else none else none else none else none else none else if ((xs x3.toNatClampNeg) &&& (63 : Int32)) = (32 : Int32) then if ib (x3 + (1 : Int32)) L then (F_X9_count S N x1 (xs (x3 + (1 : Int32)).toNatClampNeg) dy).bind fun u162 => if ib (x3 + (1 : Int32)) L then (F_X10_count S N x2 (xs (x3 + (1 : Int32)).toNatClampNeg) u162.2).bind fun u164 => (if u162.1 = u164.1 then (F_law_18 S N L xs k) x1 x2 (x3 + (7 : Int32)) u164.2 else none) else none else none else if ((xs x3.toNatClampNeg) &&& (63 : Int32)) = (33 : Int32) then if ib (x3 + (1 : Int32)) L then (F_X9_image S N x1 (xs (x3 + (1 : Int32)).toNatClampNeg) dy).bind fun u167 => if ib (x3 + (1 : Int32)) L then (F_X10_image S N x2 (xs (x3 + (1 : Int32)).toNatClampNeg) u167.2).bind fun u169 => (if u167.1 = u169.1 then (F_law_18 S N L xs k) x1 x2 (x3 + (7 : Int32)) u169.2 else none) else none else none else if ((xs x3.toNatClampNeg) &&& (63 : Int32)) = (34 : Int32) then if ib (x3 + (1 : Int32)) L then (F_X9_again S N x1 (xs (x3 + (1 : Int32)).toNatClampNeg) dy).bind fun u172 => if ib (x3 + (1 : Int32)) L then (F_X10_again S N x2 (xs (x3 + (1 : Int32)).toNatClampNeg) u172.2).bind fun u174 => (if u172.1 = u174.1 then (F_law_18 S N L xs k) x1 x2 (x3 + (7 : Int32)) u174.2 else none) else none else none else (F_law_18 S N L xs k) x1 x2 (x3 + (7 : Int32)) dy) else none) := rfl
set_option maxHeartbeats 8000000 in
set_option maxRecDepth 100000 in
theorem B_law_18 {p : Program} {l : Launch} {e : Env} {s : State} {m : MethodId} {below : List Frame} {meth : Method} {c : Code} {G : GG} {A : Nat → Prop} {ad : Nat → Nat} {S : ST} {N b L : Nat} {xs : Nat → Int32} {dy' : DY} (C : CX p s m #[Value.ref b] c code 4 RL G A) (HR : meth.sig.returnType = ret) (HL : meth.locks = false) (hG : Good S) (hX : va_X b L xs s s.heap) (hbl : b < s.heap.size) (hbA : ¬ A b) (hAe : ∀ q, A q → s.heap.size ≤ q) : ∀ k : Nat, ∀ (x1 x2 : Nat) (x3 : Int32) (dy : DY), gs S x1 = (0, 9) → gs S x2 = (0, 10) → F_law_18 S N L xs k x1 x2 x3 dy = some dy' → WJ p l e room_1 s m #[Value.ref b] below meth c 4 G A 546 42799 (lw_Z below #[Value.ref b] s) ad 18 [(0, .ref b), (1, .ref (ad x1)), (2, .ref (ad x2)), (3, .int x3)] [] S dy := by
  intro k
  induction k with
  | zero => exact fun _ _ _ _ _ _ E => nomatch (show none = some dy' from E)
  | succ k ih =>
    intro x1 x2 x3 dy Tx1 Tx2 E
    rw [F_law_18_s] at E
    refine ww_iload_n C dL_law_18 rfl 3 rfl ?_
    refine ww_aload_n C dL_law_19 rfl 0 rfl ?_
    refine ww_slenS C hX hbl hbA dL_law_20 ?_
    refine ww_bipush (v := 7) C dL_law_21 (by decide) ?_
    refine ww_isub C dL_law_23 ?_
    refine ww_icmp_gt (tgt := 1574) C dL_law_24 (by decide) E (fun _ E => ?_) (fun _ E => ?_)
    · refine ww_iconst (v := 1) C dL_law_1574 (by decide) ?_
      exact ww_lawend C HR HL hAe (Nat.le_of_ble_eq_true rfl) (Nat.le_of_ble_eq_true rfl) dL_law_1575
    · refine ww_aload_n C dL_law_27 rfl 0 rfl ?_
      refine ww_iload_n C dL_law_28 rfl 3 rfl ?_
      refine ww_sld C hX hbl hbA dL_law_29 E (fun _ E => ?_)
      refine ww_bipush (v := 63) C dL_law_30 (by decide) ?_
      refine ww_iand C dL_law_32 ?_
      by_cases s_1 : ((xs x3.toNatClampNeg) &&& (63 : Int32)) = (0 : Int32)
      · rw [if_pos s_1] at E
        refine ww_tabIn (tgt := 188) C dL_law_33 s_1 (by decide) (by decide) rfl (by decide) ?_
        refine ww_aload_n C dL_law_188 rfl 1 rfl ?_
        refine ww_aload_n C dL_law_189 rfl 0 rfl ?_
        refine ww_iload_n C dL_law_190 rfl 3 rfl ?_
        refine ww_iconst (v := 1) C dL_law_191 (by decide) ?_
        refine ww_iadd C dL_law_192 ?_
        refine ww_sld C hX hbl hbA dL_law_193 E (fun _ E => ?_)
        refine ww_aload_n C dL_law_194 rfl 0 rfl ?_
        refine ww_iload_n C dL_law_195 rfl 3 rfl ?_
        refine ww_iconst (v := 2) C dL_law_196 (by decide) ?_
        refine ww_iadd C dL_law_197 ?_
        refine ww_sld C hX hbl hbA dL_law_198 E (fun _ E => ?_)
        refine ww_aload_n C dL_law_199 rfl 0 rfl ?_
        refine ww_iload_n C dL_law_200 rfl 3 rfl ?_
        refine ww_iconst (v := 3) C dL_law_201 (by decide) ?_
        refine ww_iadd C dL_law_202 ?_
        refine ww_sld C hX hbl hbA dL_law_203 E (fun _ E => ?_)
        refine ww_aload_n C dL_law_204 rfl 0 rfl ?_
        refine ww_iload_n C dL_law_205 rfl 3 rfl ?_
        refine ww_iconst (v := 4) C dL_law_206 (by decide) ?_
        refine ww_iadd C dL_law_207 ?_
        refine ww_sld C hX hbl hbA dL_law_208 E (fun _ E => ?_)
        refine ww_aload_n C dL_law_209 rfl 0 rfl ?_
        refine ww_iload_n C dL_law_210 rfl 3 rfl ?_
        refine ww_iconst (v := 5) C dL_law_211 (by decide) ?_
        refine ww_iadd C dL_law_212 ?_
        refine ww_sld C hX hbl hbA dL_law_213 E (fun _ E => ?_)
        obtain ⟨u2, e_3, E⟩ := bind_of E
        refine ww_callI C (runs_V (n := 5) (st := []) C [.int (xs (x3 + (1 : Int32)).toNatClampNeg), .int (xs (x3 + (2 : Int32)).toNatClampNeg), .int (xs (x3 + (3 : Int32)).toNatClampNeg), .int (xs (x3 + (4 : Int32)).toNatClampNeg), .int (xs (x3 + (5 : Int32)).toNatClampNeg)] (M_X9_feed l G ad N hG x1 (xs (x3 + (1 : Int32)).toNatClampNeg) (xs (x3 + (2 : Int32)).toNatClampNeg) (xs (x3 + (3 : Int32)).toNatClampNeg) (xs (x3 + (4 : Int32)).toNatClampNeg) (xs (x3 + (5 : Int32)).toNatClampNeg) dy Tx1 e_3) ⟨q558, q108, by decide⟩ q555 q556 q557 (ci := 9) rfl Tx1 rfl (Nat.le_of_ble_eq_true rfl) ⟨Nat.le_of_ble_eq_true rfl, Nat.le_of_ble_eq_true rfl⟩ ⟨Nat.le_of_ble_eq_true rfl, Nat.le_of_ble_eq_true rfl⟩ dL_law_214 rfl) ?_
        refine ww_aload_n C dL_law_217 rfl 2 rfl ?_
        refine ww_aload_n C dL_law_218 rfl 0 rfl ?_
        refine ww_iload_n C dL_law_219 rfl 3 rfl ?_
        refine ww_iconst (v := 1) C dL_law_220 (by decide) ?_
        refine ww_iadd C dL_law_221 ?_
        refine ww_sld C hX hbl hbA dL_law_222 E (fun _ E => ?_)
        refine ww_aload_n C dL_law_223 rfl 0 rfl ?_
        refine ww_iload_n C dL_law_224 rfl 3 rfl ?_
        refine ww_iconst (v := 2) C dL_law_225 (by decide) ?_
        refine ww_iadd C dL_law_226 ?_
        refine ww_sld C hX hbl hbA dL_law_227 E (fun _ E => ?_)
        refine ww_aload_n C dL_law_228 rfl 0 rfl ?_
        refine ww_iload_n C dL_law_229 rfl 3 rfl ?_
        refine ww_iconst (v := 3) C dL_law_230 (by decide) ?_
        refine ww_iadd C dL_law_231 ?_
        refine ww_sld C hX hbl hbA dL_law_232 E (fun _ E => ?_)
        refine ww_aload_n C dL_law_233 rfl 0 rfl ?_
        refine ww_iload_n C dL_law_234 rfl 3 rfl ?_
        refine ww_iconst (v := 4) C dL_law_235 (by decide) ?_
        refine ww_iadd C dL_law_236 ?_
        refine ww_sld C hX hbl hbA dL_law_237 E (fun _ E => ?_)
        refine ww_aload_n C dL_law_238 rfl 0 rfl ?_
        refine ww_iload_n C dL_law_239 rfl 3 rfl ?_
        refine ww_iconst (v := 5) C dL_law_240 (by decide) ?_
        refine ww_iadd C dL_law_241 ?_
        refine ww_sld C hX hbl hbA dL_law_242 E (fun _ E => ?_)
        obtain ⟨u4, e_5, E⟩ := bind_of E
        refine ww_callI C (runs_V (n := 5) (st := [.int u2.1]) C [.int (xs (x3 + (1 : Int32)).toNatClampNeg), .int (xs (x3 + (2 : Int32)).toNatClampNeg), .int (xs (x3 + (3 : Int32)).toNatClampNeg), .int (xs (x3 + (4 : Int32)).toNatClampNeg), .int (xs (x3 + (5 : Int32)).toNatClampNeg)] (M_X10_feed l G ad N hG x2 (xs (x3 + (1 : Int32)).toNatClampNeg) (xs (x3 + (2 : Int32)).toNatClampNeg) (xs (x3 + (3 : Int32)).toNatClampNeg) (xs (x3 + (4 : Int32)).toNatClampNeg) (xs (x3 + (5 : Int32)).toNatClampNeg) u2.2 Tx2 e_5) ⟨q1465, q118, by decide⟩ q1462 q1463 q1464 (ci := 10) rfl Tx2 rfl (Nat.le_of_ble_eq_true rfl) ⟨Nat.le_of_ble_eq_true rfl, Nat.le_of_ble_eq_true rfl⟩ ⟨Nat.le_of_ble_eq_true rfl, Nat.le_of_ble_eq_true rfl⟩ dL_law_243 rfl) ?_
        refine ww_icmp_eq (tgt := 1568) C dL_law_246 (by decide) E (fun _ E => ?_) (fun _ E => ?_)
        · refine ww_iinc (v := (x3 + (7 : Int32))) (lv' := [(3, .int (x3 + (7 : Int32))), (0, .ref b), (1, .ref (ad x1)), (2, .ref (ad x2))]) C dL_law_1568 3 rfl rfl (by decide) rfl ?_
          refine ww_goto (tgt := 18) C dL_law_1571 (by decide) ?_
          refine ww_sub (lv' := [(0, .ref b), (1, .ref (ad x1)), (2, .ref (ad x2)), (3, .int (x3 + (7 : Int32)))]) [1, 2, 3, 0] rfl ?_
          exact ih x1 x2 (x3 + (7 : Int32)) u4.2 Tx1 Tx2 E
        · refine ww_iconst (v := 0) C dL_law_249 (by decide) ?_
          cases E
      rw [if_neg s_1] at E
      by_cases s_6 : ((xs x3.toNatClampNeg) &&& (63 : Int32)) = (1 : Int32)
      · rw [if_pos s_6] at E
        refine ww_tabIn (tgt := 251) C dL_law_33 s_6 (by decide) (by decide) rfl (by decide) ?_
        refine ww_aload_n C dL_law_251 rfl 1 rfl ?_
        refine ww_aload_n C dL_law_252 rfl 0 rfl ?_
        refine ww_iload_n C dL_law_253 rfl 3 rfl ?_
        refine ww_iconst (v := 1) C dL_law_254 (by decide) ?_
        refine ww_iadd C dL_law_255 ?_
        refine ww_sld C hX hbl hbA dL_law_256 E (fun _ E => ?_)
        obtain ⟨u7, e_8, E⟩ := bind_of E
        refine ww_callI C (runs_V (n := 1) (st := []) C [.int (xs (x3 + (1 : Int32)).toNatClampNeg)] (M_X9_end l G ad N hG x1 (xs (x3 + (1 : Int32)).toNatClampNeg) dy Tx1 e_8) ⟨q566, q108, by decide⟩ q563 q564 q565 (ci := 9) rfl Tx1 rfl (Nat.le_of_ble_eq_true rfl) ⟨Nat.le_of_ble_eq_true rfl, Nat.le_of_ble_eq_true rfl⟩ ⟨Nat.le_of_ble_eq_true rfl, Nat.le_of_ble_eq_true rfl⟩ dL_law_257 rfl) ?_
        refine ww_aload_n C dL_law_260 rfl 2 rfl ?_
        refine ww_aload_n C dL_law_261 rfl 0 rfl ?_
        refine ww_iload_n C dL_law_262 rfl 3 rfl ?_
        refine ww_iconst (v := 1) C dL_law_263 (by decide) ?_
        refine ww_iadd C dL_law_264 ?_
        refine ww_sld C hX hbl hbA dL_law_265 E (fun _ E => ?_)
        obtain ⟨u9, e_10, E⟩ := bind_of E
        refine ww_callI C (runs_V (n := 1) (st := [.int u7.1]) C [.int (xs (x3 + (1 : Int32)).toNatClampNeg)] (M_X10_end l G ad N hG x2 (xs (x3 + (1 : Int32)).toNatClampNeg) u7.2 Tx2 e_10) ⟨q1473, q118, by decide⟩ q1470 q1471 q1472 (ci := 10) rfl Tx2 rfl (Nat.le_of_ble_eq_true rfl) ⟨Nat.le_of_ble_eq_true rfl, Nat.le_of_ble_eq_true rfl⟩ ⟨Nat.le_of_ble_eq_true rfl, Nat.le_of_ble_eq_true rfl⟩ dL_law_266 rfl) ?_
        refine ww_icmp_eq (tgt := 1568) C dL_law_269 (by decide) E (fun _ E => ?_) (fun _ E => ?_)
        · refine ww_iinc (v := (x3 + (7 : Int32))) (lv' := [(3, .int (x3 + (7 : Int32))), (0, .ref b), (1, .ref (ad x1)), (2, .ref (ad x2))]) C dL_law_1568 3 rfl rfl (by decide) rfl ?_
          refine ww_goto (tgt := 18) C dL_law_1571 (by decide) ?_
          refine ww_sub (lv' := [(0, .ref b), (1, .ref (ad x1)), (2, .ref (ad x2)), (3, .int (x3 + (7 : Int32)))]) [1, 2, 3, 0] rfl ?_
          exact ih x1 x2 (x3 + (7 : Int32)) u9.2 Tx1 Tx2 E
        · refine ww_iconst (v := 0) C dL_law_272 (by decide) ?_
          cases E
      rw [if_neg s_6] at E
      by_cases s_11 : ((xs x3.toNatClampNeg) &&& (63 : Int32)) = (2 : Int32)
      · rw [if_pos s_11] at E
        refine ww_tabIn (tgt := 274) C dL_law_33 s_11 (by decide) (by decide) rfl (by decide) ?_
        refine ww_aload_n C dL_law_274 rfl 1 rfl ?_
        refine ww_aload_n C dL_law_275 rfl 0 rfl ?_
        refine ww_iload_n C dL_law_276 rfl 3 rfl ?_
        refine ww_iconst (v := 1) C dL_law_277 (by decide) ?_
        refine ww_iadd C dL_law_278 ?_
        refine ww_sld C hX hbl hbA dL_law_279 E (fun _ E => ?_)
        obtain ⟨u12, e_13, E⟩ := bind_of E
        refine ww_callI C (runs_V (n := 1) (st := []) C [.int (xs (x3 + (1 : Int32)).toNatClampNeg)] (M_X9_passage l G ad N hG x1 (xs (x3 + (1 : Int32)).toNatClampNeg) dy Tx1 e_13) ⟨q570, q108, by decide⟩ q567 q568 q569 (ci := 9) rfl Tx1 rfl (Nat.le_of_ble_eq_true rfl) ⟨Nat.le_of_ble_eq_true rfl, Nat.le_of_ble_eq_true rfl⟩ ⟨Nat.le_of_ble_eq_true rfl, Nat.le_of_ble_eq_true rfl⟩ dL_law_280 rfl) ?_
        refine ww_aload_n C dL_law_283 rfl 2 rfl ?_
        refine ww_aload_n C dL_law_284 rfl 0 rfl ?_
        refine ww_iload_n C dL_law_285 rfl 3 rfl ?_
        refine ww_iconst (v := 1) C dL_law_286 (by decide) ?_
        refine ww_iadd C dL_law_287 ?_
        refine ww_sld C hX hbl hbA dL_law_288 E (fun _ E => ?_)
        obtain ⟨u14, e_15, E⟩ := bind_of E
        refine ww_callI C (runs_V (n := 1) (st := [.int u12.1]) C [.int (xs (x3 + (1 : Int32)).toNatClampNeg)] (M_X10_passage l G ad N hG x2 (xs (x3 + (1 : Int32)).toNatClampNeg) u12.2 Tx2 e_15) ⟨q1480, q118, by decide⟩ q1477 q1478 q1479 (ci := 10) rfl Tx2 rfl (Nat.le_of_ble_eq_true rfl) ⟨Nat.le_of_ble_eq_true rfl, Nat.le_of_ble_eq_true rfl⟩ ⟨Nat.le_of_ble_eq_true rfl, Nat.le_of_ble_eq_true rfl⟩ dL_law_289 rfl) ?_
        refine ww_icmp_eq (tgt := 1568) C dL_law_292 (by decide) E (fun _ E => ?_) (fun _ E => ?_)
        · refine ww_iinc (v := (x3 + (7 : Int32))) (lv' := [(3, .int (x3 + (7 : Int32))), (0, .ref b), (1, .ref (ad x1)), (2, .ref (ad x2))]) C dL_law_1568 3 rfl rfl (by decide) rfl ?_
          refine ww_goto (tgt := 18) C dL_law_1571 (by decide) ?_
          refine ww_sub (lv' := [(0, .ref b), (1, .ref (ad x1)), (2, .ref (ad x2)), (3, .int (x3 + (7 : Int32)))]) [1, 2, 3, 0] rfl ?_
          exact ih x1 x2 (x3 + (7 : Int32)) u14.2 Tx1 Tx2 E
        · refine ww_iconst (v := 0) C dL_law_295 (by decide) ?_
          cases E
      rw [if_neg s_11] at E
      by_cases s_16 : ((xs x3.toNatClampNeg) &&& (63 : Int32)) = (3 : Int32)
      · rw [if_pos s_16] at E
        refine ww_tabIn (tgt := 297) C dL_law_33 s_16 (by decide) (by decide) rfl (by decide) ?_
        refine ww_aload_n C dL_law_297 rfl 1 rfl ?_
        refine ww_aload_n C dL_law_298 rfl 0 rfl ?_
        refine ww_iload_n C dL_law_299 rfl 3 rfl ?_
        refine ww_iconst (v := 1) C dL_law_300 (by decide) ?_
        refine ww_iadd C dL_law_301 ?_
        refine ww_sld C hX hbl hbA dL_law_302 E (fun _ E => ?_)
        obtain ⟨u17, e_18, E⟩ := bind_of E
        refine ww_callI C (runs_V (n := 1) (st := []) C [.int (xs (x3 + (1 : Int32)).toNatClampNeg)] (M_X9_law l G ad N hG x1 (xs (x3 + (1 : Int32)).toNatClampNeg) dy Tx1 e_18) ⟨q795, q108, by decide⟩ q792 q793 q794 (ci := 9) rfl Tx1 rfl (Nat.le_of_ble_eq_true rfl) ⟨Nat.le_of_ble_eq_true rfl, Nat.le_of_ble_eq_true rfl⟩ ⟨Nat.le_of_ble_eq_true rfl, Nat.le_of_ble_eq_true rfl⟩ dL_law_303 rfl) ?_
        refine ww_aload_n C dL_law_306 rfl 2 rfl ?_
        refine ww_aload_n C dL_law_307 rfl 0 rfl ?_
        refine ww_iload_n C dL_law_308 rfl 3 rfl ?_
        refine ww_iconst (v := 1) C dL_law_309 (by decide) ?_
        refine ww_iadd C dL_law_310 ?_
        refine ww_sld C hX hbl hbA dL_law_311 E (fun _ E => ?_)
        obtain ⟨u19, e_20, E⟩ := bind_of E
        refine ww_callI C (runs_V (n := 1) (st := [.int u17.1]) C [.int (xs (x3 + (1 : Int32)).toNatClampNeg)] (M_X10_law l G ad N hG x2 (xs (x3 + (1 : Int32)).toNatClampNeg) u17.2 Tx2 e_20) ⟨q1583, q118, by decide⟩ q1580 q1581 q1582 (ci := 10) rfl Tx2 rfl (Nat.le_of_ble_eq_true rfl) ⟨Nat.le_of_ble_eq_true rfl, Nat.le_of_ble_eq_true rfl⟩ ⟨Nat.le_of_ble_eq_true rfl, Nat.le_of_ble_eq_true rfl⟩ dL_law_312 rfl) ?_
        refine ww_icmp_eq (tgt := 1568) C dL_law_315 (by decide) E (fun _ E => ?_) (fun _ E => ?_)
        · refine ww_iinc (v := (x3 + (7 : Int32))) (lv' := [(3, .int (x3 + (7 : Int32))), (0, .ref b), (1, .ref (ad x1)), (2, .ref (ad x2))]) C dL_law_1568 3 rfl rfl (by decide) rfl ?_
          refine ww_goto (tgt := 18) C dL_law_1571 (by decide) ?_
          refine ww_sub (lv' := [(0, .ref b), (1, .ref (ad x1)), (2, .ref (ad x2)), (3, .int (x3 + (7 : Int32)))]) [1, 2, 3, 0] rfl ?_
          exact ih x1 x2 (x3 + (7 : Int32)) u19.2 Tx1 Tx2 E
        · refine ww_iconst (v := 0) C dL_law_318 (by decide) ?_
          cases E
      rw [if_neg s_16] at E
      by_cases s_21 : ((xs x3.toNatClampNeg) &&& (63 : Int32)) = (4 : Int32)
      · rw [if_pos s_21] at E
        refine ww_tabIn (tgt := 320) C dL_law_33 s_21 (by decide) (by decide) rfl (by decide) ?_
        refine ww_aload_n C dL_law_320 rfl 1 rfl ?_
        refine ww_aload_n C dL_law_321 rfl 0 rfl ?_
        refine ww_iload_n C dL_law_322 rfl 3 rfl ?_
        refine ww_iconst (v := 1) C dL_law_323 (by decide) ?_
        refine ww_iadd C dL_law_324 ?_
        refine ww_sld C hX hbl hbA dL_law_325 E (fun _ E => ?_)
        obtain ⟨u22, e_23, E⟩ := bind_of E
        refine ww_callI C (runs_V (n := 1) (st := []) C [.int (xs (x3 + (1 : Int32)).toNatClampNeg)] (M_X9_fault l G ad N hG x1 (xs (x3 + (1 : Int32)).toNatClampNeg) dy Tx1 e_23) ⟨q876, q108, by decide⟩ q873 q874 q875 (ci := 9) rfl Tx1 rfl (Nat.le_of_ble_eq_true rfl) ⟨Nat.le_of_ble_eq_true rfl, Nat.le_of_ble_eq_true rfl⟩ ⟨Nat.le_of_ble_eq_true rfl, Nat.le_of_ble_eq_true rfl⟩ dL_law_326 rfl) ?_
        refine ww_aload_n C dL_law_329 rfl 2 rfl ?_
        refine ww_aload_n C dL_law_330 rfl 0 rfl ?_
        refine ww_iload_n C dL_law_331 rfl 3 rfl ?_
        refine ww_iconst (v := 1) C dL_law_332 (by decide) ?_
        refine ww_iadd C dL_law_333 ?_
        refine ww_sld C hX hbl hbA dL_law_334 E (fun _ E => ?_)
        obtain ⟨u24, e_25, E⟩ := bind_of E
        refine ww_callI C (runs_V (n := 1) (st := [.int u22.1]) C [.int (xs (x3 + (1 : Int32)).toNatClampNeg)] (M_X10_fault l G ad N hG x2 (xs (x3 + (1 : Int32)).toNatClampNeg) u22.2 Tx2 e_25) ⟨q1621, q118, by decide⟩ q1618 q1619 q1620 (ci := 10) rfl Tx2 rfl (Nat.le_of_ble_eq_true rfl) ⟨Nat.le_of_ble_eq_true rfl, Nat.le_of_ble_eq_true rfl⟩ ⟨Nat.le_of_ble_eq_true rfl, Nat.le_of_ble_eq_true rfl⟩ dL_law_335 rfl) ?_
        refine ww_icmp_eq (tgt := 1568) C dL_law_338 (by decide) E (fun _ E => ?_) (fun _ E => ?_)
        · refine ww_iinc (v := (x3 + (7 : Int32))) (lv' := [(3, .int (x3 + (7 : Int32))), (0, .ref b), (1, .ref (ad x1)), (2, .ref (ad x2))]) C dL_law_1568 3 rfl rfl (by decide) rfl ?_
          refine ww_goto (tgt := 18) C dL_law_1571 (by decide) ?_
          refine ww_sub (lv' := [(0, .ref b), (1, .ref (ad x1)), (2, .ref (ad x2)), (3, .int (x3 + (7 : Int32)))]) [1, 2, 3, 0] rfl ?_
          exact ih x1 x2 (x3 + (7 : Int32)) u24.2 Tx1 Tx2 E
        · refine ww_iconst (v := 0) C dL_law_341 (by decide) ?_
          cases E
      rw [if_neg s_21] at E
      by_cases s_26 : ((xs x3.toNatClampNeg) &&& (63 : Int32)) = (5 : Int32)
      · rw [if_pos s_26] at E
        refine ww_tabIn (tgt := 343) C dL_law_33 s_26 (by decide) (by decide) rfl (by decide) ?_
        refine ww_aload_n C dL_law_343 rfl 1 rfl ?_
        refine ww_aload_n C dL_law_344 rfl 0 rfl ?_
        refine ww_iload_n C dL_law_345 rfl 3 rfl ?_
        refine ww_iconst (v := 1) C dL_law_346 (by decide) ?_
        refine ww_iadd C dL_law_347 ?_
        refine ww_sld C hX hbl hbA dL_law_348 E (fun _ E => ?_)
        refine ww_aload_n C dL_law_349 rfl 0 rfl ?_
        refine ww_iload_n C dL_law_350 rfl 3 rfl ?_
        refine ww_iconst (v := 2) C dL_law_351 (by decide) ?_
        refine ww_iadd C dL_law_352 ?_
        refine ww_sld C hX hbl hbA dL_law_353 E (fun _ E => ?_)
        obtain ⟨u27, e_28, E⟩ := bind_of E
        refine ww_callI C (runs_V (n := 2) (st := []) C [.int (xs (x3 + (1 : Int32)).toNatClampNeg), .int (xs (x3 + (2 : Int32)).toNatClampNeg)] (M_X9_about l G ad N hG x1 (xs (x3 + (1 : Int32)).toNatClampNeg) (xs (x3 + (2 : Int32)).toNatClampNeg) dy Tx1 e_28) ⟨q880, q108, by decide⟩ q877 q878 q879 (ci := 9) rfl Tx1 rfl (Nat.le_of_ble_eq_true rfl) ⟨Nat.le_of_ble_eq_true rfl, Nat.le_of_ble_eq_true rfl⟩ ⟨Nat.le_of_ble_eq_true rfl, Nat.le_of_ble_eq_true rfl⟩ dL_law_354 rfl) ?_
        refine ww_aload_n C dL_law_357 rfl 2 rfl ?_
        refine ww_aload_n C dL_law_358 rfl 0 rfl ?_
        refine ww_iload_n C dL_law_359 rfl 3 rfl ?_
        refine ww_iconst (v := 1) C dL_law_360 (by decide) ?_
        refine ww_iadd C dL_law_361 ?_
        refine ww_sld C hX hbl hbA dL_law_362 E (fun _ E => ?_)
        refine ww_aload_n C dL_law_363 rfl 0 rfl ?_
        refine ww_iload_n C dL_law_364 rfl 3 rfl ?_
        refine ww_iconst (v := 2) C dL_law_365 (by decide) ?_
        refine ww_iadd C dL_law_366 ?_
        refine ww_sld C hX hbl hbA dL_law_367 E (fun _ E => ?_)
        obtain ⟨u29, e_30, E⟩ := bind_of E
        refine ww_callI C (runs_V (n := 2) (st := [.int u27.1]) C [.int (xs (x3 + (1 : Int32)).toNatClampNeg), .int (xs (x3 + (2 : Int32)).toNatClampNeg)] (M_X10_about l G ad N hG x2 (xs (x3 + (1 : Int32)).toNatClampNeg) (xs (x3 + (2 : Int32)).toNatClampNeg) u27.2 Tx2 e_30) ⟨q1625, q118, by decide⟩ q1622 q1623 q1624 (ci := 10) rfl Tx2 rfl (Nat.le_of_ble_eq_true rfl) ⟨Nat.le_of_ble_eq_true rfl, Nat.le_of_ble_eq_true rfl⟩ ⟨Nat.le_of_ble_eq_true rfl, Nat.le_of_ble_eq_true rfl⟩ dL_law_368 rfl) ?_
        refine ww_icmp_eq (tgt := 1568) C dL_law_371 (by decide) E (fun _ E => ?_) (fun _ E => ?_)
        · refine ww_iinc (v := (x3 + (7 : Int32))) (lv' := [(3, .int (x3 + (7 : Int32))), (0, .ref b), (1, .ref (ad x1)), (2, .ref (ad x2))]) C dL_law_1568 3 rfl rfl (by decide) rfl ?_
          refine ww_goto (tgt := 18) C dL_law_1571 (by decide) ?_
          refine ww_sub (lv' := [(0, .ref b), (1, .ref (ad x1)), (2, .ref (ad x2)), (3, .int (x3 + (7 : Int32)))]) [1, 2, 3, 0] rfl ?_
          exact ih x1 x2 (x3 + (7 : Int32)) u29.2 Tx1 Tx2 E
        · refine ww_iconst (v := 0) C dL_law_374 (by decide) ?_
          cases E
      rw [if_neg s_26] at E
      by_cases s_31 : ((xs x3.toNatClampNeg) &&& (63 : Int32)) = (6 : Int32)
      · rw [if_pos s_31] at E
        refine ww_tabIn (tgt := 376) C dL_law_33 s_31 (by decide) (by decide) rfl (by decide) ?_
        refine ww_aload_n C dL_law_376 rfl 1 rfl ?_
        refine ww_aload_n C dL_law_377 rfl 0 rfl ?_
        refine ww_iload_n C dL_law_378 rfl 3 rfl ?_
        refine ww_iconst (v := 1) C dL_law_379 (by decide) ?_
        refine ww_iadd C dL_law_380 ?_
        refine ww_sld C hX hbl hbA dL_law_381 E (fun _ E => ?_)
        refine ww_aload_n C dL_law_382 rfl 0 rfl ?_
        refine ww_iload_n C dL_law_383 rfl 3 rfl ?_
        refine ww_iconst (v := 2) C dL_law_384 (by decide) ?_
        refine ww_iadd C dL_law_385 ?_
        refine ww_sld C hX hbl hbA dL_law_386 E (fun _ E => ?_)
        refine ww_aload_n C dL_law_387 rfl 0 rfl ?_
        refine ww_iload_n C dL_law_388 rfl 3 rfl ?_
        refine ww_iconst (v := 3) C dL_law_389 (by decide) ?_
        refine ww_iadd C dL_law_390 ?_
        refine ww_sld C hX hbl hbA dL_law_391 E (fun _ E => ?_)
        obtain ⟨u32, e_33, E⟩ := bind_of E
        refine ww_callI C (runs_V (n := 3) (st := []) C [.int (xs (x3 + (1 : Int32)).toNatClampNeg), .int (xs (x3 + (2 : Int32)).toNatClampNeg), .int (xs (x3 + (3 : Int32)).toNatClampNeg)] (M_X9_walker l G ad N hG x1 (xs (x3 + (1 : Int32)).toNatClampNeg) (xs (x3 + (2 : Int32)).toNatClampNeg) (xs (x3 + (3 : Int32)).toNatClampNeg) dy Tx1 e_33) ⟨q888, q108, by decide⟩ q885 q886 q887 (ci := 9) rfl Tx1 rfl (Nat.le_of_ble_eq_true rfl) ⟨Nat.le_of_ble_eq_true rfl, Nat.le_of_ble_eq_true rfl⟩ ⟨Nat.le_of_ble_eq_true rfl, Nat.le_of_ble_eq_true rfl⟩ dL_law_392 rfl) ?_
        refine ww_aload_n C dL_law_395 rfl 2 rfl ?_
        refine ww_aload_n C dL_law_396 rfl 0 rfl ?_
        refine ww_iload_n C dL_law_397 rfl 3 rfl ?_
        refine ww_iconst (v := 1) C dL_law_398 (by decide) ?_
        refine ww_iadd C dL_law_399 ?_
        refine ww_sld C hX hbl hbA dL_law_400 E (fun _ E => ?_)
        refine ww_aload_n C dL_law_401 rfl 0 rfl ?_
        refine ww_iload_n C dL_law_402 rfl 3 rfl ?_
        refine ww_iconst (v := 2) C dL_law_403 (by decide) ?_
        refine ww_iadd C dL_law_404 ?_
        refine ww_sld C hX hbl hbA dL_law_405 E (fun _ E => ?_)
        refine ww_aload_n C dL_law_406 rfl 0 rfl ?_
        refine ww_iload_n C dL_law_407 rfl 3 rfl ?_
        refine ww_iconst (v := 3) C dL_law_408 (by decide) ?_
        refine ww_iadd C dL_law_409 ?_
        refine ww_sld C hX hbl hbA dL_law_410 E (fun _ E => ?_)
        obtain ⟨u34, e_35, E⟩ := bind_of E
        refine ww_callI C (runs_V (n := 3) (st := [.int u32.1]) C [.int (xs (x3 + (1 : Int32)).toNatClampNeg), .int (xs (x3 + (2 : Int32)).toNatClampNeg), .int (xs (x3 + (3 : Int32)).toNatClampNeg)] (M_X10_walker l G ad N hG x2 (xs (x3 + (1 : Int32)).toNatClampNeg) (xs (x3 + (2 : Int32)).toNatClampNeg) (xs (x3 + (3 : Int32)).toNatClampNeg) u32.2 Tx2 e_35) ⟨q1629, q118, by decide⟩ q1626 q1627 q1628 (ci := 10) rfl Tx2 rfl (Nat.le_of_ble_eq_true rfl) ⟨Nat.le_of_ble_eq_true rfl, Nat.le_of_ble_eq_true rfl⟩ ⟨Nat.le_of_ble_eq_true rfl, Nat.le_of_ble_eq_true rfl⟩ dL_law_411 rfl) ?_
        refine ww_icmp_eq (tgt := 1568) C dL_law_414 (by decide) E (fun _ E => ?_) (fun _ E => ?_)
        · refine ww_iinc (v := (x3 + (7 : Int32))) (lv' := [(3, .int (x3 + (7 : Int32))), (0, .ref b), (1, .ref (ad x1)), (2, .ref (ad x2))]) C dL_law_1568 3 rfl rfl (by decide) rfl ?_
          refine ww_goto (tgt := 18) C dL_law_1571 (by decide) ?_
          refine ww_sub (lv' := [(0, .ref b), (1, .ref (ad x1)), (2, .ref (ad x2)), (3, .int (x3 + (7 : Int32)))]) [1, 2, 3, 0] rfl ?_
          exact ih x1 x2 (x3 + (7 : Int32)) u34.2 Tx1 Tx2 E
        · refine ww_iconst (v := 0) C dL_law_417 (by decide) ?_
          cases E
      rw [if_neg s_31] at E
      by_cases s_36 : ((xs x3.toNatClampNeg) &&& (63 : Int32)) = (7 : Int32)
      · rw [if_pos s_36] at E
        refine ww_tabIn (tgt := 419) C dL_law_33 s_36 (by decide) (by decide) rfl (by decide) ?_
        refine ww_aload_n C dL_law_419 rfl 1 rfl ?_
        refine ww_aload_n C dL_law_420 rfl 0 rfl ?_
        refine ww_iload_n C dL_law_421 rfl 3 rfl ?_
        refine ww_iconst (v := 1) C dL_law_422 (by decide) ?_
        refine ww_iadd C dL_law_423 ?_
        refine ww_sld C hX hbl hbA dL_law_424 E (fun _ E => ?_)
        obtain ⟨u37, e_38, E⟩ := bind_of E
        refine ww_callI C (runs_V (n := 1) (st := []) C [.int (xs (x3 + (1 : Int32)).toNatClampNeg)] (M_X9_rules l G ad N hG x1 (xs (x3 + (1 : Int32)).toNatClampNeg) dy Tx1 e_38) ⟨q893, q108, by decide⟩ q890 q891 q892 (ci := 9) rfl Tx1 rfl (Nat.le_of_ble_eq_true rfl) ⟨Nat.le_of_ble_eq_true rfl, Nat.le_of_ble_eq_true rfl⟩ ⟨Nat.le_of_ble_eq_true rfl, Nat.le_of_ble_eq_true rfl⟩ dL_law_425 rfl) ?_
        refine ww_aload_n C dL_law_428 rfl 2 rfl ?_
        refine ww_aload_n C dL_law_429 rfl 0 rfl ?_
        refine ww_iload_n C dL_law_430 rfl 3 rfl ?_
        refine ww_iconst (v := 1) C dL_law_431 (by decide) ?_
        refine ww_iadd C dL_law_432 ?_
        refine ww_sld C hX hbl hbA dL_law_433 E (fun _ E => ?_)
        obtain ⟨u39, e_40, E⟩ := bind_of E
        refine ww_callI C (runs_V (n := 1) (st := [.int u37.1]) C [.int (xs (x3 + (1 : Int32)).toNatClampNeg)] (M_X10_rules l G ad N hG x2 (xs (x3 + (1 : Int32)).toNatClampNeg) u37.2 Tx2 e_40) ⟨q1633, q118, by decide⟩ q1630 q1631 q1632 (ci := 10) rfl Tx2 rfl (Nat.le_of_ble_eq_true rfl) ⟨Nat.le_of_ble_eq_true rfl, Nat.le_of_ble_eq_true rfl⟩ ⟨Nat.le_of_ble_eq_true rfl, Nat.le_of_ble_eq_true rfl⟩ dL_law_434 rfl) ?_
        refine ww_icmp_eq (tgt := 1568) C dL_law_437 (by decide) E (fun _ E => ?_) (fun _ E => ?_)
        · refine ww_iinc (v := (x3 + (7 : Int32))) (lv' := [(3, .int (x3 + (7 : Int32))), (0, .ref b), (1, .ref (ad x1)), (2, .ref (ad x2))]) C dL_law_1568 3 rfl rfl (by decide) rfl ?_
          refine ww_goto (tgt := 18) C dL_law_1571 (by decide) ?_
          refine ww_sub (lv' := [(0, .ref b), (1, .ref (ad x1)), (2, .ref (ad x2)), (3, .int (x3 + (7 : Int32)))]) [1, 2, 3, 0] rfl ?_
          exact ih x1 x2 (x3 + (7 : Int32)) u39.2 Tx1 Tx2 E
        · refine ww_iconst (v := 0) C dL_law_440 (by decide) ?_
          cases E
      rw [if_neg s_36] at E
      by_cases s_41 : ((xs x3.toNatClampNeg) &&& (63 : Int32)) = (8 : Int32)
      · rw [if_pos s_41] at E
        refine ww_tabIn (tgt := 442) C dL_law_33 s_41 (by decide) (by decide) rfl (by decide) ?_
        refine ww_aload_n C dL_law_442 rfl 1 rfl ?_
        refine ww_aload_n C dL_law_443 rfl 0 rfl ?_
        refine ww_iload_n C dL_law_444 rfl 3 rfl ?_
        refine ww_iconst (v := 1) C dL_law_445 (by decide) ?_
        refine ww_iadd C dL_law_446 ?_
        refine ww_sld C hX hbl hbA dL_law_447 E (fun _ E => ?_)
        refine ww_aload_n C dL_law_448 rfl 0 rfl ?_
        refine ww_iload_n C dL_law_449 rfl 3 rfl ?_
        refine ww_iconst (v := 2) C dL_law_450 (by decide) ?_
        refine ww_iadd C dL_law_451 ?_
        refine ww_sld C hX hbl hbA dL_law_452 E (fun _ E => ?_)
        refine ww_aload_n C dL_law_453 rfl 0 rfl ?_
        refine ww_iload_n C dL_law_454 rfl 3 rfl ?_
        refine ww_iconst (v := 3) C dL_law_455 (by decide) ?_
        refine ww_iadd C dL_law_456 ?_
        refine ww_sld C hX hbl hbA dL_law_457 E (fun _ E => ?_)
        obtain ⟨u42, e_43, E⟩ := bind_of E
        refine ww_callI C (runs_V (n := 3) (st := []) C [.int (xs (x3 + (1 : Int32)).toNatClampNeg), .int (xs (x3 + (2 : Int32)).toNatClampNeg), .int (xs (x3 + (3 : Int32)).toNatClampNeg)] (M_X9_run l G ad N hG x1 (xs (x3 + (1 : Int32)).toNatClampNeg) (xs (x3 + (2 : Int32)).toNatClampNeg) (xs (x3 + (3 : Int32)).toNatClampNeg) dy Tx1 e_43) ⟨q901, q108, by decide⟩ q898 q899 q900 (ci := 9) rfl Tx1 rfl (Nat.le_of_ble_eq_true rfl) ⟨Nat.le_of_ble_eq_true rfl, Nat.le_of_ble_eq_true rfl⟩ ⟨Nat.le_of_ble_eq_true rfl, Nat.le_of_ble_eq_true rfl⟩ dL_law_458 rfl) ?_
        refine ww_aload_n C dL_law_461 rfl 2 rfl ?_
        refine ww_aload_n C dL_law_462 rfl 0 rfl ?_
        refine ww_iload_n C dL_law_463 rfl 3 rfl ?_
        refine ww_iconst (v := 1) C dL_law_464 (by decide) ?_
        refine ww_iadd C dL_law_465 ?_
        refine ww_sld C hX hbl hbA dL_law_466 E (fun _ E => ?_)
        refine ww_aload_n C dL_law_467 rfl 0 rfl ?_
        refine ww_iload_n C dL_law_468 rfl 3 rfl ?_
        refine ww_iconst (v := 2) C dL_law_469 (by decide) ?_
        refine ww_iadd C dL_law_470 ?_
        refine ww_sld C hX hbl hbA dL_law_471 E (fun _ E => ?_)
        refine ww_aload_n C dL_law_472 rfl 0 rfl ?_
        refine ww_iload_n C dL_law_473 rfl 3 rfl ?_
        refine ww_iconst (v := 3) C dL_law_474 (by decide) ?_
        refine ww_iadd C dL_law_475 ?_
        refine ww_sld C hX hbl hbA dL_law_476 E (fun _ E => ?_)
        obtain ⟨u44, e_45, E⟩ := bind_of E
        refine ww_callI C (runs_V (n := 3) (st := [.int u42.1]) C [.int (xs (x3 + (1 : Int32)).toNatClampNeg), .int (xs (x3 + (2 : Int32)).toNatClampNeg), .int (xs (x3 + (3 : Int32)).toNatClampNeg)] (M_X10_run l G ad N hG x2 (xs (x3 + (1 : Int32)).toNatClampNeg) (xs (x3 + (2 : Int32)).toNatClampNeg) (xs (x3 + (3 : Int32)).toNatClampNeg) u42.2 Tx2 e_45) ⟨q1637, q118, by decide⟩ q1634 q1635 q1636 (ci := 10) rfl Tx2 rfl (Nat.le_of_ble_eq_true rfl) ⟨Nat.le_of_ble_eq_true rfl, Nat.le_of_ble_eq_true rfl⟩ ⟨Nat.le_of_ble_eq_true rfl, Nat.le_of_ble_eq_true rfl⟩ dL_law_477 rfl) ?_
        refine ww_icmp_eq (tgt := 1568) C dL_law_480 (by decide) E (fun _ E => ?_) (fun _ E => ?_)
        · refine ww_iinc (v := (x3 + (7 : Int32))) (lv' := [(3, .int (x3 + (7 : Int32))), (0, .ref b), (1, .ref (ad x1)), (2, .ref (ad x2))]) C dL_law_1568 3 rfl rfl (by decide) rfl ?_
          refine ww_goto (tgt := 18) C dL_law_1571 (by decide) ?_
          refine ww_sub (lv' := [(0, .ref b), (1, .ref (ad x1)), (2, .ref (ad x2)), (3, .int (x3 + (7 : Int32)))]) [1, 2, 3, 0] rfl ?_
          exact ih x1 x2 (x3 + (7 : Int32)) u44.2 Tx1 Tx2 E
        · refine ww_iconst (v := 0) C dL_law_483 (by decide) ?_
          cases E
      rw [if_neg s_41] at E
      by_cases s_46 : ((xs x3.toNatClampNeg) &&& (63 : Int32)) = (9 : Int32)
      · rw [if_pos s_46] at E
        refine ww_tabIn (tgt := 485) C dL_law_33 s_46 (by decide) (by decide) rfl (by decide) ?_
        refine ww_aload_n C dL_law_485 rfl 1 rfl ?_
        refine ww_aload_n C dL_law_486 rfl 0 rfl ?_
        refine ww_iload_n C dL_law_487 rfl 3 rfl ?_
        refine ww_iconst (v := 1) C dL_law_488 (by decide) ?_
        refine ww_iadd C dL_law_489 ?_
        refine ww_sld C hX hbl hbA dL_law_490 E (fun _ E => ?_)
        obtain ⟨u47, e_48, E⟩ := bind_of E
        refine ww_callI C (runs_V (n := 1) (st := []) C [.int (xs (x3 + (1 : Int32)).toNatClampNeg)] (M_X9_go l G ad N hG x1 (xs (x3 + (1 : Int32)).toNatClampNeg) dy Tx1 e_48) ⟨q919, q108, by decide⟩ q916 q917 q918 (ci := 9) rfl Tx1 rfl (Nat.le_of_ble_eq_true rfl) ⟨Nat.le_of_ble_eq_true rfl, Nat.le_of_ble_eq_true rfl⟩ ⟨Nat.le_of_ble_eq_true rfl, Nat.le_of_ble_eq_true rfl⟩ dL_law_491 rfl) ?_
        refine ww_aload_n C dL_law_494 rfl 2 rfl ?_
        refine ww_aload_n C dL_law_495 rfl 0 rfl ?_
        refine ww_iload_n C dL_law_496 rfl 3 rfl ?_
        refine ww_iconst (v := 1) C dL_law_497 (by decide) ?_
        refine ww_iadd C dL_law_498 ?_
        refine ww_sld C hX hbl hbA dL_law_499 E (fun _ E => ?_)
        obtain ⟨u49, e_50, E⟩ := bind_of E
        refine ww_callI C (runs_V (n := 1) (st := [.int u47.1]) C [.int (xs (x3 + (1 : Int32)).toNatClampNeg)] (M_X10_go l G ad N hG x2 (xs (x3 + (1 : Int32)).toNatClampNeg) u47.2 Tx2 e_50) ⟨q1648, q118, by decide⟩ q1645 q1646 q1647 (ci := 10) rfl Tx2 rfl (Nat.le_of_ble_eq_true rfl) ⟨Nat.le_of_ble_eq_true rfl, Nat.le_of_ble_eq_true rfl⟩ ⟨Nat.le_of_ble_eq_true rfl, Nat.le_of_ble_eq_true rfl⟩ dL_law_500 rfl) ?_
        refine ww_icmp_eq (tgt := 1568) C dL_law_503 (by decide) E (fun _ E => ?_) (fun _ E => ?_)
        · refine ww_iinc (v := (x3 + (7 : Int32))) (lv' := [(3, .int (x3 + (7 : Int32))), (0, .ref b), (1, .ref (ad x1)), (2, .ref (ad x2))]) C dL_law_1568 3 rfl rfl (by decide) rfl ?_
          refine ww_goto (tgt := 18) C dL_law_1571 (by decide) ?_
          refine ww_sub (lv' := [(0, .ref b), (1, .ref (ad x1)), (2, .ref (ad x2)), (3, .int (x3 + (7 : Int32)))]) [1, 2, 3, 0] rfl ?_
          exact ih x1 x2 (x3 + (7 : Int32)) u49.2 Tx1 Tx2 E
        · refine ww_iconst (v := 0) C dL_law_506 (by decide) ?_
          cases E
      rw [if_neg s_46] at E
      by_cases s_51 : ((xs x3.toNatClampNeg) &&& (63 : Int32)) = (10 : Int32)
      · rw [if_pos s_51] at E
        refine ww_tabIn (tgt := 508) C dL_law_33 s_51 (by decide) (by decide) rfl (by decide) ?_
        refine ww_aload_n C dL_law_508 rfl 1 rfl ?_
        refine ww_aload_n C dL_law_509 rfl 0 rfl ?_
        refine ww_iload_n C dL_law_510 rfl 3 rfl ?_
        refine ww_iconst (v := 1) C dL_law_511 (by decide) ?_
        refine ww_iadd C dL_law_512 ?_
        refine ww_sld C hX hbl hbA dL_law_513 E (fun _ E => ?_)
        refine ww_aload_n C dL_law_514 rfl 0 rfl ?_
        refine ww_iload_n C dL_law_515 rfl 3 rfl ?_
        refine ww_iconst (v := 2) C dL_law_516 (by decide) ?_
        refine ww_iadd C dL_law_517 ?_
        refine ww_sld C hX hbl hbA dL_law_518 E (fun _ E => ?_)
        obtain ⟨u52, e_53, E⟩ := bind_of E
        refine ww_callI C (runs_V (n := 2) (st := []) C [.int (xs (x3 + (1 : Int32)).toNatClampNeg), .int (xs (x3 + (2 : Int32)).toNatClampNeg)] (M_X9_ran l G ad N hG x1 (xs (x3 + (1 : Int32)).toNatClampNeg) (xs (x3 + (2 : Int32)).toNatClampNeg) dy Tx1 e_53) ⟨q1011, q108, by decide⟩ q1008 q1009 q1010 (ci := 9) rfl Tx1 rfl (Nat.le_of_ble_eq_true rfl) ⟨Nat.le_of_ble_eq_true rfl, Nat.le_of_ble_eq_true rfl⟩ ⟨Nat.le_of_ble_eq_true rfl, Nat.le_of_ble_eq_true rfl⟩ dL_law_519 rfl) ?_
        refine ww_aload_n C dL_law_522 rfl 2 rfl ?_
        refine ww_aload_n C dL_law_523 rfl 0 rfl ?_
        refine ww_iload_n C dL_law_524 rfl 3 rfl ?_
        refine ww_iconst (v := 1) C dL_law_525 (by decide) ?_
        refine ww_iadd C dL_law_526 ?_
        refine ww_sld C hX hbl hbA dL_law_527 E (fun _ E => ?_)
        refine ww_aload_n C dL_law_528 rfl 0 rfl ?_
        refine ww_iload_n C dL_law_529 rfl 3 rfl ?_
        refine ww_iconst (v := 2) C dL_law_530 (by decide) ?_
        refine ww_iadd C dL_law_531 ?_
        refine ww_sld C hX hbl hbA dL_law_532 E (fun _ E => ?_)
        obtain ⟨u54, e_55, E⟩ := bind_of E
        refine ww_callI C (runs_V (n := 2) (st := [.int u52.1]) C [.int (xs (x3 + (1 : Int32)).toNatClampNeg), .int (xs (x3 + (2 : Int32)).toNatClampNeg)] (M_X10_ran l G ad N hG x2 (xs (x3 + (1 : Int32)).toNatClampNeg) (xs (x3 + (2 : Int32)).toNatClampNeg) u52.2 Tx2 e_55) ⟨q1745, q118, by decide⟩ q1742 q1743 q1744 (ci := 10) rfl Tx2 rfl (Nat.le_of_ble_eq_true rfl) ⟨Nat.le_of_ble_eq_true rfl, Nat.le_of_ble_eq_true rfl⟩ ⟨Nat.le_of_ble_eq_true rfl, Nat.le_of_ble_eq_true rfl⟩ dL_law_533 rfl) ?_
        refine ww_icmp_eq (tgt := 1568) C dL_law_536 (by decide) E (fun _ E => ?_) (fun _ E => ?_)
        · refine ww_iinc (v := (x3 + (7 : Int32))) (lv' := [(3, .int (x3 + (7 : Int32))), (0, .ref b), (1, .ref (ad x1)), (2, .ref (ad x2))]) C dL_law_1568 3 rfl rfl (by decide) rfl ?_
          refine ww_goto (tgt := 18) C dL_law_1571 (by decide) ?_
          refine ww_sub (lv' := [(0, .ref b), (1, .ref (ad x1)), (2, .ref (ad x2)), (3, .int (x3 + (7 : Int32)))]) [1, 2, 3, 0] rfl ?_
          exact ih x1 x2 (x3 + (7 : Int32)) u54.2 Tx1 Tx2 E
        · refine ww_iconst (v := 0) C dL_law_539 (by decide) ?_
          cases E
      rw [if_neg s_51] at E
      by_cases s_56 : ((xs x3.toNatClampNeg) &&& (63 : Int32)) = (11 : Int32)
      · rw [if_pos s_56] at E
        refine ww_tabIn (tgt := 541) C dL_law_33 s_56 (by decide) (by decide) rfl (by decide) ?_
        refine ww_aload_n C dL_law_541 rfl 1 rfl ?_
        refine ww_aload_n C dL_law_542 rfl 0 rfl ?_
        refine ww_iload_n C dL_law_543 rfl 3 rfl ?_
        refine ww_iconst (v := 1) C dL_law_544 (by decide) ?_
        refine ww_iadd C dL_law_545 ?_
        refine ww_sld C hX hbl hbA dL_law_546 E (fun _ E => ?_)
        refine ww_aload_n C dL_law_547 rfl 0 rfl ?_
        refine ww_iload_n C dL_law_548 rfl 3 rfl ?_
        refine ww_iconst (v := 2) C dL_law_549 (by decide) ?_
        refine ww_iadd C dL_law_550 ?_
        refine ww_sld C hX hbl hbA dL_law_551 E (fun _ E => ?_)
        obtain ⟨u57, e_58, E⟩ := bind_of E
        refine ww_callI C (runs_V (n := 2) (st := []) C [.int (xs (x3 + (1 : Int32)).toNatClampNeg), .int (xs (x3 + (2 : Int32)).toNatClampNeg)] (M_X9_finds l G ad N hG x1 (xs (x3 + (1 : Int32)).toNatClampNeg) (xs (x3 + (2 : Int32)).toNatClampNeg) dy Tx1 e_58) ⟨q1015, q108, by decide⟩ q1012 q1013 q1014 (ci := 9) rfl Tx1 rfl (Nat.le_of_ble_eq_true rfl) ⟨Nat.le_of_ble_eq_true rfl, Nat.le_of_ble_eq_true rfl⟩ ⟨Nat.le_of_ble_eq_true rfl, Nat.le_of_ble_eq_true rfl⟩ dL_law_552 rfl) ?_
        refine ww_aload_n C dL_law_555 rfl 2 rfl ?_
        refine ww_aload_n C dL_law_556 rfl 0 rfl ?_
        refine ww_iload_n C dL_law_557 rfl 3 rfl ?_
        refine ww_iconst (v := 1) C dL_law_558 (by decide) ?_
        refine ww_iadd C dL_law_559 ?_
        refine ww_sld C hX hbl hbA dL_law_560 E (fun _ E => ?_)
        refine ww_aload_n C dL_law_561 rfl 0 rfl ?_
        refine ww_iload_n C dL_law_562 rfl 3 rfl ?_
        refine ww_iconst (v := 2) C dL_law_563 (by decide) ?_
        refine ww_iadd C dL_law_564 ?_
        refine ww_sld C hX hbl hbA dL_law_565 E (fun _ E => ?_)
        obtain ⟨u59, e_60, E⟩ := bind_of E
        refine ww_callI C (runs_V (n := 2) (st := [.int u57.1]) C [.int (xs (x3 + (1 : Int32)).toNatClampNeg), .int (xs (x3 + (2 : Int32)).toNatClampNeg)] (M_X10_finds l G ad N hG x2 (xs (x3 + (1 : Int32)).toNatClampNeg) (xs (x3 + (2 : Int32)).toNatClampNeg) u57.2 Tx2 e_60) ⟨q1753, q118, by decide⟩ q1750 q1751 q1752 (ci := 10) rfl Tx2 rfl (Nat.le_of_ble_eq_true rfl) ⟨Nat.le_of_ble_eq_true rfl, Nat.le_of_ble_eq_true rfl⟩ ⟨Nat.le_of_ble_eq_true rfl, Nat.le_of_ble_eq_true rfl⟩ dL_law_566 rfl) ?_
        refine ww_icmp_eq (tgt := 1568) C dL_law_569 (by decide) E (fun _ E => ?_) (fun _ E => ?_)
        · refine ww_iinc (v := (x3 + (7 : Int32))) (lv' := [(3, .int (x3 + (7 : Int32))), (0, .ref b), (1, .ref (ad x1)), (2, .ref (ad x2))]) C dL_law_1568 3 rfl rfl (by decide) rfl ?_
          refine ww_goto (tgt := 18) C dL_law_1571 (by decide) ?_
          refine ww_sub (lv' := [(0, .ref b), (1, .ref (ad x1)), (2, .ref (ad x2)), (3, .int (x3 + (7 : Int32)))]) [1, 2, 3, 0] rfl ?_
          exact ih x1 x2 (x3 + (7 : Int32)) u59.2 Tx1 Tx2 E
        · refine ww_iconst (v := 0) C dL_law_572 (by decide) ?_
          cases E
      rw [if_neg s_56] at E
      by_cases s_61 : ((xs x3.toNatClampNeg) &&& (63 : Int32)) = (12 : Int32)
      · rw [if_pos s_61] at E
        refine ww_tabIn (tgt := 574) C dL_law_33 s_61 (by decide) (by decide) rfl (by decide) ?_
        refine ww_aload_n C dL_law_574 rfl 1 rfl ?_
        refine ww_aload_n C dL_law_575 rfl 0 rfl ?_
        refine ww_iload_n C dL_law_576 rfl 3 rfl ?_
        refine ww_iconst (v := 1) C dL_law_577 (by decide) ?_
        refine ww_iadd C dL_law_578 ?_
        refine ww_sld C hX hbl hbA dL_law_579 E (fun _ E => ?_)
        obtain ⟨u62, e_63, E⟩ := bind_of E
        refine ww_callI C (runs_V (n := 1) (st := []) C [.int (xs (x3 + (1 : Int32)).toNatClampNeg)] (M_X9_does l G ad N hG x1 (xs (x3 + (1 : Int32)).toNatClampNeg) dy Tx1 e_63) ⟨q1021, q108, by decide⟩ q1018 q1019 q1020 (ci := 9) rfl Tx1 rfl (Nat.le_of_ble_eq_true rfl) ⟨Nat.le_of_ble_eq_true rfl, Nat.le_of_ble_eq_true rfl⟩ ⟨Nat.le_of_ble_eq_true rfl, Nat.le_of_ble_eq_true rfl⟩ dL_law_580 rfl) ?_
        refine ww_aload_n C dL_law_583 rfl 2 rfl ?_
        refine ww_aload_n C dL_law_584 rfl 0 rfl ?_
        refine ww_iload_n C dL_law_585 rfl 3 rfl ?_
        refine ww_iconst (v := 1) C dL_law_586 (by decide) ?_
        refine ww_iadd C dL_law_587 ?_
        refine ww_sld C hX hbl hbA dL_law_588 E (fun _ E => ?_)
        obtain ⟨u64, e_65, E⟩ := bind_of E
        refine ww_callI C (runs_V (n := 1) (st := [.int u62.1]) C [.int (xs (x3 + (1 : Int32)).toNatClampNeg)] (M_X10_does l G ad N hG x2 (xs (x3 + (1 : Int32)).toNatClampNeg) u62.2 Tx2 e_65) ⟨q1757, q118, by decide⟩ q1754 q1755 q1756 (ci := 10) rfl Tx2 rfl (Nat.le_of_ble_eq_true rfl) ⟨Nat.le_of_ble_eq_true rfl, Nat.le_of_ble_eq_true rfl⟩ ⟨Nat.le_of_ble_eq_true rfl, Nat.le_of_ble_eq_true rfl⟩ dL_law_589 rfl) ?_
        refine ww_icmp_eq (tgt := 1568) C dL_law_592 (by decide) E (fun _ E => ?_) (fun _ E => ?_)
        · refine ww_iinc (v := (x3 + (7 : Int32))) (lv' := [(3, .int (x3 + (7 : Int32))), (0, .ref b), (1, .ref (ad x1)), (2, .ref (ad x2))]) C dL_law_1568 3 rfl rfl (by decide) rfl ?_
          refine ww_goto (tgt := 18) C dL_law_1571 (by decide) ?_
          refine ww_sub (lv' := [(0, .ref b), (1, .ref (ad x1)), (2, .ref (ad x2)), (3, .int (x3 + (7 : Int32)))]) [1, 2, 3, 0] rfl ?_
          exact ih x1 x2 (x3 + (7 : Int32)) u64.2 Tx1 Tx2 E
        · refine ww_iconst (v := 0) C dL_law_595 (by decide) ?_
          cases E
      rw [if_neg s_61] at E
      by_cases s_66 : ((xs x3.toNatClampNeg) &&& (63 : Int32)) = (13 : Int32)
      · rw [if_pos s_66] at E
        refine ww_tabIn (tgt := 597) C dL_law_33 s_66 (by decide) (by decide) rfl (by decide) ?_
        refine ww_aload_n C dL_law_597 rfl 1 rfl ?_
        refine ww_aload_n C dL_law_598 rfl 0 rfl ?_
        refine ww_iload_n C dL_law_599 rfl 3 rfl ?_
        refine ww_iconst (v := 1) C dL_law_600 (by decide) ?_
        refine ww_iadd C dL_law_601 ?_
        refine ww_sld C hX hbl hbA dL_law_602 E (fun _ E => ?_)
        refine ww_aload_n C dL_law_603 rfl 0 rfl ?_
        refine ww_iload_n C dL_law_604 rfl 3 rfl ?_
        refine ww_iconst (v := 2) C dL_law_605 (by decide) ?_
        refine ww_iadd C dL_law_606 ?_
        refine ww_sld C hX hbl hbA dL_law_607 E (fun _ E => ?_)
        obtain ⟨u67, e_68, E⟩ := bind_of E
        refine ww_callI C (runs_V (n := 2) (st := []) C [.int (xs (x3 + (1 : Int32)).toNatClampNeg), .int (xs (x3 + (2 : Int32)).toNatClampNeg)] (M_X9_on l G ad N hG x1 (xs (x3 + (1 : Int32)).toNatClampNeg) (xs (x3 + (2 : Int32)).toNatClampNeg) dy Tx1 e_68) ⟨q1026, q108, by decide⟩ q1023 q1024 q1025 (ci := 9) rfl Tx1 rfl (Nat.le_of_ble_eq_true rfl) ⟨Nat.le_of_ble_eq_true rfl, Nat.le_of_ble_eq_true rfl⟩ ⟨Nat.le_of_ble_eq_true rfl, Nat.le_of_ble_eq_true rfl⟩ dL_law_608 rfl) ?_
        refine ww_aload_n C dL_law_611 rfl 2 rfl ?_
        refine ww_aload_n C dL_law_612 rfl 0 rfl ?_
        refine ww_iload_n C dL_law_613 rfl 3 rfl ?_
        refine ww_iconst (v := 1) C dL_law_614 (by decide) ?_
        refine ww_iadd C dL_law_615 ?_
        refine ww_sld C hX hbl hbA dL_law_616 E (fun _ E => ?_)
        refine ww_aload_n C dL_law_617 rfl 0 rfl ?_
        refine ww_iload_n C dL_law_618 rfl 3 rfl ?_
        refine ww_iconst (v := 2) C dL_law_619 (by decide) ?_
        refine ww_iadd C dL_law_620 ?_
        refine ww_sld C hX hbl hbA dL_law_621 E (fun _ E => ?_)
        obtain ⟨u69, e_70, E⟩ := bind_of E
        refine ww_callI C (runs_V (n := 2) (st := [.int u67.1]) C [.int (xs (x3 + (1 : Int32)).toNatClampNeg), .int (xs (x3 + (2 : Int32)).toNatClampNeg)] (M_X10_on l G ad N hG x2 (xs (x3 + (1 : Int32)).toNatClampNeg) (xs (x3 + (2 : Int32)).toNatClampNeg) u67.2 Tx2 e_70) ⟨q1761, q118, by decide⟩ q1758 q1759 q1760 (ci := 10) rfl Tx2 rfl (Nat.le_of_ble_eq_true rfl) ⟨Nat.le_of_ble_eq_true rfl, Nat.le_of_ble_eq_true rfl⟩ ⟨Nat.le_of_ble_eq_true rfl, Nat.le_of_ble_eq_true rfl⟩ dL_law_622 rfl) ?_
        refine ww_icmp_eq (tgt := 1568) C dL_law_625 (by decide) E (fun _ E => ?_) (fun _ E => ?_)
        · refine ww_iinc (v := (x3 + (7 : Int32))) (lv' := [(3, .int (x3 + (7 : Int32))), (0, .ref b), (1, .ref (ad x1)), (2, .ref (ad x2))]) C dL_law_1568 3 rfl rfl (by decide) rfl ?_
          refine ww_goto (tgt := 18) C dL_law_1571 (by decide) ?_
          refine ww_sub (lv' := [(0, .ref b), (1, .ref (ad x1)), (2, .ref (ad x2)), (3, .int (x3 + (7 : Int32)))]) [1, 2, 3, 0] rfl ?_
          exact ih x1 x2 (x3 + (7 : Int32)) u69.2 Tx1 Tx2 E
        · refine ww_iconst (v := 0) C dL_law_628 (by decide) ?_
          cases E
      rw [if_neg s_66] at E
      by_cases s_71 : ((xs x3.toNatClampNeg) &&& (63 : Int32)) = (14 : Int32)
      · rw [if_pos s_71] at E
        refine ww_tabIn (tgt := 630) C dL_law_33 s_71 (by decide) (by decide) rfl (by decide) ?_
        refine ww_aload_n C dL_law_630 rfl 1 rfl ?_
        refine ww_aload_n C dL_law_631 rfl 0 rfl ?_
        refine ww_iload_n C dL_law_632 rfl 3 rfl ?_
        refine ww_iconst (v := 1) C dL_law_633 (by decide) ?_
        refine ww_iadd C dL_law_634 ?_
        refine ww_sld C hX hbl hbA dL_law_635 E (fun _ E => ?_)
        obtain ⟨u72, e_73, E⟩ := bind_of E
        refine ww_callI C (runs_V (n := 1) (st := []) C [.int (xs (x3 + (1 : Int32)).toNatClampNeg)] (M_X9_state l G ad N hG x1 (xs (x3 + (1 : Int32)).toNatClampNeg) dy Tx1 e_73) ⟨q1032, q108, by decide⟩ q1029 q1030 q1031 (ci := 9) rfl Tx1 rfl (Nat.le_of_ble_eq_true rfl) ⟨Nat.le_of_ble_eq_true rfl, Nat.le_of_ble_eq_true rfl⟩ ⟨Nat.le_of_ble_eq_true rfl, Nat.le_of_ble_eq_true rfl⟩ dL_law_636 rfl) ?_
        refine ww_aload_n C dL_law_639 rfl 2 rfl ?_
        refine ww_aload_n C dL_law_640 rfl 0 rfl ?_
        refine ww_iload_n C dL_law_641 rfl 3 rfl ?_
        refine ww_iconst (v := 1) C dL_law_642 (by decide) ?_
        refine ww_iadd C dL_law_643 ?_
        refine ww_sld C hX hbl hbA dL_law_644 E (fun _ E => ?_)
        obtain ⟨u74, e_75, E⟩ := bind_of E
        refine ww_callI C (runs_V (n := 1) (st := [.int u72.1]) C [.int (xs (x3 + (1 : Int32)).toNatClampNeg)] (M_X10_state l G ad N hG x2 (xs (x3 + (1 : Int32)).toNatClampNeg) u72.2 Tx2 e_75) ⟨q1765, q118, by decide⟩ q1762 q1763 q1764 (ci := 10) rfl Tx2 rfl (Nat.le_of_ble_eq_true rfl) ⟨Nat.le_of_ble_eq_true rfl, Nat.le_of_ble_eq_true rfl⟩ ⟨Nat.le_of_ble_eq_true rfl, Nat.le_of_ble_eq_true rfl⟩ dL_law_645 rfl) ?_
        refine ww_icmp_eq (tgt := 1568) C dL_law_648 (by decide) E (fun _ E => ?_) (fun _ E => ?_)
        · refine ww_iinc (v := (x3 + (7 : Int32))) (lv' := [(3, .int (x3 + (7 : Int32))), (0, .ref b), (1, .ref (ad x1)), (2, .ref (ad x2))]) C dL_law_1568 3 rfl rfl (by decide) rfl ?_
          refine ww_goto (tgt := 18) C dL_law_1571 (by decide) ?_
          refine ww_sub (lv' := [(0, .ref b), (1, .ref (ad x1)), (2, .ref (ad x2)), (3, .int (x3 + (7 : Int32)))]) [1, 2, 3, 0] rfl ?_
          exact ih x1 x2 (x3 + (7 : Int32)) u74.2 Tx1 Tx2 E
        · refine ww_iconst (v := 0) C dL_law_651 (by decide) ?_
          cases E
      rw [if_neg s_71] at E
      by_cases s_76 : ((xs x3.toNatClampNeg) &&& (63 : Int32)) = (15 : Int32)
      · rw [if_pos s_76] at E
        refine ww_tabIn (tgt := 653) C dL_law_33 s_76 (by decide) (by decide) rfl (by decide) ?_
        refine ww_aload_n C dL_law_653 rfl 1 rfl ?_
        refine ww_aload_n C dL_law_654 rfl 0 rfl ?_
        refine ww_iload_n C dL_law_655 rfl 3 rfl ?_
        refine ww_iconst (v := 1) C dL_law_656 (by decide) ?_
        refine ww_iadd C dL_law_657 ?_
        refine ww_sld C hX hbl hbA dL_law_658 E (fun _ E => ?_)
        refine ww_aload_n C dL_law_659 rfl 0 rfl ?_
        refine ww_iload_n C dL_law_660 rfl 3 rfl ?_
        refine ww_iconst (v := 2) C dL_law_661 (by decide) ?_
        refine ww_iadd C dL_law_662 ?_
        refine ww_sld C hX hbl hbA dL_law_663 E (fun _ E => ?_)
        obtain ⟨u77, e_78, E⟩ := bind_of E
        refine ww_callI C (runs_V (n := 2) (st := []) C [.int (xs (x3 + (1 : Int32)).toNatClampNeg), .int (xs (x3 + (2 : Int32)).toNatClampNeg)] (M_X9_door l G ad N hG x1 (xs (x3 + (1 : Int32)).toNatClampNeg) (xs (x3 + (2 : Int32)).toNatClampNeg) dy Tx1 e_78) ⟨q1048, q108, by decide⟩ q1045 q1046 q1047 (ci := 9) rfl Tx1 rfl (Nat.le_of_ble_eq_true rfl) ⟨Nat.le_of_ble_eq_true rfl, Nat.le_of_ble_eq_true rfl⟩ ⟨Nat.le_of_ble_eq_true rfl, Nat.le_of_ble_eq_true rfl⟩ dL_law_664 rfl) ?_
        refine ww_aload_n C dL_law_667 rfl 2 rfl ?_
        refine ww_aload_n C dL_law_668 rfl 0 rfl ?_
        refine ww_iload_n C dL_law_669 rfl 3 rfl ?_
        refine ww_iconst (v := 1) C dL_law_670 (by decide) ?_
        refine ww_iadd C dL_law_671 ?_
        refine ww_sld C hX hbl hbA dL_law_672 E (fun _ E => ?_)
        refine ww_aload_n C dL_law_673 rfl 0 rfl ?_
        refine ww_iload_n C dL_law_674 rfl 3 rfl ?_
        refine ww_iconst (v := 2) C dL_law_675 (by decide) ?_
        refine ww_iadd C dL_law_676 ?_
        refine ww_sld C hX hbl hbA dL_law_677 E (fun _ E => ?_)
        obtain ⟨u79, e_80, E⟩ := bind_of E
        refine ww_callI C (runs_V (n := 2) (st := [.int u77.1]) C [.int (xs (x3 + (1 : Int32)).toNatClampNeg), .int (xs (x3 + (2 : Int32)).toNatClampNeg)] (M_X10_door l G ad N hG x2 (xs (x3 + (1 : Int32)).toNatClampNeg) (xs (x3 + (2 : Int32)).toNatClampNeg) u77.2 Tx2 e_80) ⟨q1777, q118, by decide⟩ q1774 q1775 q1776 (ci := 10) rfl Tx2 rfl (Nat.le_of_ble_eq_true rfl) ⟨Nat.le_of_ble_eq_true rfl, Nat.le_of_ble_eq_true rfl⟩ ⟨Nat.le_of_ble_eq_true rfl, Nat.le_of_ble_eq_true rfl⟩ dL_law_678 rfl) ?_
        refine ww_icmp_eq (tgt := 1568) C dL_law_681 (by decide) E (fun _ E => ?_) (fun _ E => ?_)
        · refine ww_iinc (v := (x3 + (7 : Int32))) (lv' := [(3, .int (x3 + (7 : Int32))), (0, .ref b), (1, .ref (ad x1)), (2, .ref (ad x2))]) C dL_law_1568 3 rfl rfl (by decide) rfl ?_
          refine ww_goto (tgt := 18) C dL_law_1571 (by decide) ?_
          refine ww_sub (lv' := [(0, .ref b), (1, .ref (ad x1)), (2, .ref (ad x2)), (3, .int (x3 + (7 : Int32)))]) [1, 2, 3, 0] rfl ?_
          exact ih x1 x2 (x3 + (7 : Int32)) u79.2 Tx1 Tx2 E
        · refine ww_iconst (v := 0) C dL_law_684 (by decide) ?_
          cases E
      rw [if_neg s_76] at E
      by_cases s_81 : ((xs x3.toNatClampNeg) &&& (63 : Int32)) = (16 : Int32)
      · rw [if_pos s_81] at E
        refine ww_tabIn (tgt := 686) C dL_law_33 s_81 (by decide) (by decide) rfl (by decide) ?_
        refine ww_aload_n C dL_law_686 rfl 1 rfl ?_
        refine ww_aload_n C dL_law_687 rfl 0 rfl ?_
        refine ww_iload_n C dL_law_688 rfl 3 rfl ?_
        refine ww_iconst (v := 1) C dL_law_689 (by decide) ?_
        refine ww_iadd C dL_law_690 ?_
        refine ww_sld C hX hbl hbA dL_law_691 E (fun _ E => ?_)
        refine ww_aload_n C dL_law_692 rfl 0 rfl ?_
        refine ww_iload_n C dL_law_693 rfl 3 rfl ?_
        refine ww_iconst (v := 2) C dL_law_694 (by decide) ?_
        refine ww_iadd C dL_law_695 ?_
        refine ww_sld C hX hbl hbA dL_law_696 E (fun _ E => ?_)
        refine ww_aload_n C dL_law_697 rfl 0 rfl ?_
        refine ww_iload_n C dL_law_698 rfl 3 rfl ?_
        refine ww_iconst (v := 3) C dL_law_699 (by decide) ?_
        refine ww_iadd C dL_law_700 ?_
        refine ww_sld C hX hbl hbA dL_law_701 E (fun _ E => ?_)
        refine ww_aload_n C dL_law_702 rfl 0 rfl ?_
        refine ww_iload_n C dL_law_703 rfl 3 rfl ?_
        refine ww_iconst (v := 4) C dL_law_704 (by decide) ?_
        refine ww_iadd C dL_law_705 ?_
        refine ww_sld C hX hbl hbA dL_law_706 E (fun _ E => ?_)
        obtain ⟨u82, e_83, E⟩ := bind_of E
        refine ww_callI C (runs_V (n := 4) (st := []) C [.int (xs (x3 + (1 : Int32)).toNatClampNeg), .int (xs (x3 + (2 : Int32)).toNatClampNeg), .int (xs (x3 + (3 : Int32)).toNatClampNeg), .int (xs (x3 + (4 : Int32)).toNatClampNeg)] (M_X9_two l G ad N hG x1 (xs (x3 + (1 : Int32)).toNatClampNeg) (xs (x3 + (2 : Int32)).toNatClampNeg) (xs (x3 + (3 : Int32)).toNatClampNeg) (xs (x3 + (4 : Int32)).toNatClampNeg) dy Tx1 e_83) ⟨q1056, q108, by decide⟩ q1053 q1054 q1055 (ci := 9) rfl Tx1 rfl (Nat.le_of_ble_eq_true rfl) ⟨Nat.le_of_ble_eq_true rfl, Nat.le_of_ble_eq_true rfl⟩ ⟨Nat.le_of_ble_eq_true rfl, Nat.le_of_ble_eq_true rfl⟩ dL_law_707 rfl) ?_
        refine ww_aload_n C dL_law_710 rfl 2 rfl ?_
        refine ww_aload_n C dL_law_711 rfl 0 rfl ?_
        refine ww_iload_n C dL_law_712 rfl 3 rfl ?_
        refine ww_iconst (v := 1) C dL_law_713 (by decide) ?_
        refine ww_iadd C dL_law_714 ?_
        refine ww_sld C hX hbl hbA dL_law_715 E (fun _ E => ?_)
        refine ww_aload_n C dL_law_716 rfl 0 rfl ?_
        refine ww_iload_n C dL_law_717 rfl 3 rfl ?_
        refine ww_iconst (v := 2) C dL_law_718 (by decide) ?_
        refine ww_iadd C dL_law_719 ?_
        refine ww_sld C hX hbl hbA dL_law_720 E (fun _ E => ?_)
        refine ww_aload_n C dL_law_721 rfl 0 rfl ?_
        refine ww_iload_n C dL_law_722 rfl 3 rfl ?_
        refine ww_iconst (v := 3) C dL_law_723 (by decide) ?_
        refine ww_iadd C dL_law_724 ?_
        refine ww_sld C hX hbl hbA dL_law_725 E (fun _ E => ?_)
        refine ww_aload_n C dL_law_726 rfl 0 rfl ?_
        refine ww_iload_n C dL_law_727 rfl 3 rfl ?_
        refine ww_iconst (v := 4) C dL_law_728 (by decide) ?_
        refine ww_iadd C dL_law_729 ?_
        refine ww_sld C hX hbl hbA dL_law_730 E (fun _ E => ?_)
        obtain ⟨u84, e_85, E⟩ := bind_of E
        refine ww_callI C (runs_V (n := 4) (st := [.int u82.1]) C [.int (xs (x3 + (1 : Int32)).toNatClampNeg), .int (xs (x3 + (2 : Int32)).toNatClampNeg), .int (xs (x3 + (3 : Int32)).toNatClampNeg), .int (xs (x3 + (4 : Int32)).toNatClampNeg)] (M_X10_two l G ad N hG x2 (xs (x3 + (1 : Int32)).toNatClampNeg) (xs (x3 + (2 : Int32)).toNatClampNeg) (xs (x3 + (3 : Int32)).toNatClampNeg) (xs (x3 + (4 : Int32)).toNatClampNeg) u82.2 Tx2 e_85) ⟨q1781, q118, by decide⟩ q1778 q1779 q1780 (ci := 10) rfl Tx2 rfl (Nat.le_of_ble_eq_true rfl) ⟨Nat.le_of_ble_eq_true rfl, Nat.le_of_ble_eq_true rfl⟩ ⟨Nat.le_of_ble_eq_true rfl, Nat.le_of_ble_eq_true rfl⟩ dL_law_731 rfl) ?_
        refine ww_icmp_eq (tgt := 1568) C dL_law_734 (by decide) E (fun _ E => ?_) (fun _ E => ?_)
        · refine ww_iinc (v := (x3 + (7 : Int32))) (lv' := [(3, .int (x3 + (7 : Int32))), (0, .ref b), (1, .ref (ad x1)), (2, .ref (ad x2))]) C dL_law_1568 3 rfl rfl (by decide) rfl ?_
          refine ww_goto (tgt := 18) C dL_law_1571 (by decide) ?_
          refine ww_sub (lv' := [(0, .ref b), (1, .ref (ad x1)), (2, .ref (ad x2)), (3, .int (x3 + (7 : Int32)))]) [1, 2, 3, 0] rfl ?_
          exact ih x1 x2 (x3 + (7 : Int32)) u84.2 Tx1 Tx2 E
        · refine ww_iconst (v := 0) C dL_law_737 (by decide) ?_
          cases E
      rw [if_neg s_81] at E
      by_cases s_86 : ((xs x3.toNatClampNeg) &&& (63 : Int32)) = (17 : Int32)
      · rw [if_pos s_86] at E
        refine ww_tabIn (tgt := 739) C dL_law_33 s_86 (by decide) (by decide) rfl (by decide) ?_
        refine ww_aload_n C dL_law_739 rfl 1 rfl ?_
        refine ww_aload_n C dL_law_740 rfl 0 rfl ?_
        refine ww_iload_n C dL_law_741 rfl 3 rfl ?_
        refine ww_iconst (v := 1) C dL_law_742 (by decide) ?_
        refine ww_iadd C dL_law_743 ?_
        refine ww_sld C hX hbl hbA dL_law_744 E (fun _ E => ?_)
        refine ww_aload_n C dL_law_745 rfl 0 rfl ?_
        refine ww_iload_n C dL_law_746 rfl 3 rfl ?_
        refine ww_iconst (v := 2) C dL_law_747 (by decide) ?_
        refine ww_iadd C dL_law_748 ?_
        refine ww_sld C hX hbl hbA dL_law_749 E (fun _ E => ?_)
        refine ww_aload_n C dL_law_750 rfl 0 rfl ?_
        refine ww_iload_n C dL_law_751 rfl 3 rfl ?_
        refine ww_iconst (v := 3) C dL_law_752 (by decide) ?_
        refine ww_iadd C dL_law_753 ?_
        refine ww_sld C hX hbl hbA dL_law_754 E (fun _ E => ?_)
        refine ww_aload_n C dL_law_755 rfl 0 rfl ?_
        refine ww_iload_n C dL_law_756 rfl 3 rfl ?_
        refine ww_iconst (v := 4) C dL_law_757 (by decide) ?_
        refine ww_iadd C dL_law_758 ?_
        refine ww_sld C hX hbl hbA dL_law_759 E (fun _ E => ?_)
        obtain ⟨u87, e_88, E⟩ := bind_of E
        refine ww_callI C (runs_V (n := 4) (st := []) C [.int (xs (x3 + (1 : Int32)).toNatClampNeg), .int (xs (x3 + (2 : Int32)).toNatClampNeg), .int (xs (x3 + (3 : Int32)).toNatClampNeg), .int (xs (x3 + (4 : Int32)).toNatClampNeg)] (M_X9_fullest l G ad N hG x1 (xs (x3 + (1 : Int32)).toNatClampNeg) (xs (x3 + (2 : Int32)).toNatClampNeg) (xs (x3 + (3 : Int32)).toNatClampNeg) (xs (x3 + (4 : Int32)).toNatClampNeg) dy Tx1 e_88) ⟨q1105, q108, by decide⟩ q1102 q1103 q1104 (ci := 9) rfl Tx1 rfl (Nat.le_of_ble_eq_true rfl) ⟨Nat.le_of_ble_eq_true rfl, Nat.le_of_ble_eq_true rfl⟩ ⟨Nat.le_of_ble_eq_true rfl, Nat.le_of_ble_eq_true rfl⟩ dL_law_760 rfl) ?_
        refine ww_aload_n C dL_law_763 rfl 2 rfl ?_
        refine ww_aload_n C dL_law_764 rfl 0 rfl ?_
        refine ww_iload_n C dL_law_765 rfl 3 rfl ?_
        refine ww_iconst (v := 1) C dL_law_766 (by decide) ?_
        refine ww_iadd C dL_law_767 ?_
        refine ww_sld C hX hbl hbA dL_law_768 E (fun _ E => ?_)
        refine ww_aload_n C dL_law_769 rfl 0 rfl ?_
        refine ww_iload_n C dL_law_770 rfl 3 rfl ?_
        refine ww_iconst (v := 2) C dL_law_771 (by decide) ?_
        refine ww_iadd C dL_law_772 ?_
        refine ww_sld C hX hbl hbA dL_law_773 E (fun _ E => ?_)
        refine ww_aload_n C dL_law_774 rfl 0 rfl ?_
        refine ww_iload_n C dL_law_775 rfl 3 rfl ?_
        refine ww_iconst (v := 3) C dL_law_776 (by decide) ?_
        refine ww_iadd C dL_law_777 ?_
        refine ww_sld C hX hbl hbA dL_law_778 E (fun _ E => ?_)
        refine ww_aload_n C dL_law_779 rfl 0 rfl ?_
        refine ww_iload_n C dL_law_780 rfl 3 rfl ?_
        refine ww_iconst (v := 4) C dL_law_781 (by decide) ?_
        refine ww_iadd C dL_law_782 ?_
        refine ww_sld C hX hbl hbA dL_law_783 E (fun _ E => ?_)
        obtain ⟨u89, e_90, E⟩ := bind_of E
        refine ww_callI C (runs_V (n := 4) (st := [.int u87.1]) C [.int (xs (x3 + (1 : Int32)).toNatClampNeg), .int (xs (x3 + (2 : Int32)).toNatClampNeg), .int (xs (x3 + (3 : Int32)).toNatClampNeg), .int (xs (x3 + (4 : Int32)).toNatClampNeg)] (M_X10_fullest l G ad N hG x2 (xs (x3 + (1 : Int32)).toNatClampNeg) (xs (x3 + (2 : Int32)).toNatClampNeg) (xs (x3 + (3 : Int32)).toNatClampNeg) (xs (x3 + (4 : Int32)).toNatClampNeg) u87.2 Tx2 e_90) ⟨q1793, q118, by decide⟩ q1790 q1791 q1792 (ci := 10) rfl Tx2 rfl (Nat.le_of_ble_eq_true rfl) ⟨Nat.le_of_ble_eq_true rfl, Nat.le_of_ble_eq_true rfl⟩ ⟨Nat.le_of_ble_eq_true rfl, Nat.le_of_ble_eq_true rfl⟩ dL_law_784 rfl) ?_
        refine ww_icmp_eq (tgt := 1568) C dL_law_787 (by decide) E (fun _ E => ?_) (fun _ E => ?_)
        · refine ww_iinc (v := (x3 + (7 : Int32))) (lv' := [(3, .int (x3 + (7 : Int32))), (0, .ref b), (1, .ref (ad x1)), (2, .ref (ad x2))]) C dL_law_1568 3 rfl rfl (by decide) rfl ?_
          refine ww_goto (tgt := 18) C dL_law_1571 (by decide) ?_
          refine ww_sub (lv' := [(0, .ref b), (1, .ref (ad x1)), (2, .ref (ad x2)), (3, .int (x3 + (7 : Int32)))]) [1, 2, 3, 0] rfl ?_
          exact ih x1 x2 (x3 + (7 : Int32)) u89.2 Tx1 Tx2 E
        · refine ww_iconst (v := 0) C dL_law_790 (by decide) ?_
          cases E
      rw [if_neg s_86] at E
      by_cases s_91 : ((xs x3.toNatClampNeg) &&& (63 : Int32)) = (18 : Int32)
      · rw [if_pos s_91] at E
        refine ww_tabIn (tgt := 792) C dL_law_33 s_91 (by decide) (by decide) rfl (by decide) ?_
        refine ww_aload_n C dL_law_792 rfl 1 rfl ?_
        refine ww_aload_n C dL_law_793 rfl 0 rfl ?_
        refine ww_iload_n C dL_law_794 rfl 3 rfl ?_
        refine ww_iconst (v := 1) C dL_law_795 (by decide) ?_
        refine ww_iadd C dL_law_796 ?_
        refine ww_sld C hX hbl hbA dL_law_797 E (fun _ E => ?_)
        refine ww_aload_n C dL_law_798 rfl 0 rfl ?_
        refine ww_iload_n C dL_law_799 rfl 3 rfl ?_
        refine ww_iconst (v := 2) C dL_law_800 (by decide) ?_
        refine ww_iadd C dL_law_801 ?_
        refine ww_sld C hX hbl hbA dL_law_802 E (fun _ E => ?_)
        refine ww_aload_n C dL_law_803 rfl 0 rfl ?_
        refine ww_iload_n C dL_law_804 rfl 3 rfl ?_
        refine ww_iconst (v := 3) C dL_law_805 (by decide) ?_
        refine ww_iadd C dL_law_806 ?_
        refine ww_sld C hX hbl hbA dL_law_807 E (fun _ E => ?_)
        refine ww_aload_n C dL_law_808 rfl 0 rfl ?_
        refine ww_iload_n C dL_law_809 rfl 3 rfl ?_
        refine ww_iconst (v := 4) C dL_law_810 (by decide) ?_
        refine ww_iadd C dL_law_811 ?_
        refine ww_sld C hX hbl hbA dL_law_812 E (fun _ E => ?_)
        obtain ⟨u92, e_93, E⟩ := bind_of E
        refine ww_callI C (runs_V (n := 4) (st := []) C [.int (xs (x3 + (1 : Int32)).toNatClampNeg), .int (xs (x3 + (2 : Int32)).toNatClampNeg), .int (xs (x3 + (3 : Int32)).toNatClampNeg), .int (xs (x3 + (4 : Int32)).toNatClampNeg)] (M_X9_pillar l G ad N hG x1 (xs (x3 + (1 : Int32)).toNatClampNeg) (xs (x3 + (2 : Int32)).toNatClampNeg) (xs (x3 + (3 : Int32)).toNatClampNeg) (xs (x3 + (4 : Int32)).toNatClampNeg) dy Tx1 e_93) ⟨q1120, q108, by decide⟩ q1117 q1118 q1119 (ci := 9) rfl Tx1 rfl (Nat.le_of_ble_eq_true rfl) ⟨Nat.le_of_ble_eq_true rfl, Nat.le_of_ble_eq_true rfl⟩ ⟨Nat.le_of_ble_eq_true rfl, Nat.le_of_ble_eq_true rfl⟩ dL_law_813 rfl) ?_
        refine ww_aload_n C dL_law_816 rfl 2 rfl ?_
        refine ww_aload_n C dL_law_817 rfl 0 rfl ?_
        refine ww_iload_n C dL_law_818 rfl 3 rfl ?_
        refine ww_iconst (v := 1) C dL_law_819 (by decide) ?_
        refine ww_iadd C dL_law_820 ?_
        refine ww_sld C hX hbl hbA dL_law_821 E (fun _ E => ?_)
        refine ww_aload_n C dL_law_822 rfl 0 rfl ?_
        refine ww_iload_n C dL_law_823 rfl 3 rfl ?_
        refine ww_iconst (v := 2) C dL_law_824 (by decide) ?_
        refine ww_iadd C dL_law_825 ?_
        refine ww_sld C hX hbl hbA dL_law_826 E (fun _ E => ?_)
        refine ww_aload_n C dL_law_827 rfl 0 rfl ?_
        refine ww_iload_n C dL_law_828 rfl 3 rfl ?_
        refine ww_iconst (v := 3) C dL_law_829 (by decide) ?_
        refine ww_iadd C dL_law_830 ?_
        refine ww_sld C hX hbl hbA dL_law_831 E (fun _ E => ?_)
        refine ww_aload_n C dL_law_832 rfl 0 rfl ?_
        refine ww_iload_n C dL_law_833 rfl 3 rfl ?_
        refine ww_iconst (v := 4) C dL_law_834 (by decide) ?_
        refine ww_iadd C dL_law_835 ?_
        refine ww_sld C hX hbl hbA dL_law_836 E (fun _ E => ?_)
        obtain ⟨u94, e_95, E⟩ := bind_of E
        refine ww_callI C (runs_V (n := 4) (st := [.int u92.1]) C [.int (xs (x3 + (1 : Int32)).toNatClampNeg), .int (xs (x3 + (2 : Int32)).toNatClampNeg), .int (xs (x3 + (3 : Int32)).toNatClampNeg), .int (xs (x3 + (4 : Int32)).toNatClampNeg)] (M_X10_pillar l G ad N hG x2 (xs (x3 + (1 : Int32)).toNatClampNeg) (xs (x3 + (2 : Int32)).toNatClampNeg) (xs (x3 + (3 : Int32)).toNatClampNeg) (xs (x3 + (4 : Int32)).toNatClampNeg) u92.2 Tx2 e_95) ⟨q1805, q118, by decide⟩ q1802 q1803 q1804 (ci := 10) rfl Tx2 rfl (Nat.le_of_ble_eq_true rfl) ⟨Nat.le_of_ble_eq_true rfl, Nat.le_of_ble_eq_true rfl⟩ ⟨Nat.le_of_ble_eq_true rfl, Nat.le_of_ble_eq_true rfl⟩ dL_law_837 rfl) ?_
        refine ww_icmp_eq (tgt := 1568) C dL_law_840 (by decide) E (fun _ E => ?_) (fun _ E => ?_)
        · refine ww_iinc (v := (x3 + (7 : Int32))) (lv' := [(3, .int (x3 + (7 : Int32))), (0, .ref b), (1, .ref (ad x1)), (2, .ref (ad x2))]) C dL_law_1568 3 rfl rfl (by decide) rfl ?_
          refine ww_goto (tgt := 18) C dL_law_1571 (by decide) ?_
          refine ww_sub (lv' := [(0, .ref b), (1, .ref (ad x1)), (2, .ref (ad x2)), (3, .int (x3 + (7 : Int32)))]) [1, 2, 3, 0] rfl ?_
          exact ih x1 x2 (x3 + (7 : Int32)) u94.2 Tx1 Tx2 E
        · refine ww_iconst (v := 0) C dL_law_843 (by decide) ?_
          cases E
      rw [if_neg s_91] at E
      by_cases s_96 : ((xs x3.toNatClampNeg) &&& (63 : Int32)) = (19 : Int32)
      · rw [if_pos s_96] at E
        refine ww_tabIn (tgt := 845) C dL_law_33 s_96 (by decide) (by decide) rfl (by decide) ?_
        refine ww_aload_n C dL_law_845 rfl 1 rfl ?_
        refine ww_aload_n C dL_law_846 rfl 0 rfl ?_
        refine ww_iload_n C dL_law_847 rfl 3 rfl ?_
        refine ww_iconst (v := 1) C dL_law_848 (by decide) ?_
        refine ww_iadd C dL_law_849 ?_
        refine ww_sld C hX hbl hbA dL_law_850 E (fun _ E => ?_)
        refine ww_aload_n C dL_law_851 rfl 0 rfl ?_
        refine ww_iload_n C dL_law_852 rfl 3 rfl ?_
        refine ww_iconst (v := 2) C dL_law_853 (by decide) ?_
        refine ww_iadd C dL_law_854 ?_
        refine ww_sld C hX hbl hbA dL_law_855 E (fun _ E => ?_)
        refine ww_aload_n C dL_law_856 rfl 0 rfl ?_
        refine ww_iload_n C dL_law_857 rfl 3 rfl ?_
        refine ww_iconst (v := 3) C dL_law_858 (by decide) ?_
        refine ww_iadd C dL_law_859 ?_
        refine ww_sld C hX hbl hbA dL_law_860 E (fun _ E => ?_)
        refine ww_aload_n C dL_law_861 rfl 0 rfl ?_
        refine ww_iload_n C dL_law_862 rfl 3 rfl ?_
        refine ww_iconst (v := 4) C dL_law_863 (by decide) ?_
        refine ww_iadd C dL_law_864 ?_
        refine ww_sld C hX hbl hbA dL_law_865 E (fun _ E => ?_)
        refine ww_aload_n C dL_law_866 rfl 0 rfl ?_
        refine ww_iload_n C dL_law_867 rfl 3 rfl ?_
        refine ww_iconst (v := 5) C dL_law_868 (by decide) ?_
        refine ww_iadd C dL_law_869 ?_
        refine ww_sld C hX hbl hbA dL_law_870 E (fun _ E => ?_)
        obtain ⟨u97, e_98, E⟩ := bind_of E
        refine ww_callI C (runs_V (n := 5) (st := []) C [.int (xs (x3 + (1 : Int32)).toNatClampNeg), .int (xs (x3 + (2 : Int32)).toNatClampNeg), .int (xs (x3 + (3 : Int32)).toNatClampNeg), .int (xs (x3 + (4 : Int32)).toNatClampNeg), .int (xs (x3 + (5 : Int32)).toNatClampNeg)] (M_X9_cost l G ad N hG x1 (xs (x3 + (1 : Int32)).toNatClampNeg) (xs (x3 + (2 : Int32)).toNatClampNeg) (xs (x3 + (3 : Int32)).toNatClampNeg) (xs (x3 + (4 : Int32)).toNatClampNeg) (xs (x3 + (5 : Int32)).toNatClampNeg) dy Tx1 e_98) ⟨q1130, q108, by decide⟩ q1127 q1128 q1129 (ci := 9) rfl Tx1 rfl (Nat.le_of_ble_eq_true rfl) ⟨Nat.le_of_ble_eq_true rfl, Nat.le_of_ble_eq_true rfl⟩ ⟨Nat.le_of_ble_eq_true rfl, Nat.le_of_ble_eq_true rfl⟩ dL_law_871 rfl) ?_
        refine ww_aload_n C dL_law_874 rfl 2 rfl ?_
        refine ww_aload_n C dL_law_875 rfl 0 rfl ?_
        refine ww_iload_n C dL_law_876 rfl 3 rfl ?_
        refine ww_iconst (v := 1) C dL_law_877 (by decide) ?_
        refine ww_iadd C dL_law_878 ?_
        refine ww_sld C hX hbl hbA dL_law_879 E (fun _ E => ?_)
        refine ww_aload_n C dL_law_880 rfl 0 rfl ?_
        refine ww_iload_n C dL_law_881 rfl 3 rfl ?_
        refine ww_iconst (v := 2) C dL_law_882 (by decide) ?_
        refine ww_iadd C dL_law_883 ?_
        refine ww_sld C hX hbl hbA dL_law_884 E (fun _ E => ?_)
        refine ww_aload_n C dL_law_885 rfl 0 rfl ?_
        refine ww_iload_n C dL_law_886 rfl 3 rfl ?_
        refine ww_iconst (v := 3) C dL_law_887 (by decide) ?_
        refine ww_iadd C dL_law_888 ?_
        refine ww_sld C hX hbl hbA dL_law_889 E (fun _ E => ?_)
        refine ww_aload_n C dL_law_890 rfl 0 rfl ?_
        refine ww_iload_n C dL_law_891 rfl 3 rfl ?_
        refine ww_iconst (v := 4) C dL_law_892 (by decide) ?_
        refine ww_iadd C dL_law_893 ?_
        refine ww_sld C hX hbl hbA dL_law_894 E (fun _ E => ?_)
        refine ww_aload_n C dL_law_895 rfl 0 rfl ?_
        refine ww_iload_n C dL_law_896 rfl 3 rfl ?_
        refine ww_iconst (v := 5) C dL_law_897 (by decide) ?_
        refine ww_iadd C dL_law_898 ?_
        refine ww_sld C hX hbl hbA dL_law_899 E (fun _ E => ?_)
        obtain ⟨u99, e_100, E⟩ := bind_of E
        refine ww_callI C (runs_V (n := 5) (st := [.int u97.1]) C [.int (xs (x3 + (1 : Int32)).toNatClampNeg), .int (xs (x3 + (2 : Int32)).toNatClampNeg), .int (xs (x3 + (3 : Int32)).toNatClampNeg), .int (xs (x3 + (4 : Int32)).toNatClampNeg), .int (xs (x3 + (5 : Int32)).toNatClampNeg)] (M_X10_cost l G ad N hG x2 (xs (x3 + (1 : Int32)).toNatClampNeg) (xs (x3 + (2 : Int32)).toNatClampNeg) (xs (x3 + (3 : Int32)).toNatClampNeg) (xs (x3 + (4 : Int32)).toNatClampNeg) (xs (x3 + (5 : Int32)).toNatClampNeg) u97.2 Tx2 e_100) ⟨q1813, q118, by decide⟩ q1810 q1811 q1812 (ci := 10) rfl Tx2 rfl (Nat.le_of_ble_eq_true rfl) ⟨Nat.le_of_ble_eq_true rfl, Nat.le_of_ble_eq_true rfl⟩ ⟨Nat.le_of_ble_eq_true rfl, Nat.le_of_ble_eq_true rfl⟩ dL_law_900 rfl) ?_
        refine ww_icmp_eq (tgt := 1568) C dL_law_903 (by decide) E (fun _ E => ?_) (fun _ E => ?_)
        · refine ww_iinc (v := (x3 + (7 : Int32))) (lv' := [(3, .int (x3 + (7 : Int32))), (0, .ref b), (1, .ref (ad x1)), (2, .ref (ad x2))]) C dL_law_1568 3 rfl rfl (by decide) rfl ?_
          refine ww_goto (tgt := 18) C dL_law_1571 (by decide) ?_
          refine ww_sub (lv' := [(0, .ref b), (1, .ref (ad x1)), (2, .ref (ad x2)), (3, .int (x3 + (7 : Int32)))]) [1, 2, 3, 0] rfl ?_
          exact ih x1 x2 (x3 + (7 : Int32)) u99.2 Tx1 Tx2 E
        · refine ww_iconst (v := 0) C dL_law_906 (by decide) ?_
          cases E
      rw [if_neg s_96] at E
      by_cases s_101 : ((xs x3.toNatClampNeg) &&& (63 : Int32)) = (20 : Int32)
      · rw [if_pos s_101] at E
        refine ww_tabIn (tgt := 908) C dL_law_33 s_101 (by decide) (by decide) rfl (by decide) ?_
        refine ww_aload_n C dL_law_908 rfl 1 rfl ?_
        refine ww_aload_n C dL_law_909 rfl 0 rfl ?_
        refine ww_iload_n C dL_law_910 rfl 3 rfl ?_
        refine ww_iconst (v := 1) C dL_law_911 (by decide) ?_
        refine ww_iadd C dL_law_912 ?_
        refine ww_sld C hX hbl hbA dL_law_913 E (fun _ E => ?_)
        refine ww_aload_n C dL_law_914 rfl 0 rfl ?_
        refine ww_iload_n C dL_law_915 rfl 3 rfl ?_
        refine ww_iconst (v := 2) C dL_law_916 (by decide) ?_
        refine ww_iadd C dL_law_917 ?_
        refine ww_sld C hX hbl hbA dL_law_918 E (fun _ E => ?_)
        refine ww_aload_n C dL_law_919 rfl 0 rfl ?_
        refine ww_iload_n C dL_law_920 rfl 3 rfl ?_
        refine ww_iconst (v := 3) C dL_law_921 (by decide) ?_
        refine ww_iadd C dL_law_922 ?_
        refine ww_sld C hX hbl hbA dL_law_923 E (fun _ E => ?_)
        obtain ⟨u102, e_103, E⟩ := bind_of E
        refine ww_callI C (runs_V (n := 3) (st := []) C [.int (xs (x3 + (1 : Int32)).toNatClampNeg), .int (xs (x3 + (2 : Int32)).toNatClampNeg), .int (xs (x3 + (3 : Int32)).toNatClampNeg)] (M_X9_better l G ad N hG x1 (xs (x3 + (1 : Int32)).toNatClampNeg) (xs (x3 + (2 : Int32)).toNatClampNeg) (xs (x3 + (3 : Int32)).toNatClampNeg) dy Tx1 e_103) ⟨q1143, q108, by decide⟩ q1140 q1141 q1142 (ci := 9) rfl Tx1 rfl (Nat.le_of_ble_eq_true rfl) ⟨Nat.le_of_ble_eq_true rfl, Nat.le_of_ble_eq_true rfl⟩ ⟨Nat.le_of_ble_eq_true rfl, Nat.le_of_ble_eq_true rfl⟩ dL_law_924 rfl) ?_
        refine ww_aload_n C dL_law_927 rfl 2 rfl ?_
        refine ww_aload_n C dL_law_928 rfl 0 rfl ?_
        refine ww_iload_n C dL_law_929 rfl 3 rfl ?_
        refine ww_iconst (v := 1) C dL_law_930 (by decide) ?_
        refine ww_iadd C dL_law_931 ?_
        refine ww_sld C hX hbl hbA dL_law_932 E (fun _ E => ?_)
        refine ww_aload_n C dL_law_933 rfl 0 rfl ?_
        refine ww_iload_n C dL_law_934 rfl 3 rfl ?_
        refine ww_iconst (v := 2) C dL_law_935 (by decide) ?_
        refine ww_iadd C dL_law_936 ?_
        refine ww_sld C hX hbl hbA dL_law_937 E (fun _ E => ?_)
        refine ww_aload_n C dL_law_938 rfl 0 rfl ?_
        refine ww_iload_n C dL_law_939 rfl 3 rfl ?_
        refine ww_iconst (v := 3) C dL_law_940 (by decide) ?_
        refine ww_iadd C dL_law_941 ?_
        refine ww_sld C hX hbl hbA dL_law_942 E (fun _ E => ?_)
        obtain ⟨u104, e_105, E⟩ := bind_of E
        refine ww_callI C (runs_V (n := 3) (st := [.int u102.1]) C [.int (xs (x3 + (1 : Int32)).toNatClampNeg), .int (xs (x3 + (2 : Int32)).toNatClampNeg), .int (xs (x3 + (3 : Int32)).toNatClampNeg)] (M_X10_better l G ad N hG x2 (xs (x3 + (1 : Int32)).toNatClampNeg) (xs (x3 + (2 : Int32)).toNatClampNeg) (xs (x3 + (3 : Int32)).toNatClampNeg) u102.2 Tx2 e_105) ⟨q1822, q118, by decide⟩ q1819 q1820 q1821 (ci := 10) rfl Tx2 rfl (Nat.le_of_ble_eq_true rfl) ⟨Nat.le_of_ble_eq_true rfl, Nat.le_of_ble_eq_true rfl⟩ ⟨Nat.le_of_ble_eq_true rfl, Nat.le_of_ble_eq_true rfl⟩ dL_law_943 rfl) ?_
        refine ww_icmp_eq (tgt := 1568) C dL_law_946 (by decide) E (fun _ E => ?_) (fun _ E => ?_)
        · refine ww_iinc (v := (x3 + (7 : Int32))) (lv' := [(3, .int (x3 + (7 : Int32))), (0, .ref b), (1, .ref (ad x1)), (2, .ref (ad x2))]) C dL_law_1568 3 rfl rfl (by decide) rfl ?_
          refine ww_goto (tgt := 18) C dL_law_1571 (by decide) ?_
          refine ww_sub (lv' := [(0, .ref b), (1, .ref (ad x1)), (2, .ref (ad x2)), (3, .int (x3 + (7 : Int32)))]) [1, 2, 3, 0] rfl ?_
          exact ih x1 x2 (x3 + (7 : Int32)) u104.2 Tx1 Tx2 E
        · refine ww_iconst (v := 0) C dL_law_949 (by decide) ?_
          cases E
      rw [if_neg s_101] at E
      by_cases s_106 : ((xs x3.toNatClampNeg) &&& (63 : Int32)) = (21 : Int32)
      · rw [if_pos s_106] at E
        refine ww_tabIn (tgt := 951) C dL_law_33 s_106 (by decide) (by decide) rfl (by decide) ?_
        refine ww_aload_n C dL_law_951 rfl 1 rfl ?_
        refine ww_aload_n C dL_law_952 rfl 0 rfl ?_
        refine ww_iload_n C dL_law_953 rfl 3 rfl ?_
        refine ww_iconst (v := 1) C dL_law_954 (by decide) ?_
        refine ww_iadd C dL_law_955 ?_
        refine ww_sld C hX hbl hbA dL_law_956 E (fun _ E => ?_)
        refine ww_aload_n C dL_law_957 rfl 0 rfl ?_
        refine ww_iload_n C dL_law_958 rfl 3 rfl ?_
        refine ww_iconst (v := 2) C dL_law_959 (by decide) ?_
        refine ww_iadd C dL_law_960 ?_
        refine ww_sld C hX hbl hbA dL_law_961 E (fun _ E => ?_)
        refine ww_aload_n C dL_law_962 rfl 0 rfl ?_
        refine ww_iload_n C dL_law_963 rfl 3 rfl ?_
        refine ww_iconst (v := 3) C dL_law_964 (by decide) ?_
        refine ww_iadd C dL_law_965 ?_
        refine ww_sld C hX hbl hbA dL_law_966 E (fun _ E => ?_)
        refine ww_aload_n C dL_law_967 rfl 0 rfl ?_
        refine ww_iload_n C dL_law_968 rfl 3 rfl ?_
        refine ww_iconst (v := 4) C dL_law_969 (by decide) ?_
        refine ww_iadd C dL_law_970 ?_
        refine ww_sld C hX hbl hbA dL_law_971 E (fun _ E => ?_)
        obtain ⟨u107, e_108, E⟩ := bind_of E
        refine ww_callI C (runs_V (n := 4) (st := []) C [.int (xs (x3 + (1 : Int32)).toNatClampNeg), .int (xs (x3 + (2 : Int32)).toNatClampNeg), .int (xs (x3 + (3 : Int32)).toNatClampNeg), .int (xs (x3 + (4 : Int32)).toNatClampNeg)] (M_X9_flow l G ad N hG x1 (xs (x3 + (1 : Int32)).toNatClampNeg) (xs (x3 + (2 : Int32)).toNatClampNeg) (xs (x3 + (3 : Int32)).toNatClampNeg) (xs (x3 + (4 : Int32)).toNatClampNeg) dy Tx1 e_108) ⟨q1147, q108, by decide⟩ q1144 q1145 q1146 (ci := 9) rfl Tx1 rfl (Nat.le_of_ble_eq_true rfl) ⟨Nat.le_of_ble_eq_true rfl, Nat.le_of_ble_eq_true rfl⟩ ⟨Nat.le_of_ble_eq_true rfl, Nat.le_of_ble_eq_true rfl⟩ dL_law_972 rfl) ?_
        refine ww_aload_n C dL_law_975 rfl 2 rfl ?_
        refine ww_aload_n C dL_law_976 rfl 0 rfl ?_
        refine ww_iload_n C dL_law_977 rfl 3 rfl ?_
        refine ww_iconst (v := 1) C dL_law_978 (by decide) ?_
        refine ww_iadd C dL_law_979 ?_
        refine ww_sld C hX hbl hbA dL_law_980 E (fun _ E => ?_)
        refine ww_aload_n C dL_law_981 rfl 0 rfl ?_
        refine ww_iload_n C dL_law_982 rfl 3 rfl ?_
        refine ww_iconst (v := 2) C dL_law_983 (by decide) ?_
        refine ww_iadd C dL_law_984 ?_
        refine ww_sld C hX hbl hbA dL_law_985 E (fun _ E => ?_)
        refine ww_aload_n C dL_law_986 rfl 0 rfl ?_
        refine ww_iload_n C dL_law_987 rfl 3 rfl ?_
        refine ww_iconst (v := 3) C dL_law_988 (by decide) ?_
        refine ww_iadd C dL_law_989 ?_
        refine ww_sld C hX hbl hbA dL_law_990 E (fun _ E => ?_)
        refine ww_aload_n C dL_law_991 rfl 0 rfl ?_
        refine ww_iload_n C dL_law_992 rfl 3 rfl ?_
        refine ww_iconst (v := 4) C dL_law_993 (by decide) ?_
        refine ww_iadd C dL_law_994 ?_
        refine ww_sld C hX hbl hbA dL_law_995 E (fun _ E => ?_)
        obtain ⟨u109, e_110, E⟩ := bind_of E
        refine ww_callI C (runs_V (n := 4) (st := [.int u107.1]) C [.int (xs (x3 + (1 : Int32)).toNatClampNeg), .int (xs (x3 + (2 : Int32)).toNatClampNeg), .int (xs (x3 + (3 : Int32)).toNatClampNeg), .int (xs (x3 + (4 : Int32)).toNatClampNeg)] (M_X10_flow l G ad N hG x2 (xs (x3 + (1 : Int32)).toNatClampNeg) (xs (x3 + (2 : Int32)).toNatClampNeg) (xs (x3 + (3 : Int32)).toNatClampNeg) (xs (x3 + (4 : Int32)).toNatClampNeg) u107.2 Tx2 e_110) ⟨q1830, q118, by decide⟩ q1827 q1828 q1829 (ci := 10) rfl Tx2 rfl (Nat.le_of_ble_eq_true rfl) ⟨Nat.le_of_ble_eq_true rfl, Nat.le_of_ble_eq_true rfl⟩ ⟨Nat.le_of_ble_eq_true rfl, Nat.le_of_ble_eq_true rfl⟩ dL_law_996 rfl) ?_
        refine ww_icmp_eq (tgt := 1568) C dL_law_999 (by decide) E (fun _ E => ?_) (fun _ E => ?_)
        · refine ww_iinc (v := (x3 + (7 : Int32))) (lv' := [(3, .int (x3 + (7 : Int32))), (0, .ref b), (1, .ref (ad x1)), (2, .ref (ad x2))]) C dL_law_1568 3 rfl rfl (by decide) rfl ?_
          refine ww_goto (tgt := 18) C dL_law_1571 (by decide) ?_
          refine ww_sub (lv' := [(0, .ref b), (1, .ref (ad x1)), (2, .ref (ad x2)), (3, .int (x3 + (7 : Int32)))]) [1, 2, 3, 0] rfl ?_
          exact ih x1 x2 (x3 + (7 : Int32)) u109.2 Tx1 Tx2 E
        · refine ww_iconst (v := 0) C dL_law_1002 (by decide) ?_
          cases E
      rw [if_neg s_106] at E
      by_cases s_111 : ((xs x3.toNatClampNeg) &&& (63 : Int32)) = (22 : Int32)
      · rw [if_pos s_111] at E
        refine ww_tabIn (tgt := 1004) C dL_law_33 s_111 (by decide) (by decide) rfl (by decide) ?_
        refine ww_aload_n C dL_law_1004 rfl 1 rfl ?_
        refine ww_aload_n C dL_law_1005 rfl 0 rfl ?_
        refine ww_iload_n C dL_law_1006 rfl 3 rfl ?_
        refine ww_iconst (v := 1) C dL_law_1007 (by decide) ?_
        refine ww_iadd C dL_law_1008 ?_
        refine ww_sld C hX hbl hbA dL_law_1009 E (fun _ E => ?_)
        refine ww_aload_n C dL_law_1010 rfl 0 rfl ?_
        refine ww_iload_n C dL_law_1011 rfl 3 rfl ?_
        refine ww_iconst (v := 2) C dL_law_1012 (by decide) ?_
        refine ww_iadd C dL_law_1013 ?_
        refine ww_sld C hX hbl hbA dL_law_1014 E (fun _ E => ?_)
        refine ww_aload_n C dL_law_1015 rfl 0 rfl ?_
        refine ww_iload_n C dL_law_1016 rfl 3 rfl ?_
        refine ww_iconst (v := 3) C dL_law_1017 (by decide) ?_
        refine ww_iadd C dL_law_1018 ?_
        refine ww_sld C hX hbl hbA dL_law_1019 E (fun _ E => ?_)
        refine ww_aload_n C dL_law_1020 rfl 0 rfl ?_
        refine ww_iload_n C dL_law_1021 rfl 3 rfl ?_
        refine ww_iconst (v := 4) C dL_law_1022 (by decide) ?_
        refine ww_iadd C dL_law_1023 ?_
        refine ww_sld C hX hbl hbA dL_law_1024 E (fun _ E => ?_)
        refine ww_aload_n C dL_law_1025 rfl 0 rfl ?_
        refine ww_iload_n C dL_law_1026 rfl 3 rfl ?_
        refine ww_iconst (v := 5) C dL_law_1027 (by decide) ?_
        refine ww_iadd C dL_law_1028 ?_
        refine ww_sld C hX hbl hbA dL_law_1029 E (fun _ E => ?_)
        refine ww_aload_n C dL_law_1030 rfl 0 rfl ?_
        refine ww_iload_n C dL_law_1031 rfl 3 rfl ?_
        refine ww_bipush (v := 6) C dL_law_1032 (by decide) ?_
        refine ww_iadd C dL_law_1034 ?_
        refine ww_sld C hX hbl hbA dL_law_1035 E (fun _ E => ?_)
        obtain ⟨u112, e_113, E⟩ := bind_of E
        refine ww_callI C (runs_V (n := 6) (st := []) C [.int (xs (x3 + (1 : Int32)).toNatClampNeg), .int (xs (x3 + (2 : Int32)).toNatClampNeg), .int (xs (x3 + (3 : Int32)).toNatClampNeg), .int (xs (x3 + (4 : Int32)).toNatClampNeg), .int (xs (x3 + (5 : Int32)).toNatClampNeg), .int (xs (x3 + (6 : Int32)).toNatClampNeg)] (M_X9_touch l G ad N hG x1 (xs (x3 + (1 : Int32)).toNatClampNeg) (xs (x3 + (2 : Int32)).toNatClampNeg) (xs (x3 + (3 : Int32)).toNatClampNeg) (xs (x3 + (4 : Int32)).toNatClampNeg) (xs (x3 + (5 : Int32)).toNatClampNeg) (xs (x3 + (6 : Int32)).toNatClampNeg) dy Tx1 e_113) ⟨q1155, q108, by decide⟩ q1152 q1153 q1154 (ci := 9) rfl Tx1 rfl (Nat.le_of_ble_eq_true rfl) ⟨Nat.le_of_ble_eq_true rfl, Nat.le_of_ble_eq_true rfl⟩ ⟨Nat.le_of_ble_eq_true rfl, Nat.le_of_ble_eq_true rfl⟩ dL_law_1036 rfl) ?_
        refine ww_aload_n C dL_law_1039 rfl 2 rfl ?_
        refine ww_aload_n C dL_law_1040 rfl 0 rfl ?_
        refine ww_iload_n C dL_law_1041 rfl 3 rfl ?_
        refine ww_iconst (v := 1) C dL_law_1042 (by decide) ?_
        refine ww_iadd C dL_law_1043 ?_
        refine ww_sld C hX hbl hbA dL_law_1044 E (fun _ E => ?_)
        refine ww_aload_n C dL_law_1045 rfl 0 rfl ?_
        refine ww_iload_n C dL_law_1046 rfl 3 rfl ?_
        refine ww_iconst (v := 2) C dL_law_1047 (by decide) ?_
        refine ww_iadd C dL_law_1048 ?_
        refine ww_sld C hX hbl hbA dL_law_1049 E (fun _ E => ?_)
        refine ww_aload_n C dL_law_1050 rfl 0 rfl ?_
        refine ww_iload_n C dL_law_1051 rfl 3 rfl ?_
        refine ww_iconst (v := 3) C dL_law_1052 (by decide) ?_
        refine ww_iadd C dL_law_1053 ?_
        refine ww_sld C hX hbl hbA dL_law_1054 E (fun _ E => ?_)
        refine ww_aload_n C dL_law_1055 rfl 0 rfl ?_
        refine ww_iload_n C dL_law_1056 rfl 3 rfl ?_
        refine ww_iconst (v := 4) C dL_law_1057 (by decide) ?_
        refine ww_iadd C dL_law_1058 ?_
        refine ww_sld C hX hbl hbA dL_law_1059 E (fun _ E => ?_)
        refine ww_aload_n C dL_law_1060 rfl 0 rfl ?_
        refine ww_iload_n C dL_law_1061 rfl 3 rfl ?_
        refine ww_iconst (v := 5) C dL_law_1062 (by decide) ?_
        refine ww_iadd C dL_law_1063 ?_
        refine ww_sld C hX hbl hbA dL_law_1064 E (fun _ E => ?_)
        refine ww_aload_n C dL_law_1065 rfl 0 rfl ?_
        refine ww_iload_n C dL_law_1066 rfl 3 rfl ?_
        refine ww_bipush (v := 6) C dL_law_1067 (by decide) ?_
        refine ww_iadd C dL_law_1069 ?_
        refine ww_sld C hX hbl hbA dL_law_1070 E (fun _ E => ?_)
        obtain ⟨u114, e_115, E⟩ := bind_of E
        refine ww_callI C (runs_V (n := 6) (st := [.int u112.1]) C [.int (xs (x3 + (1 : Int32)).toNatClampNeg), .int (xs (x3 + (2 : Int32)).toNatClampNeg), .int (xs (x3 + (3 : Int32)).toNatClampNeg), .int (xs (x3 + (4 : Int32)).toNatClampNeg), .int (xs (x3 + (5 : Int32)).toNatClampNeg), .int (xs (x3 + (6 : Int32)).toNatClampNeg)] (M_X10_touch l G ad N hG x2 (xs (x3 + (1 : Int32)).toNatClampNeg) (xs (x3 + (2 : Int32)).toNatClampNeg) (xs (x3 + (3 : Int32)).toNatClampNeg) (xs (x3 + (4 : Int32)).toNatClampNeg) (xs (x3 + (5 : Int32)).toNatClampNeg) (xs (x3 + (6 : Int32)).toNatClampNeg) u112.2 Tx2 e_115) ⟨q1834, q118, by decide⟩ q1831 q1832 q1833 (ci := 10) rfl Tx2 rfl (Nat.le_of_ble_eq_true rfl) ⟨Nat.le_of_ble_eq_true rfl, Nat.le_of_ble_eq_true rfl⟩ ⟨Nat.le_of_ble_eq_true rfl, Nat.le_of_ble_eq_true rfl⟩ dL_law_1071 rfl) ?_
        refine ww_icmp_eq (tgt := 1568) C dL_law_1074 (by decide) E (fun _ E => ?_) (fun _ E => ?_)
        · refine ww_iinc (v := (x3 + (7 : Int32))) (lv' := [(3, .int (x3 + (7 : Int32))), (0, .ref b), (1, .ref (ad x1)), (2, .ref (ad x2))]) C dL_law_1568 3 rfl rfl (by decide) rfl ?_
          refine ww_goto (tgt := 18) C dL_law_1571 (by decide) ?_
          refine ww_sub (lv' := [(0, .ref b), (1, .ref (ad x1)), (2, .ref (ad x2)), (3, .int (x3 + (7 : Int32)))]) [1, 2, 3, 0] rfl ?_
          exact ih x1 x2 (x3 + (7 : Int32)) u114.2 Tx1 Tx2 E
        · refine ww_iconst (v := 0) C dL_law_1077 (by decide) ?_
          cases E
      rw [if_neg s_111] at E
      by_cases s_116 : ((xs x3.toNatClampNeg) &&& (63 : Int32)) = (23 : Int32)
      · rw [if_pos s_116] at E
        refine ww_tabIn (tgt := 1079) C dL_law_33 s_116 (by decide) (by decide) rfl (by decide) ?_
        refine ww_aload_n C dL_law_1079 rfl 1 rfl ?_
        refine ww_aload_n C dL_law_1080 rfl 0 rfl ?_
        refine ww_iload_n C dL_law_1081 rfl 3 rfl ?_
        refine ww_iconst (v := 1) C dL_law_1082 (by decide) ?_
        refine ww_iadd C dL_law_1083 ?_
        refine ww_sld C hX hbl hbA dL_law_1084 E (fun _ E => ?_)
        refine ww_aload_n C dL_law_1085 rfl 0 rfl ?_
        refine ww_iload_n C dL_law_1086 rfl 3 rfl ?_
        refine ww_iconst (v := 2) C dL_law_1087 (by decide) ?_
        refine ww_iadd C dL_law_1088 ?_
        refine ww_sld C hX hbl hbA dL_law_1089 E (fun _ E => ?_)
        refine ww_aload_n C dL_law_1090 rfl 0 rfl ?_
        refine ww_iload_n C dL_law_1091 rfl 3 rfl ?_
        refine ww_iconst (v := 3) C dL_law_1092 (by decide) ?_
        refine ww_iadd C dL_law_1093 ?_
        refine ww_sld C hX hbl hbA dL_law_1094 E (fun _ E => ?_)
        refine ww_aload_n C dL_law_1095 rfl 0 rfl ?_
        refine ww_iload_n C dL_law_1096 rfl 3 rfl ?_
        refine ww_iconst (v := 4) C dL_law_1097 (by decide) ?_
        refine ww_iadd C dL_law_1098 ?_
        refine ww_sld C hX hbl hbA dL_law_1099 E (fun _ E => ?_)
        refine ww_aload_n C dL_law_1100 rfl 0 rfl ?_
        refine ww_iload_n C dL_law_1101 rfl 3 rfl ?_
        refine ww_iconst (v := 5) C dL_law_1102 (by decide) ?_
        refine ww_iadd C dL_law_1103 ?_
        refine ww_sld C hX hbl hbA dL_law_1104 E (fun _ E => ?_)
        obtain ⟨u117, e_118, E⟩ := bind_of E
        refine ww_callI C (runs_V (n := 5) (st := []) C [.int (xs (x3 + (1 : Int32)).toNatClampNeg), .int (xs (x3 + (2 : Int32)).toNatClampNeg), .int (xs (x3 + (3 : Int32)).toNatClampNeg), .int (xs (x3 + (4 : Int32)).toNatClampNeg), .int (xs (x3 + (5 : Int32)).toNatClampNeg)] (M_X9_slack l G ad N hG x1 (xs (x3 + (1 : Int32)).toNatClampNeg) (xs (x3 + (2 : Int32)).toNatClampNeg) (xs (x3 + (3 : Int32)).toNatClampNeg) (xs (x3 + (4 : Int32)).toNatClampNeg) (xs (x3 + (5 : Int32)).toNatClampNeg) dy Tx1 e_118) ⟨q1163, q108, by decide⟩ q1160 q1161 q1162 (ci := 9) rfl Tx1 rfl (Nat.le_of_ble_eq_true rfl) ⟨Nat.le_of_ble_eq_true rfl, Nat.le_of_ble_eq_true rfl⟩ ⟨Nat.le_of_ble_eq_true rfl, Nat.le_of_ble_eq_true rfl⟩ dL_law_1105 rfl) ?_
        refine ww_aload_n C dL_law_1108 rfl 2 rfl ?_
        refine ww_aload_n C dL_law_1109 rfl 0 rfl ?_
        refine ww_iload_n C dL_law_1110 rfl 3 rfl ?_
        refine ww_iconst (v := 1) C dL_law_1111 (by decide) ?_
        refine ww_iadd C dL_law_1112 ?_
        refine ww_sld C hX hbl hbA dL_law_1113 E (fun _ E => ?_)
        refine ww_aload_n C dL_law_1114 rfl 0 rfl ?_
        refine ww_iload_n C dL_law_1115 rfl 3 rfl ?_
        refine ww_iconst (v := 2) C dL_law_1116 (by decide) ?_
        refine ww_iadd C dL_law_1117 ?_
        refine ww_sld C hX hbl hbA dL_law_1118 E (fun _ E => ?_)
        refine ww_aload_n C dL_law_1119 rfl 0 rfl ?_
        refine ww_iload_n C dL_law_1120 rfl 3 rfl ?_
        refine ww_iconst (v := 3) C dL_law_1121 (by decide) ?_
        refine ww_iadd C dL_law_1122 ?_
        refine ww_sld C hX hbl hbA dL_law_1123 E (fun _ E => ?_)
        refine ww_aload_n C dL_law_1124 rfl 0 rfl ?_
        refine ww_iload_n C dL_law_1125 rfl 3 rfl ?_
        refine ww_iconst (v := 4) C dL_law_1126 (by decide) ?_
        refine ww_iadd C dL_law_1127 ?_
        refine ww_sld C hX hbl hbA dL_law_1128 E (fun _ E => ?_)
        refine ww_aload_n C dL_law_1129 rfl 0 rfl ?_
        refine ww_iload_n C dL_law_1130 rfl 3 rfl ?_
        refine ww_iconst (v := 5) C dL_law_1131 (by decide) ?_
        refine ww_iadd C dL_law_1132 ?_
        refine ww_sld C hX hbl hbA dL_law_1133 E (fun _ E => ?_)
        obtain ⟨u119, e_120, E⟩ := bind_of E
        refine ww_callI C (runs_V (n := 5) (st := [.int u117.1]) C [.int (xs (x3 + (1 : Int32)).toNatClampNeg), .int (xs (x3 + (2 : Int32)).toNatClampNeg), .int (xs (x3 + (3 : Int32)).toNatClampNeg), .int (xs (x3 + (4 : Int32)).toNatClampNeg), .int (xs (x3 + (5 : Int32)).toNatClampNeg)] (M_X10_slack l G ad N hG x2 (xs (x3 + (1 : Int32)).toNatClampNeg) (xs (x3 + (2 : Int32)).toNatClampNeg) (xs (x3 + (3 : Int32)).toNatClampNeg) (xs (x3 + (4 : Int32)).toNatClampNeg) (xs (x3 + (5 : Int32)).toNatClampNeg) u117.2 Tx2 e_120) ⟨q1842, q118, by decide⟩ q1839 q1840 q1841 (ci := 10) rfl Tx2 rfl (Nat.le_of_ble_eq_true rfl) ⟨Nat.le_of_ble_eq_true rfl, Nat.le_of_ble_eq_true rfl⟩ ⟨Nat.le_of_ble_eq_true rfl, Nat.le_of_ble_eq_true rfl⟩ dL_law_1134 rfl) ?_
        refine ww_icmp_eq (tgt := 1568) C dL_law_1137 (by decide) E (fun _ E => ?_) (fun _ E => ?_)
        · refine ww_iinc (v := (x3 + (7 : Int32))) (lv' := [(3, .int (x3 + (7 : Int32))), (0, .ref b), (1, .ref (ad x1)), (2, .ref (ad x2))]) C dL_law_1568 3 rfl rfl (by decide) rfl ?_
          refine ww_goto (tgt := 18) C dL_law_1571 (by decide) ?_
          refine ww_sub (lv' := [(0, .ref b), (1, .ref (ad x1)), (2, .ref (ad x2)), (3, .int (x3 + (7 : Int32)))]) [1, 2, 3, 0] rfl ?_
          exact ih x1 x2 (x3 + (7 : Int32)) u119.2 Tx1 Tx2 E
        · refine ww_iconst (v := 0) C dL_law_1140 (by decide) ?_
          cases E
      rw [if_neg s_116] at E
      by_cases s_121 : ((xs x3.toNatClampNeg) &&& (63 : Int32)) = (24 : Int32)
      · rw [if_pos s_121] at E
        refine ww_tabIn (tgt := 1142) C dL_law_33 s_121 (by decide) (by decide) rfl (by decide) ?_
        refine ww_aload_n C dL_law_1142 rfl 1 rfl ?_
        refine ww_aload_n C dL_law_1143 rfl 0 rfl ?_
        refine ww_iload_n C dL_law_1144 rfl 3 rfl ?_
        refine ww_iconst (v := 1) C dL_law_1145 (by decide) ?_
        refine ww_iadd C dL_law_1146 ?_
        refine ww_sld C hX hbl hbA dL_law_1147 E (fun _ E => ?_)
        refine ww_aload_n C dL_law_1148 rfl 0 rfl ?_
        refine ww_iload_n C dL_law_1149 rfl 3 rfl ?_
        refine ww_iconst (v := 2) C dL_law_1150 (by decide) ?_
        refine ww_iadd C dL_law_1151 ?_
        refine ww_sld C hX hbl hbA dL_law_1152 E (fun _ E => ?_)
        refine ww_aload_n C dL_law_1153 rfl 0 rfl ?_
        refine ww_iload_n C dL_law_1154 rfl 3 rfl ?_
        refine ww_iconst (v := 3) C dL_law_1155 (by decide) ?_
        refine ww_iadd C dL_law_1156 ?_
        refine ww_sld C hX hbl hbA dL_law_1157 E (fun _ E => ?_)
        refine ww_aload_n C dL_law_1158 rfl 0 rfl ?_
        refine ww_iload_n C dL_law_1159 rfl 3 rfl ?_
        refine ww_iconst (v := 4) C dL_law_1160 (by decide) ?_
        refine ww_iadd C dL_law_1161 ?_
        refine ww_sld C hX hbl hbA dL_law_1162 E (fun _ E => ?_)
        obtain ⟨u122, e_123, E⟩ := bind_of E
        refine ww_callI C (runs_V (n := 4) (st := []) C [.int (xs (x3 + (1 : Int32)).toNatClampNeg), .int (xs (x3 + (2 : Int32)).toNatClampNeg), .int (xs (x3 + (3 : Int32)).toNatClampNeg), .int (xs (x3 + (4 : Int32)).toNatClampNeg)] (M_X9_opened l G ad N hG x1 (xs (x3 + (1 : Int32)).toNatClampNeg) (xs (x3 + (2 : Int32)).toNatClampNeg) (xs (x3 + (3 : Int32)).toNatClampNeg) (xs (x3 + (4 : Int32)).toNatClampNeg) dy Tx1 e_123) ⟨q1167, q108, by decide⟩ q1164 q1165 q1166 (ci := 9) rfl Tx1 rfl (Nat.le_of_ble_eq_true rfl) ⟨Nat.le_of_ble_eq_true rfl, Nat.le_of_ble_eq_true rfl⟩ ⟨Nat.le_of_ble_eq_true rfl, Nat.le_of_ble_eq_true rfl⟩ dL_law_1163 rfl) ?_
        refine ww_aload_n C dL_law_1166 rfl 2 rfl ?_
        refine ww_aload_n C dL_law_1167 rfl 0 rfl ?_
        refine ww_iload_n C dL_law_1168 rfl 3 rfl ?_
        refine ww_iconst (v := 1) C dL_law_1169 (by decide) ?_
        refine ww_iadd C dL_law_1170 ?_
        refine ww_sld C hX hbl hbA dL_law_1171 E (fun _ E => ?_)
        refine ww_aload_n C dL_law_1172 rfl 0 rfl ?_
        refine ww_iload_n C dL_law_1173 rfl 3 rfl ?_
        refine ww_iconst (v := 2) C dL_law_1174 (by decide) ?_
        refine ww_iadd C dL_law_1175 ?_
        refine ww_sld C hX hbl hbA dL_law_1176 E (fun _ E => ?_)
        refine ww_aload_n C dL_law_1177 rfl 0 rfl ?_
        refine ww_iload_n C dL_law_1178 rfl 3 rfl ?_
        refine ww_iconst (v := 3) C dL_law_1179 (by decide) ?_
        refine ww_iadd C dL_law_1180 ?_
        refine ww_sld C hX hbl hbA dL_law_1181 E (fun _ E => ?_)
        refine ww_aload_n C dL_law_1182 rfl 0 rfl ?_
        refine ww_iload_n C dL_law_1183 rfl 3 rfl ?_
        refine ww_iconst (v := 4) C dL_law_1184 (by decide) ?_
        refine ww_iadd C dL_law_1185 ?_
        refine ww_sld C hX hbl hbA dL_law_1186 E (fun _ E => ?_)
        obtain ⟨u124, e_125, E⟩ := bind_of E
        refine ww_callI C (runs_V (n := 4) (st := [.int u122.1]) C [.int (xs (x3 + (1 : Int32)).toNatClampNeg), .int (xs (x3 + (2 : Int32)).toNatClampNeg), .int (xs (x3 + (3 : Int32)).toNatClampNeg), .int (xs (x3 + (4 : Int32)).toNatClampNeg)] (M_X10_opened l G ad N hG x2 (xs (x3 + (1 : Int32)).toNatClampNeg) (xs (x3 + (2 : Int32)).toNatClampNeg) (xs (x3 + (3 : Int32)).toNatClampNeg) (xs (x3 + (4 : Int32)).toNatClampNeg) u122.2 Tx2 e_125) ⟨q1846, q118, by decide⟩ q1843 q1844 q1845 (ci := 10) rfl Tx2 rfl (Nat.le_of_ble_eq_true rfl) ⟨Nat.le_of_ble_eq_true rfl, Nat.le_of_ble_eq_true rfl⟩ ⟨Nat.le_of_ble_eq_true rfl, Nat.le_of_ble_eq_true rfl⟩ dL_law_1187 rfl) ?_
        refine ww_icmp_eq (tgt := 1568) C dL_law_1190 (by decide) E (fun _ E => ?_) (fun _ E => ?_)
        · refine ww_iinc (v := (x3 + (7 : Int32))) (lv' := [(3, .int (x3 + (7 : Int32))), (0, .ref b), (1, .ref (ad x1)), (2, .ref (ad x2))]) C dL_law_1568 3 rfl rfl (by decide) rfl ?_
          refine ww_goto (tgt := 18) C dL_law_1571 (by decide) ?_
          refine ww_sub (lv' := [(0, .ref b), (1, .ref (ad x1)), (2, .ref (ad x2)), (3, .int (x3 + (7 : Int32)))]) [1, 2, 3, 0] rfl ?_
          exact ih x1 x2 (x3 + (7 : Int32)) u124.2 Tx1 Tx2 E
        · refine ww_iconst (v := 0) C dL_law_1193 (by decide) ?_
          cases E
      rw [if_neg s_121] at E
      by_cases s_126 : ((xs x3.toNatClampNeg) &&& (63 : Int32)) = (25 : Int32)
      · rw [if_pos s_126] at E
        refine ww_tabIn (tgt := 1195) C dL_law_33 s_126 (by decide) (by decide) rfl (by decide) ?_
        refine ww_aload_n C dL_law_1195 rfl 1 rfl ?_
        refine ww_aload_n C dL_law_1196 rfl 0 rfl ?_
        refine ww_iload_n C dL_law_1197 rfl 3 rfl ?_
        refine ww_iconst (v := 1) C dL_law_1198 (by decide) ?_
        refine ww_iadd C dL_law_1199 ?_
        refine ww_sld C hX hbl hbA dL_law_1200 E (fun _ E => ?_)
        refine ww_aload_n C dL_law_1201 rfl 0 rfl ?_
        refine ww_iload_n C dL_law_1202 rfl 3 rfl ?_
        refine ww_iconst (v := 2) C dL_law_1203 (by decide) ?_
        refine ww_iadd C dL_law_1204 ?_
        refine ww_sld C hX hbl hbA dL_law_1205 E (fun _ E => ?_)
        refine ww_aload_n C dL_law_1206 rfl 0 rfl ?_
        refine ww_iload_n C dL_law_1207 rfl 3 rfl ?_
        refine ww_iconst (v := 3) C dL_law_1208 (by decide) ?_
        refine ww_iadd C dL_law_1209 ?_
        refine ww_sld C hX hbl hbA dL_law_1210 E (fun _ E => ?_)
        obtain ⟨u127, e_128, E⟩ := bind_of E
        refine ww_callI C (runs_V (n := 3) (st := []) C [.int (xs (x3 + (1 : Int32)).toNatClampNeg), .int (xs (x3 + (2 : Int32)).toNatClampNeg), .int (xs (x3 + (3 : Int32)).toNatClampNeg)] (M_X9_fits l G ad N hG x1 (xs (x3 + (1 : Int32)).toNatClampNeg) (xs (x3 + (2 : Int32)).toNatClampNeg) (xs (x3 + (3 : Int32)).toNatClampNeg) dy Tx1 e_128) ⟨q1171, q108, by decide⟩ q1168 q1169 q1170 (ci := 9) rfl Tx1 rfl (Nat.le_of_ble_eq_true rfl) ⟨Nat.le_of_ble_eq_true rfl, Nat.le_of_ble_eq_true rfl⟩ ⟨Nat.le_of_ble_eq_true rfl, Nat.le_of_ble_eq_true rfl⟩ dL_law_1211 rfl) ?_
        refine ww_aload_n C dL_law_1214 rfl 2 rfl ?_
        refine ww_aload_n C dL_law_1215 rfl 0 rfl ?_
        refine ww_iload_n C dL_law_1216 rfl 3 rfl ?_
        refine ww_iconst (v := 1) C dL_law_1217 (by decide) ?_
        refine ww_iadd C dL_law_1218 ?_
        refine ww_sld C hX hbl hbA dL_law_1219 E (fun _ E => ?_)
        refine ww_aload_n C dL_law_1220 rfl 0 rfl ?_
        refine ww_iload_n C dL_law_1221 rfl 3 rfl ?_
        refine ww_iconst (v := 2) C dL_law_1222 (by decide) ?_
        refine ww_iadd C dL_law_1223 ?_
        refine ww_sld C hX hbl hbA dL_law_1224 E (fun _ E => ?_)
        refine ww_aload_n C dL_law_1225 rfl 0 rfl ?_
        refine ww_iload_n C dL_law_1226 rfl 3 rfl ?_
        refine ww_iconst (v := 3) C dL_law_1227 (by decide) ?_
        refine ww_iadd C dL_law_1228 ?_
        refine ww_sld C hX hbl hbA dL_law_1229 E (fun _ E => ?_)
        obtain ⟨u129, e_130, E⟩ := bind_of E
        refine ww_callI C (runs_V (n := 3) (st := [.int u127.1]) C [.int (xs (x3 + (1 : Int32)).toNatClampNeg), .int (xs (x3 + (2 : Int32)).toNatClampNeg), .int (xs (x3 + (3 : Int32)).toNatClampNeg)] (M_X10_fits l G ad N hG x2 (xs (x3 + (1 : Int32)).toNatClampNeg) (xs (x3 + (2 : Int32)).toNatClampNeg) (xs (x3 + (3 : Int32)).toNatClampNeg) u127.2 Tx2 e_130) ⟨q1850, q118, by decide⟩ q1847 q1848 q1849 (ci := 10) rfl Tx2 rfl (Nat.le_of_ble_eq_true rfl) ⟨Nat.le_of_ble_eq_true rfl, Nat.le_of_ble_eq_true rfl⟩ ⟨Nat.le_of_ble_eq_true rfl, Nat.le_of_ble_eq_true rfl⟩ dL_law_1230 rfl) ?_
        refine ww_icmp_eq (tgt := 1568) C dL_law_1233 (by decide) E (fun _ E => ?_) (fun _ E => ?_)
        · refine ww_iinc (v := (x3 + (7 : Int32))) (lv' := [(3, .int (x3 + (7 : Int32))), (0, .ref b), (1, .ref (ad x1)), (2, .ref (ad x2))]) C dL_law_1568 3 rfl rfl (by decide) rfl ?_
          refine ww_goto (tgt := 18) C dL_law_1571 (by decide) ?_
          refine ww_sub (lv' := [(0, .ref b), (1, .ref (ad x1)), (2, .ref (ad x2)), (3, .int (x3 + (7 : Int32)))]) [1, 2, 3, 0] rfl ?_
          exact ih x1 x2 (x3 + (7 : Int32)) u129.2 Tx1 Tx2 E
        · refine ww_iconst (v := 0) C dL_law_1236 (by decide) ?_
          cases E
      rw [if_neg s_126] at E
      by_cases s_131 : ((xs x3.toNatClampNeg) &&& (63 : Int32)) = (26 : Int32)
      · rw [if_pos s_131] at E
        refine ww_tabIn (tgt := 1238) C dL_law_33 s_131 (by decide) (by decide) rfl (by decide) ?_
        refine ww_aload_n C dL_law_1238 rfl 1 rfl ?_
        refine ww_aload_n C dL_law_1239 rfl 0 rfl ?_
        refine ww_iload_n C dL_law_1240 rfl 3 rfl ?_
        refine ww_iconst (v := 1) C dL_law_1241 (by decide) ?_
        refine ww_iadd C dL_law_1242 ?_
        refine ww_sld C hX hbl hbA dL_law_1243 E (fun _ E => ?_)
        refine ww_aload_n C dL_law_1244 rfl 0 rfl ?_
        refine ww_iload_n C dL_law_1245 rfl 3 rfl ?_
        refine ww_iconst (v := 2) C dL_law_1246 (by decide) ?_
        refine ww_iadd C dL_law_1247 ?_
        refine ww_sld C hX hbl hbA dL_law_1248 E (fun _ E => ?_)
        refine ww_aload_n C dL_law_1249 rfl 0 rfl ?_
        refine ww_iload_n C dL_law_1250 rfl 3 rfl ?_
        refine ww_iconst (v := 3) C dL_law_1251 (by decide) ?_
        refine ww_iadd C dL_law_1252 ?_
        refine ww_sld C hX hbl hbA dL_law_1253 E (fun _ E => ?_)
        obtain ⟨u132, e_133, E⟩ := bind_of E
        refine ww_callI C (runs_V (n := 3) (st := []) C [.int (xs (x3 + (1 : Int32)).toNatClampNeg), .int (xs (x3 + (2 : Int32)).toNatClampNeg), .int (xs (x3 + (3 : Int32)).toNatClampNeg)] (M_X9_hat l G ad N hG x1 (xs (x3 + (1 : Int32)).toNatClampNeg) (xs (x3 + (2 : Int32)).toNatClampNeg) (xs (x3 + (3 : Int32)).toNatClampNeg) dy Tx1 e_133) ⟨q1187, q108, by decide⟩ q1184 q1185 q1186 (ci := 9) rfl Tx1 rfl (Nat.le_of_ble_eq_true rfl) ⟨Nat.le_of_ble_eq_true rfl, Nat.le_of_ble_eq_true rfl⟩ ⟨Nat.le_of_ble_eq_true rfl, Nat.le_of_ble_eq_true rfl⟩ dL_law_1254 rfl) ?_
        refine ww_aload_n C dL_law_1257 rfl 2 rfl ?_
        refine ww_aload_n C dL_law_1258 rfl 0 rfl ?_
        refine ww_iload_n C dL_law_1259 rfl 3 rfl ?_
        refine ww_iconst (v := 1) C dL_law_1260 (by decide) ?_
        refine ww_iadd C dL_law_1261 ?_
        refine ww_sld C hX hbl hbA dL_law_1262 E (fun _ E => ?_)
        refine ww_aload_n C dL_law_1263 rfl 0 rfl ?_
        refine ww_iload_n C dL_law_1264 rfl 3 rfl ?_
        refine ww_iconst (v := 2) C dL_law_1265 (by decide) ?_
        refine ww_iadd C dL_law_1266 ?_
        refine ww_sld C hX hbl hbA dL_law_1267 E (fun _ E => ?_)
        refine ww_aload_n C dL_law_1268 rfl 0 rfl ?_
        refine ww_iload_n C dL_law_1269 rfl 3 rfl ?_
        refine ww_iconst (v := 3) C dL_law_1270 (by decide) ?_
        refine ww_iadd C dL_law_1271 ?_
        refine ww_sld C hX hbl hbA dL_law_1272 E (fun _ E => ?_)
        obtain ⟨u134, e_135, E⟩ := bind_of E
        refine ww_callI C (runs_V (n := 3) (st := [.int u132.1]) C [.int (xs (x3 + (1 : Int32)).toNatClampNeg), .int (xs (x3 + (2 : Int32)).toNatClampNeg), .int (xs (x3 + (3 : Int32)).toNatClampNeg)] (M_X10_hat l G ad N hG x2 (xs (x3 + (1 : Int32)).toNatClampNeg) (xs (x3 + (2 : Int32)).toNatClampNeg) (xs (x3 + (3 : Int32)).toNatClampNeg) u132.2 Tx2 e_135) ⟨q1866, q118, by decide⟩ q1863 q1864 q1865 (ci := 10) rfl Tx2 rfl (Nat.le_of_ble_eq_true rfl) ⟨Nat.le_of_ble_eq_true rfl, Nat.le_of_ble_eq_true rfl⟩ ⟨Nat.le_of_ble_eq_true rfl, Nat.le_of_ble_eq_true rfl⟩ dL_law_1273 rfl) ?_
        refine ww_icmp_eq (tgt := 1568) C dL_law_1276 (by decide) E (fun _ E => ?_) (fun _ E => ?_)
        · refine ww_iinc (v := (x3 + (7 : Int32))) (lv' := [(3, .int (x3 + (7 : Int32))), (0, .ref b), (1, .ref (ad x1)), (2, .ref (ad x2))]) C dL_law_1568 3 rfl rfl (by decide) rfl ?_
          refine ww_goto (tgt := 18) C dL_law_1571 (by decide) ?_
          refine ww_sub (lv' := [(0, .ref b), (1, .ref (ad x1)), (2, .ref (ad x2)), (3, .int (x3 + (7 : Int32)))]) [1, 2, 3, 0] rfl ?_
          exact ih x1 x2 (x3 + (7 : Int32)) u134.2 Tx1 Tx2 E
        · refine ww_iconst (v := 0) C dL_law_1279 (by decide) ?_
          cases E
      rw [if_neg s_131] at E
      by_cases s_136 : ((xs x3.toNatClampNeg) &&& (63 : Int32)) = (27 : Int32)
      · rw [if_pos s_136] at E
        refine ww_tabIn (tgt := 1281) C dL_law_33 s_136 (by decide) (by decide) rfl (by decide) ?_
        refine ww_aload_n C dL_law_1281 rfl 1 rfl ?_
        obtain ⟨u137, e_138, E⟩ := bind_of E
        refine ww_callI C (runs_V (n := 0) (st := []) C [] (M_X9_dark l G ad N hG x1 dy Tx1 e_138) ⟨q1198, q108, by decide⟩ q1195 q1196 q1197 (ci := 9) rfl Tx1 rfl (Nat.le_of_ble_eq_true rfl) ⟨Nat.le_of_ble_eq_true rfl, Nat.le_of_ble_eq_true rfl⟩ ⟨Nat.le_of_ble_eq_true rfl, Nat.le_of_ble_eq_true rfl⟩ dL_law_1282 rfl) ?_
        refine ww_aload_n C dL_law_1285 rfl 2 rfl ?_
        obtain ⟨u139, e_140, E⟩ := bind_of E
        refine ww_callI C (runs_V (n := 0) (st := [.int u137.1]) C [] (M_X10_dark l G ad N hG x2 u137.2 Tx2 e_140) ⟨q1870, q118, by decide⟩ q1867 q1868 q1869 (ci := 10) rfl Tx2 rfl (Nat.le_of_ble_eq_true rfl) ⟨Nat.le_of_ble_eq_true rfl, Nat.le_of_ble_eq_true rfl⟩ ⟨Nat.le_of_ble_eq_true rfl, Nat.le_of_ble_eq_true rfl⟩ dL_law_1286 rfl) ?_
        refine ww_icmp_eq (tgt := 1568) C dL_law_1289 (by decide) E (fun _ E => ?_) (fun _ E => ?_)
        · refine ww_iinc (v := (x3 + (7 : Int32))) (lv' := [(3, .int (x3 + (7 : Int32))), (0, .ref b), (1, .ref (ad x1)), (2, .ref (ad x2))]) C dL_law_1568 3 rfl rfl (by decide) rfl ?_
          refine ww_goto (tgt := 18) C dL_law_1571 (by decide) ?_
          refine ww_sub (lv' := [(0, .ref b), (1, .ref (ad x1)), (2, .ref (ad x2)), (3, .int (x3 + (7 : Int32)))]) [1, 2, 3, 0] rfl ?_
          exact ih x1 x2 (x3 + (7 : Int32)) u139.2 Tx1 Tx2 E
        · refine ww_iconst (v := 0) C dL_law_1292 (by decide) ?_
          cases E
      rw [if_neg s_136] at E
      by_cases s_141 : ((xs x3.toNatClampNeg) &&& (63 : Int32)) = (28 : Int32)
      · rw [if_pos s_141] at E
        refine ww_tabIn (tgt := 1294) C dL_law_33 s_141 (by decide) (by decide) rfl (by decide) ?_
        refine ww_aload_n C dL_law_1294 rfl 1 rfl ?_
        refine ww_aload_n C dL_law_1295 rfl 0 rfl ?_
        refine ww_iload_n C dL_law_1296 rfl 3 rfl ?_
        refine ww_iconst (v := 1) C dL_law_1297 (by decide) ?_
        refine ww_iadd C dL_law_1298 ?_
        refine ww_sld C hX hbl hbA dL_law_1299 E (fun _ E => ?_)
        refine ww_aload_n C dL_law_1300 rfl 0 rfl ?_
        refine ww_iload_n C dL_law_1301 rfl 3 rfl ?_
        refine ww_iconst (v := 2) C dL_law_1302 (by decide) ?_
        refine ww_iadd C dL_law_1303 ?_
        refine ww_sld C hX hbl hbA dL_law_1304 E (fun _ E => ?_)
        refine ww_aload_n C dL_law_1305 rfl 0 rfl ?_
        refine ww_iload_n C dL_law_1306 rfl 3 rfl ?_
        refine ww_iconst (v := 3) C dL_law_1307 (by decide) ?_
        refine ww_iadd C dL_law_1308 ?_
        refine ww_sld C hX hbl hbA dL_law_1309 E (fun _ E => ?_)
        obtain ⟨u142, e_143, E⟩ := bind_of E
        refine ww_callI C (runs_V (n := 3) (st := []) C [.int (xs (x3 + (1 : Int32)).toNatClampNeg), .int (xs (x3 + (2 : Int32)).toNatClampNeg), .int (xs (x3 + (3 : Int32)).toNatClampNeg)] (M_X9_match l G ad N hG x1 (xs (x3 + (1 : Int32)).toNatClampNeg) (xs (x3 + (2 : Int32)).toNatClampNeg) (xs (x3 + (3 : Int32)).toNatClampNeg) dy Tx1 e_143) ⟨q1202, q108, by decide⟩ q1199 q1200 q1201 (ci := 9) rfl Tx1 rfl (Nat.le_of_ble_eq_true rfl) ⟨Nat.le_of_ble_eq_true rfl, Nat.le_of_ble_eq_true rfl⟩ ⟨Nat.le_of_ble_eq_true rfl, Nat.le_of_ble_eq_true rfl⟩ dL_law_1310 rfl) ?_
        refine ww_aload_n C dL_law_1313 rfl 2 rfl ?_
        refine ww_aload_n C dL_law_1314 rfl 0 rfl ?_
        refine ww_iload_n C dL_law_1315 rfl 3 rfl ?_
        refine ww_iconst (v := 1) C dL_law_1316 (by decide) ?_
        refine ww_iadd C dL_law_1317 ?_
        refine ww_sld C hX hbl hbA dL_law_1318 E (fun _ E => ?_)
        refine ww_aload_n C dL_law_1319 rfl 0 rfl ?_
        refine ww_iload_n C dL_law_1320 rfl 3 rfl ?_
        refine ww_iconst (v := 2) C dL_law_1321 (by decide) ?_
        refine ww_iadd C dL_law_1322 ?_
        refine ww_sld C hX hbl hbA dL_law_1323 E (fun _ E => ?_)
        refine ww_aload_n C dL_law_1324 rfl 0 rfl ?_
        refine ww_iload_n C dL_law_1325 rfl 3 rfl ?_
        refine ww_iconst (v := 3) C dL_law_1326 (by decide) ?_
        refine ww_iadd C dL_law_1327 ?_
        refine ww_sld C hX hbl hbA dL_law_1328 E (fun _ E => ?_)
        obtain ⟨u144, e_145, E⟩ := bind_of E
        refine ww_callI C (runs_V (n := 3) (st := [.int u142.1]) C [.int (xs (x3 + (1 : Int32)).toNatClampNeg), .int (xs (x3 + (2 : Int32)).toNatClampNeg), .int (xs (x3 + (3 : Int32)).toNatClampNeg)] (M_X10_match l G ad N hG x2 (xs (x3 + (1 : Int32)).toNatClampNeg) (xs (x3 + (2 : Int32)).toNatClampNeg) (xs (x3 + (3 : Int32)).toNatClampNeg) u142.2 Tx2 e_145) ⟨q1874, q118, by decide⟩ q1871 q1872 q1873 (ci := 10) rfl Tx2 rfl (Nat.le_of_ble_eq_true rfl) ⟨Nat.le_of_ble_eq_true rfl, Nat.le_of_ble_eq_true rfl⟩ ⟨Nat.le_of_ble_eq_true rfl, Nat.le_of_ble_eq_true rfl⟩ dL_law_1329 rfl) ?_
        refine ww_icmp_eq (tgt := 1568) C dL_law_1332 (by decide) E (fun _ E => ?_) (fun _ E => ?_)
        · refine ww_iinc (v := (x3 + (7 : Int32))) (lv' := [(3, .int (x3 + (7 : Int32))), (0, .ref b), (1, .ref (ad x1)), (2, .ref (ad x2))]) C dL_law_1568 3 rfl rfl (by decide) rfl ?_
          refine ww_goto (tgt := 18) C dL_law_1571 (by decide) ?_
          refine ww_sub (lv' := [(0, .ref b), (1, .ref (ad x1)), (2, .ref (ad x2)), (3, .int (x3 + (7 : Int32)))]) [1, 2, 3, 0] rfl ?_
          exact ih x1 x2 (x3 + (7 : Int32)) u144.2 Tx1 Tx2 E
        · refine ww_iconst (v := 0) C dL_law_1335 (by decide) ?_
          cases E
      rw [if_neg s_141] at E
      by_cases s_146 : ((xs x3.toNatClampNeg) &&& (63 : Int32)) = (29 : Int32)
      · rw [if_pos s_146] at E
        refine ww_tabIn (tgt := 1337) C dL_law_33 s_146 (by decide) (by decide) rfl (by decide) ?_
        refine ww_aload_n C dL_law_1337 rfl 1 rfl ?_
        refine ww_aload_n C dL_law_1338 rfl 0 rfl ?_
        refine ww_iload_n C dL_law_1339 rfl 3 rfl ?_
        refine ww_iconst (v := 1) C dL_law_1340 (by decide) ?_
        refine ww_iadd C dL_law_1341 ?_
        refine ww_sld C hX hbl hbA dL_law_1342 E (fun _ E => ?_)
        refine ww_aload_n C dL_law_1343 rfl 0 rfl ?_
        refine ww_iload_n C dL_law_1344 rfl 3 rfl ?_
        refine ww_iconst (v := 2) C dL_law_1345 (by decide) ?_
        refine ww_iadd C dL_law_1346 ?_
        refine ww_sld C hX hbl hbA dL_law_1347 E (fun _ E => ?_)
        obtain ⟨u147, e_148, E⟩ := bind_of E
        refine ww_callI C (runs_V (n := 2) (st := []) C [.int (xs (x3 + (1 : Int32)).toNatClampNeg), .int (xs (x3 + (2 : Int32)).toNatClampNeg)] (M_X9_worth l G ad N hG x1 (xs (x3 + (1 : Int32)).toNatClampNeg) (xs (x3 + (2 : Int32)).toNatClampNeg) dy Tx1 e_148) ⟨q1234, q108, by decide⟩ q1231 q1232 q1233 (ci := 9) rfl Tx1 rfl (Nat.le_of_ble_eq_true rfl) ⟨Nat.le_of_ble_eq_true rfl, Nat.le_of_ble_eq_true rfl⟩ ⟨Nat.le_of_ble_eq_true rfl, Nat.le_of_ble_eq_true rfl⟩ dL_law_1348 rfl) ?_
        refine ww_aload_n C dL_law_1351 rfl 2 rfl ?_
        refine ww_aload_n C dL_law_1352 rfl 0 rfl ?_
        refine ww_iload_n C dL_law_1353 rfl 3 rfl ?_
        refine ww_iconst (v := 1) C dL_law_1354 (by decide) ?_
        refine ww_iadd C dL_law_1355 ?_
        refine ww_sld C hX hbl hbA dL_law_1356 E (fun _ E => ?_)
        refine ww_aload_n C dL_law_1357 rfl 0 rfl ?_
        refine ww_iload_n C dL_law_1358 rfl 3 rfl ?_
        refine ww_iconst (v := 2) C dL_law_1359 (by decide) ?_
        refine ww_iadd C dL_law_1360 ?_
        refine ww_sld C hX hbl hbA dL_law_1361 E (fun _ E => ?_)
        obtain ⟨u149, e_150, E⟩ := bind_of E
        refine ww_callI C (runs_V (n := 2) (st := [.int u147.1]) C [.int (xs (x3 + (1 : Int32)).toNatClampNeg), .int (xs (x3 + (2 : Int32)).toNatClampNeg)] (M_X10_worth l G ad N hG x2 (xs (x3 + (1 : Int32)).toNatClampNeg) (xs (x3 + (2 : Int32)).toNatClampNeg) u147.2 Tx2 e_150) ⟨q1892, q118, by decide⟩ q1889 q1890 q1891 (ci := 10) rfl Tx2 rfl (Nat.le_of_ble_eq_true rfl) ⟨Nat.le_of_ble_eq_true rfl, Nat.le_of_ble_eq_true rfl⟩ ⟨Nat.le_of_ble_eq_true rfl, Nat.le_of_ble_eq_true rfl⟩ dL_law_1362 rfl) ?_
        refine ww_icmp_eq (tgt := 1568) C dL_law_1365 (by decide) E (fun _ E => ?_) (fun _ E => ?_)
        · refine ww_iinc (v := (x3 + (7 : Int32))) (lv' := [(3, .int (x3 + (7 : Int32))), (0, .ref b), (1, .ref (ad x1)), (2, .ref (ad x2))]) C dL_law_1568 3 rfl rfl (by decide) rfl ?_
          refine ww_goto (tgt := 18) C dL_law_1571 (by decide) ?_
          refine ww_sub (lv' := [(0, .ref b), (1, .ref (ad x1)), (2, .ref (ad x2)), (3, .int (x3 + (7 : Int32)))]) [1, 2, 3, 0] rfl ?_
          exact ih x1 x2 (x3 + (7 : Int32)) u149.2 Tx1 Tx2 E
        · refine ww_iconst (v := 0) C dL_law_1368 (by decide) ?_
          cases E
      rw [if_neg s_146] at E
      by_cases s_151 : ((xs x3.toNatClampNeg) &&& (63 : Int32)) = (30 : Int32)
      · rw [if_pos s_151] at E
        refine ww_tabIn (tgt := 1370) C dL_law_33 s_151 (by decide) (by decide) rfl (by decide) ?_
        refine ww_aload_n C dL_law_1370 rfl 1 rfl ?_
        refine ww_aload_n C dL_law_1371 rfl 0 rfl ?_
        refine ww_iload_n C dL_law_1372 rfl 3 rfl ?_
        refine ww_iconst (v := 1) C dL_law_1373 (by decide) ?_
        refine ww_iadd C dL_law_1374 ?_
        refine ww_sld C hX hbl hbA dL_law_1375 E (fun _ E => ?_)
        refine ww_aload_n C dL_law_1376 rfl 0 rfl ?_
        refine ww_iload_n C dL_law_1377 rfl 3 rfl ?_
        refine ww_iconst (v := 2) C dL_law_1378 (by decide) ?_
        refine ww_iadd C dL_law_1379 ?_
        refine ww_sld C hX hbl hbA dL_law_1380 E (fun _ E => ?_)
        refine ww_aload_n C dL_law_1381 rfl 0 rfl ?_
        refine ww_iload_n C dL_law_1382 rfl 3 rfl ?_
        refine ww_iconst (v := 3) C dL_law_1383 (by decide) ?_
        refine ww_iadd C dL_law_1384 ?_
        refine ww_sld C hX hbl hbA dL_law_1385 E (fun _ E => ?_)
        refine ww_aload_n C dL_law_1386 rfl 0 rfl ?_
        refine ww_iload_n C dL_law_1387 rfl 3 rfl ?_
        refine ww_iconst (v := 4) C dL_law_1388 (by decide) ?_
        refine ww_iadd C dL_law_1389 ?_
        refine ww_sld C hX hbl hbA dL_law_1390 E (fun _ E => ?_)
        obtain ⟨u152, e_153, E⟩ := bind_of E
        refine ww_callI C (runs_V (n := 4) (st := []) C [.int (xs (x3 + (1 : Int32)).toNatClampNeg), .int (xs (x3 + (2 : Int32)).toNatClampNeg), .int (xs (x3 + (3 : Int32)).toNatClampNeg), .int (xs (x3 + (4 : Int32)).toNatClampNeg)] (M_X9_track l G ad N hG x1 (xs (x3 + (1 : Int32)).toNatClampNeg) (xs (x3 + (2 : Int32)).toNatClampNeg) (xs (x3 + (3 : Int32)).toNatClampNeg) (xs (x3 + (4 : Int32)).toNatClampNeg) dy Tx1 e_153) ⟨q1238, q108, by decide⟩ q1235 q1236 q1237 (ci := 9) rfl Tx1 rfl (Nat.le_of_ble_eq_true rfl) ⟨Nat.le_of_ble_eq_true rfl, Nat.le_of_ble_eq_true rfl⟩ ⟨Nat.le_of_ble_eq_true rfl, Nat.le_of_ble_eq_true rfl⟩ dL_law_1391 rfl) ?_
        refine ww_aload_n C dL_law_1394 rfl 2 rfl ?_
        refine ww_aload_n C dL_law_1395 rfl 0 rfl ?_
        refine ww_iload_n C dL_law_1396 rfl 3 rfl ?_
        refine ww_iconst (v := 1) C dL_law_1397 (by decide) ?_
        refine ww_iadd C dL_law_1398 ?_
        refine ww_sld C hX hbl hbA dL_law_1399 E (fun _ E => ?_)
        refine ww_aload_n C dL_law_1400 rfl 0 rfl ?_
        refine ww_iload_n C dL_law_1401 rfl 3 rfl ?_
        refine ww_iconst (v := 2) C dL_law_1402 (by decide) ?_
        refine ww_iadd C dL_law_1403 ?_
        refine ww_sld C hX hbl hbA dL_law_1404 E (fun _ E => ?_)
        refine ww_aload_n C dL_law_1405 rfl 0 rfl ?_
        refine ww_iload_n C dL_law_1406 rfl 3 rfl ?_
        refine ww_iconst (v := 3) C dL_law_1407 (by decide) ?_
        refine ww_iadd C dL_law_1408 ?_
        refine ww_sld C hX hbl hbA dL_law_1409 E (fun _ E => ?_)
        refine ww_aload_n C dL_law_1410 rfl 0 rfl ?_
        refine ww_iload_n C dL_law_1411 rfl 3 rfl ?_
        refine ww_iconst (v := 4) C dL_law_1412 (by decide) ?_
        refine ww_iadd C dL_law_1413 ?_
        refine ww_sld C hX hbl hbA dL_law_1414 E (fun _ E => ?_)
        obtain ⟨u154, e_155, E⟩ := bind_of E
        refine ww_callI C (runs_V (n := 4) (st := [.int u152.1]) C [.int (xs (x3 + (1 : Int32)).toNatClampNeg), .int (xs (x3 + (2 : Int32)).toNatClampNeg), .int (xs (x3 + (3 : Int32)).toNatClampNeg), .int (xs (x3 + (4 : Int32)).toNatClampNeg)] (M_X10_track l G ad N hG x2 (xs (x3 + (1 : Int32)).toNatClampNeg) (xs (x3 + (2 : Int32)).toNatClampNeg) (xs (x3 + (3 : Int32)).toNatClampNeg) (xs (x3 + (4 : Int32)).toNatClampNeg) u152.2 Tx2 e_155) ⟨q1896, q118, by decide⟩ q1893 q1894 q1895 (ci := 10) rfl Tx2 rfl (Nat.le_of_ble_eq_true rfl) ⟨Nat.le_of_ble_eq_true rfl, Nat.le_of_ble_eq_true rfl⟩ ⟨Nat.le_of_ble_eq_true rfl, Nat.le_of_ble_eq_true rfl⟩ dL_law_1415 rfl) ?_
        refine ww_icmp_eq (tgt := 1568) C dL_law_1418 (by decide) E (fun _ E => ?_) (fun _ E => ?_)
        · refine ww_iinc (v := (x3 + (7 : Int32))) (lv' := [(3, .int (x3 + (7 : Int32))), (0, .ref b), (1, .ref (ad x1)), (2, .ref (ad x2))]) C dL_law_1568 3 rfl rfl (by decide) rfl ?_
          refine ww_goto (tgt := 18) C dL_law_1571 (by decide) ?_
          refine ww_sub (lv' := [(0, .ref b), (1, .ref (ad x1)), (2, .ref (ad x2)), (3, .int (x3 + (7 : Int32)))]) [1, 2, 3, 0] rfl ?_
          exact ih x1 x2 (x3 + (7 : Int32)) u154.2 Tx1 Tx2 E
        · refine ww_iconst (v := 0) C dL_law_1421 (by decide) ?_
          cases E
      rw [if_neg s_151] at E
      by_cases s_156 : ((xs x3.toNatClampNeg) &&& (63 : Int32)) = (31 : Int32)
      · rw [if_pos s_156] at E
        refine ww_tabIn (tgt := 1423) C dL_law_33 s_156 (by decide) (by decide) rfl (by decide) ?_
        refine ww_aload_n C dL_law_1423 rfl 1 rfl ?_
        refine ww_aload_n C dL_law_1424 rfl 0 rfl ?_
        refine ww_iload_n C dL_law_1425 rfl 3 rfl ?_
        refine ww_iconst (v := 1) C dL_law_1426 (by decide) ?_
        refine ww_iadd C dL_law_1427 ?_
        refine ww_sld C hX hbl hbA dL_law_1428 E (fun _ E => ?_)
        refine ww_aload_n C dL_law_1429 rfl 0 rfl ?_
        refine ww_iload_n C dL_law_1430 rfl 3 rfl ?_
        refine ww_iconst (v := 2) C dL_law_1431 (by decide) ?_
        refine ww_iadd C dL_law_1432 ?_
        refine ww_sld C hX hbl hbA dL_law_1433 E (fun _ E => ?_)
        refine ww_aload_n C dL_law_1434 rfl 0 rfl ?_
        refine ww_iload_n C dL_law_1435 rfl 3 rfl ?_
        refine ww_iconst (v := 3) C dL_law_1436 (by decide) ?_
        refine ww_iadd C dL_law_1437 ?_
        refine ww_sld C hX hbl hbA dL_law_1438 E (fun _ E => ?_)
        refine ww_aload_n C dL_law_1439 rfl 0 rfl ?_
        refine ww_iload_n C dL_law_1440 rfl 3 rfl ?_
        refine ww_iconst (v := 4) C dL_law_1441 (by decide) ?_
        refine ww_iadd C dL_law_1442 ?_
        refine ww_sld C hX hbl hbA dL_law_1443 E (fun _ E => ?_)
        refine ww_aload_n C dL_law_1444 rfl 0 rfl ?_
        refine ww_iload_n C dL_law_1445 rfl 3 rfl ?_
        refine ww_iconst (v := 5) C dL_law_1446 (by decide) ?_
        refine ww_iadd C dL_law_1447 ?_
        refine ww_sld C hX hbl hbA dL_law_1448 E (fun _ E => ?_)
        refine ww_aload_n C dL_law_1449 rfl 0 rfl ?_
        refine ww_iload_n C dL_law_1450 rfl 3 rfl ?_
        refine ww_bipush (v := 6) C dL_law_1451 (by decide) ?_
        refine ww_iadd C dL_law_1453 ?_
        refine ww_sld C hX hbl hbA dL_law_1454 E (fun _ E => ?_)
        obtain ⟨u157, e_158, E⟩ := bind_of E
        refine ww_callL C (runs_V (n := 6) (st := []) C [.int (xs (x3 + (1 : Int32)).toNatClampNeg), .int (xs (x3 + (2 : Int32)).toNatClampNeg), .int (xs (x3 + (3 : Int32)).toNatClampNeg), .int (xs (x3 + (4 : Int32)).toNatClampNeg), .int (xs (x3 + (5 : Int32)).toNatClampNeg), .int (xs (x3 + (6 : Int32)).toNatClampNeg)] (M_X9_habit l G ad N hG x1 (xs (x3 + (1 : Int32)).toNatClampNeg) (xs (x3 + (2 : Int32)).toNatClampNeg) (xs (x3 + (3 : Int32)).toNatClampNeg) (xs (x3 + (4 : Int32)).toNatClampNeg) (xs (x3 + (5 : Int32)).toNatClampNeg) (xs (x3 + (6 : Int32)).toNatClampNeg) dy Tx1 e_158) ⟨q1242, q108, by decide⟩ q1239 q1240 q1241 (ci := 9) rfl Tx1 rfl (Nat.le_of_ble_eq_true rfl) ⟨Nat.le_of_ble_eq_true rfl, Nat.le_of_ble_eq_true rfl⟩ ⟨Nat.le_of_ble_eq_true rfl, Nat.le_of_ble_eq_true rfl⟩ dL_law_1455 rfl) ?_
        refine ww_aload_n C dL_law_1458 rfl 2 rfl ?_
        refine ww_aload_n C dL_law_1459 rfl 0 rfl ?_
        refine ww_iload_n C dL_law_1460 rfl 3 rfl ?_
        refine ww_iconst (v := 1) C dL_law_1461 (by decide) ?_
        refine ww_iadd C dL_law_1462 ?_
        refine ww_sld C hX hbl hbA dL_law_1463 E (fun _ E => ?_)
        refine ww_aload_n C dL_law_1464 rfl 0 rfl ?_
        refine ww_iload_n C dL_law_1465 rfl 3 rfl ?_
        refine ww_iconst (v := 2) C dL_law_1466 (by decide) ?_
        refine ww_iadd C dL_law_1467 ?_
        refine ww_sld C hX hbl hbA dL_law_1468 E (fun _ E => ?_)
        refine ww_aload_n C dL_law_1469 rfl 0 rfl ?_
        refine ww_iload_n C dL_law_1470 rfl 3 rfl ?_
        refine ww_iconst (v := 3) C dL_law_1471 (by decide) ?_
        refine ww_iadd C dL_law_1472 ?_
        refine ww_sld C hX hbl hbA dL_law_1473 E (fun _ E => ?_)
        refine ww_aload_n C dL_law_1474 rfl 0 rfl ?_
        refine ww_iload_n C dL_law_1475 rfl 3 rfl ?_
        refine ww_iconst (v := 4) C dL_law_1476 (by decide) ?_
        refine ww_iadd C dL_law_1477 ?_
        refine ww_sld C hX hbl hbA dL_law_1478 E (fun _ E => ?_)
        refine ww_aload_n C dL_law_1479 rfl 0 rfl ?_
        refine ww_iload_n C dL_law_1480 rfl 3 rfl ?_
        refine ww_iconst (v := 5) C dL_law_1481 (by decide) ?_
        refine ww_iadd C dL_law_1482 ?_
        refine ww_sld C hX hbl hbA dL_law_1483 E (fun _ E => ?_)
        refine ww_aload_n C dL_law_1484 rfl 0 rfl ?_
        refine ww_iload_n C dL_law_1485 rfl 3 rfl ?_
        refine ww_bipush (v := 6) C dL_law_1486 (by decide) ?_
        refine ww_iadd C dL_law_1488 ?_
        refine ww_sld C hX hbl hbA dL_law_1489 E (fun _ E => ?_)
        obtain ⟨u159, e_160, E⟩ := bind_of E
        refine ww_callL C (runs_V (n := 6) (st := [.long u157.1]) C [.int (xs (x3 + (1 : Int32)).toNatClampNeg), .int (xs (x3 + (2 : Int32)).toNatClampNeg), .int (xs (x3 + (3 : Int32)).toNatClampNeg), .int (xs (x3 + (4 : Int32)).toNatClampNeg), .int (xs (x3 + (5 : Int32)).toNatClampNeg), .int (xs (x3 + (6 : Int32)).toNatClampNeg)] (M_X10_habit l G ad N hG x2 (xs (x3 + (1 : Int32)).toNatClampNeg) (xs (x3 + (2 : Int32)).toNatClampNeg) (xs (x3 + (3 : Int32)).toNatClampNeg) (xs (x3 + (4 : Int32)).toNatClampNeg) (xs (x3 + (5 : Int32)).toNatClampNeg) (xs (x3 + (6 : Int32)).toNatClampNeg) u157.2 Tx2 e_160) ⟨q1900, q118, by decide⟩ q1897 q1898 q1899 (ci := 10) rfl Tx2 rfl (Nat.le_of_ble_eq_true rfl) ⟨Nat.le_of_ble_eq_true rfl, Nat.le_of_ble_eq_true rfl⟩ ⟨Nat.le_of_ble_eq_true rfl, Nat.le_of_ble_eq_true rfl⟩ dL_law_1490 rfl) ?_
        refine ww_lcmp C dL_law_1493 ?_
        refine ww_if_eq (tgt := 1568) C dL_law_1494 (by decide) E (fun _ E => ?_) (fun _ E => ?_)
        · refine ww_iinc (v := (x3 + (7 : Int32))) (lv' := [(3, .int (x3 + (7 : Int32))), (0, .ref b), (1, .ref (ad x1)), (2, .ref (ad x2))]) C dL_law_1568 3 rfl rfl (by decide) rfl ?_
          refine ww_goto (tgt := 18) C dL_law_1571 (by decide) ?_
          refine ww_sub (lv' := [(0, .ref b), (1, .ref (ad x1)), (2, .ref (ad x2)), (3, .int (x3 + (7 : Int32)))]) [1, 2, 3, 0] rfl ?_
          exact ih x1 x2 (x3 + (7 : Int32)) u159.2 Tx1 Tx2 E
        · refine ww_iconst (v := 0) C dL_law_1497 (by decide) ?_
          cases E
      rw [if_neg s_156] at E
      by_cases s_161 : ((xs x3.toNatClampNeg) &&& (63 : Int32)) = (32 : Int32)
      · rw [if_pos s_161] at E
        refine ww_tabIn (tgt := 1499) C dL_law_33 s_161 (by decide) (by decide) rfl (by decide) ?_
        refine ww_aload_n C dL_law_1499 rfl 1 rfl ?_
        refine ww_aload_n C dL_law_1500 rfl 0 rfl ?_
        refine ww_iload_n C dL_law_1501 rfl 3 rfl ?_
        refine ww_iconst (v := 1) C dL_law_1502 (by decide) ?_
        refine ww_iadd C dL_law_1503 ?_
        refine ww_sld C hX hbl hbA dL_law_1504 E (fun _ E => ?_)
        obtain ⟨u162, e_163, E⟩ := bind_of E
        refine ww_callI C (runs_V (n := 1) (st := []) C [.int (xs (x3 + (1 : Int32)).toNatClampNeg)] (M_X9_count l G ad N hG x1 (xs (x3 + (1 : Int32)).toNatClampNeg) dy Tx1 e_163) ⟨q1252, q108, by decide⟩ q1249 q1250 q1251 (ci := 9) rfl Tx1 rfl (Nat.le_of_ble_eq_true rfl) ⟨Nat.le_of_ble_eq_true rfl, Nat.le_of_ble_eq_true rfl⟩ ⟨Nat.le_of_ble_eq_true rfl, Nat.le_of_ble_eq_true rfl⟩ dL_law_1505 rfl) ?_
        refine ww_aload_n C dL_law_1508 rfl 2 rfl ?_
        refine ww_aload_n C dL_law_1509 rfl 0 rfl ?_
        refine ww_iload_n C dL_law_1510 rfl 3 rfl ?_
        refine ww_iconst (v := 1) C dL_law_1511 (by decide) ?_
        refine ww_iadd C dL_law_1512 ?_
        refine ww_sld C hX hbl hbA dL_law_1513 E (fun _ E => ?_)
        obtain ⟨u164, e_165, E⟩ := bind_of E
        refine ww_callI C (runs_V (n := 1) (st := [.int u162.1]) C [.int (xs (x3 + (1 : Int32)).toNatClampNeg)] (M_X10_count l G ad N hG x2 (xs (x3 + (1 : Int32)).toNatClampNeg) u162.2 Tx2 e_165) ⟨q1906, q118, by decide⟩ q1903 q1904 q1905 (ci := 10) rfl Tx2 rfl (Nat.le_of_ble_eq_true rfl) ⟨Nat.le_of_ble_eq_true rfl, Nat.le_of_ble_eq_true rfl⟩ ⟨Nat.le_of_ble_eq_true rfl, Nat.le_of_ble_eq_true rfl⟩ dL_law_1514 rfl) ?_
        refine ww_icmp_eq (tgt := 1568) C dL_law_1517 (by decide) E (fun _ E => ?_) (fun _ E => ?_)
        · refine ww_iinc (v := (x3 + (7 : Int32))) (lv' := [(3, .int (x3 + (7 : Int32))), (0, .ref b), (1, .ref (ad x1)), (2, .ref (ad x2))]) C dL_law_1568 3 rfl rfl (by decide) rfl ?_
          refine ww_goto (tgt := 18) C dL_law_1571 (by decide) ?_
          refine ww_sub (lv' := [(0, .ref b), (1, .ref (ad x1)), (2, .ref (ad x2)), (3, .int (x3 + (7 : Int32)))]) [1, 2, 3, 0] rfl ?_
          exact ih x1 x2 (x3 + (7 : Int32)) u164.2 Tx1 Tx2 E
        · refine ww_iconst (v := 0) C dL_law_1520 (by decide) ?_
          cases E
      rw [if_neg s_161] at E
      by_cases s_166 : ((xs x3.toNatClampNeg) &&& (63 : Int32)) = (33 : Int32)
      · rw [if_pos s_166] at E
        refine ww_tabIn (tgt := 1522) C dL_law_33 s_166 (by decide) (by decide) rfl (by decide) ?_
        refine ww_aload_n C dL_law_1522 rfl 1 rfl ?_
        refine ww_aload_n C dL_law_1523 rfl 0 rfl ?_
        refine ww_iload_n C dL_law_1524 rfl 3 rfl ?_
        refine ww_iconst (v := 1) C dL_law_1525 (by decide) ?_
        refine ww_iadd C dL_law_1526 ?_
        refine ww_sld C hX hbl hbA dL_law_1527 E (fun _ E => ?_)
        obtain ⟨u167, e_168, E⟩ := bind_of E
        refine ww_callI C (runs_V (n := 1) (st := []) C [.int (xs (x3 + (1 : Int32)).toNatClampNeg)] (M_X9_image l G ad N hG x1 (xs (x3 + (1 : Int32)).toNatClampNeg) dy Tx1 e_168) ⟨q1256, q108, by decide⟩ q1253 q1254 q1255 (ci := 9) rfl Tx1 rfl (Nat.le_of_ble_eq_true rfl) ⟨Nat.le_of_ble_eq_true rfl, Nat.le_of_ble_eq_true rfl⟩ ⟨Nat.le_of_ble_eq_true rfl, Nat.le_of_ble_eq_true rfl⟩ dL_law_1528 rfl) ?_
        refine ww_aload_n C dL_law_1531 rfl 2 rfl ?_
        refine ww_aload_n C dL_law_1532 rfl 0 rfl ?_
        refine ww_iload_n C dL_law_1533 rfl 3 rfl ?_
        refine ww_iconst (v := 1) C dL_law_1534 (by decide) ?_
        refine ww_iadd C dL_law_1535 ?_
        refine ww_sld C hX hbl hbA dL_law_1536 E (fun _ E => ?_)
        obtain ⟨u169, e_170, E⟩ := bind_of E
        refine ww_callI C (runs_V (n := 1) (st := [.int u167.1]) C [.int (xs (x3 + (1 : Int32)).toNatClampNeg)] (M_X10_image l G ad N hG x2 (xs (x3 + (1 : Int32)).toNatClampNeg) u167.2 Tx2 e_170) ⟨q1910, q118, by decide⟩ q1907 q1908 q1909 (ci := 10) rfl Tx2 rfl (Nat.le_of_ble_eq_true rfl) ⟨Nat.le_of_ble_eq_true rfl, Nat.le_of_ble_eq_true rfl⟩ ⟨Nat.le_of_ble_eq_true rfl, Nat.le_of_ble_eq_true rfl⟩ dL_law_1537 rfl) ?_
        refine ww_icmp_eq (tgt := 1568) C dL_law_1540 (by decide) E (fun _ E => ?_) (fun _ E => ?_)
        · refine ww_iinc (v := (x3 + (7 : Int32))) (lv' := [(3, .int (x3 + (7 : Int32))), (0, .ref b), (1, .ref (ad x1)), (2, .ref (ad x2))]) C dL_law_1568 3 rfl rfl (by decide) rfl ?_
          refine ww_goto (tgt := 18) C dL_law_1571 (by decide) ?_
          refine ww_sub (lv' := [(0, .ref b), (1, .ref (ad x1)), (2, .ref (ad x2)), (3, .int (x3 + (7 : Int32)))]) [1, 2, 3, 0] rfl ?_
          exact ih x1 x2 (x3 + (7 : Int32)) u169.2 Tx1 Tx2 E
        · refine ww_iconst (v := 0) C dL_law_1543 (by decide) ?_
          cases E
      rw [if_neg s_166] at E
      by_cases s_171 : ((xs x3.toNatClampNeg) &&& (63 : Int32)) = (34 : Int32)
      · rw [if_pos s_171] at E
        refine ww_tabIn (tgt := 1545) C dL_law_33 s_171 (by decide) (by decide) rfl (by decide) ?_
        refine ww_aload_n C dL_law_1545 rfl 1 rfl ?_
        refine ww_aload_n C dL_law_1546 rfl 0 rfl ?_
        refine ww_iload_n C dL_law_1547 rfl 3 rfl ?_
        refine ww_iconst (v := 1) C dL_law_1548 (by decide) ?_
        refine ww_iadd C dL_law_1549 ?_
        refine ww_sld C hX hbl hbA dL_law_1550 E (fun _ E => ?_)
        obtain ⟨u172, e_173, E⟩ := bind_of E
        refine ww_callI C (runs_V (n := 1) (st := []) C [.int (xs (x3 + (1 : Int32)).toNatClampNeg)] (M_X9_again l G ad N hG x1 (xs (x3 + (1 : Int32)).toNatClampNeg) dy Tx1 e_173) ⟨q1271, q108, by decide⟩ q1268 q1269 q1270 (ci := 9) rfl Tx1 rfl (Nat.le_of_ble_eq_true rfl) ⟨Nat.le_of_ble_eq_true rfl, Nat.le_of_ble_eq_true rfl⟩ ⟨Nat.le_of_ble_eq_true rfl, Nat.le_of_ble_eq_true rfl⟩ dL_law_1551 rfl) ?_
        refine ww_aload_n C dL_law_1554 rfl 2 rfl ?_
        refine ww_aload_n C dL_law_1555 rfl 0 rfl ?_
        refine ww_iload_n C dL_law_1556 rfl 3 rfl ?_
        refine ww_iconst (v := 1) C dL_law_1557 (by decide) ?_
        refine ww_iadd C dL_law_1558 ?_
        refine ww_sld C hX hbl hbA dL_law_1559 E (fun _ E => ?_)
        obtain ⟨u174, e_175, E⟩ := bind_of E
        refine ww_callI C (runs_V (n := 1) (st := [.int u172.1]) C [.int (xs (x3 + (1 : Int32)).toNatClampNeg)] (M_X10_again l G ad N hG x2 (xs (x3 + (1 : Int32)).toNatClampNeg) u172.2 Tx2 e_175) ⟨q1921, q118, by decide⟩ q1918 q1919 q1920 (ci := 10) rfl Tx2 rfl (Nat.le_of_ble_eq_true rfl) ⟨Nat.le_of_ble_eq_true rfl, Nat.le_of_ble_eq_true rfl⟩ ⟨Nat.le_of_ble_eq_true rfl, Nat.le_of_ble_eq_true rfl⟩ dL_law_1560 rfl) ?_
        refine ww_icmp_eq (tgt := 1568) C dL_law_1563 (by decide) E (fun _ E => ?_) (fun _ E => ?_)
        · refine ww_iinc (v := (x3 + (7 : Int32))) (lv' := [(3, .int (x3 + (7 : Int32))), (0, .ref b), (1, .ref (ad x1)), (2, .ref (ad x2))]) C dL_law_1568 3 rfl rfl (by decide) rfl ?_
          refine ww_goto (tgt := 18) C dL_law_1571 (by decide) ?_
          refine ww_sub (lv' := [(0, .ref b), (1, .ref (ad x1)), (2, .ref (ad x2)), (3, .int (x3 + (7 : Int32)))]) [1, 2, 3, 0] rfl ?_
          exact ih x1 x2 (x3 + (7 : Int32)) u174.2 Tx1 Tx2 E
        · refine ww_iconst (v := 0) C dL_law_1566 (by decide) ?_
          cases E
      rw [if_neg s_171] at E
      refine ww_tabOut (tgt := 1568) C dL_law_33 (tab_out (fun v h1 h2 => ?_)) (by decide) ?_
      · rcases (show v = 0 ∨ v = 1 ∨ v = 2 ∨ v = 3 ∨ v = 4 ∨ v = 5 ∨ v = 6 ∨ v = 7 ∨ v = 8 ∨ v = 9 ∨ v = 10 ∨ v = 11 ∨ v = 12 ∨ v = 13 ∨ v = 14 ∨ v = 15 ∨ v = 16 ∨ v = 17 ∨ v = 18 ∨ v = 19 ∨ v = 20 ∨ v = 21 ∨ v = 22 ∨ v = 23 ∨ v = 24 ∨ v = 25 ∨ v = 26 ∨ v = 27 ∨ v = 28 ∨ v = 29 ∨ v = 30 ∨ v = 31 ∨ v = 32 ∨ v = 33 ∨ v = 34 by omega) with rfl | rfl | rfl | rfl | rfl | rfl | rfl | rfl | rfl | rfl | rfl | rfl | rfl | rfl | rfl | rfl | rfl | rfl | rfl | rfl | rfl | rfl | rfl | rfl | rfl | rfl | rfl | rfl | rfl | rfl | rfl | rfl | rfl | rfl | rfl
        · exact ti_ne s_1 (by decide)
        · exact ti_ne s_6 (by decide)
        · exact ti_ne s_11 (by decide)
        · exact ti_ne s_16 (by decide)
        · exact ti_ne s_21 (by decide)
        · exact ti_ne s_26 (by decide)
        · exact ti_ne s_31 (by decide)
        · exact ti_ne s_36 (by decide)
        · exact ti_ne s_41 (by decide)
        · exact ti_ne s_46 (by decide)
        · exact ti_ne s_51 (by decide)
        · exact ti_ne s_56 (by decide)
        · exact ti_ne s_61 (by decide)
        · exact ti_ne s_66 (by decide)
        · exact ti_ne s_71 (by decide)
        · exact ti_ne s_76 (by decide)
        · exact ti_ne s_81 (by decide)
        · exact ti_ne s_86 (by decide)
        · exact ti_ne s_91 (by decide)
        · exact ti_ne s_96 (by decide)
        · exact ti_ne s_101 (by decide)
        · exact ti_ne s_106 (by decide)
        · exact ti_ne s_111 (by decide)
        · exact ti_ne s_116 (by decide)
        · exact ti_ne s_121 (by decide)
        · exact ti_ne s_126 (by decide)
        · exact ti_ne s_131 (by decide)
        · exact ti_ne s_136 (by decide)
        · exact ti_ne s_141 (by decide)
        · exact ti_ne s_146 (by decide)
        · exact ti_ne s_151 (by decide)
        · exact ti_ne s_156 (by decide)
        · exact ti_ne s_161 (by decide)
        · exact ti_ne s_166 (by decide)
        · exact ti_ne s_171 (by decide)
      refine ww_iinc (v := (x3 + (7 : Int32))) (lv' := [(3, .int (x3 + (7 : Int32))), (0, .ref b), (1, .ref (ad x1)), (2, .ref (ad x2))]) C dL_law_1568 3 rfl rfl (by decide) rfl ?_
      refine ww_goto (tgt := 18) C dL_law_1571 (by decide) ?_
      refine ww_sub (lv' := [(0, .ref b), (1, .ref (ad x1)), (2, .ref (ad x2)), (3, .int (x3 + (7 : Int32)))]) [1, 2, 3, 0] rfl ?_
      exact ih x1 x2 (x3 + (7 : Int32)) dy Tx1 Tx2 E
