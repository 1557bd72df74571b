/-! MY OWN ROWS: the heap as numbers (ST, DY), the world that it stands for (toW), a judgement over it (WJ), one row an instruction -/
/-- how many cells; each cell's shape; its references; its ints; its longs. Cells have the numbers 1 .. n, 0 is null. -/
abbrev ST : Type := Nat × (Nat → Nat × Nat) × (Nat → Nat → Nat)
abbrev DY : Type := (Nat → Nat → Int32) × (Nat → Nat → Int64)
def gs (S : ST) (a : Nat) : Nat × Nat := if 0 < a ∧ a ≤ S.1 then S.2.1 a else (99, 0)
def gr (S : ST) (a k : Nat) : Nat := S.2.2 a k
def gi (dy : DY) (a k : Nat) : Int32 := dy.1 a k
def gl (dy : DY) (a k : Nat) : Int64 := dy.2 a k
def up2 {α : Type} (f : Nat → Nat → α) (a k : Nat) (v : α) : Nat → Nat → α := fun x y => if x = a ∧ y = k then v else f x y
def si (dy : DY) (a k : Nat) (v : Int32) : DY := (up2 dy.1 a k v, dy.2)
def sl (dy : DY) (a k : Nat) (v : Int64) : DY := (dy.1, up2 dy.2 a k v)
def sr (S : ST) (a k : Nat) (v : Nat) : ST := (S.1, S.2.1, up2 S.2.2 a k v)
/-- a stretch of one row of ints laid over another's -/
def cpi (dy : DY) (a b sp dp n : Nat) : DY := (fun x y => if x = b ∧ dp ≤ y ∧ y < dp + n then dy.1 a (sp + (y - dp)) else dy.1 x y, dy.2)
/-- a new cell of a shape, with nothing in it -/
def alS (S : ST) (q : Nat × Nat) : ST := (S.1 + 1, fun x => if x = S.1 + 1 then q else S.2.1 x, fun x y => if x = S.1 + 1 then 0 else S.2.2 x y)
def alD (S : ST) (dy : DY) : DY := (fun x y => if x = S.1 + 1 then 0 else dy.1 x y, fun x y => if x = S.1 + 1 then 0 else dy.2 x y)
/-- a name for what comes next -/
def bd {α β : Type} (v : α) (f : α → Option β) : Option β := f v
/-- what a row of a kind keeps of an int: 2 bytes, 3 truth values -/
def nr (t : Nat) (x : Int32) : Int32 := if t = 2 then vp_nar .byte x else if t = 3 then vp_nar .boolean x else x
def tyT : List FieldType := [.int, .byte, .boolean, .long, .object RX8, .object RX7, .object RX4, .object RX2]
def tyX (c : Nat) : Nat → FieldType := match c with
  | 0 => tyX0
  | 1 => tyX1
  | 2 => tyX2
  | 3 => tyX3
  | 4 => tyX4
  | 5 => tyX5
  | 6 => tyX6
  | 7 => tyX7
  | 8 => tyX8
  | 9 => tyX9
  | _ => tyX10
def nF (c : Nat) : Nat := [9, 5, 7, 2, 13, 2, 8, 13, 20, 10, 61].getD c 0
/-- a field's kind: 1 int, 3 truth value, 4 long, 5 reference -/
def fK (c k : Nat) : Nat := match tyX c k with
  | .int => 1
  | .boolean => 3
  | .long => 4
  | _ => 5
def rV (ad : Nat → Nat) (r : Nat) : Value := if r = 0 then .null else .ref (ad r)
def rO (ad : Nat → Nat) (r : Nat) : Option Nat := if r = 0 then none else some (ad r)
theorem rO_V {ad : Nat → Nat} {r : Nat} : va_rf (rO ad r) = rV ad r := by
  unfold rO rV
  by_cases h : r = 0
  · simp [h, va_rf]
  · simp [h, va_rf]
theorem rV_pos {ad : Nat → Nat} {r : Nat} (h : r ≠ 0) : rV ad r = .ref (ad r) := by simp [rV, h]
def fV (ad : Nat → Nat) (S : ST) (dy : DY) (a c k : Nat) : Value := if fK c k = 5 then rV ad (gr S a k) else if fK c k = 4 then .long (gl dy a k) else .int (nr (fK c k) (gi dy a k))
def cE (cA : Nat → ClassId) (ad : Nat → Nat) (S : ST) (dy : DY) (a : Nat) : va_E :=
  if (gs S a).1 = 0 then .inr ((gs S a).2, (List.range (nF (gs S a).2)).map (fV ad S dy a (gs S a).2))
  else if (gs S a).1 = 4 then .inl (cA 4, (gs S a).2, .inr (.inl (gl dy a)))
  else if (gs S a).1 ≤ 3 then .inl (cA (gs S a).1, (gs S a).2, .inl (fun i => nr (gs S a).1 (gi dy a i)))
  else .inl (cA (gs S a).1, (gs S a).2, .inr (.inr (.inr (.inr (fun i => rO ad (gr S a i))))))
def toW (cA : Nat → ClassId) (ad : Nat → Nat) (S : ST) (dy : DY) : va_W := (List.range S.1).map (fun k => (ad (k + 1), cE cA ad S dy (k + 1)))
theorem gs_lt {S : ST} {a : Nat} {q : Nat × Nat} (T : gs S a = q) (hq : q.1 ≠ 99) : 0 < a ∧ a ≤ S.1 := by
  unfold gs at T
  split at T
  · assumption
  · exact absurd (by rw [← T]) hq
theorem toW_at {cA : Nat → ClassId} {ad : Nat → Nat} {S : ST} {dy : DY} {a : Nat} (h0 : 0 < a) (h1 : a ≤ S.1) : (toW cA ad S dy)[a - 1]? = some (ad a, cE cA ad S dy a) := by
  unfold toW
  rw [List.getElem?_map, List.getElem?_range (by omega)]
  simp only [Option.map_some]
  rw [show a - 1 + 1 = a by omega]
theorem toW_set {cA : Nat → ClassId} {ad : Nat → Nat} {S : ST} {dy dy' : DY} {a : Nat} {e : va_E} (h0 : 0 < a) (h1 : a ≤ S.1) (hE : cE cA ad S dy' a = e) (ho : ∀ b, 0 < b → b ≤ S.1 → b ≠ a → cE cA ad S dy' b = cE cA ad S dy b) : (toW cA ad S dy).set (a - 1) (ad a, e) = toW cA ad S dy' := by
  apply List.ext_getElem?
  intro i
  by_cases hi : i < S.1
  · rw [show (toW cA ad S dy')[i]? = some (ad (i + 1), cE cA ad S dy' (i + 1)) from toW_at (a := i + 1) (by omega) (by omega)]
    by_cases hia : i = a - 1
    · subst hia
      rw [List.getElem?_set_self (by unfold toW; simp; omega), show a - 1 + 1 = a by omega, hE]
    · rw [List.getElem?_set_ne (Ne.symm hia), show (toW cA ad S dy)[i]? = some (ad (i + 1), cE cA ad S dy (i + 1)) from toW_at (a := i + 1) (by omega) (by omega), ho (i + 1) (by omega) (by omega) (by omega)]
  · rw [List.getElem?_eq_none (by unfold toW; simp; omega), List.getElem?_eq_none (by unfold toW; simp; omega)]
theorem fV_rng {ad : Nat → Nat} {S : ST} {dy : DY} {a c k n : Nat} (hk : k < n) : ((List.range n).map (fV ad S dy a c))[k]? = some (fV ad S dy a c k) := by
  rw [List.getElem?_map, List.getElem?_range hk]
  rfl
theorem range_set {β : Type} {f g : Nat → β} {k n : Nat} {v : β} (hk : k < n) (hv : g k = v) (ho : ∀ j, j ≠ k → g j = f j) : ((List.range n).map f).set k v = (List.range n).map g := by
  apply List.ext_getElem?
  intro i
  by_cases hi : i < n
  · by_cases hik : i = k
    · subst hik
      rw [List.getElem?_set_self (by simp; omega), List.getElem?_map, List.getElem?_range hi]
      simp [hv]
    · rw [List.getElem?_set_ne (Ne.symm hik), List.getElem?_map, List.getElem?_map, List.getElem?_range hi]
      simp [ho i hik]
  · rw [List.getElem?_eq_none (by simp; omega), List.getElem?_eq_none (by simp; omega)]
abbrev zb (v : Int32) : Prop := v = 0 ∨ v = 1
abbrev ib (i : Int32) (n : Nat) : Prop := 0 ≤ i.toInt ∧ i.toInt < (n : Int)
theorem ib_in {i : Int32} {n : Nat} (h : ib i n) : vp_in i n := by
  unfold vp_in
  rintro (q | q)
  · have h1 := Int32.lt_iff_toInt_lt.mp q
    have h2 := h.1
    simp only [Int32.toInt_zero] at h1
    omega
  · have h1 := h.1
    have h2 := h.2
    have : i.toNatClampNeg = i.toInt.toNat := rfl
    omega
theorem zb_nar {v : Int32} (h : zb v) : narrow .boolean (.int v) = .int v := by
  rcases h with rfl | rfl <;> rfl
def mw : List Cond := lw_tbl.filter goodWord
theorem mw_in {w : Cond} (i : Nat) (h : lw_tbl[i]? = some w) (g : goodWord w = true) : w ∈ mw := List.mem_filter.mpr ⟨List.mem_of_getElem? h, g⟩
theorem mw_good {y : Cond} (hy : y ∈ mw) : GoodIn mw (y :: mw) := by
  have key : ∀ w ∈ mw, w ∈ mw ∧ ((w.onTables && w.keeps) = true ∨ ∃ ty, w = .arrayClass ty) := fun w hw => ⟨hw, good_of_word (List.mem_filter.mp hw).2⟩
  intro w hw
  rcases List.mem_cons.mp hw with rfl | h
  · exact key _ hy
  · exact key _ h
def sRef : List (String × Nat × String) := [("PavementWalk$PassageText", 46, "size"), ("PavementWalk$PassageText", 65, "wall"), ("PavementWalk$PassageText", 74, "walker"), ("PavementWalk$PassageText", 126, "east"), ("PavementWalk$PassageText", 128, "west"), ("PavementWalk$PassageText", 79, "pace"), ("PavementWalk$PassageText", 88, "late"), ("PavementWalk$PassageText", 92, "haste"), ("PavementWalk$PassageText", 96, "hand"), ("PavementWalk$PassageText", 138, "right"), ("PavementWalk$PassageText", 140, "left"), ("PavementWalk$PassageText", 101, "friends"), ("PavementWalk$LawText", 48, "if"), ("PavementWalk$LawText", 70, "not"), ("PavementWalk$LawText", 102, "ahead"), ("PavementWalk$LawText", 104, "soon"), ("PavementWalk$LawText", 106, "near"), ("PavementWalk$LawText", 108, "right"), ("PavementWalk$LawText", 110, "left"), ("PavementWalk$LawText", 112, "waited"), ("PavementWalk$LawText", 114, "haste"), ("PavementWalk$LawText", 116, "crowd"), ("PavementWalk$LawText", 118, "blocked"), ("PavementWalk$LawText", 120, "facing"), ("PavementWalk$LawText", 122, "parted"), ("PavementWalk$LawText", 57, "and"), ("PavementWalk$LawText", 124, "go"), ("PavementWalk$LawText", 126, "hand"), ("PavementWalk$LawText", 128, "lot"), ("PavementWalk$LawText", 130, "wait")]
def sLen : List Nat := [4, 4, 6, 4, 4, 4, 4, 5, 4, 5, 4, 7, 2, 3, 5, 4, 4, 5, 4, 6, 5, 5, 7, 6, 6, 3, 2, 4, 3, 4]
def sByt : List (List Int32) := [[115, 105, 122, 101], [119, 97, 108, 108], [119, 97, 108, 107, 101, 114], [101, 97, 115, 116], [119, 101, 115, 116], [112, 97, 99, 101], [108, 97, 116, 101], [104, 97, 115, 116, 101], [104, 97, 110, 100], [114, 105, 103, 104, 116], [108, 101, 102, 116], [102, 114, 105, 101, 110, 100, 115], [105, 102], [110, 111, 116], [97, 104, 101, 97, 100], [115, 111, 111, 110], [110, 101, 97, 114], [114, 105, 103, 104, 116], [108, 101, 102, 116], [119, 97, 105, 116, 101, 100], [104, 97, 115, 116, 101], [99, 114, 111, 119, 100], [98, 108, 111, 99, 107, 101, 100], [102, 97, 99, 105, 110, 103], [112, 97, 114, 116, 101, 100], [97, 110, 100], [103, 111], [104, 97, 110, 100], [108, 111, 116], [119, 97, 105, 116]]
def nestW : List (String × Nat × MethodName × String) := [("PavementWalk$Told", 31, ⟨"PavementWalk$Passage", "<init>", "()V"⟩, "PavementWalk"), ("PavementWalk$Told", 36, ⟨"PavementWalk$Law", "<init>", "()V"⟩, "PavementWalk"), ("PavementWalk$Told", 52, ⟨"PavementWalk$Film", "<init>", "()V"⟩, "PavementWalk"), ("PavementWalk", 39, ⟨"PavementWalk$Passage", "<init>", "()V"⟩, "PavementWalk"), ("PavementWalk", 46, ⟨"PavementWalk$Law", "<init>", "()V"⟩, "PavementWalk")]
abbrev GG : Type := (Nat → ClassId) × va_G × (Nat → Nat) × (Nat → Nat)
def TY (G : GG) : List (ClassId × FieldType) := tyT.zipIdx.map (fun q => (G.1 (q.2 + 1), q.1))
/-- what lies outside: the String constants (their cells, their texts' bytes), String's switch, the words of private constructors, the arrays' classes -/
def VS (N : Nat) (len : List Nat) (byt : List (List Int32)) (adK adV : Nat → Nat) (A : Nat → Prop) (U : State) (H : Heap) : Prop := ∀ i : Nat, i < N → va_O "java/lang/String" (adK i) A U H ∧ va_OF "java/lang/String" "coder" "B" (.int 0) (adK i) A U H ∧ va_OF "java/lang/String" "value" "[B" (.ref (adV i)) (adK i) A U H ∧ va_T .byte (adV i) (len.getD i 0) (fun j => .int ((byt.getD i []).getD j 0)) A U H
def FX (G : GG) (A : Nat → Prop) (U : State) (H : Heap) : Prop := VS 30 sLen sByt G.2.2.1 G.2.2.2 A U H ∧ va_Z "java/lang/String" "COMPACT_STRINGS" "Z" (.int 1) A U H ∧ (∀ (i : Nat) (q : String × Nat × String), sRef[i]? = some q → vk_R q.1 q.2.1 q.2.2 (G.2.2.1 i) U) ∧ (∀ q ∈ nestW, va_Nw (.methodLinkNest q.1 q.2.1 q.2.2.1 q.2.2.2) U) ∧ (∀ C ∈ [RX8, RX7, RX4, RX2], va_AO C U) ∧ va_Zq "jdk/internal/util/Preconditions" "SIOOBE_FORMATTER" "Ljava/util/function/BiFunction;" A U H
theorem FX.to {G : GG} {A B : Nat → Prop} {s U : State} {H H1 : Heap} (h : FX G A s H) (hW : s.WarmedH U.vm) (hq : ∀ a : Nat, a < H.size → ¬ A a → H1[a]? = H[a]?) (hAB : ∀ q, B q → A q) : FX G B U H1 := by
  obtain ⟨h1, h2, h3, h4, h5, h6⟩ := h
  refine ⟨fun i hi => ⟨((va_O.moved hW.alike (h1 i hi).1).kept hq).narrow hAB, ((va_OF.moved hW.alike (h1 i hi).2.1).kept hq).narrow hAB, ((va_OF.moved hW.alike (h1 i hi).2.2.1).kept hq).narrow hAB, ((va_T.moved hW.alike (h1 i hi).2.2.2).kept hq).narrow hAB⟩, ((h2.moved hW.alike).kept hq).narrow hAB, fun i q hi => (h3 i q hi).warm hW, fun q hq => (h4 q hq).warmM hW, fun C hC => (h5 C hC).moved hW.alike, ((h6.moved hW.alike).kept hq).narrow hAB⟩
def CX (p : Program) (s : State) (m : MethodId) (args : Array Value) (c : Code) (cc : ByteArray) (nL : Nat) (own : String) (G : GG) (A : Nat → Prop) : Prop :=
  p.tables.exec = Jvm.exec ∧ c.code = cc ∧ c.maxLocals = nL ∧ s.vm.findClass own = some m.cls ∧ (∀ w ∈ mw, w.before args s = true) ∧ va_K G.2.1 vwCl (TY G) s ∧ (∀ q : Nat, s.heap.size ≤ q → A q) ∧ FX G A s s.heap
def WJ (p : Program) (l : Launch) (e : Env) (R : Room) (s : State) (m : MethodId) (args : Array Value) (below : List Frame) (meth : Method) (c : Code) (nL : Nat) (G : GG) (A : Nat → Prop) (cells slots : Nat) (Q : State → Prop) (ad : Nat → Nat) (pc : Nat) (lv : List (Nat × Value)) (st : List Value) (S : ST) (dy : DY) : Prop :=
  ∀ (H : Heap) (locs : List Loc) (ls : Array Slot), va_P G.2.1 vwCl (toW G.1 ad S dy) H → va_D A (toW G.1 ad S dy) → va_S A s.heap H locs → lv_has ls nL lv → W p l e R s m args below meth c H locs cells slots Q (F0 m pc ls st)
section WR
variable {p : Program} {l : Launch} {e : Env} {R : Room} {s : State} {m : MethodId} {args : Array Value} {below : List Frame} {meth : Method} {c : Code} {cells slots : Nat} {Q : State → Prop}
variable {cc : ByteArray} {nL : Nat} {own : String} {G : GG} {A : Nat → Prop} {ad : Nat → Nat} {pc : Nat} {lv lv' : List (Nat × Value)} {st : List Value} {S : ST} {dy : DY}
theorem ww_sub (ks : List Nat) (hk : lv_pick lv ks = lv') (k : WJ p l e R s m args below meth c nL G A cells slots Q ad pc lv' st S dy) : WJ p l e R s m args below meth c nL G A cells slots Q ad pc lv st S dy :=
  fun H locs ls hP hD hS hl => k H locs ls hP hD hS (lv_sub hl ks hk)
theorem ww_iconst (C : CX p s m args c cc nL own G A) {n : Int} {v : Int32} (d : decode cc pc = .ok (.iconst n, 1)) (hv : Int32.ofInt n = v) (k : WJ p l e R s m args below meth c nL G A cells slots Q ad (pc + 1) lv (.int v :: st) S dy) : WJ p l e R s m args below meth c nL G A cells slots Q ad pc lv st S dy :=
  fun H locs ls hP hD hS hl => lv_iconst C.1 C.2.1 d hv (k H locs ls hP hD hS hl)
theorem ww_bipush (C : CX p s m args c cc nL own G A) {n : Int} {v : Int32} (d : decode cc pc = .ok (.bipush n, 2)) (hv : (Int8.ofInt n).toInt32 = v) (k : WJ p l e R s m args below meth c nL G A cells slots Q ad (pc + 2) lv (.int v :: st) S dy) : WJ p l e R s m args below meth c nL G A cells slots Q ad pc lv st S dy :=
  fun H locs ls hP hD hS hl => lv_bipush C.1 C.2.1 d hv (k H locs ls hP hD hS hl)
theorem ww_sipush (C : CX p s m args c cc nL own G A) {n : Int} {v : Int32} (d : decode cc pc = .ok (.sipush n, 3)) (hv : (Int16.ofInt n).toInt32 = v) (k : WJ p l e R s m args below meth c nL G A cells slots Q ad (pc + 3) lv (.int v :: st) S dy) : WJ p l e R s m args below meth c nL G A cells slots Q ad pc lv st S dy :=
  fun H locs ls hP hD hS hl => lv_sipush C.1 C.2.1 d hv (k H locs ls hP hD hS hl)
theorem ww_lconst (C : CX p s m args c cc nL own G A) {n : Fin 2} {v : Int64} (d : decode cc pc = .ok (.lconst n, 1)) (hv : Int64.ofNat (n : Nat) = v) (k : WJ p l e R s m args below meth c nL G A cells slots Q ad (pc + 1) lv (.long v :: st) S dy) : WJ p l e R s m args below meth c nL G A cells slots Q ad pc lv st S dy :=
  fun H locs ls hP hD hS hl => lv_lconst C.1 C.2.1 d hv (k H locs ls hP hD hS hl)
theorem ww_ldc (C : CX p s m args c cc nL own G A) {i : Nat} {v : Int32} (d : decode cc pc = .ok (.ldc i, 2)) (hw : Jvm.Cond.constant own i v ∈ mw) (k : WJ p l e R s m args below meth c nL G A cells slots Q ad (pc + 2) lv (.int v :: st) S dy) : WJ p l e R s m args below meth c nL G A cells slots Q ad pc lv st S dy :=
  fun H locs ls hP hD hS hl => lv_ldc C.1 C.2.1 C.2.2.2.1 (C.2.2.2.2.1 _ hw) d (k H locs ls hP hD hS hl)
theorem ww_ldcw (C : CX p s m args c cc nL own G A) {i : Nat} {v : Int32} (d : decode cc pc = .ok (.ldc_w i, 3)) (hw : Jvm.Cond.constant own i v ∈ mw) (k : WJ p l e R s m args below meth c nL G A cells slots Q ad (pc + 3) lv (.int v :: st) S dy) : WJ p l e R s m args below meth c nL G A cells slots Q ad pc lv st S dy :=
  fun H locs ls hP hD hS hl => lv_ldcw C.1 C.2.1 C.2.2.2.1 (C.2.2.2.2.1 _ hw) d (k H locs ls hP hD hS hl)
theorem ww_ldc2 (C : CX p s m args c cc nL own G A) {i : Nat} {v : Int64} (d : decode cc pc = .ok (.ldc2_w i, 3)) (hw : Jvm.Cond.constantLong own i v ∈ mw) (k : WJ p l e R s m args below meth c nL G A cells slots Q ad (pc + 3) lv (.long v :: st) S dy) : WJ p l e R s m args below meth c nL G A cells slots Q ad pc lv st S dy :=
  fun H locs ls hP hD hS hl => lv_ldc2 C.1 C.2.1 C.2.2.2.1 (C.2.2.2.2.1 _ hw) d (k H locs ls hP hD hS hl)
theorem ww_ldcs (C : CX p s m args c cc nL own G A) {i j : Nat} {tx : String} (d : decode cc pc = .ok (.ldc i, 2)) (hw : sRef[j]? = some (own, i, tx)) (k : WJ p l e R s m args below meth c nL G A cells slots Q ad (pc + 2) lv (.ref (G.2.2.1 j) :: st) S dy) : WJ p l e R s m args below meth c nL G A cells slots Q ad pc lv st S dy :=
  fun H locs ls hP hD hS hl => va_ldcS C.1 C.2.1 C.2.2.2.1 (C.2.2.2.2.2.2.2.2.2.1 j _ hw) d (k H locs ls hP hD hS hl)
theorem ww_null (C : CX p s m args c cc nL own G A)  (d : decode cc pc = .ok (.aconst_null, 1))  (k : WJ p l e R s m args below meth c nL G A cells slots Q ad (pc + 1) lv (.null :: st) S dy) : WJ p l e R s m args below meth c nL G A cells slots Q ad pc lv st S dy :=
  fun H locs ls hP hD hS hl => lv_null C.1 C.2.1 d (k H locs ls hP hD hS hl)
theorem ww_iload_n (C : CX p s m args c cc nL own G A) {k0 : Fin 4} {i : Nat} {x : Int32} (d : decode cc pc = .ok (.iload_n k0, 1)) (hi : (k0 : Nat) = i) (j : Nat) (hj : lv[j]? = some (i, .int x)) (k : WJ p l e R s m args below meth c nL G A cells slots Q ad (pc + 1) lv (.int x :: st) S dy) : WJ p l e R s m args below meth c nL G A cells slots Q ad pc lv st S dy :=
  fun H locs ls hP hD hS hl => lv_iload_n C.1 C.2.1 d hi (lv_at hl j hj) (k H locs ls hP hD hS hl)
theorem ww_iload (C : CX p s m args c cc nL own G A) {i : Nat} {x : Int32} (d : decode cc pc = .ok (.iload i, 2)) (j : Nat) (hj : lv[j]? = some (i, .int x)) (k : WJ p l e R s m args below meth c nL G A cells slots Q ad (pc + 2) lv (.int x :: st) S dy) : WJ p l e R s m args below meth c nL G A cells slots Q ad pc lv st S dy :=
  fun H locs ls hP hD hS hl => lv_iload C.1 C.2.1 d (lv_at hl j hj) (k H locs ls hP hD hS hl)
theorem ww_istore_n (C : CX p s m args c cc nL own G A) {k0 : Fin 4} {i : Nat} {x : Int32} (d : decode cc pc = .ok (.istore_n k0, 1)) (hi : (k0 : Nat) = i) (hn : i < nL) (hl' : (i, Value.int x) :: lv.filter (fun q => !(q.1 == i) && !(q.1 + 1 == i && q.2.category == 2)) = lv') (k : WJ p l e R s m args below meth c nL G A cells slots Q ad (pc + 1) lv' st S dy) : WJ p l e R s m args below meth c nL G A cells slots Q ad pc lv (.int x :: st) S dy :=
  fun H locs ls hP hD hS hl => lv_istore_n C.1 C.2.1 d hi hl hn hl' (fun ls2 hl2 => k H locs ls2 hP hD hS hl2)
theorem ww_istore (C : CX p s m args c cc nL own G A) {i : Nat} {x : Int32} (d : decode cc pc = .ok (.istore i, 2)) (hn : i < nL) (hl' : (i, Value.int x) :: lv.filter (fun q => !(q.1 == i) && !(q.1 + 1 == i && q.2.category == 2)) = lv') (k : WJ p l e R s m args below meth c nL G A cells slots Q ad (pc + 2) lv' st S dy) : WJ p l e R s m args below meth c nL G A cells slots Q ad pc lv (.int x :: st) S dy :=
  fun H locs ls hP hD hS hl => lv_istore C.1 C.2.1 d hl hn hl' (fun ls2 hl2 => k H locs ls2 hP hD hS hl2)
theorem ww_lload_n (C : CX p s m args c cc nL own G A) {k0 : Fin 4} {i : Nat} {x : Int64} (d : decode cc pc = .ok (.lload_n k0, 1)) (hi : (k0 : Nat) = i) (j : Nat) (hj : lv[j]? = some (i, .long x)) (k : WJ p l e R s m args below meth c nL G A cells slots Q ad (pc + 1) lv (.long x :: st) S dy) : WJ p l e R s m args below meth c nL G A cells slots Q ad pc lv st S dy :=
  fun H locs ls hP hD hS hl => lv_lload_n C.1 C.2.1 d hi (lv_at hl j hj) (k H locs ls hP hD hS hl)
theorem ww_lload (C : CX p s m args c cc nL own G A) {i : Nat} {x : Int64} (d : decode cc pc = .ok (.lload i, 2)) (j : Nat) (hj : lv[j]? = some (i, .long x)) (k : WJ p l e R s m args below meth c nL G A cells slots Q ad (pc + 2) lv (.long x :: st) S dy) : WJ p l e R s m args below meth c nL G A cells slots Q ad pc lv st S dy :=
  fun H locs ls hP hD hS hl => lv_lload C.1 C.2.1 d (lv_at hl j hj) (k H locs ls hP hD hS hl)
theorem ww_lstore_n (C : CX p s m args c cc nL own G A) {k0 : Fin 4} {i : Nat} {x : Int64} (d : decode cc pc = .ok (.lstore_n k0, 1)) (hi : (k0 : Nat) = i) (hn : i + 1 < nL) (hl' : (i, Value.long x) :: lv.filter (fun q => !(q.1 == i) && (!(q.1 == i + 1) && !(q.1 + 1 == i && q.2.category == 2))) = lv') (k : WJ p l e R s m args below meth c nL G A cells slots Q ad (pc + 1) lv' st S dy) : WJ p l e R s m args below meth c nL G A cells slots Q ad pc lv (.long x :: st) S dy :=
  fun H locs ls hP hD hS hl => lv_lstore_n C.1 C.2.1 d hi hl hn hl' (fun ls2 hl2 => k H locs ls2 hP hD hS hl2)
theorem ww_lstore (C : CX p s m args c cc nL own G A) {i : Nat} {x : Int64} (d : decode cc pc = .ok (.lstore i, 2)) (hn : i + 1 < nL) (hl' : (i, Value.long x) :: lv.filter (fun q => !(q.1 == i) && (!(q.1 == i + 1) && !(q.1 + 1 == i && q.2.category == 2))) = lv') (k : WJ p l e R s m args below meth c nL G A cells slots Q ad (pc + 2) lv' st S dy) : WJ p l e R s m args below meth c nL G A cells slots Q ad pc lv (.long x :: st) S dy :=
  fun H locs ls hP hD hS hl => lv_lstore C.1 C.2.1 d hl hn hl' (fun ls2 hl2 => k H locs ls2 hP hD hS hl2)
theorem ww_aload_n (C : CX p s m args c cc nL own G A) {k0 : Fin 4} {i : Nat} {x : Nat} (d : decode cc pc = .ok (.aload_n k0, 1)) (hi : (k0 : Nat) = i) (j : Nat) (hj : lv[j]? = some (i, .ref x)) (k : WJ p l e R s m args below meth c nL G A cells slots Q ad (pc + 1) lv (.ref x :: st) S dy) : WJ p l e R s m args below meth c nL G A cells slots Q ad pc lv st S dy :=
  fun H locs ls hP hD hS hl => lv_aload_n C.1 C.2.1 d hi (lv_at hl j hj) (k H locs ls hP hD hS hl)
theorem ww_aload (C : CX p s m args c cc nL own G A) {i : Nat} {x : Nat} (d : decode cc pc = .ok (.aload i, 2)) (j : Nat) (hj : lv[j]? = some (i, .ref x)) (k : WJ p l e R s m args below meth c nL G A cells slots Q ad (pc + 2) lv (.ref x :: st) S dy) : WJ p l e R s m args below meth c nL G A cells slots Q ad pc lv st S dy :=
  fun H locs ls hP hD hS hl => lv_aload C.1 C.2.1 d (lv_at hl j hj) (k H locs ls hP hD hS hl)
theorem ww_astore_n (C : CX p s m args c cc nL own G A) {k0 : Fin 4} {i : Nat} {x : Nat} (d : decode cc pc = .ok (.astore_n k0, 1)) (hi : (k0 : Nat) = i) (hn : i < nL) (hl' : (i, Value.ref x) :: lv.filter (fun q => !(q.1 == i) && !(q.1 + 1 == i && q.2.category == 2)) = lv') (k : WJ p l e R s m args below meth c nL G A cells slots Q ad (pc + 1) lv' st S dy) : WJ p l e R s m args below meth c nL G A cells slots Q ad pc lv (.ref x :: st) S dy :=
  fun H locs ls hP hD hS hl => lv_astore_n C.1 C.2.1 d hi hl hn hl' (fun ls2 hl2 => k H locs ls2 hP hD hS hl2)
theorem ww_astore (C : CX p s m args c cc nL own G A) {i : Nat} {x : Nat} (d : decode cc pc = .ok (.astore i, 2)) (hn : i < nL) (hl' : (i, Value.ref x) :: lv.filter (fun q => !(q.1 == i) && !(q.1 + 1 == i && q.2.category == 2)) = lv') (k : WJ p l e R s m args below meth c nL G A cells slots Q ad (pc + 2) lv' st S dy) : WJ p l e R s m args below meth c nL G A cells slots Q ad pc lv (.ref x :: st) S dy :=
  fun H locs ls hP hD hS hl => lv_astore C.1 C.2.1 d hl hn hl' (fun ls2 hl2 => k H locs ls2 hP hD hS hl2)
theorem ww_iinc (C : CX p s m args c cc nL own G A) {i : Nat} {n : Int} {x v : Int32} (d : decode cc pc = .ok (.iinc i n, 3)) (j : Nat) (hj : lv[j]? = some (i, .int x)) (hv : x + Int32.ofInt n = v) (hn : i < nL) (hl' : (i, Value.int v) :: lv.filter (fun q => !(q.1 == i) && !(q.1 + 1 == i && q.2.category == 2)) = lv') (k : WJ p l e R s m args below meth c nL G A cells slots Q ad (pc + 3) lv' st S dy) : WJ p l e R s m args below meth c nL G A cells slots Q ad pc lv st S dy :=
  fun H locs ls hP hD hS hl => lv_iinc C.1 C.2.1 d hl hj hv hn hl' (fun ls2 hl2 => k H locs ls2 hP hD hS hl2)
theorem ww_iadd (C : CX p s m args c cc nL own G A) {x y : Int32} (d : decode cc pc = .ok (.iadd, 1))  (k : WJ p l e R s m args below meth c nL G A cells slots Q ad (pc + 1) lv (.int (x + y) :: st) S dy) : WJ p l e R s m args below meth c nL G A cells slots Q ad pc lv (.int y :: .int x :: st) S dy :=
  fun H locs ls hP hD hS hl => lv_iadd C.1 C.2.1 d (k H locs ls hP hD hS hl)
theorem ww_isub (C : CX p s m args c cc nL own G A) {x y : Int32} (d : decode cc pc = .ok (.isub, 1))  (k : WJ p l e R s m args below meth c nL G A cells slots Q ad (pc + 1) lv (.int (x - y) :: st) S dy) : WJ p l e R s m args below meth c nL G A cells slots Q ad pc lv (.int y :: .int x :: st) S dy :=
  fun H locs ls hP hD hS hl => lv_isub C.1 C.2.1 d (k H locs ls hP hD hS hl)
theorem ww_imul (C : CX p s m args c cc nL own G A) {x y : Int32} (d : decode cc pc = .ok (.imul, 1))  (k : WJ p l e R s m args below meth c nL G A cells slots Q ad (pc + 1) lv (.int (x * y) :: st) S dy) : WJ p l e R s m args below meth c nL G A cells slots Q ad pc lv (.int y :: .int x :: st) S dy :=
  fun H locs ls hP hD hS hl => lv_imul C.1 C.2.1 d (k H locs ls hP hD hS hl)
theorem ww_iand (C : CX p s m args c cc nL own G A) {x y : Int32} (d : decode cc pc = .ok (.iand, 1))  (k : WJ p l e R s m args below meth c nL G A cells slots Q ad (pc + 1) lv (.int (x &&& y) :: st) S dy) : WJ p l e R s m args below meth c nL G A cells slots Q ad pc lv (.int y :: .int x :: st) S dy :=
  fun H locs ls hP hD hS hl => lv_iand C.1 C.2.1 d (k H locs ls hP hD hS hl)
theorem ww_ior (C : CX p s m args c cc nL own G A) {x y : Int32} (d : decode cc pc = .ok (.ior, 1))  (k : WJ p l e R s m args below meth c nL G A cells slots Q ad (pc + 1) lv (.int (x ||| y) :: st) S dy) : WJ p l e R s m args below meth c nL G A cells slots Q ad pc lv (.int y :: .int x :: st) S dy :=
  fun H locs ls hP hD hS hl => lv_ior C.1 C.2.1 d (k H locs ls hP hD hS hl)
theorem ww_ishl (C : CX p s m args c cc nL own G A) {x y : Int32} (d : decode cc pc = .ok (.ishl, 1))  (k : WJ p l e R s m args below meth c nL G A cells slots Q ad (pc + 1) lv (.int (x <<< (y &&& 31)) :: st) S dy) : WJ p l e R s m args below meth c nL G A cells slots Q ad pc lv (.int y :: .int x :: st) S dy :=
  fun H locs ls hP hD hS hl => lv_ishl C.1 C.2.1 d (k H locs ls hP hD hS hl)
theorem ww_ishr (C : CX p s m args c cc nL own G A) {x y : Int32} (d : decode cc pc = .ok (.ishr, 1))  (k : WJ p l e R s m args below meth c nL G A cells slots Q ad (pc + 1) lv (.int (x >>> (y &&& 31)) :: st) S dy) : WJ p l e R s m args below meth c nL G A cells slots Q ad pc lv (.int y :: .int x :: st) S dy :=
  fun H locs ls hP hD hS hl => lv_ishr C.1 C.2.1 d (k H locs ls hP hD hS hl)
theorem ww_iushr (C : CX p s m args c cc nL own G A) {x y : Int32} (d : decode cc pc = .ok (.iushr, 1))  (k : WJ p l e R s m args below meth c nL G A cells slots Q ad (pc + 1) lv (.int ((x.toUInt32 >>> (y.toUInt32 &&& Int32.toUInt32 31)).toInt32) :: st) S dy) : WJ p l e R s m args below meth c nL G A cells slots Q ad pc lv (.int y :: .int x :: st) S dy :=
  fun H locs ls hP hD hS hl => lv_iushr C.1 C.2.1 d rfl (k H locs ls hP hD hS hl)
theorem ww_ineg (C : CX p s m args c cc nL own G A) {x : Int32} (d : decode cc pc = .ok (.ineg, 1))  (k : WJ p l e R s m args below meth c nL G A cells slots Q ad (pc + 1) lv (.int (-x) :: st) S dy) : WJ p l e R s m args below meth c nL G A cells slots Q ad pc lv (.int x :: st) S dy :=
  fun H locs ls hP hD hS hl => lv_ineg C.1 C.2.1 d (k H locs ls hP hD hS hl)
theorem ww_ladd (C : CX p s m args c cc nL own G A) {x y : Int64} (d : decode cc pc = .ok (.ladd, 1))  (k : WJ p l e R s m args below meth c nL G A cells slots Q ad (pc + 1) lv (.long (x + y) :: st) S dy) : WJ p l e R s m args below meth c nL G A cells slots Q ad pc lv (.long y :: .long x :: st) S dy :=
  fun H locs ls hP hD hS hl => lv_ladd C.1 C.2.1 d (k H locs ls hP hD hS hl)
theorem ww_lsub (C : CX p s m args c cc nL own G A) {x y : Int64} (d : decode cc pc = .ok (.lsub, 1))  (k : WJ p l e R s m args below meth c nL G A cells slots Q ad (pc + 1) lv (.long (x - y) :: st) S dy) : WJ p l e R s m args below meth c nL G A cells slots Q ad pc lv (.long y :: .long x :: st) S dy :=
  fun H locs ls hP hD hS hl => lv_lsub C.1 C.2.1 d (k H locs ls hP hD hS hl)
theorem ww_lmul (C : CX p s m args c cc nL own G A) {x y : Int64} (d : decode cc pc = .ok (.lmul, 1))  (k : WJ p l e R s m args below meth c nL G A cells slots Q ad (pc + 1) lv (.long (x * y) :: st) S dy) : WJ p l e R s m args below meth c nL G A cells slots Q ad pc lv (.long y :: .long x :: st) S dy :=
  fun H locs ls hP hD hS hl => lv_lmul C.1 C.2.1 d (k H locs ls hP hD hS hl)
theorem ww_lor (C : CX p s m args c cc nL own G A) {x y : Int64} (d : decode cc pc = .ok (.lor, 1))  (k : WJ p l e R s m args below meth c nL G A cells slots Q ad (pc + 1) lv (.long (x ||| y) :: st) S dy) : WJ p l e R s m args below meth c nL G A cells slots Q ad pc lv (.long y :: .long x :: st) S dy :=
  fun H locs ls hP hD hS hl => lv_lor C.1 C.2.1 d (k H locs ls hP hD hS hl)
theorem ww_lshl (C : CX p s m args c cc nL own G A) {x : Int64} {y : Int32} (d : decode cc pc = .ok (.lshl, 1))  (k : WJ p l e R s m args below meth c nL G A cells slots Q ad (pc + 1) lv (.long (x <<< (y.toInt64 &&& 63)) :: st) S dy) : WJ p l e R s m args below meth c nL G A cells slots Q ad pc lv (.int y :: .long x :: st) S dy :=
  fun H locs ls hP hD hS hl => lv_lshl C.1 C.2.1 d rfl (k H locs ls hP hD hS hl)
theorem ww_lushr (C : CX p s m args c cc nL own G A) {x : Int64} {y : Int32} (d : decode cc pc = .ok (.lushr, 1))  (k : WJ p l e R s m args below meth c nL G A cells slots Q ad (pc + 1) lv (.long ((x.toUInt64 >>> (y.toInt64.toUInt64 &&& Int64.toUInt64 63)).toInt64) :: st) S dy) : WJ p l e R s m args below meth c nL G A cells slots Q ad pc lv (.int y :: .long x :: st) S dy :=
  fun H locs ls hP hD hS hl => lv_lushr C.1 C.2.1 d rfl (k H locs ls hP hD hS hl)
theorem ww_i2l (C : CX p s m args c cc nL own G A) {x : Int32} (d : decode cc pc = .ok (.i2l, 1))  (k : WJ p l e R s m args below meth c nL G A cells slots Q ad (pc + 1) lv (.long x.toInt64 :: st) S dy) : WJ p l e R s m args below meth c nL G A cells slots Q ad pc lv (.int x :: st) S dy :=
  fun H locs ls hP hD hS hl => lv_i2l C.1 C.2.1 d rfl (k H locs ls hP hD hS hl)
theorem ww_l2i (C : CX p s m args c cc nL own G A) {x : Int64} (d : decode cc pc = .ok (.l2i, 1))  (k : WJ p l e R s m args below meth c nL G A cells slots Q ad (pc + 1) lv (.int x.toInt32 :: st) S dy) : WJ p l e R s m args below meth c nL G A cells slots Q ad pc lv (.long x :: st) S dy :=
  fun H locs ls hP hD hS hl => lv_l2i C.1 C.2.1 d rfl (k H locs ls hP hD hS hl)
theorem ww_i2b (C : CX p s m args c cc nL own G A) {x : Int32} (d : decode cc pc = .ok (.i2b, 1))  (k : WJ p l e R s m args below meth c nL G A cells slots Q ad (pc + 1) lv (.int x.toInt8.toInt32 :: st) S dy) : WJ p l e R s m args below meth c nL G A cells slots Q ad pc lv (.int x :: st) S dy :=
  fun H locs ls hP hD hS hl => lv_i2b C.1 C.2.1 d rfl (k H locs ls hP hD hS hl)
theorem ww_lcmp (C : CX p s m args c cc nL own G A) {x y : Int64} (d : decode cc pc = .ok (.lcmp, 1))  (k : WJ p l e R s m args below meth c nL G A cells slots Q ad (pc + 1) lv (.int (lg_cmp x y) :: st) S dy) : WJ p l e R s m args below meth c nL G A cells slots Q ad pc lv (.long y :: .long x :: st) S dy :=
  fun H locs ls hP hD hS hl => W.lcmp C.1 C.2.1 d (k H locs ls hP hD hS hl)
theorem ww_dup (C : CX p s m args c cc nL own G A) {v : Value} (d : decode cc pc = .ok (.dup, 1)) (hc : v.category = 1) (k : WJ p l e R s m args below meth c nL G A cells slots Q ad (pc + 1) lv (v :: v :: st) S dy) : WJ p l e R s m args below meth c nL G A cells slots Q ad pc lv (v :: st) S dy :=
  fun H locs ls hP hD hS hl => lv_dup C.1 C.2.1 d hc (k H locs ls hP hD hS hl)
theorem ww_pop (C : CX p s m args c cc nL own G A) {v : Value} (d : decode cc pc = .ok (.pop, 1)) (hc : v.category = 1) (k : WJ p l e R s m args below meth c nL G A cells slots Q ad (pc + 1) lv st S dy) : WJ p l e R s m args below meth c nL G A cells slots Q ad pc lv (v :: st) S dy :=
  fun H locs ls hP hD hS hl => lv_pop C.1 C.2.1 d hc (k H locs ls hP hD hS hl)
theorem ww_dup2 (C : CX p s m args c cc nL own G A) {v w : Value} (d : decode cc pc = .ok (.dup2, 1)) (hc : v.category = 1) (hc2 : w.category = 1) (k : WJ p l e R s m args below meth c nL G A cells slots Q ad (pc + 1) lv (v :: w :: v :: w :: st) S dy) : WJ p l e R s m args below meth c nL G A cells slots Q ad pc lv (v :: w :: st) S dy :=
  fun H locs ls hP hD hS hl => lv_dup2_11 C.1 C.2.1 d hc hc2 (k H locs ls hP hD hS hl)
theorem ww_idiv (C : CX p s m args c cc nL own G A) {x y : Int32} {α : Type} {t2 : Option α} {res : α} (d : decode cc pc = .ok (.idiv, 1)) (E : (if y = 0 then none else t2) = some res) (k : ¬ y = 0 → t2 = some res → WJ p l e R s m args below meth c nL G A cells slots Q ad (pc + 1) lv (.int (x / y) :: st) S dy) : WJ p l e R s m args below meth c nL G A cells slots Q ad pc lv (.int y :: .int x :: st) S dy := by
  intro H locs ls hP hD hS hl
  by_cases q : y = 0
  · rw [if_pos q] at E
    cases E
  · rw [if_neg q] at E
    exact lv_idiv C.1 C.2.1 d q (k q E H locs ls hP hD hS hl)
theorem ww_irem (C : CX p s m args c cc nL own G A) {x y : Int32} {α : Type} {t2 : Option α} {res : α} (d : decode cc pc = .ok (.irem, 1)) (E : (if y = 0 then none else t2) = some res) (k : ¬ y = 0 → t2 = some res → WJ p l e R s m args below meth c nL G A cells slots Q ad (pc + 1) lv (.int (x - x / y * y) :: st) S dy) : WJ p l e R s m args below meth c nL G A cells slots Q ad pc lv (.int y :: .int x :: st) S dy := by
  intro H locs ls hP hD hS hl
  by_cases q : y = 0
  · rw [if_pos q] at E
    cases E
  · rw [if_neg q] at E
    exact lv_irem C.1 C.2.1 d q (k q E H locs ls hP hD hS hl)
theorem ww_if_eq (C : CX p s m args c cc nL own G A) {x : Int32} {off : Int} {tgt : Nat} {α : Type} {t1 t2 : Option α} {res : α} (d : decode cc pc = .ok (.ifCond .eq off, 3)) (ht : (pc : Int) + off = (tgt : Int)) (E : (if x = 0 then t1 else t2) = some res) (kt : x = 0 → t1 = some res → WJ p l e R s m args below meth c nL G A cells slots Q ad tgt lv st S dy) (kf : ¬ x = 0 → t2 = some res → WJ p l e R s m args below meth c nL G A cells slots Q ad (pc + 3) lv st S dy) : WJ p l e R s m args below meth c nL G A cells slots Q ad pc lv (.int x :: st) S dy :=
  fun H locs ls hP hD hS hl => lv_if_eq C.1 C.2.1 d ht (fun q => kt q (by rw [if_pos q] at E; exact E) H locs ls hP hD hS hl) (fun q => kf q (by rw [if_neg q] at E; exact E) H locs ls hP hD hS hl)
theorem ww_if_ne (C : CX p s m args c cc nL own G A) {x : Int32} {off : Int} {tgt : Nat} {α : Type} {t1 t2 : Option α} {res : α} (d : decode cc pc = .ok (.ifCond .ne off, 3)) (ht : (pc : Int) + off = (tgt : Int)) (E : (if x = 0 then t1 else t2) = some res) (kt : ¬ x = 0 → t2 = some res → WJ p l e R s m args below meth c nL G A cells slots Q ad tgt lv st S dy) (kf : x = 0 → t1 = some res → WJ p l e R s m args below meth c nL G A cells slots Q ad (pc + 3) lv st S dy) : WJ p l e R s m args below meth c nL G A cells slots Q ad pc lv (.int x :: st) S dy :=
  fun H locs ls hP hD hS hl => lv_if_ne C.1 C.2.1 d ht (fun q => kt q (by rw [if_neg q] at E; exact E) H locs ls hP hD hS hl) (fun q => kf q (by rw [if_pos q] at E; exact E) H locs ls hP hD hS hl)
theorem ww_if_lt (C : CX p s m args c cc nL own G A) {x : Int32} {off : Int} {tgt : Nat} {α : Type} {t1 t2 : Option α} {res : α} (d : decode cc pc = .ok (.ifCond .lt off, 3)) (ht : (pc : Int) + off = (tgt : Int)) (E : (if x < 0 then t1 else t2) = some res) (kt : x < 0 → t1 = some res → WJ p l e R s m args below meth c nL G A cells slots Q ad tgt lv st S dy) (kf : ¬ x < 0 → t2 = some res → WJ p l e R s m args below meth c nL G A cells slots Q ad (pc + 3) lv st S dy) : WJ p l e R s m args below meth c nL G A cells slots Q ad pc lv (.int x :: st) S dy :=
  fun H locs ls hP hD hS hl => lv_if_lt C.1 C.2.1 d ht (fun q => kt q (by rw [if_pos q] at E; exact E) H locs ls hP hD hS hl) (fun q => kf q (by rw [if_neg q] at E; exact E) H locs ls hP hD hS hl)
theorem ww_if_ge (C : CX p s m args c cc nL own G A) {x : Int32} {off : Int} {tgt : Nat} {α : Type} {t1 t2 : Option α} {res : α} (d : decode cc pc = .ok (.ifCond .ge off, 3)) (ht : (pc : Int) + off = (tgt : Int)) (E : (if 0 ≤ x then t1 else t2) = some res) (kt : 0 ≤ x → t1 = some res → WJ p l e R s m args below meth c nL G A cells slots Q ad tgt lv st S dy) (kf : ¬ 0 ≤ x → t2 = some res → WJ p l e R s m args below meth c nL G A cells slots Q ad (pc + 3) lv st S dy) : WJ p l e R s m args below meth c nL G A cells slots Q ad pc lv (.int x :: st) S dy :=
  fun H locs ls hP hD hS hl => lv_if_ge C.1 C.2.1 d ht (fun q => kt q (by rw [if_pos q] at E; exact E) H locs ls hP hD hS hl) (fun q => kf q (by rw [if_neg q] at E; exact E) H locs ls hP hD hS hl)
theorem ww_if_gt (C : CX p s m args c cc nL own G A) {x : Int32} {off : Int} {tgt : Nat} {α : Type} {t1 t2 : Option α} {res : α} (d : decode cc pc = .ok (.ifCond .gt off, 3)) (ht : (pc : Int) + off = (tgt : Int)) (E : (if 0 < x then t1 else t2) = some res) (kt : 0 < x → t1 = some res → WJ p l e R s m args below meth c nL G A cells slots Q ad tgt lv st S dy) (kf : ¬ 0 < x → t2 = some res → WJ p l e R s m args below meth c nL G A cells slots Q ad (pc + 3) lv st S dy) : WJ p l e R s m args below meth c nL G A cells slots Q ad pc lv (.int x :: st) S dy :=
  fun H locs ls hP hD hS hl => lv_if_gt C.1 C.2.1 d ht (fun q => kt q (by rw [if_pos q] at E; exact E) H locs ls hP hD hS hl) (fun q => kf q (by rw [if_neg q] at E; exact E) H locs ls hP hD hS hl)
theorem ww_if_le (C : CX p s m args c cc nL own G A) {x : Int32} {off : Int} {tgt : Nat} {α : Type} {t1 t2 : Option α} {res : α} (d : decode cc pc = .ok (.ifCond .le off, 3)) (ht : (pc : Int) + off = (tgt : Int)) (E : (if x ≤ 0 then t1 else t2) = some res) (kt : x ≤ 0 → t1 = some res → WJ p l e R s m args below meth c nL G A cells slots Q ad tgt lv st S dy) (kf : ¬ x ≤ 0 → t2 = some res → WJ p l e R s m args below meth c nL G A cells slots Q ad (pc + 3) lv st S dy) : WJ p l e R s m args below meth c nL G A cells slots Q ad pc lv (.int x :: st) S dy :=
  fun H locs ls hP hD hS hl => lv_if_le C.1 C.2.1 d ht (fun q => kt q (by rw [if_pos q] at E; exact E) H locs ls hP hD hS hl) (fun q => kf q (by rw [if_neg q] at E; exact E) H locs ls hP hD hS hl)
theorem ww_icmp_eq (C : CX p s m args c cc nL own G A) {x y : Int32} {off : Int} {tgt : Nat} {α : Type} {t1 t2 : Option α} {res : α} (d : decode cc pc = .ok (.if_icmp .eq off, 3)) (ht : (pc : Int) + off = (tgt : Int)) (E : (if x = y then t1 else t2) = some res) (kt : x = y → t1 = some res → WJ p l e R s m args below meth c nL G A cells slots Q ad tgt lv st S dy) (kf : ¬ x = y → t2 = some res → WJ p l e R s m args below meth c nL G A cells slots Q ad (pc + 3) lv st S dy) : WJ p l e R s m args below meth c nL G A cells slots Q ad pc lv (.int y :: .int x :: st) S dy :=
  fun H locs ls hP hD hS hl => lv_icmp_eq C.1 C.2.1 d ht (fun q => kt q (by rw [if_pos q] at E; exact E) H locs ls hP hD hS hl) (fun q => kf q (by rw [if_neg q] at E; exact E) H locs ls hP hD hS hl)
theorem ww_icmp_ne (C : CX p s m args c cc nL own G A) {x y : Int32} {off : Int} {tgt : Nat} {α : Type} {t1 t2 : Option α} {res : α} (d : decode cc pc = .ok (.if_icmp .ne off, 3)) (ht : (pc : Int) + off = (tgt : Int)) (E : (if x = y then t1 else t2) = some res) (kt : ¬ x = y → t2 = some res → WJ p l e R s m args below meth c nL G A cells slots Q ad tgt lv st S dy) (kf : x = y → t1 = some res → WJ p l e R s m args below meth c nL G A cells slots Q ad (pc + 3) lv st S dy) : WJ p l e R s m args below meth c nL G A cells slots Q ad pc lv (.int y :: .int x :: st) S dy :=
  fun H locs ls hP hD hS hl => lv_icmp_ne C.1 C.2.1 d ht (fun q => kt q (by rw [if_neg q] at E; exact E) H locs ls hP hD hS hl) (fun q => kf q (by rw [if_pos q] at E; exact E) H locs ls hP hD hS hl)
theorem ww_icmp_lt (C : CX p s m args c cc nL own G A) {x y : Int32} {off : Int} {tgt : Nat} {α : Type} {t1 t2 : Option α} {res : α} (d : decode cc pc = .ok (.if_icmp .lt off, 3)) (ht : (pc : Int) + off = (tgt : Int)) (E : (if x < y then t1 else t2) = some res) (kt : x < y → t1 = some res → WJ p l e R s m args below meth c nL G A cells slots Q ad tgt lv st S dy) (kf : ¬ x < y → t2 = some res → WJ p l e R s m args below meth c nL G A cells slots Q ad (pc + 3) lv st S dy) : WJ p l e R s m args below meth c nL G A cells slots Q ad pc lv (.int y :: .int x :: st) S dy :=
  fun H locs ls hP hD hS hl => lv_icmp_lt C.1 C.2.1 d ht (fun q => kt q (by rw [if_pos q] at E; exact E) H locs ls hP hD hS hl) (fun q => kf q (by rw [if_neg q] at E; exact E) H locs ls hP hD hS hl)
theorem ww_icmp_ge (C : CX p s m args c cc nL own G A) {x y : Int32} {off : Int} {tgt : Nat} {α : Type} {t1 t2 : Option α} {res : α} (d : decode cc pc = .ok (.if_icmp .ge off, 3)) (ht : (pc : Int) + off = (tgt : Int)) (E : (if y ≤ x then t1 else t2) = some res) (kt : y ≤ x → t1 = some res → WJ p l e R s m args below meth c nL G A cells slots Q ad tgt lv st S dy) (kf : ¬ y ≤ x → t2 = some res → WJ p l e R s m args below meth c nL G A cells slots Q ad (pc + 3) lv st S dy) : WJ p l e R s m args below meth c nL G A cells slots Q ad pc lv (.int y :: .int x :: st) S dy :=
  fun H locs ls hP hD hS hl => lv_icmp_ge C.1 C.2.1 d ht (fun q => kt q (by rw [if_pos q] at E; exact E) H locs ls hP hD hS hl) (fun q => kf q (by rw [if_neg q] at E; exact E) H locs ls hP hD hS hl)
theorem ww_icmp_gt (C : CX p s m args c cc nL own G A) {x y : Int32} {off : Int} {tgt : Nat} {α : Type} {t1 t2 : Option α} {res : α} (d : decode cc pc = .ok (.if_icmp .gt off, 3)) (ht : (pc : Int) + off = (tgt : Int)) (E : (if y < x then t1 else t2) = some res) (kt : y < x → t1 = some res → WJ p l e R s m args below meth c nL G A cells slots Q ad tgt lv st S dy) (kf : ¬ y < x → t2 = some res → WJ p l e R s m args below meth c nL G A cells slots Q ad (pc + 3) lv st S dy) : WJ p l e R s m args below meth c nL G A cells slots Q ad pc lv (.int y :: .int x :: st) S dy :=
  fun H locs ls hP hD hS hl => lv_icmp_gt C.1 C.2.1 d ht (fun q => kt q (by rw [if_pos q] at E; exact E) H locs ls hP hD hS hl) (fun q => kf q (by rw [if_neg q] at E; exact E) H locs ls hP hD hS hl)
theorem ww_icmp_le (C : CX p s m args c cc nL own G A) {x y : Int32} {off : Int} {tgt : Nat} {α : Type} {t1 t2 : Option α} {res : α} (d : decode cc pc = .ok (.if_icmp .le off, 3)) (ht : (pc : Int) + off = (tgt : Int)) (E : (if x ≤ y then t1 else t2) = some res) (kt : x ≤ y → t1 = some res → WJ p l e R s m args below meth c nL G A cells slots Q ad tgt lv st S dy) (kf : ¬ x ≤ y → t2 = some res → WJ p l e R s m args below meth c nL G A cells slots Q ad (pc + 3) lv st S dy) : WJ p l e R s m args below meth c nL G A cells slots Q ad pc lv (.int y :: .int x :: st) S dy :=
  fun H locs ls hP hD hS hl => lv_icmp_le C.1 C.2.1 d ht (fun q => kt q (by rw [if_pos q] at E; exact E) H locs ls hP hD hS hl) (fun q => kf q (by rw [if_neg q] at E; exact E) H locs ls hP hD hS hl)
theorem ww_goto (C : CX p s m args c cc nL own G A) {off : Int} {tgt : Nat} (d : decode cc pc = .ok (.goto off, 3)) (ht : (pc : Int) + off = (tgt : Int)) (k : WJ p l e R s m args below meth c nL G A cells slots Q ad tgt lv st S dy) : WJ p l e R s m args below meth c nL G A cells slots Q ad pc lv st S dy :=
  fun H locs ls hP hD hS hl => lv_goto C.1 C.2.1 d ht (k H locs ls hP hD hS hl)
theorem ww_tabIn (C : CX p s m args c cc nL own G A) {dflt lo hi : Int} {offs : Array Int} {len tgt : Nat} {x v : Int32} {off : Int} (d : decode cc pc = .ok (.tableswitch dflt lo hi offs, len)) (hx : x = v) (h1 : ¬ v.toInt < lo) (h2 : ¬ hi < v.toInt) (ho : offs[(v.toInt - lo).toNat]? = some off) (ht : (pc : Int) + off = (tgt : Int)) (k : WJ p l e R s m args below meth c nL G A cells slots Q ad tgt lv st S dy) : WJ p l e R s m args below meth c nL G A cells slots Q ad pc lv (.int x :: st) S dy := by
  subst hx
  exact fun H locs ls hP hD hS hl => lv_tableIn C.1 C.2.1 d h1 h2 ho ht (k H locs ls hP hD hS hl)
theorem ww_tabOut (C : CX p s m args c cc nL own G A) {dflt lo hi : Int} {offs : Array Int} {len tgt : Nat} {x : Int32} (d : decode cc pc = .ok (.tableswitch dflt lo hi offs, len)) (ho : x.toInt < lo ∨ hi < x.toInt) (ht : (pc : Int) + dflt = (tgt : Int)) (k : WJ p l e R s m args below meth c nL G A cells slots Q ad tgt lv st S dy) : WJ p l e R s m args below meth c nL G A cells slots Q ad pc lv (.int x :: st) S dy :=
  fun H locs ls hP hD hS hl => lv_tableOut C.1 C.2.1 d ho ht (k H locs ls hP hD hS hl)
theorem ww_lookup (C : CX p s m args c cc nL own G A) {dflt : Int} {ps : Array (Int × Int)} {len tgt : Nat} {x : Int32} {off : Int} (d : decode cc pc = .ok (.lookupswitch dflt ps, len)) (hp : (ps.toList.zip (ps.toList.drop 1)).all (fun (a, next) => a.1 < next.1) = true) (ho : Op.lookupswitch.offset ps.toList dflt x.toInt = off) (ht : (pc : Int) + off = (tgt : Int)) (k : WJ p l e R s m args below meth c nL G A cells slots Q ad tgt lv st S dy) : WJ p l e R s m args below meth c nL G A cells slots Q ad pc lv (.int x :: st) S dy :=
  fun H locs ls hP hD hS hl => lv_lookup C.1 C.2.1 d hp ho ht (k H locs ls hP hD hS hl)
theorem ww_ifnullT (C : CX p s m args c cc nL own G A) {off : Int} {tgt : Nat} (d : decode cc pc = .ok (.ifnull off, 3)) (ht : (pc : Int) + off = (tgt : Int)) (k : WJ p l e R s m args below meth c nL G A cells slots Q ad tgt lv st S dy) : WJ p l e R s m args below meth c nL G A cells slots Q ad pc lv (.null :: st) S dy :=
  fun H locs ls hP hD hS hl => lv_ifnullN C.1 C.2.1 d ht (k H locs ls hP hD hS hl)
theorem ww_ifnullF (C : CX p s m args c cc nL own G A) {x : Nat} {off : Int} (d : decode cc pc = .ok (.ifnull off, 3)) (k : WJ p l e R s m args below meth c nL G A cells slots Q ad (pc + 3) lv st S dy) : WJ p l e R s m args below meth c nL G A cells slots Q ad pc lv (.ref x :: st) S dy :=
  fun H locs ls hP hD hS hl => lv_ifnull C.1 C.2.1 d (k H locs ls hP hD hS hl)
theorem ww_ifnonnullT (C : CX p s m args c cc nL own G A) {x : Nat} {off : Int} {tgt : Nat} (d : decode cc pc = .ok (.ifnonnull off, 3)) (ht : (pc : Int) + off = (tgt : Int)) (k : WJ p l e R s m args below meth c nL G A cells slots Q ad tgt lv st S dy) : WJ p l e R s m args below meth c nL G A cells slots Q ad pc lv (.ref x :: st) S dy :=
  fun H locs ls hP hD hS hl => lv_ifnonnull C.1 C.2.1 d ht (k H locs ls hP hD hS hl)
theorem ww_ifnonnullF (C : CX p s m args c cc nL own G A) {off : Int} (d : decode cc pc = .ok (.ifnonnull off, 3)) (k : WJ p l e R s m args below meth c nL G A cells slots Q ad (pc + 3) lv st S dy) : WJ p l e R s m args below meth c nL G A cells slots Q ad pc lv (.null :: st) S dy :=
  fun H locs ls hP hD hS hl => lv_ifnonnullN C.1 C.2.1 d (k H locs ls hP hD hS hl)
theorem ww_astore_nN (C : CX p s m args c cc nL own G A) {k0 : Fin 4} {i : Nat} (d : decode cc pc = .ok (.astore_n k0, 1)) (hi : (k0 : Nat) = i) (hn : i < nL) (hl' : (i, Value.null) :: lv.filter (fun q => !(q.1 == i) && !(q.1 + 1 == i && q.2.category == 2)) = lv') (k : WJ p l e R s m args below meth c nL G A cells slots Q ad (pc + 1) lv' st S dy) : WJ p l e R s m args below meth c nL G A cells slots Q ad pc lv (.null :: st) S dy :=
  fun H locs ls hP hD hS hl => lv_astore_nN C.1 C.2.1 d hi hl hn hl' (fun ls2 hl2 => k H locs ls2 hP hD hS hl2)
theorem ww_astoreN (C : CX p s m args c cc nL own G A) {i : Nat} (d : decode cc pc = .ok (.astore i, 2)) (hn : i < nL) (hl' : (i, Value.null) :: lv.filter (fun q => !(q.1 == i) && !(q.1 + 1 == i && q.2.category == 2)) = lv') (k : WJ p l e R s m args below meth c nL G A cells slots Q ad (pc + 2) lv' st S dy) : WJ p l e R s m args below meth c nL G A cells slots Q ad pc lv (.null :: st) S dy :=
  fun H locs ls hP hD hS hl => lv_astoreN C.1 C.2.1 d hl hn hl' (fun ls2 hl2 => k H locs ls2 hP hD hS hl2)
theorem ww_aload_nN (C : CX p s m args c cc nL own G A) {k0 : Fin 4} {i : Nat} (d : decode cc pc = .ok (.aload_n k0, 1)) (hi : (k0 : Nat) = i) (j : Nat) (hj : lv[j]? = some (i, .null)) (k : WJ p l e R s m args below meth c nL G A cells slots Q ad (pc + 1) lv (.null :: st) S dy) : WJ p l e R s m args below meth c nL G A cells slots Q ad pc lv st S dy :=
  fun H locs ls hP hD hS hl => lv_aload_nN C.1 C.2.1 d hi (lv_at hl j hj) (k H locs ls hP hD hS hl)
theorem ww_aloadN (C : CX p s m args c cc nL own G A) {i : Nat} (d : decode cc pc = .ok (.aload i, 2)) (j : Nat) (hj : lv[j]? = some (i, .null)) (k : WJ p l e R s m args below meth c nL G A cells slots Q ad (pc + 2) lv (.null :: st) S dy) : WJ p l e R s m args below meth c nL G A cells slots Q ad pc lv st S dy :=
  fun H locs ls hP hD hS hl => lv_aloadN C.1 C.2.1 d (lv_at hl j hj) (k H locs ls hP hD hS hl)
theorem ww_get0 (C : CX p s m args c cc nL own G A) {a ci k0 i N : Nat} {Cn : String} {T : u_T} (d : decode cc pc = .ok (.getfield i, 3)) (hc : vwCl[ci]? = some (Cn, T, N)) (hN : nF ci = N) (hin : ∀ w ∈ u_ws Cn T N, w ∈ mw) (hk : k0 < N) (Tq : gs S a = (0, ci)) (hw : Cond.fieldLink own i (T k0).1 (T k0).2.1 (T k0).2.2.1 ∈ mw) (k : WJ p l e R s m args below meth c nL G A cells slots Q ad (pc + 3) lv (fV ad S dy a ci k0 :: st) S dy) : WJ p l e R s m args below meth c nL G A cells slots Q ad pc lv (.ref (ad a) :: st) S dy := by
  intro H locs ls hP hD hS hl
  obtain ⟨h0, h1⟩ := gs_lt Tq (by simp)
  have he := toW_at (cA := G.1) (ad := ad) (dy := dy) h0 h1
  rw [show cE G.1 ad S dy a = .inr (ci, (List.range (nF ci)).map (fV ad S dy a ci)) by unfold cE; rw [Tq]; rfl] at he
  exact va_get C.1 C.2.1 C.2.2.2.2.1 hin C.2.2.2.1 C.2.2.2.2.2.1 hP (a - 1) he hc k0 hk (C.2.2.2.2.1 _ hw) (fun _ q => q) (fV_rng (by rw [hN]; exact hk)) d (k H locs ls hP hD hS hl)
theorem ww_geti (C : CX p s m args c cc nL own G A) {a ci k0 i N : Nat} {Cn : String} {T : u_T} (d : decode cc pc = .ok (.getfield i, 3)) (hc : vwCl[ci]? = some (Cn, T, N)) (hN : nF ci = N) (hin : ∀ w ∈ u_ws Cn T N, w ∈ mw) (hk : k0 < N) (Tq : gs S a = (0, ci)) (hw : Cond.fieldLink own i (T k0).1 (T k0).2.1 (T k0).2.2.1 ∈ mw) (hf : fK ci k0 = 1) (k : WJ p l e R s m args below meth c nL G A cells slots Q ad (pc + 3) lv (.int (gi dy a k0) :: st) S dy) : WJ p l e R s m args below meth c nL G A cells slots Q ad pc lv (.ref (ad a) :: st) S dy :=
  ww_get0 C d hc hN hin hk Tq hw (by rw [show fV ad S dy a ci k0 = .int (gi dy a k0) by unfold fV; rw [hf]; rfl]; exact k)
theorem ww_getz (C : CX p s m args c cc nL own G A) {a ci k0 i N : Nat} {Cn : String} {T : u_T} (d : decode cc pc = .ok (.getfield i, 3)) (hc : vwCl[ci]? = some (Cn, T, N)) (hN : nF ci = N) (hin : ∀ w ∈ u_ws Cn T N, w ∈ mw) (hk : k0 < N) (Tq : gs S a = (0, ci)) (hw : Cond.fieldLink own i (T k0).1 (T k0).2.1 (T k0).2.2.1 ∈ mw) (hf : fK ci k0 = 3) (k : WJ p l e R s m args below meth c nL G A cells slots Q ad (pc + 3) lv (.int (nr 3 (gi dy a k0)) :: st) S dy) : WJ p l e R s m args below meth c nL G A cells slots Q ad pc lv (.ref (ad a) :: st) S dy :=
  ww_get0 C d hc hN hin hk Tq hw (by rw [show fV ad S dy a ci k0 = .int (nr 3 (gi dy a k0)) by unfold fV; rw [hf]; rfl]; exact k)
theorem ww_getl (C : CX p s m args c cc nL own G A) {a ci k0 i N : Nat} {Cn : String} {T : u_T} (d : decode cc pc = .ok (.getfield i, 3)) (hc : vwCl[ci]? = some (Cn, T, N)) (hN : nF ci = N) (hin : ∀ w ∈ u_ws Cn T N, w ∈ mw) (hk : k0 < N) (Tq : gs S a = (0, ci)) (hw : Cond.fieldLink own i (T k0).1 (T k0).2.1 (T k0).2.2.1 ∈ mw) (hf : fK ci k0 = 4) (k : WJ p l e R s m args below meth c nL G A cells slots Q ad (pc + 3) lv (.long (gl dy a k0) :: st) S dy) : WJ p l e R s m args below meth c nL G A cells slots Q ad pc lv (.ref (ad a) :: st) S dy :=
  ww_get0 C d hc hN hin hk Tq hw (by rw [show fV ad S dy a ci k0 = .long (gl dy a k0) by unfold fV; rw [hf]; rfl]; exact k)
theorem ww_getr (C : CX p s m args c cc nL own G A) {a ci k0 i N : Nat} {Cn : String} {T : u_T} (d : decode cc pc = .ok (.getfield i, 3)) (hc : vwCl[ci]? = some (Cn, T, N)) (hN : nF ci = N) (hin : ∀ w ∈ u_ws Cn T N, w ∈ mw) (hk : k0 < N) (Tq : gs S a = (0, ci)) (hw : Cond.fieldLink own i (T k0).1 (T k0).2.1 (T k0).2.2.1 ∈ mw) (hf : fK ci k0 = 5) {q : Nat × Nat} (Tr : gs S (gr S a k0) = q) (hq : q.1 ≠ 99) (k : WJ p l e R s m args below meth c nL G A cells slots Q ad (pc + 3) lv (.ref (ad (gr S a k0)) :: st) S dy) : WJ p l e R s m args below meth c nL G A cells slots Q ad pc lv (.ref (ad a) :: st) S dy :=
  ww_get0 C d hc hN hin hk Tq hw (by rw [show fV ad S dy a ci k0 = .ref (ad (gr S a k0)) by unfold fV; rw [hf]; exact rV_pos (by have := gs_lt Tr hq; omega)]; exact k)
theorem ww_put0 (C : CX p s m args c cc nL own G A) {a ci k0 i N : Nat} {Cn : String} {T : u_T} {ty0 : Nat → FieldType} {ty : FieldType} {v : Value} {dy' : DY} (d : decode cc pc = .ok (.putfield i, 3)) (hc : vwCl[ci]? = some (Cn, T, N)) (hN : nF ci = N) (hin : ∀ w ∈ u_ws Cn T N, w ∈ mw) (hty : ∀ k, k < N → parseFieldDescriptor (T k).2.2.1 = some (ty0 k)) (hnm : ∀ a, a < N → ∀ b, b < N → a ≠ b → (T a).2.1 ≠ (T b).2.1) (hk : k0 < N) (Tq : gs S a = (0, ci)) (hw : Cond.fieldLink own i (T k0).1 (T k0).2.1 (T k0).2.2.1 ∈ mw) (hfin : (T k0).2.2.2 = false) (hd : parseFieldDescriptor (T k0).2.2.1 = some ty) (hn : narrow ty v = v) (hfit : fits ty v = true) (e3 : fV ad S dy' a ci k0 = v) (e4 : ∀ j, j ≠ k0 → fV ad S dy' a ci j = fV ad S dy a ci j) (e5 : ∀ b, b ≠ a → cE G.1 ad S dy' b = cE G.1 ad S dy b) (k : WJ p l e R s m args below meth c nL G A cells slots Q ad (pc + 3) lv st S dy') : WJ p l e R s m args below meth c nL G A cells slots Q ad pc lv (v :: .ref (ad a) :: st) S dy := by
  intro H locs ls hP hD hS hl
  obtain ⟨h0, h1⟩ := gs_lt Tq (by simp)
  have he := toW_at (cA := G.1) (ad := ad) (dy := dy) h0 h1
  rw [show cE G.1 ad S dy a = .inr (ci, (List.range (nF ci)).map (fV ad S dy a ci)) by unfold cE; rw [Tq]; rfl] at he
  have hs : (toW G.1 ad S dy).set (a - 1) (ad a, .inr (ci, ((List.range (nF ci)).map (fV ad S dy a ci)).set k0 v)) = toW G.1 ad S dy' := by
    refine toW_set h0 h1 ?_ (fun b _ _ hb => e5 b hb)
    unfold cE
    rw [Tq]
    show Sum.inr (ci, _) = _
    rw [range_set (by rw [hN]; exact hk) e3 e4]
  refine va_put C.1 C.2.1 C.2.2.2.2.1 hin ty0 hty hnm C.2.2.2.1 C.2.2.2.2.2.1 hP hD hS (a - 1) he hc k0 hk (C.2.2.2.2.1 _ hw) (fun _ q => q) hfin hd hn hfit (by simp [hN, hk]) d (fun H1 locs1 hP1 hD1 hS1 => ?_)
  rw [hs] at hP1 hD1
  exact k H1 locs1 ls hP1 hD1 hS1 hl
theorem cE_si {cA : Nat → ClassId} {a k0 b : Nat} {v : Int32} (hb : b ≠ a) : cE cA ad S (si dy a k0 v) b = cE cA ad S dy b := by
  have e : ∀ j, gi (si dy a k0 v) b j = gi dy b j := fun j => by simp [gi, si, up2, hb]
  have e2 : ∀ c j, fV ad S (si dy a k0 v) b c j = fV ad S dy b c j := fun c j => by unfold fV; rw [e j]; rfl
  unfold cE
  simp only [e]
  rw [show fV ad S (si dy a k0 v) b (gs S b).2 = fV ad S dy b (gs S b).2 from funext (e2 _)]
  rfl
theorem cE_sl {cA : Nat → ClassId} {a k0 b : Nat} {v : Int64} (hb : b ≠ a) : cE cA ad S (sl dy a k0 v) b = cE cA ad S dy b := by
  have e : ∀ j, gl (sl dy a k0 v) b j = gl dy b j := fun j => by simp [gl, sl, up2, hb]
  have e2 : ∀ c j, fV ad S (sl dy a k0 v) b c j = fV ad S dy b c j := fun c j => by unfold fV; rw [e j]; rfl
  unfold cE
  rw [show gl (sl dy a k0 v) b = gl dy b from funext e]
  rw [show fV ad S (sl dy a k0 v) b (gs S b).2 = fV ad S dy b (gs S b).2 from funext (e2 _)]
  rfl
theorem fV_si {a k0 c j : Nat} {v : Int32} (hj : j ≠ k0) : fV ad S (si dy a k0 v) a c j = fV ad S dy a c j := by
  unfold fV
  rw [show gi (si dy a k0 v) a j = gi dy a j by simp [gi, si, up2, hj]]
  rfl
theorem fV_sl {a k0 c j : Nat} {v : Int64} (hj : j ≠ k0) : fV ad S (sl dy a k0 v) a c j = fV ad S dy a c j := by
  unfold fV
  rw [show gl (sl dy a k0 v) a j = gl dy a j by simp [gl, sl, up2, hj]]
  rfl
theorem gi_si {a k0 : Nat} {v : Int32} : gi (si dy a k0 v) a k0 = v := by simp [gi, si, up2]
theorem gl_sl {a k0 : Nat} {v : Int64} : gl (sl dy a k0 v) a k0 = v := by simp [gl, sl, up2]
theorem ww_puti (C : CX p s m args c cc nL own G A) {a ci k0 i N : Nat} {Cn : String} {T : u_T} {ty0 : Nat → FieldType} {v : Int32} (d : decode cc pc = .ok (.putfield i, 3)) (hc : vwCl[ci]? = some (Cn, T, N)) (hN : nF ci = N) (hin : ∀ w ∈ u_ws Cn T N, w ∈ mw) (hty : ∀ k, k < N → parseFieldDescriptor (T k).2.2.1 = some (ty0 k)) (hnm : ∀ a, a < N → ∀ b, b < N → a ≠ b → (T a).2.1 ≠ (T b).2.1) (hk : k0 < N) (Tq : gs S a = (0, ci)) (hw : Cond.fieldLink own i (T k0).1 (T k0).2.1 (T k0).2.2.1 ∈ mw) (hfin : (T k0).2.2.2 = false) (hd : parseFieldDescriptor (T k0).2.2.1 = some .int) (hf : fK ci k0 = 1) (k : WJ p l e R s m args below meth c nL G A cells slots Q ad (pc + 3) lv st S (si dy a k0 v)) : WJ p l e R s m args below meth c nL G A cells slots Q ad pc lv (.int v :: .ref (ad a) :: st) S dy :=
  ww_put0 C d hc hN hin hty hnm hk Tq hw hfin hd rfl rfl (dy' := si dy a k0 v) (by unfold fV; rw [hf, gi_si]; rfl) (fun j hj => fV_si hj) (fun b hb => cE_si hb) k
theorem ww_putz (C : CX p s m args c cc nL own G A) {a ci k0 i N : Nat} {Cn : String} {T : u_T} {ty0 : Nat → FieldType} {v : Int32} (d : decode cc pc = .ok (.putfield i, 3)) (hc : vwCl[ci]? = some (Cn, T, N)) (hN : nF ci = N) (hin : ∀ w ∈ u_ws Cn T N, w ∈ mw) (hty : ∀ k, k < N → parseFieldDescriptor (T k).2.2.1 = some (ty0 k)) (hnm : ∀ a, a < N → ∀ b, b < N → a ≠ b → (T a).2.1 ≠ (T b).2.1) (hk : k0 < N) (Tq : gs S a = (0, ci)) (hw : Cond.fieldLink own i (T k0).1 (T k0).2.1 (T k0).2.2.1 ∈ mw) (hfin : (T k0).2.2.2 = false) (hd : parseFieldDescriptor (T k0).2.2.1 = some .boolean) (hf : fK ci k0 = 3) (hz : zb v) (k : WJ p l e R s m args below meth c nL G A cells slots Q ad (pc + 3) lv st S (si dy a k0 v)) : WJ p l e R s m args below meth c nL G A cells slots Q ad pc lv (.int v :: .ref (ad a) :: st) S dy :=
  ww_put0 C d hc hN hin hty hnm hk Tq hw hfin hd (zb_nar hz) (by rcases hz with rfl | rfl <;> rfl) (dy' := si dy a k0 v) (by unfold fV; rw [hf, gi_si]; rcases hz with rfl | rfl <;> rfl) (fun j hj => fV_si hj) (fun b hb => cE_si hb) k
theorem ww_putl (C : CX p s m args c cc nL own G A) {a ci k0 i N : Nat} {Cn : String} {T : u_T} {ty0 : Nat → FieldType} {v : Int64} (d : decode cc pc = .ok (.putfield i, 3)) (hc : vwCl[ci]? = some (Cn, T, N)) (hN : nF ci = N) (hin : ∀ w ∈ u_ws Cn T N, w ∈ mw) (hty : ∀ k, k < N → parseFieldDescriptor (T k).2.2.1 = some (ty0 k)) (hnm : ∀ a, a < N → ∀ b, b < N → a ≠ b → (T a).2.1 ≠ (T b).2.1) (hk : k0 < N) (Tq : gs S a = (0, ci)) (hw : Cond.fieldLink own i (T k0).1 (T k0).2.1 (T k0).2.2.1 ∈ mw) (hfin : (T k0).2.2.2 = false) (hd : parseFieldDescriptor (T k0).2.2.1 = some .long) (hf : fK ci k0 = 4) (k : WJ p l e R s m args below meth c nL G A cells slots Q ad (pc + 3) lv st S (sl dy a k0 v)) : WJ p l e R s m args below meth c nL G A cells slots Q ad pc lv (.long v :: .ref (ad a) :: st) S dy :=
  ww_put0 C d hc hN hin hty hnm hk Tq hw hfin hd rfl rfl (dy' := sl dy a k0 v) (by unfold fV; rw [hf, gl_sl]; rfl) (fun j hj => fV_sl hj) (fun b hb => cE_sl hb) k
theorem ww_iald (C : CX p s m args c cc nL own G A) {a n : Nat} {i : Int32} {α : Type} {t1 : Option α} {res : α} (d : decode cc pc = .ok (.iaload, 1)) (Tq : gs S a = (1, n)) (E : (if ib i n then t1 else none) = some res) (k : ib i n → t1 = some res → WJ p l e R s m args below meth c nL G A cells slots Q ad (pc + 1) lv (.int (gi dy a i.toNatClampNeg) :: st) S dy) : WJ p l e R s m args below meth c nL G A cells slots Q ad pc lv (.int i :: .ref (ad a) :: st) S dy := by
  intro H locs ls hP hD hS hl
  by_cases q : ib i n
  · rw [if_pos q] at E
    obtain ⟨h0, h1⟩ := gs_lt Tq (by simp)
    have he := toW_at (cA := G.1) (ad := ad) (dy := dy) h0 h1
    rw [show cE G.1 ad S dy a = .inl (G.1 1, n, .inl (fun i => nr 1 (gi dy a i))) by unfold cE; rw [Tq]; rfl] at he
    exact va_iald C.1 C.2.1 C.2.2.2.2.2.1 hP (a - 1) 0 he rfl (ib_in q) d (k q E H locs ls hP hD hS hl)
  · rw [if_neg q] at E
    cases E
theorem ww_bald (C : CX p s m args c cc nL own G A) {a n : Nat} {i : Int32} {α : Type} {t1 : Option α} {res : α} (d : decode cc pc = .ok (.baload, 1)) (Tq : gs S a = (2, n)) (E : (if ib i n then t1 else none) = some res) (k : ib i n → t1 = some res → WJ p l e R s m args below meth c nL G A cells slots Q ad (pc + 1) lv (.int (nr 2 (gi dy a i.toNatClampNeg)) :: st) S dy) : WJ p l e R s m args below meth c nL G A cells slots Q ad pc lv (.int i :: .ref (ad a) :: st) S dy := by
  intro H locs ls hP hD hS hl
  by_cases q : ib i n
  · rw [if_pos q] at E
    obtain ⟨h0, h1⟩ := gs_lt Tq (by simp)
    have he := toW_at (cA := G.1) (ad := ad) (dy := dy) h0 h1
    rw [show cE G.1 ad S dy a = .inl (G.1 2, n, .inl (fun i => nr 2 (gi dy a i))) by unfold cE; rw [Tq]; rfl] at he
    exact va_bald C.1 C.2.1 C.2.2.2.2.2.1 hP (a - 1) 1 he rfl (ib_in q) d (k q E H locs ls hP hD hS hl)
  · rw [if_neg q] at E
    cases E
theorem ww_zald (C : CX p s m args c cc nL own G A) {a n : Nat} {i : Int32} {α : Type} {t1 : Option α} {res : α} (d : decode cc pc = .ok (.baload, 1)) (Tq : gs S a = (3, n)) (E : (if ib i n then t1 else none) = some res) (k : ib i n → t1 = some res → WJ p l e R s m args below meth c nL G A cells slots Q ad (pc + 1) lv (.int (nr 3 (gi dy a i.toNatClampNeg)) :: st) S dy) : WJ p l e R s m args below meth c nL G A cells slots Q ad pc lv (.int i :: .ref (ad a) :: st) S dy := by
  intro H locs ls hP hD hS hl
  by_cases q : ib i n
  · rw [if_pos q] at E
    obtain ⟨h0, h1⟩ := gs_lt Tq (by simp)
    have he := toW_at (cA := G.1) (ad := ad) (dy := dy) h0 h1
    rw [show cE G.1 ad S dy a = .inl (G.1 3, n, .inl (fun i => nr 3 (gi dy a i))) by unfold cE; rw [Tq]; rfl] at he
    exact va_zald C.1 C.2.1 C.2.2.2.2.2.1 hP (a - 1) 2 he rfl (ib_in q) d (k q E H locs ls hP hD hS hl)
  · rw [if_neg q] at E
    cases E
theorem ww_lald (C : CX p s m args c cc nL own G A) {a n : Nat} {i : Int32} {α : Type} {t1 : Option α} {res : α} (d : decode cc pc = .ok (.laload, 1)) (Tq : gs S a = (4, n)) (E : (if ib i n then t1 else none) = some res) (k : ib i n → t1 = some res → WJ p l e R s m args below meth c nL G A cells slots Q ad (pc + 1) lv (.long (gl dy a i.toNatClampNeg) :: st) S dy) : WJ p l e R s m args below meth c nL G A cells slots Q ad pc lv (.int i :: .ref (ad a) :: st) S dy := by
  intro H locs ls hP hD hS hl
  by_cases q : ib i n
  · rw [if_pos q] at E
    obtain ⟨h0, h1⟩ := gs_lt Tq (by simp)
    have he := toW_at (cA := G.1) (ad := ad) (dy := dy) h0 h1
    rw [show cE G.1 ad S dy a = .inl (G.1 4, n, .inr (.inl (gl dy a))) by unfold cE; rw [Tq]; rfl] at he
    exact va_lald C.1 C.2.1 C.2.2.2.2.2.1 hP (a - 1) 3 he rfl (ib_in q) d (k q E H locs ls hP hD hS hl)
  · rw [if_neg q] at E
    cases E
theorem ww_iast (C : CX p s m args c cc nL own G A) {a n : Nat} {i : Int32} {x : Int32} {α : Type} {t1 : Option α} {res : α} (d : decode cc pc = .ok (.iastore, 1)) (Tq : gs S a = (1, n)) (E : (if ib i n then t1 else none) = some res) (k : ib i n → t1 = some res → WJ p l e R s m args below meth c nL G A cells slots Q ad (pc + 1) lv st S (si dy a i.toNatClampNeg x)) : WJ p l e R s m args below meth c nL G A cells slots Q ad pc lv (.int x :: .int i :: .ref (ad a) :: st) S dy := by
  intro H locs ls hP hD hS hl
  by_cases q : ib i n
  · rw [if_pos q] at E
    obtain ⟨h0, h1⟩ := gs_lt Tq (by simp)
    have he := toW_at (cA := G.1) (ad := ad) (dy := dy) h0 h1
    rw [show cE G.1 ad S dy a = .inl (G.1 1, n, .inl (fun i => nr 1 (gi dy a i))) by unfold cE; rw [Tq]; rfl] at he
    have hs : (toW G.1 ad S dy).set (a - 1) (ad a, .inl (G.1 1, n, .inl (upd (fun i => nr 1 (gi dy a i)) i.toNatClampNeg (nr 1 x)))) = toW G.1 ad S (si dy a i.toNatClampNeg x) := by
      refine toW_set h0 h1 ?_ (fun b _ _ hb => cE_si hb)
      unfold cE
      rw [Tq]
      show Sum.inl (G.1 1, n, _) = Sum.inl (G.1 1, n, _)
      congr 3
      congr 1
      funext j
      simp only [gi, si, up2, upd]
      by_cases hj : j = i.toNatClampNeg <;> simp [hj]
    refine va_iast C.1 C.2.1 C.2.2.2.2.2.1 hP hD hS (a - 1) 0 he rfl (ib_in q) d (fun H1 locs1 hP1 hD1 hS1 => ?_)
    have hP2 : va_P G.2.1 vwCl ((toW G.1 ad S dy).set (a - 1) (ad a, .inl (G.1 1, n, .inl (upd (fun i => nr 1 (gi dy a i)) i.toNatClampNeg (nr 1 x))))) H1 := hP1
    have hD2 : va_D A ((toW G.1 ad S dy).set (a - 1) (ad a, .inl (G.1 1, n, .inl (upd (fun i => nr 1 (gi dy a i)) i.toNatClampNeg (nr 1 x))))) := hD1
    rw [hs] at hP2 hD2
    exact k q E H1 locs1 ls hP2 hD2 hS1 hl
  · rw [if_neg q] at E
    cases E
theorem ww_bast (C : CX p s m args c cc nL own G A) {a n : Nat} {i : Int32} {x : Int32} {α : Type} {t1 : Option α} {res : α} (d : decode cc pc = .ok (.bastore, 1)) (Tq : gs S a = (2, n)) (E : (if ib i n then t1 else none) = some res) (k : ib i n → t1 = some res → WJ p l e R s m args below meth c nL G A cells slots Q ad (pc + 1) lv st S (si dy a i.toNatClampNeg x)) : WJ p l e R s m args below meth c nL G A cells slots Q ad pc lv (.int x :: .int i :: .ref (ad a) :: st) S dy := by
  intro H locs ls hP hD hS hl
  by_cases q : ib i n
  · rw [if_pos q] at E
    obtain ⟨h0, h1⟩ := gs_lt Tq (by simp)
    have he := toW_at (cA := G.1) (ad := ad) (dy := dy) h0 h1
    rw [show cE G.1 ad S dy a = .inl (G.1 2, n, .inl (fun i => nr 2 (gi dy a i))) by unfold cE; rw [Tq]; rfl] at he
    have hs : (toW G.1 ad S dy).set (a - 1) (ad a, .inl (G.1 2, n, .inl (upd (fun i => nr 2 (gi dy a i)) i.toNatClampNeg (nr 2 x)))) = toW G.1 ad S (si dy a i.toNatClampNeg x) := by
      refine toW_set h0 h1 ?_ (fun b _ _ hb => cE_si hb)
      unfold cE
      rw [Tq]
      show Sum.inl (G.1 2, n, _) = Sum.inl (G.1 2, n, _)
      congr 3
      congr 1
      funext j
      simp only [gi, si, up2, upd]
      by_cases hj : j = i.toNatClampNeg <;> simp [hj]
    refine va_bast C.1 C.2.1 C.2.2.2.2.2.1 hP hD hS (a - 1) 1 he rfl (ib_in q) d (fun H1 locs1 hP1 hD1 hS1 => ?_)
    have hP2 : va_P G.2.1 vwCl ((toW G.1 ad S dy).set (a - 1) (ad a, .inl (G.1 2, n, .inl (upd (fun i => nr 2 (gi dy a i)) i.toNatClampNeg (nr 2 x))))) H1 := hP1
    have hD2 : va_D A ((toW G.1 ad S dy).set (a - 1) (ad a, .inl (G.1 2, n, .inl (upd (fun i => nr 2 (gi dy a i)) i.toNatClampNeg (nr 2 x))))) := hD1
    rw [hs] at hP2 hD2
    exact k q E H1 locs1 ls hP2 hD2 hS1 hl
  · rw [if_neg q] at E
    cases E
theorem ww_zast (C : CX p s m args c cc nL own G A) {a n : Nat} {i : Int32} {x : Int32} {α : Type} {t1 : Option α} {res : α} (d : decode cc pc = .ok (.bastore, 1)) (Tq : gs S a = (3, n)) (E : (if ib i n then t1 else none) = some res) (k : ib i n → t1 = some res → WJ p l e R s m args below meth c nL G A cells slots Q ad (pc + 1) lv st S (si dy a i.toNatClampNeg x)) : WJ p l e R s m args below meth c nL G A cells slots Q ad pc lv (.int x :: .int i :: .ref (ad a) :: st) S dy := by
  intro H locs ls hP hD hS hl
  by_cases q : ib i n
  · rw [if_pos q] at E
    obtain ⟨h0, h1⟩ := gs_lt Tq (by simp)
    have he := toW_at (cA := G.1) (ad := ad) (dy := dy) h0 h1
    rw [show cE G.1 ad S dy a = .inl (G.1 3, n, .inl (fun i => nr 3 (gi dy a i))) by unfold cE; rw [Tq]; rfl] at he
    have hs : (toW G.1 ad S dy).set (a - 1) (ad a, .inl (G.1 3, n, .inl (upd (fun i => nr 3 (gi dy a i)) i.toNatClampNeg (nr 3 x)))) = toW G.1 ad S (si dy a i.toNatClampNeg x) := by
      refine toW_set h0 h1 ?_ (fun b _ _ hb => cE_si hb)
      unfold cE
      rw [Tq]
      show Sum.inl (G.1 3, n, _) = Sum.inl (G.1 3, n, _)
      congr 3
      congr 1
      funext j
      simp only [gi, si, up2, upd]
      by_cases hj : j = i.toNatClampNeg <;> simp [hj]
    refine va_zast C.1 C.2.1 C.2.2.2.2.2.1 hP hD hS (a - 1) 2 he rfl (ib_in q) d (fun H1 locs1 hP1 hD1 hS1 => ?_)
    have hP2 : va_P G.2.1 vwCl ((toW G.1 ad S dy).set (a - 1) (ad a, .inl (G.1 3, n, .inl (upd (fun i => nr 3 (gi dy a i)) i.toNatClampNeg (nr 3 x))))) H1 := hP1
    have hD2 : va_D A ((toW G.1 ad S dy).set (a - 1) (ad a, .inl (G.1 3, n, .inl (upd (fun i => nr 3 (gi dy a i)) i.toNatClampNeg (nr 3 x))))) := hD1
    rw [hs] at hP2 hD2
    exact k q E H1 locs1 ls hP2 hD2 hS1 hl
  · rw [if_neg q] at E
    cases E
theorem ww_last (C : CX p s m args c cc nL own G A) {a n : Nat} {i : Int32} {x : Int64} {α : Type} {t1 : Option α} {res : α} (d : decode cc pc = .ok (.lastore, 1)) (Tq : gs S a = (4, n)) (E : (if ib i n then t1 else none) = some res) (k : ib i n → t1 = some res → WJ p l e R s m args below meth c nL G A cells slots Q ad (pc + 1) lv st S (sl dy a i.toNatClampNeg x)) : WJ p l e R s m args below meth c nL G A cells slots Q ad pc lv (.long x :: .int i :: .ref (ad a) :: st) S dy := by
  intro H locs ls hP hD hS hl
  by_cases q : ib i n
  · rw [if_pos q] at E
    obtain ⟨h0, h1⟩ := gs_lt Tq (by simp)
    have he := toW_at (cA := G.1) (ad := ad) (dy := dy) h0 h1
    rw [show cE G.1 ad S dy a = .inl (G.1 4, n, .inr (.inl (gl dy a))) by unfold cE; rw [Tq]; rfl] at he
    have hs : (toW G.1 ad S dy).set (a - 1) (ad a, .inl (G.1 4, n, .inr (.inl (vp_updL (gl dy a) i.toNatClampNeg x)))) = toW G.1 ad S (sl dy a i.toNatClampNeg x) := by
      refine toW_set h0 h1 ?_ (fun b _ _ hb => cE_sl hb)
      unfold cE
      rw [Tq]
      show Sum.inl (G.1 4, n, _) = Sum.inl (G.1 4, n, _)
      congr 5
      funext j
      simp only [gl, sl, up2, vp_updL]
      by_cases hj : j = i.toNatClampNeg <;> simp [hj]
    refine va_last C.1 C.2.1 C.2.2.2.2.2.1 hP hD hS (a - 1) 3 he rfl (ib_in q) d (fun H1 locs1 hP1 hD1 hS1 => ?_)
    have hP2 : va_P G.2.1 vwCl ((toW G.1 ad S dy).set (a - 1) (ad a, .inl (G.1 4, n, .inr (.inl (vp_updL (gl dy a) i.toNatClampNeg x))))) H1 := hP1
    have hD2 : va_D A ((toW G.1 ad S dy).set (a - 1) (ad a, .inl (G.1 4, n, .inr (.inl (vp_updL (gl dy a) i.toNatClampNeg x))))) := hD1
    rw [hs] at hP2 hD2
    exact k q E H1 locs1 ls hP2 hD2 hS1 hl
  · rw [if_neg q] at E
    cases E
theorem ww_aald (C : CX p s m args c cc nL own G A) {a n t : Nat} {i : Int32} {Cn : String} {α : Type} {t1 : Option α} {res : α} (d : decode cc pc = .ok (.aaload, 1)) (Tq : gs S a = (t, n)) (ht : 4 < t) (ht2 : t ≠ 99) (hty : tyT[t - 1]? = some (.object Cn)) (E : (if ib i n then t1 else none) = some res) {q : Nat × Nat} (Tr : ib i n → gs S (gr S a i.toNatClampNeg) = q) (hq : q.1 ≠ 99) (k : ib i n → t1 = some res → WJ p l e R s m args below meth c nL G A cells slots Q ad (pc + 1) lv (.ref (ad (gr S a i.toNatClampNeg)) :: st) S dy) : WJ p l e R s m args below meth c nL G A cells slots Q ad pc lv (.int i :: .ref (ad a) :: st) S dy := by
  intro H locs ls hP hD hS hl
  by_cases hi : ib i n
  · rw [if_pos hi] at E
    obtain ⟨h0, h1⟩ := gs_lt Tq ht2
    have he := toW_at (cA := G.1) (ad := ad) (dy := dy) h0 h1
    rw [show cE G.1 ad S dy a = .inl (G.1 t, n, .inr (.inr (.inr (.inr (fun i => rO ad (gr S a i)))))) by unfold cE; rw [Tq]; rw [if_neg (by show ¬ t = 0; omega), if_neg (by show ¬ t = 4; omega), if_neg (by show ¬ t ≤ 3; omega)]] at he
    have hT : (TY G)[t - 1]? = some (G.1 t, .object Cn) := by
      unfold TY
      rw [List.getElem?_map, List.getElem?_zipIdx, hty]
      simp
      rw [show t - 1 + 1 = t by omega]
    refine va_aldq C.1 C.2.1 C.2.2.2.2.2.1 hP (a - 1) (t - 1) he hT (ib_in hi) d ?_
    rw [rO_V, rV_pos (by have := gs_lt (Tr hi) hq; omega)]
    exact k hi E H locs ls hP hD hS hl
  · rw [if_neg hi] at E
    cases E
theorem ww_alen (C : CX p s m args c cc nL own G A) {a n t : Nat} {v : Int32} {ty : FieldType} (d : decode cc pc = .ok (.arraylength, 1)) (Tq : gs S a = (t, n)) (ht : 0 < t) (ht2 : t ≠ 99) (hty : tyT[t - 1]? = some ty) (hv : Int32.ofNat n = v) (k : WJ p l e R s m args below meth c nL G A cells slots Q ad (pc + 1) lv (.int v :: st) S dy) : WJ p l e R s m args below meth c nL G A cells slots Q ad pc lv (.ref (ad a) :: st) S dy := by
  intro H locs ls hP hD hS hl
  obtain ⟨h0, h1⟩ := gs_lt Tq ht2
  have he := toW_at (cA := G.1) (ad := ad) (dy := dy) h0 h1
  have hT : (TY G)[t - 1]? = some (G.1 t, ty) := by
    unfold TY
    rw [List.getElem?_map, List.getElem?_zipIdx, hty]
    simp
    rw [show t - 1 + 1 = t by omega]
  have hz : ∃ x : vp_A, cE G.1 ad S dy a = .inl (G.1 t, x) ∧ x.1 = n := by
    unfold cE
    rw [Tq]
    rw [if_neg (by show ¬ t = 0; omega)]
    by_cases h4 : t = 4
    · subst h4
      exact ⟨_, rfl, rfl⟩
    · rw [if_neg (by exact h4)]
      by_cases h3 : t ≤ 3
      · rw [if_pos (by exact h3)]
        exact ⟨_, rfl, rfl⟩
      · rw [if_neg (by exact h3)]
        exact ⟨_, rfl, rfl⟩
  obtain ⟨x, hx, hxn⟩ := hz
  rw [hx] at he
  exact va_alen C.1 C.2.1 C.2.2.2.2.2.1 hP (a - 1) (t - 1) he hT (by rw [hxn]; exact hv) d (k H locs ls hP hD hS hl)
theorem ww_mmax (C : CX p s m args c cc nL own G A) {i : Nat} {x y : Int32} (d : decode cc pc = .ok (.invokestatic i, 3)) (hw : Cond.methodLink own i Lib.Math.max.name ∈ mw) (hw2 : Cond.static Lib.Math.max.name ∈ mw) (hw3 : Cond.initialized "java/lang/Math" ∈ mw) (hw4 : Cond.code Lib.Math.max.name Lib.Math.max.code 2 (some .int) ∈ mw) (hfr : 1 ≤ R.frames) (hlo : 40 ≤ R.locals) (hst : (st.map fun v => v.category).sum ≤ 8) (hce : cells ≤ R.cells) (hsl : slots ≤ R.slots) (k : WJ p l e R s m args below meth c nL G A cells slots Q ad (pc + 3) lv (.int (if x < y then y else x) :: st) S dy) : WJ p l e R s m args below meth c nL G A cells slots Q ad pc lv (.int y :: .int x :: st) S dy :=
  fun H locs ls hP hD hS hl => va_mmax C.1 C.2.1 (C.2.2.1.trans hl.1.symm) C.2.2.2.1 (C.2.2.2.2.1 _ hw) (C.2.2.2.2.1 _ hw2) (C.2.2.2.2.1 _ hw3) (C.2.2.2.2.1 _ hw4) hfr (by omega) hce hsl d (k H locs ls hP hD hS hl)
theorem ww_mmin (C : CX p s m args c cc nL own G A) {i : Nat} {x y : Int32} (d : decode cc pc = .ok (.invokestatic i, 3)) (hw : Cond.methodLink own i Lib.Math.min.name ∈ mw) (hw2 : Cond.static Lib.Math.min.name ∈ mw) (hw3 : Cond.initialized "java/lang/Math" ∈ mw) (hw4 : Cond.code Lib.Math.min.name Lib.Math.min.code 2 (some .int) ∈ mw) (hfr : 1 ≤ R.frames) (hlo : 40 ≤ R.locals) (hst : (st.map fun v => v.category).sum ≤ 8) (hce : cells ≤ R.cells) (hsl : slots ≤ R.slots) (k : WJ p l e R s m args below meth c nL G A cells slots Q ad (pc + 3) lv (.int (if y < x then y else x) :: st) S dy) : WJ p l e R s m args below meth c nL G A cells slots Q ad pc lv (.int y :: .int x :: st) S dy :=
  fun H locs ls hP hD hS hl => va_mmin C.1 C.2.1 (C.2.2.1.trans hl.1.symm) C.2.2.2.1 (C.2.2.2.2.1 _ hw) (C.2.2.2.2.1 _ hw2) (C.2.2.2.2.1 _ hw3) (C.2.2.2.2.1 _ hw4) hfr (by omega) hce hsl d (k H locs ls hP hD hS hl)
theorem ww_mabs (C : CX p s m args c cc nL own G A) {i : Nat} {x : Int32} (d : decode cc pc = .ok (.invokestatic i, 3)) (hw : Cond.methodLink own i Lib.Math.abs.name ∈ mw) (hw2 : Cond.static Lib.Math.abs.name ∈ mw) (hw3 : Cond.initialized "java/lang/Math" ∈ mw) (hw4 : Cond.code Lib.Math.abs.name Lib.Math.abs.code 1 (some .int) ∈ mw) (hfr : 1 ≤ R.frames) (hlo : 40 ≤ R.locals) (hst : (st.map fun v => v.category).sum ≤ 8) (hce : cells ≤ R.cells) (hsl : slots ≤ R.slots) (k : WJ p l e R s m args below meth c nL G A cells slots Q ad (pc + 3) lv (.int (if 0 ≤ x then x else 0 - x) :: st) S dy) : WJ p l e R s m args below meth c nL G A cells slots Q ad pc lv (.int x :: st) S dy :=
  fun H locs ls hP hD hS hl => va_mabs C.1 C.2.1 (C.2.2.1.trans hl.1.symm) C.2.2.2.1 (C.2.2.2.2.1 _ hw) (C.2.2.2.2.1 _ hw2) (C.2.2.2.2.1 _ hw3) (C.2.2.2.2.1 _ hw4) hfr (by omega) hce hsl d (k H locs ls hP hD hS hl)
end WR
