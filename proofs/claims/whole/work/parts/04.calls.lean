/-! calls, ends and entries over WJ -/
def rmD (d : Nat) : Room := { frames := d, cells := 0, slots := 0, locals := 40 * d }
/-- a method's start: its words, the world h -/
def PRE (G : GG) (ad : Nat → Nat) (S : ST) (dy : DY) (sz : Nat) (As : List Value) : Array Value → State → Prop := va_Pc As (fun U => U.heap.size = sz ∧ va_P G.2.1 vwCl (toW G.1 ad S dy) U.heap ∧ va_K G.2.1 vwCl (TY G) U ∧ va_D (fun _ => True) (toW G.1 ad S dy) ∧ FX G (va_A (toW G.1 ad S dy) sz) U U.heap)
def PSA (G : GG) (ad : Nat → Nat) (A : Nat → Prop) (S : ST) (dy' : DY) (t : State) : Prop := va_P G.2.1 vwCl (toW G.1 ad S dy') t.heap ∧ va_D A (toW G.1 ad S dy')
def QI (G : GG) (ad : Nat → Nat) (A : Nat → Prop) (S : ST) (r : Int32) (dy' : DY) : Array Value → State → Outcome → State → Prop := va_Qi (fun (r1 : Int32) (_ : Unit) => r1 = r) (fun _ t => PSA G ad A S dy' t) A
def QL (G : GG) (ad : Nat → Nat) (A : Nat → Prop) (S : ST) (r : Int64) (dy' : DY) : Array Value → State → Outcome → State → Prop := va_Ql (fun (r1 : Int64) (_ : Unit) => r1 = r) (fun _ t => PSA G ad A S dy' t) A
def QV (G : GG) (ad : Nat → Nat) (A : Nat → Prop) (S : ST) (dy' : DY) : Array Value → State → Outcome → State → Prop := va_Qv (fun (_ : Unit) => True) (fun _ t => PSA G ad A S dy' t) A
/-- an answer that is a cell, or none -/
def QR (G : GG) (ad : Nat → Nat) (A : Nat → Prop) (S : ST) (r : Nat) (dy' : DY) : Array Value → State → Outcome → State → Prop := va_Qq (fun (o : Option Nat) (_ : Unit) => o = rO ad r) (fun _ t => PSA G ad A S dy' t) A
/-- an answer that is a text -/
def QS (G : GG) (ad : Nat → Nat) (A : Nat → Prop) (S : ST) (r : Nat) (dy' : DY) : Array Value → State → Outcome → State → Prop := va_Qq (fun (o : Option Nat) (_ : Unit) => o = some (G.2.2.1 r)) (fun _ t => PSA G ad A S dy' t) A
def MC (l : Launch) (y : MethodName) (cc : ByteArray) (nL : Nat) (ret : Option FieldType) (dp : Nat) (G : GG) (ad : Nat → Nat) (As : List Value) (S : ST) (dy : DY) (Qx : (Nat → Prop) → Array Value → State → Outcome → State → Prop) : Prop :=
  ∀ sz : Nat, Met l y (.code y cc nL ret :: mw) (rmD dp) (PRE G ad S dy sz As) (Qx (va_A (toW G.1 ad S dy) sz)) 0 0 (va_A (toW G.1 ad S dy) sz)
theorem mc_of {l : Launch} {y : MethodName} {cc : ByteArray} {nL : Nat} {ret : Option FieldType} {dp : Nat} {G : GG} {ad : Nat → Nat} {As : List Value} {S : ST} {dy : DY} {Qx : (Nat → Prop) → Array Value → State → Outcome → State → Prop} (own : String) (hy : plainName y.cls = true) (hown : y.cls = own) (hlen : (lg_sl As).length ≤ nL)
    (body : ∀ (p : Program) (e : Env) (s : State) (m : MethodId) (args : Array Value) (below : List Frame) (meth : Method) (c : Code) (A : Nat → Prop), CX p s m args c cc nL own G A → meth.sig.returnType = ret → meth.locks = false → WJ p l e (rmD dp) s m args below meth c nL G A 0 0 (MQ below (Qx A) args s 0 0 A) ad 0 (lv_args 0 As) [] S dy) : MC l y cc nL ret dp G ad As S dy Qx := by
  intro sz
  refine Met.ofW (cc := cc) (maxL := nL) (ret := ret) hy rfl ?_
  intro p e s m args below meth c s₁ B hml hv
  obtain ⟨rfl, hsz, hP, hK, hD0, hF⟩ := hv
  subst hsz
  have hts := atoms_spec (ws := .code y cc nL ret :: mw) B.pre
  have hA : ∀ q : Nat, s.heap.size ≤ q → va_A (toW G.1 ad S dy) s.heap.size q := fun q hq => Or.inr hq
  have C : CX p s m As.toArray c cc nL own G (va_A (toW G.1 ad S dy) s.heap.size) := ⟨B.exec, B.bytes, hml, by rw [← hown]; exact findClass_of_methodNamed B.named, fun w hw => hts w (List.mem_cons_of_mem _ hw), hK, hA, hF⟩
  rw [lg_entry_eq]
  exact body p e s m As.toArray below meth c _ C B.returns B.notSynchronized s.heap [] _ hP hD0.self va_S.rf (lv_entry As hlen)
section WC
variable {p : Program} {l : Launch} {e : Env} {R : Room} {s : State} {m : MethodId} {args : Array Value} {below : List Frame} {meth : Method} {c : Code} {cells slots : Nat} {Q : State → Prop}
variable {cc : ByteArray} {nL : Nat} {own : String} {G : GG} {A : Nat → Prop} {ad : Nat → Nat} {pc : Nat} {lv lv' : List (Nat × Value)} {st : List Value} {S : ST} {dy dy' : DY}
-- ends
theorem ww_iret (C : CX p s m args c cc nL own G A) (hr : meth.sig.returnType = some .int) (hlk : meth.locks = false) {v r : Int32} (d : decode cc pc = .ok (.ireturn, 1)) (E : some (v, dy) = some (r, dy')) : WJ p l e R s m args below meth c nL G A cells slots (MQ below (QI G ad A S r dy') args s cells slots A) ad pc lv [.int v] S dy := by
  cases E
  exact fun H locs ls hP hD hS hl => W.iret C.1 C.2.1 hr (fun t ht _ => ⟨⟨v, (), rfl, rfl, by rw [ht]; exact hP, hD⟩, hS.F ht⟩) hS.2.2 d hlk
theorem ww_zret (C : CX p s m args c cc nL own G A) (hr : meth.sig.returnType = some .boolean) (hlk : meth.locks = false) {v r : Int32} (d : decode cc pc = .ok (.ireturn, 1)) (hz : zb v) (E : some (v, dy) = some (r, dy')) : WJ p l e R s m args below meth c nL G A cells slots (MQ below (QI G ad A S r dy') args s cells slots A) ad pc lv [.int v] S dy := by
  cases E
  exact fun H locs ls hP hD hS hl => W.zret C.1 C.2.1 hr (zb_nar hz) (fun t ht _ => ⟨⟨v, (), rfl, rfl, by rw [ht]; exact hP, hD⟩, hS.F ht⟩) hS.2.2 d hlk
theorem ww_lret (C : CX p s m args c cc nL own G A) (hr : meth.sig.returnType = some .long) (hlk : meth.locks = false) {v r : Int64} (d : decode cc pc = .ok (.lreturn, 1)) (E : some (v, dy) = some (r, dy')) : WJ p l e R s m args below meth c nL G A cells slots (MQ below (QL G ad A S r dy') args s cells slots A) ad pc lv [.long v] S dy := by
  cases E
  exact fun H locs ls hP hD hS hl => W.lret C.1 C.2.1 hr (fun t ht _ => ⟨⟨v, (), rfl, rfl, by rw [ht]; exact hP, hD⟩, hS.F ht⟩) hS.2.2 d hlk
theorem ww_vret (C : CX p s m args c cc nL own G A) (hr : meth.sig.returnType = none) (hlk : meth.locks = false) (d : decode cc pc = .ok (.return_, 1)) (E : some dy = some dy') : WJ p l e R s m args below meth c nL G A cells slots (MQ below (QV G ad A S dy') args s cells slots A) ad pc lv [] S dy := by
  cases E
  exact fun H locs ls hP hD hS hl => W.vret C.1 C.2.1 hr (fun t ht _ => ⟨⟨(), rfl, trivial, by rw [ht]; exact hP, hD⟩, hS.F ht⟩) hS.2.2 d hlk
theorem ww_aret (C : CX p s m args c cc nL own G A) {rt : String} (hr : meth.sig.returnType = some (.object rt)) (hlk : meth.locks = false) {v r : Nat} (hv : v ≠ 0) (d : decode cc pc = .ok (.areturn, 1)) (E : some (v, dy) = some (r, dy')) : WJ p l e R s m args below meth c nL G A cells slots (MQ below (QR G ad A S r dy') args s cells slots A) ad pc lv [.ref (ad v)] S dy := by
  cases E
  exact fun H locs ls hP hD hS hl => W.aret C.1 C.2.1 hr (Or.inl ⟨_, rfl⟩) (Or.inr ⟨_, rfl⟩) (fun t ht _ => ⟨⟨some (ad v), (), rfl, by simp [rO, hv], by rw [ht]; exact hP, hD⟩, hS.F ht⟩) hS.2.2 d hlk
theorem ww_aretN (C : CX p s m args c cc nL own G A) {rt : String} (hr : meth.sig.returnType = some (.object rt)) (hlk : meth.locks = false) {r : Nat} (d : decode cc pc = .ok (.areturn, 1)) (E : some (0, dy) = some (r, dy')) : WJ p l e R s m args below meth c nL G A cells slots (MQ below (QR G ad A S r dy') args s cells slots A) ad pc lv [.null] S dy := by
  cases E
  exact fun H locs ls hP hD hS hl => W.aret C.1 C.2.1 hr (Or.inl ⟨_, rfl⟩) (Or.inl rfl) (fun t ht _ => ⟨⟨none, (), rfl, rfl, by rw [ht]; exact hP, hD⟩, hS.F ht⟩) hS.2.2 d hlk
theorem ww_sret (C : CX p s m args c cc nL own G A) {rt : String} (hr : meth.sig.returnType = some (.object rt)) (hlk : meth.locks = false) {v r : Nat} (d : decode cc pc = .ok (.areturn, 1)) (E : some (v, dy) = some (r, dy')) : WJ p l e R s m args below meth c nL G A cells slots (MQ below (QS G ad A S r dy') args s cells slots A) ad pc lv [.ref (G.2.2.1 v)] S dy := by
  cases E
  exact fun H locs ls hP hD hS hl => W.aret C.1 C.2.1 hr (Or.inl ⟨_, rfl⟩) (Or.inr ⟨_, rfl⟩) (fun t ht _ => ⟨⟨some (G.2.2.1 v), (), rfl, rfl, by rw [ht]; exact hP, hD⟩, hS.F ht⟩) hS.2.2 d hlk
-- calls
theorem pre_of (C : CX p s m args c cc nL own G A) {H : Heap} {locs : List Loc} (hP : va_P G.2.1 vwCl (toW G.1 ad S dy) H) (hD : va_D A (toW G.1 ad S dy)) (hS : va_S A s.heap H locs) (As : List Value) (U : State) (hU : U.heap = H) (hW : s.WarmedH U.vm) : PRE G ad S dy H.size As As.toArray U := by
  refine ⟨rfl, by rw [hU], by rw [hU]; exact hP, va_K.moved hW.alike C.2.2.2.2.2.1, hD.weaken (fun _ _ _ _ => trivial), ?_⟩
  rw [hU]
  refine C.2.2.2.2.2.2.2.to hW (fun a h1 h2 => hS.2.1 a h1 h2) (fun q hq => ?_)
  rcases hq with ⟨k, e, h1⟩ | h1
  · exact hD.2 k (q, e) h1
  · exact C.2.2.2.2.2.2.1 q (Nat.le_trans hS.1 h1)
theorem free_of (C : CX p s m args c cc nL own G A) {H : Heap} {locs : List Loc} (hD : va_D A (toW G.1 ad S dy)) (hS : va_S A s.heap H locs) : ∀ q, va_A (toW G.1 ad S dy) H.size q → A q := by
  intro q hq
  rcases hq with ⟨k, e, h1⟩ | h1
  · exact hD.2 k (q, e) h1
  · exact C.2.2.2.2.2.2.1 q (Nat.le_trans hS.1 h1)
theorem blind_PRE {sz : Nat} {As : List Value} : FrameBlind (PRE G ad S dy sz As) := by
  intro a U g mk ⟨q0, q1, qP, qK, qD, qF⟩
  exact ⟨q0, q1, qP, va_K.moved (u := U) (U := U.calling g mk a) (Vm.Alike.refl U.vm) qK, qD, qF.to (s := U) (U := U.calling g mk a) (State.WarmedH.refl U) (fun _ _ _ => rfl) (fun _ q => q)⟩
abbrev CWD (y : MethodName) (bytes : ByteArray) (maxL : Nat) (ret : Option FieldType) (n : Nat) : Prop := Cond.code y bytes maxL ret ∈ mw ∧ Cond.initialized y.cls ∈ mw ∧ (y.cls ≠ "java/lang/invoke/MethodHandle" ∧ y.cls ≠ "java/lang/invoke/VarHandle" ∧ (parseMethodDescriptor y.desc).map (fun d => d.parameters.length) = some n)
theorem cwB (C : CX p s m args c cc nL own G A) {i n dp : Nat} {y : MethodName} {bytes : ByteArray} {maxL : Nat} {ret : Option FieldType} (hd : CWD y bytes maxL ret n) (hl : Cond.methodLink own i y ∈ mw) (hR : dp + 1 ≤ R.frames ∧ 8 + (maxL + 11) + 40 * dp ≤ R.locals) : CallB R s args own i y bytes maxL ret (.code y bytes maxL ret :: mw) (rmD dp) 0 0 n :=
  callB_of n C.2.2.2.2.1 (mw_good hd.1) rfl rfl rfl (C.2.2.2.2.1 _ hd.2.1) (C.2.2.2.2.1 _ hl) hd.2.2 hR
def runsTo (p : Program) (l : Launch) (e : Env) (R : Room) (s : State) (m : MethodId) (args : Array Value) (below : List Frame) (meth : Method) (c : Code) (nL : Nat) (G : GG) (A : Nat → Prop) (cells slots : Nat) (ad : Nat → Nat) (pc : Nat) (lv : List (Nat × Value)) (st0 st : List Value) (S : ST) (dy : DY) (Qx : (Nat → Prop) → Array Value → State → Outcome → State → Prop) : Prop :=
  ∀ (H : Heap) (locs : List Loc) (ls : Array Slot), va_P G.2.1 vwCl (toW G.1 ad S dy) H → va_D A (toW G.1 ad S dy) → va_S A s.heap H locs → lv_has ls nL lv → ∃ a : Array Value, va_Run p l e R s m args below meth c H locs cells slots 0 0 (F0 m pc ls st0) st (Qx (va_A (toW G.1 ad S dy) H.size) a) (va_A (toW G.1 ad S dy) H.size)
theorem runs_V (C : CX p s m args c cc nL own G A) {i n dp b ci N : Nat} {Cn : String} {T : u_T} {y : MethodName} {bytes : ByteArray} {maxL : Nat} {ret : Option FieldType} {Qx : (Nat → Prop) → Array Value → State → Outcome → State → Prop} (As : List Value) (hM : MC l y bytes maxL ret dp G ad (.ref (ad b) :: As) S dy Qx) (hd : CWD y bytes maxL ret n) (hl : Cond.methodLink own i y ∈ mw) (hi : Cond.instanceMethod y ∈ mw) (hse : Cond.selects Cn y y ∈ mw) (hc : vwCl[ci]? = some (Cn, T, N)) (Tq : gs S b = (0, ci)) (hn : As.length = n) (hst : (st.map fun v => v.category).sum ≤ 8) (hR : dp + 1 ≤ R.frames ∧ 8 + (maxL + 11) + 40 * dp ≤ R.locals) (hce : cells ≤ R.cells ∧ slots ≤ R.slots) (d : decode cc pc = .ok (.invokevirtual i, 3)) {st0 : List Value} (hst0 : st0 = As.reverse ++ .ref (ad b) :: st) :
    runsTo p l e R s m args below meth c nL G A cells slots ad pc lv st0 st S dy Qx := by
  intro H locs ls hP hD hS hl1
  subst hst0
  obtain ⟨h0, h1⟩ := gs_lt Tq (by simp)
  have he := toW_at (cA := G.1) (ad := ad) (dy := dy) h0 h1
  rw [show cE G.1 ad S dy b = .inr (ci, (List.range (nF ci)).map (fV ad S dy b ci)) by unfold cE; rw [Tq]; rfl] at he
  exact ⟨_, va_runV (As := As) (rest := st) ⟨C.1, C.2.1, C.2.2.1, C.2.2.2.1, C.2.2.2.2.1⟩ (hM H.size) ⟨cwB C hd hl hR, C.2.2.2.2.1 _ hi, C.2.2.2.2.1 _ hse⟩ ⟨blind_PRE, va_recv C.2.2.2.2.2.1 hP (ci := ci) (q0 := b - 1) hc he, fun U hU hW => pre_of C hP hD hS (.ref (ad b) :: As) U hU hW⟩ rfl hn hl1.1 rfl (lv_room hst) d hce⟩
theorem runs_S (C : CX p s m args c cc nL own G A) {i n dp : Nat} {y : MethodName} {bytes : ByteArray} {maxL : Nat} {ret : Option FieldType} {Qx : (Nat → Prop) → Array Value → State → Outcome → State → Prop} (As : List Value) (hM : MC l y bytes maxL ret dp G ad As S dy Qx) (hd : CWD y bytes maxL ret n) (hl : Cond.methodLink own i y ∈ mw) (hi : Cond.static y ∈ mw) (hn : As.length = n) (hst : (st.map fun v => v.category).sum ≤ 8) (hR : dp + 1 ≤ R.frames ∧ 8 + (maxL + 11) + 40 * dp ≤ R.locals) (hce : cells ≤ R.cells ∧ slots ≤ R.slots) (d : decode cc pc = .ok (.invokestatic i, 3)) {st0 : List Value} (hst0 : st0 = As.reverse ++ st) :
    runsTo p l e R s m args below meth c nL G A cells slots ad pc lv st0 st S dy Qx := by
  intro H locs ls hP hD hS hl1
  subst hst0
  exact ⟨_, va_runS (As := As) (rest := st) ⟨C.1, C.2.1, C.2.2.1, C.2.2.2.1, C.2.2.2.2.1⟩ (hM H.size) ⟨cwB C hd hl hR, C.2.2.2.2.1 _ hi⟩ ⟨blind_PRE, fun U hU hW => pre_of C hP hD hS As U hU hW⟩ rfl hn hl1.1 rfl (lv_room hst) d hce⟩
theorem ww_callI (C : CX p s m args c cc nL own G A) {r : Int32} {st0 : List Value} (hr : runsTo p l e R s m args below meth c nL G A cells slots ad pc lv st0 st S dy (fun A1 => QI G ad A1 S r dy')) (k : WJ p l e R s m args below meth c nL G A cells slots Q ad (pc + 3) lv (.int r :: st) S dy') : WJ p l e R s m args below meth c nL G A cells slots Q ad pc lv st0 S dy := by
  intro H locs ls hP hD hS hl
  obtain ⟨a, hrun⟩ := hr H locs ls hP hD hS hl
  refine va_calli hrun hS (fun q _ => free_of C hD hS q) (free_of C hD hS) (fun r1 u t H1 locs1 ht hvm hw hB hz1 hk1 hS1 => ?_)
  subst hw
  obtain ⟨hP1, hD1⟩ := hB
  rw [ht] at hP1
  exact k H1 locs1 ls hP1 (hD1.weaken (fun _ q _ z => free_of C hD hS q.1 z)) hS1 hl
theorem ww_callL (C : CX p s m args c cc nL own G A) {r : Int64} {st0 : List Value} (hr : runsTo p l e R s m args below meth c nL G A cells slots ad pc lv st0 st S dy (fun A1 => QL G ad A1 S r dy')) (k : WJ p l e R s m args below meth c nL G A cells slots Q ad (pc + 3) lv (.long r :: st) S dy') : WJ p l e R s m args below meth c nL G A cells slots Q ad pc lv st0 S dy := by
  intro H locs ls hP hD hS hl
  obtain ⟨a, hrun⟩ := hr H locs ls hP hD hS hl
  refine va_calll hrun hS (fun q _ => free_of C hD hS q) (free_of C hD hS) (fun r1 u t H1 locs1 ht hvm hw hB hz1 hk1 hS1 => ?_)
  subst hw
  obtain ⟨hP1, hD1⟩ := hB
  rw [ht] at hP1
  exact k H1 locs1 ls hP1 (hD1.weaken (fun _ q _ z => free_of C hD hS q.1 z)) hS1 hl
theorem ww_callV (C : CX p s m args c cc nL own G A) {st0 : List Value} (hr : runsTo p l e R s m args below meth c nL G A cells slots ad pc lv st0 st S dy (fun A1 => QV G ad A1 S dy')) (k : WJ p l e R s m args below meth c nL G A cells slots Q ad (pc + 3) lv st S dy') : WJ p l e R s m args below meth c nL G A cells slots Q ad pc lv st0 S dy := by
  intro H locs ls hP hD hS hl
  obtain ⟨a, hrun⟩ := hr H locs ls hP hD hS hl
  refine va_callv hrun hS (fun q _ => free_of C hD hS q) (free_of C hD hS) (fun u t H1 locs1 ht hvm hw hB hz1 hk1 hS1 => ?_)
  obtain ⟨hP1, hD1⟩ := hB
  rw [ht] at hP1
  exact k H1 locs1 ls hP1 (hD1.weaken (fun _ q _ z => free_of C hD hS q.1 z)) hS1 hl
theorem ww_callR (C : CX p s m args c cc nL own G A) {r : Nat} {st0 : List Value} (hr : runsTo p l e R s m args below meth c nL G A cells slots ad pc lv st0 st S dy (fun A1 => QR G ad A1 S r dy')) (k : WJ p l e R s m args below meth c nL G A cells slots Q ad (pc + 3) lv (rV ad r :: st) S dy') : WJ p l e R s m args below meth c nL G A cells slots Q ad pc lv st0 S dy := by
  intro H locs ls hP hD hS hl
  obtain ⟨a, hrun⟩ := hr H locs ls hP hD hS hl
  refine va_callq hrun hS (fun q _ => free_of C hD hS q) (free_of C hD hS) (fun r1 u t H1 locs1 ht hvm hw hB hz1 hk1 hS1 => ?_)
  subst hw
  obtain ⟨hP1, hD1⟩ := hB
  rw [ht] at hP1
  rw [rO_V]
  exact k H1 locs1 ls hP1 (hD1.weaken (fun _ q _ z => free_of C hD hS q.1 z)) hS1 hl
theorem ww_callS (C : CX p s m args c cc nL own G A) {r : Nat} {st0 : List Value} (hr : runsTo p l e R s m args below meth c nL G A cells slots ad pc lv st0 st S dy (fun A1 => QS G ad A1 S r dy')) (k : WJ p l e R s m args below meth c nL G A cells slots Q ad (pc + 3) lv (.ref (G.2.2.1 r) :: st) S dy') : WJ p l e R s m args below meth c nL G A cells slots Q ad pc lv st0 S dy := by
  intro H locs ls hP hD hS hl
  obtain ⟨a, hrun⟩ := hr H locs ls hP hD hS hl
  refine va_callq hrun hS (fun q _ => free_of C hD hS q) (free_of C hD hS) (fun r1 u t H1 locs1 ht hvm hw hB hz1 hk1 hS1 => ?_)
  subst hw
  obtain ⟨hP1, hD1⟩ := hB
  rw [ht] at hP1
  exact k H1 locs1 ls hP1 (hD1.weaken (fun _ q _ z => free_of C hD hS q.1 z)) hS1 hl
theorem ww_bd {α : Type} {v : DY} {f : DY → Option α} {res : α} (E : bd v f = some res) (k : ∀ dy1 : DY, f dy1 = some res → WJ p l e R s m args below meth c nL G A cells slots Q ad pc lv st S dy1) : WJ p l e R s m args below meth c nL G A cells slots Q ad pc lv st S v := k v E
theorem bd_of {α β : Type} {v : α} {f : α → Option β} {res : β} (E : bd v f = some res) : f v = some res := E
theorem bind_of {α β : Type} {o : Option α} {f : α → Option β} {res : β} (E : o.bind f = some res) : ∃ x, o = some x ∧ f x = some res := by
  cases o with
  | none => cases E
  | some x => exact ⟨x, rfl, E⟩
end WC
