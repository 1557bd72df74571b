/-! constructors: new cells, final fields, calls of constructors -/
def rmN (d mc ms : Nat) : Room := { frames := d, cells := mc, slots := ms, locals := 40 * d }
/-- no reference leads out of the cells -/
def clo (S : ST) : Prop := ∀ a k, gr S a k ≤ S.1
theorem clo_al {S : ST} {q : Nat × Nat} (h : clo S) : clo (alS S q) := by
  intro a k
  show (if a = S.1 + 1 then 0 else gr S a k) ≤ S.1 + 1
  split
  · omega
  · have := h a k; omega
theorem clo_sr {S : ST} {a k v : Nat} (h : clo S) (hv : v ≤ S.1) : clo (sr S a k v) := by
  intro x y
  show (if x = a ∧ y = k then v else gr S x y) ≤ S.1
  split
  · exact hv
  · exact h x y
theorem cE_ext {cA : Nat → ClassId} {ad ad' : Nat → Nat} {S S' : ST} {dy dy' : DY} {a : Nat} (h1 : gs S' a = gs S a) (h2 : ∀ k, gi dy' a k = gi dy a k) (h3 : ∀ k, gl dy' a k = gl dy a k) (h4 : ∀ k, gr S' a k = gr S a k) (h5 : ∀ k, gr S a k ≠ 0 → ad' (gr S a k) = ad (gr S a k)) : cE cA ad' S' dy' a = cE cA ad S dy a := by
  have e1 : ∀ k, rV ad' (gr S' a k) = rV ad (gr S a k) := fun k => by
    rw [h4]
    unfold rV
    by_cases z : gr S a k = 0
    · rw [if_pos z, if_pos z]
    · rw [if_neg z, if_neg z, h5 k z]
  have e3 : ∀ k, rO ad' (gr S' a k) = rO ad (gr S a k) := fun k => by
    rw [h4]
    unfold rO
    by_cases z : gr S a k = 0
    · rw [if_pos z, if_pos z]
    · rw [if_neg z, if_neg z, h5 k z]
  have e2 : ∀ c, fV ad' S' dy' a c = fV ad S dy a c := fun c => funext fun k => by
    unfold fV
    rw [h2, h3, e1]
  unfold cE
  rw [h1, show gl dy' a = gl dy a from funext h3]
  simp only [e2, h2, e3]
theorem toW_al {cA : Nat → ClassId} {ad ad' : Nat → Nat} {S : ST} {dy : DY} {q : Nat × Nat} (hc : clo S) (hg : ∀ x, x ≤ S.1 → ad' x = ad x) : toW cA ad' (alS S q) (alD S dy) = toW cA ad S dy ++ [(ad' (S.1 + 1), cE cA ad' (alS S q) (alD S dy) (S.1 + 1))] := by
  unfold toW
  rw [show (alS S q).1 = S.1 + 1 from rfl, List.range_succ, List.map_append]
  congr 1
  apply List.map_congr_left
  intro k hk
  have hk := List.mem_range.mp hk
  have e0 : cE cA ad' (alS S q) (alD S dy) (k + 1) = cE cA ad S dy (k + 1) := by
    refine cE_ext ?_ (fun j => ?_) (fun j => ?_) (fun j => ?_) (fun j _ => hg _ (hc _ _))
    · show (if 0 < k + 1 ∧ k + 1 ≤ S.1 + 1 then (if k + 1 = S.1 + 1 then q else S.2.1 (k + 1)) else (99, 0)) = (if 0 < k + 1 ∧ k + 1 ≤ S.1 then S.2.1 (k + 1) else (99, 0))
      rw [if_pos (by omega), if_neg (by omega), if_pos (by omega)]
    · show (if k + 1 = S.1 + 1 then 0 else gi dy (k + 1) j) = _
      rw [if_neg (by omega)]
    · show (if k + 1 = S.1 + 1 then 0 else gl dy (k + 1) j) = _
      rw [if_neg (by omega)]
    · show (if k + 1 = S.1 + 1 then 0 else gr S (k + 1) j) = _
      rw [if_neg (by omega)]
  rw [e0, hg (k + 1) (by omega)]
theorem gs_new {S : ST} {q : Nat × Nat} : gs (alS S q) (S.1 + 1) = q := by
  show (if 0 < S.1 + 1 ∧ S.1 + 1 ≤ S.1 + 1 then (if S.1 + 1 = S.1 + 1 then q else S.2.1 (S.1 + 1)) else (99, 0)) = q
  rw [if_pos (by omega), if_pos rfl]
theorem gi_new {S : ST} {dy : DY} {k : Nat} : gi (alD S dy) (S.1 + 1) k = 0 := by
  show (if S.1 + 1 = S.1 + 1 then 0 else gi dy (S.1 + 1) k) = 0
  rw [if_pos rfl]
theorem gl_new {S : ST} {dy : DY} {k : Nat} : gl (alD S dy) (S.1 + 1) k = 0 := by
  show (if S.1 + 1 = S.1 + 1 then 0 else gl dy (S.1 + 1) k) = 0
  rw [if_pos rfl]
theorem gr_nw {S : ST} {q : Nat × Nat} {k : Nat} : gr (alS S q) (S.1 + 1) k = 0 := by
  show (if S.1 + 1 = S.1 + 1 then 0 else gr S (S.1 + 1) k) = 0
  rw [if_pos rfl]
theorem nr_0 (t : Nat) : nr t 0 = 0 := by
  unfold nr
  split
  · rfl
  · split
    · rfl
    · rfl
def okT (ty : FieldType) : Bool := match ty with
  | .int | .boolean | .long | .object _ | .array _ => true
  | _ => false
theorem fV_new {ad : Nat → Nat} {S : ST} {dy : DY} {q : Nat × Nat} {c j : Nat} (h : okT (tyX c j) = true) : fV ad (alS S q) (alD S dy) (S.1 + 1) c j = defaultValue (tyX c j) := by
  unfold fV fK
  rw [gr_nw, gi_new, gl_new]
  generalize tyX c j = ty at h ⊢
  cases ty <;> first | rfl | (simp [okT] at h; done) | (simp [rV, nr_0, defaultValue]; done)
theorem toW_set2 {cA : Nat → ClassId} {ad : Nat → Nat} {S S' : ST} {dy dy' : DY} {a : Nat} {e : va_E} (h0 : 0 < a) (h1 : a ≤ S.1) (hn : S'.1 = S.1) (hE : cE cA ad S' dy' a = e) (ho : ∀ b, 0 < b → b ≤ S.1 → b ≠ a → cE cA ad S' dy' b = cE cA ad S dy b) : (toW cA ad S dy).set (a - 1) (ad a, e) = toW cA ad S' dy' := by
  apply List.ext_getElem?
  intro i
  by_cases hi : i < S.1
  · rw [show (toW cA ad S' dy')[i]? = some (ad (i + 1), cE cA ad S' dy' (i + 1)) from toW_at (a := i + 1) (by omega) (by omega)]
    by_cases hia : i = a - 1
    · subst hia
      rw [List.getElem?_set_self (by unfold toW; simp; omega), show a - 1 + 1 = a by omega, hE]
    · rw [List.getElem?_set_ne (Ne.symm hia), show (toW cA ad S dy)[i]? = some (ad (i + 1), cE cA ad S dy (i + 1)) from toW_at (a := i + 1) (by omega) (by omega), ho (i + 1) (by omega) (by omega) (by omega)]
  · rw [List.getElem?_eq_none (by unfold toW; simp; omega), List.getElem?_eq_none (by unfold toW; simp; omega)]
theorem TY_at {G : GG} {t : Nat} {ty : FieldType} (h0 : 0 < t) (hty : tyT[t - 1]? = some ty) : (TY G)[t - 1]? = some (G.1 t, ty) := by
  unfold TY
  rw [List.getElem?_map, List.getElem?_zipIdx, hty]
  simp
  rw [show t - 1 + 1 = t by omega]
def bdZ {α : Type} (S : ST) (dy : DY) (f : ST → DY → Option α) : Option α := f S dy
/-- a constructor's end -/
def QN (G : GG) (ad : Nat → Nat) (A : Nat → Prop) (S S' : ST) (dy' : DY) : Array Value → State → Outcome → State → Prop := va_Qv (fun (_ : Unit) => clo S' ∧ S.1 ≤ S'.1) (fun _ t => ∃ ad' : Nat → Nat, (∀ x, x ≤ S.1 → ad' x = ad x) ∧ PSA G ad' A S' dy' t) A
def MN (l : Launch) (y : MethodName) (cc : ByteArray) (nL : Nat) (dp : Nat) (G : GG) (ad : Nat → Nat) (As : List Value) (S S' : ST) (dy dy' : DY) (mc ms : Nat) : Prop :=
  ∀ sz : Nat, Met l y (.code y cc nL none :: mw) (rmN dp mc ms) (PRE G ad S dy sz As) (QN G ad (va_A (toW G.1 ad S dy) sz) S S' dy') mc ms (va_A (toW G.1 ad S dy) sz)
theorem mn_of {l : Launch} {y : MethodName} {cc : ByteArray} {nL dp mc ms : Nat} {G : GG} {ad : Nat → Nat} {As : List Value} {S S' : ST} {dy dy' : DY} (own : String) (hy : plainName y.cls = true) (hown : y.cls = own) (hyn : y.name = "<init>") (hlen : (lg_sl As).length ≤ nL)
    (body : ∀ (p : Program) (e : Env) (s : State) (m : MethodId) (args : Array Value) (below : List Frame) (meth : Method) (c : Code) (A : Nat → Prop), CX p s m args c cc nL own G A → meth.sig.returnType = none → meth.locks = false → meth.name = "<init>" → WJ p l e (rmN dp mc ms) s m args below meth c nL G A 0 0 (MQ below (QN G ad A S S' dy') args s mc ms A) ad 0 (lv_args 0 As) [] S dy) : MN l y cc nL dp G ad As S S' dy dy' mc ms := by
  intro sz
  refine Met.ofW (cc := cc) (maxL := nL) (ret := none) hy rfl ?_
  intro p e s m args below meth c s₁ B hml hv
  obtain ⟨rfl, hsz, hP, hK, hD0, hF⟩ := hv
  subst hsz
  have hts := atoms_spec (ws := .code y cc nL none :: mw) B.pre
  have hA : ∀ q : Nat, s.heap.size ≤ q → va_A (toW G.1 ad S dy) s.heap.size q := fun q hq => Or.inr hq
  have C : CX p s m As.toArray c cc nL own G (va_A (toW G.1 ad S dy) s.heap.size) := ⟨B.exec, B.bytes, hml, by rw [← hown]; exact findClass_of_methodNamed B.named, fun w hw => hts w (List.mem_cons_of_mem _ hw), hK, hA, hF⟩
  rw [lg_entry_eq]
  exact body p e s m As.toArray below meth c _ C B.returns B.notSynchronized (by rw [← hyn]; exact (name_of_methodNamed B.named B.method).1) s.heap [] _ hP hD0.self va_S.rf (lv_entry As hlen)
section WN
variable {p : Program} {l : Launch} {e : Env} {R : Room} {s : State} {m : MethodId} {args : Array Value} {below : List Frame} {meth : Method} {c : Code} {cells slots : Nat} {Q : State → Prop}
variable {cc : ByteArray} {nL : Nat} {own : String} {G : GG} {A : Nat → Prop} {ad : Nat → Nat} {pc : Nat} {lv lv' : List (Nat × Value)} {st : List Value} {S S' : ST} {dy dy' : DY}
theorem ww_bdZ {α : Type} {f : ST → DY → Option α} {res : α} (E : bdZ S dy f = some res) (k : ∀ (S1 : ST) (dy1 : DY), S1 = S → f S1 dy1 = some res → WJ p l e R s m args below meth c nL G A cells slots Q ad pc lv st S1 dy1) : WJ p l e R s m args below meth c nL G A cells slots Q ad pc lv st S dy := k S dy rfl E
theorem ww_objinit (C : CX p s m args c cc nL own G A) {i a : Nat} (d : decode cc pc = .ok (.invokespecial i, 3)) (hw : Cond.methodLink own i Lib.objectInit ∈ mw) (hw2 : Cond.instanceMethod Lib.objectInit ∈ mw) (hw3 : Cond.code Lib.objectInit ⟨#[0xb1]⟩ 1 none ∈ mw) (hst : (st.map fun v => v.category).sum ≤ 8) (hfr : 1 ≤ R.frames) (hlo : 40 ≤ R.locals) (k : WJ p l e R s m args below meth c nL G A cells slots Q ad (pc + 3) lv st S dy) : WJ p l e R s m args below meth c nL G A cells slots Q ad pc lv (.ref a :: st) S dy :=
  fun H locs ls hP hD hS hl => W.objInit C.1 C.2.1 C.2.2.2.1 (C.2.2.2.2.1 _ hw) (C.2.2.2.2.1 _ hw2) (C.2.2.2.2.1 _ hw3) rfl (hl.1.trans C.2.2.1.symm) rfl d hfr (by show 2 * 0 + _ + 12 ≤ _; omega) (k H locs ls hP hD hS hl)
theorem ww_jcgeT (C : CX p s m args c cc nL own G A) {x y : Int32} {off : Int} {tgt : Nat} (d : decode cc pc = .ok (.if_icmp .ge off, 3)) (ht : (pc : Int) + off = (tgt : Int)) (hx : y ≤ x) (k : WJ p l e R s m args below meth c nL G A cells slots Q ad tgt lv st S dy) : WJ p l e R s m args below meth c nL G A cells slots Q ad pc lv (.int y :: .int x :: st) S dy :=
  fun H locs ls hP hD hS hl => lv_icmp_ge C.1 C.2.1 d ht (fun _ => k H locs ls hP hD hS hl) (fun q => absurd hx q)
theorem ww_jcgeF (C : CX p s m args c cc nL own G A) {x y : Int32} {off : Int} {tgt : Nat} (d : decode cc pc = .ok (.if_icmp .ge off, 3)) (ht : (pc : Int) + off = (tgt : Int)) (hx : ¬ y ≤ x) (k : WJ p l e R s m args below meth c nL G A cells slots Q ad (pc + 3) lv st S dy) : WJ p l e R s m args below meth c nL G A cells slots Q ad pc lv (.int y :: .int x :: st) S dy :=
  fun H locs ls hP hD hS hl => lv_icmp_ge C.1 C.2.1 d ht (fun q => absurd q hx) (fun _ => k H locs ls hP hD hS hl)
theorem ww_jcgtT (C : CX p s m args c cc nL own G A) {x y : Int32} {off : Int} {tgt : Nat} (d : decode cc pc = .ok (.if_icmp .gt off, 3)) (ht : (pc : Int) + off = (tgt : Int)) (hx : y < x) (k : WJ p l e R s m args below meth c nL G A cells slots Q ad tgt lv st S dy) : WJ p l e R s m args below meth c nL G A cells slots Q ad pc lv (.int y :: .int x :: st) S dy :=
  fun H locs ls hP hD hS hl => lv_icmp_gt C.1 C.2.1 d ht (fun _ => k H locs ls hP hD hS hl) (fun q => absurd hx q)
theorem ww_jcgtF (C : CX p s m args c cc nL own G A) {x y : Int32} {off : Int} {tgt : Nat} (d : decode cc pc = .ok (.if_icmp .gt off, 3)) (ht : (pc : Int) + off = (tgt : Int)) (hx : ¬ y < x) (k : WJ p l e R s m args below meth c nL G A cells slots Q ad (pc + 3) lv st S dy) : WJ p l e R s m args below meth c nL G A cells slots Q ad pc lv (.int y :: .int x :: st) S dy :=
  fun H locs ls hP hD hS hl => lv_icmp_gt C.1 C.2.1 d ht (fun q => absurd q hx) (fun _ => k H locs ls hP hD hS hl)
def nA (t N : Nat) : vp_A := if t = 4 then (N, .inr (.inl fun _ => 0)) else (N, .inl fun _ => 0)
theorem cE_new {cA : Nat → ClassId} {t N : Nat} (ht0 : 0 < t) (ht4 : t ≤ 4) : cE cA ad (alS S (t, N)) (alD S dy) (S.1 + 1) = .inl (cA t, nA t N) := by
  unfold cE
  rw [gs_new]
  rcases (show t = 1 ∨ t = 2 ∨ t = 3 ∨ t = 4 by omega) with rfl | rfl | rfl | rfl
  · simp only [gi_new, nr_0]; rfl
  · simp only [gi_new, nr_0]; rfl
  · simp only [gi_new, nr_0]; rfl
  · rw [show gl (alD S dy) (S.1 + 1) = fun _ => 0 from funext fun _ => gl_new]; rfl
theorem nA_cell {t N : Nat} {ty : FieldType} (ht0 : 0 < t) (ht4 : t ≤ 4) (hty : tyT[t - 1]? = some ty) (cA : ClassId) : vp_cell cA (nA t N) = arrV cA N (fun _ => defaultValue ty) := by
  rcases (show t = 1 ∨ t = 2 ∨ t = 3 ∨ t = 4 by omega) with rfl | rfl | rfl | rfl <;> cases hty <;> rfl
theorem ad_ext (q : Nat) : ∃ ad' : Nat → Nat, (∀ x, x ≤ S.1 → ad' x = ad x) ∧ ad' (S.1 + 1) = q := ⟨fun x => if x = S.1 + 1 then q else ad x, fun x hx => if_neg (by omega), if_pos rfl⟩
theorem ww_newa (C : CX p s m args c cc nL own G A) {t N : Nat} {ty : FieldType} {n : Int32} {atype : ArrayType} (d : decode cc pc = .ok (.newarray atype, 2)) (hc : clo S) (hta : newarray.typeOf atype = ty) (ht0 : 0 < t) (ht4 : t ≤ 4) (hty : tyT[t - 1]? = some ty) (hw : Cond.arrayClass (newarray.typeOf atype) ∈ mw) (hn : ¬ n < 0) (hN : n.toNatClampNeg = N) (hby : N * componentBytes ty ≤ 536870912) (hce : cells + 1 ≤ R.cells) (hsl : slots + N ≤ R.slots) (k : ∀ ad' : Nat → Nat, (∀ x, x ≤ S.1 → ad' x = ad x) → WJ p l e R s m args below meth c nL G A (cells + 1) (slots + N) Q ad' (pc + 2) lv (.ref (ad' (S.1 + 1)) :: st) (alS S (t, N)) (alD S dy)) : WJ p l e R s m args below meth c nL G A cells slots Q ad pc lv (.int n :: st) S dy := by
  intro H locs ls hP hD hS hl
  refine va_newa C.1 C.2.1 (C.2.2.2.2.1 _ hw) hta C.2.2.2.2.2.1 hP hD hS C.2.2.2.2.2.2.1 (a0 := nA t N) (nA_cell ht0 ht4 hty) hn hN hby hce hsl d (fun q cA H1 hK1 hP1 hD1 hS1 => ?_)
  have hcA : cA = G.1 t := by
    have h1 := (hK1.2 (TY G).length (cA, ty) (by rw [List.getElem?_append_right (Nat.le_refl _), Nat.sub_self]; rfl)).2
    have h2 := (C.2.2.2.2.2.1.2 (t - 1) _ (TY_at ht0 hty)).2
    rcases (show t = 1 ∨ t = 2 ∨ t = 3 ∨ t = 4 by omega) with rfl | rfl | rfl | rfl <;> cases hty <;> exact Option.some.inj (h1.symm.trans h2)
  subst hcA
  obtain ⟨ad', hg, hq⟩ := ad_ext (S := S) (ad := ad) q
  have hs : toW G.1 ad S dy ++ [(q, .inl (G.1 t, nA t N))] = toW G.1 ad' (alS S (t, N)) (alD S dy) := by rw [toW_al hc hg, cE_new ht0 ht4, hq]
  rw [hs] at hP1 hD1
  rw [← hq]
  exact k ad' hg H1 locs ls hP1 hD1 hS1 hl
theorem ww_newq (C : CX p s m args c cc nL own G A) {t N i : Nat} {Cn : String} {n : Int32} (d : decode cc pc = .ok (.anewarray i, 3)) (hc : clo S) (ht0 : 4 < t) (hty : tyT[t - 1]? = some (.object Cn)) (hC : Cn ∈ [RX8, RX7, RX4, RX2]) (hw : Cond.classLink own i Cn ∈ mw) (hn : ¬ n < 0) (hN : n.toNatClampNeg = N) (hby : N * 4 ≤ 536870912) (hce : cells + 1 ≤ R.cells) (hsl : slots + N ≤ R.slots) (k : ∀ ad' : Nat → Nat, (∀ x, x ≤ S.1 → ad' x = ad x) → WJ p l e R s m args below meth c nL G A (cells + 1) (slots + N) Q ad' (pc + 3) lv (.ref (ad' (S.1 + 1)) :: st) (alS S (t, N)) (alD S dy)) : WJ p l e R s m args below meth c nL G A cells slots Q ad pc lv (.int n :: st) S dy := by
  intro H locs ls hP hD hS hl
  refine va_newq C.1 C.2.1 C.2.2.2.1 (C.2.2.2.2.1 _ hw) (C.2.2.2.2.2.2.2.2.2.2.2.1 Cn hC) C.2.2.2.2.2.1 hP hD hS C.2.2.2.2.2.2.1 hn hN hby hce hsl d (fun q cA H1 hK1 hP1 hD1 hS1 => ?_)
  have hcA : cA = G.1 t := by
    have h1 := (hK1.2 (TY G).length (cA, .object Cn) (by rw [List.getElem?_append_right (Nat.le_refl _), Nat.sub_self]; rfl)).2
    have h2 := (C.2.2.2.2.2.1.2 (t - 1) _ (TY_at (by omega) hty)).2
    obtain ⟨_, _, -, -, -, g1⟩ := h1
    obtain ⟨_, _, -, -, -, g2⟩ := h2
    exact Option.some.inj (g1.symm.trans g2)
  subst hcA
  obtain ⟨ad', hg, hq⟩ := ad_ext (S := S) (ad := ad) q
  have hcell : cE G.1 ad' (alS S (t, N)) (alD S dy) (S.1 + 1) = .inl (G.1 t, N, .inr (.inr (.inr (.inr (fun _ => none))))) := by
    unfold cE
    rw [gs_new, if_neg (by show ¬ t = 0; omega), if_neg (by show ¬ t = 4; omega), if_neg (by show ¬ t ≤ 3; omega)]
    simp only [gr_nw]
    rfl
  have hs : toW G.1 ad S dy ++ [(q, .inl (G.1 t, N, .inr (.inr (.inr (.inr (fun _ => none))))))] = toW G.1 ad' (alS S (t, N)) (alD S dy) := by rw [toW_al hc hg, hcell, hq]
  rw [hs] at hP1 hD1
  rw [← hq]
  exact k ad' hg H1 locs ls hP1 hD1 hS1 hl
theorem ww_new (C : CX p s m args c cc nL own G A) {ci i N : Nat} {Cn : String} {T : u_T} (d : decode cc pc = .ok (.new i, 3)) (hc : clo S) (hcl : vwCl[ci]? = some (Cn, T, N)) (hN : nF ci = N) (hin : ∀ w ∈ u_ws Cn T N, w ∈ mw) (hty : ∀ k, k < N → parseFieldDescriptor (T k).2.2.1 = some (tyX ci k)) (hok : ∀ k, k < N → okT (tyX ci k) = true) (hw : Cond.classLink own i Cn ∈ mw) (hw2 : Cond.instantiable Cn N ∈ mw) (hw3 : Cond.initialized Cn ∈ mw) (hce : cells + 1 ≤ R.cells) (hsl : slots + N ≤ R.slots) (k : ∀ ad' : Nat → Nat, (∀ x, x ≤ S.1 → ad' x = ad x) → WJ p l e R s m args below meth c nL G A (cells + 1) (slots + N) Q ad' (pc + 3) lv (.ref (ad' (S.1 + 1)) :: st) (alS S (0, ci)) (alD S dy)) : WJ p l e R s m args below meth c nL G A cells slots Q ad pc lv st S dy := by
  intro H locs ls hP hD hS hl
  refine va_new C.1 C.2.1 C.2.2.2.2.1 hin (tyX ci) hty C.2.2.2.1 (C.2.2.2.2.1 _ hw) (C.2.2.2.2.1 _ hw2) (C.2.2.2.2.1 _ hw3) C.2.2.2.2.2.1 hP hD hS C.2.2.2.2.2.2.1 hcl (fs := (List.range (nF ci)).map (fun j => defaultValue (tyX ci j))) (fun j hj => ?_) hce hsl d (fun q H1 hP1 hD1 hS1 => ?_)
  · unfold vp_V
    rw [List.getD_eq_getElem?_getD, List.getElem?_map, List.getElem?_range (by rw [hN]; exact hj)]
    rfl
  obtain ⟨ad', hg, hq⟩ := ad_ext (S := S) (ad := ad) q
  have hcell : cE G.1 ad' (alS S (0, ci)) (alD S dy) (S.1 + 1) = .inr (ci, (List.range (nF ci)).map (fun j => defaultValue (tyX ci j))) := by
    unfold cE
    rw [gs_new]
    show Sum.inr (ci, _) = Sum.inr (ci, _)
    congr 2
    apply List.map_congr_left
    intro j hj
    exact fV_new (hok j (by rw [← hN]; exact List.mem_range.mp hj))
  have hs : toW G.1 ad S dy ++ [(q, .inr (ci, (List.range (nF ci)).map (fun j => defaultValue (tyX ci j))))] = toW G.1 ad' (alS S (0, ci)) (alD S dy) := by rw [toW_al hc hg, hcell, hq]
  rw [hs] at hP1 hD1
  rw [← hq]
  exact k ad' hg H1 locs ls hP1 hD1 hS1 hl
theorem ww_putr (C : CX p s m args c cc nL own G A) {a v ci k0 i N : Nat} {Cn : String} {T : u_T} {ty0 : Nat → FieldType} {ty : FieldType} {q : Nat × Nat} (d : decode cc pc = .ok (.putfield i, 3)) (hini : meth.name = "<init>") (hc : vwCl[ci]? = some (Cn, T, N)) (hN : nF ci = N) (hin : ∀ w ∈ u_ws Cn T N, w ∈ mw) (hty : ∀ k, k < N → parseFieldDescriptor (T k).2.2.1 = some (ty0 k)) (hnm : ∀ a, a < N → ∀ b, b < N → a ≠ b → (T a).2.1 ≠ (T b).2.1) (hk : k0 < N) (Tq : gs S a = (0, ci)) (Tv : gs S v = q) (hq : q.1 ≠ 99) (hw : Cond.fieldLink own i (T k0).1 (T k0).2.1 (T k0).2.2.1 ∈ mw) (hfin : (T k0).2.2.2 = true) (hdecl : (T k0).1 = own) (hd : parseFieldDescriptor (T k0).2.2.1 = some ty) (hn : ∀ x, narrow ty (.ref x) = .ref x) (hfit : ∀ x, fits ty (.ref x) = true) (hf : fK ci k0 = 5) (k : WJ p l e R s m args below meth c nL G A cells slots Q ad (pc + 3) lv st (sr S a k0 v) dy) : WJ p l e R s m args below meth c nL G A cells slots Q ad pc lv (.ref (ad v) :: .ref (ad a) :: st) S dy := by
  intro H locs ls hP hD hS hl
  obtain ⟨h0, h1⟩ := gs_lt Tq (by simp)
  have hv := gs_lt Tv hq
  have he := toW_at (cA := G.1) (ad := ad) (dy := dy) h0 h1
  rw [show cE G.1 ad S dy a = .inr (ci, (List.range (nF ci)).map (fV ad S dy a ci)) by unfold cE; rw [Tq]; rfl] at he
  have e1 : ∀ x y, ¬ (x = a ∧ y = k0) → gr (sr S a k0 v) x y = gr S x y := fun x y z => if_neg z
  have e2 : gr (sr S a k0 v) a k0 = v := if_pos ⟨rfl, rfl⟩
  have hs : (toW G.1 ad S dy).set (a - 1) (ad a, .inr (ci, ((List.range (nF ci)).map (fV ad S dy a ci)).set k0 (.ref (ad v)))) = toW G.1 ad (sr S a k0 v) dy := by
    refine toW_set2 h0 h1 rfl ?_ (fun b _ _ hb => cE_ext rfl (fun _ => rfl) (fun _ => rfl) (fun j => e1 b j (fun z => hb z.1)) (fun _ _ => rfl))
    unfold cE
    rw [show gs (sr S a k0 v) a = (0, ci) from Tq]
    show Sum.inr (ci, _) = _
    rw [range_set (f := fV ad S dy a ci) (g := fV ad (sr S a k0 v) dy a ci) (by rw [hN]; exact hk) (by unfold fV; rw [if_pos hf, e2]; exact rV_pos (by omega)) (fun j hj => by unfold fV; rw [e1 a j (fun z => hj z.2)])]
  refine va_putF C.1 C.2.1 C.2.2.2.2.1 hin ty0 hty hnm C.2.2.2.1 C.2.2.2.2.2.1 hP hD hS (a - 1) he hc k0 hk (C.2.2.2.2.1 _ hw) (fun _ q => q) hfin hini hdecl hd (hn _) (hfit _) (by simp [hN, hk]) d (fun H1 locs1 hP1 hD1 hS1 => ?_)
  rw [hs] at hP1 hD1
  exact k H1 locs1 ls hP1 hD1 hS1 hl
theorem ww_aast (C : CX p s m args c cc nL own G A) {a v n t ci N : Nat} {i : Int32} {Cn : String} {T : u_T} (d : decode cc pc = .ok (.aastore, 1)) (Tq : gs S a = (t, n)) (ht : 4 < t) (ht2 : t ≠ 99) (hty : tyT[t - 1]? = some (.object Cn)) (hc : vwCl[ci]? = some (Cn, T, N)) (Tv : gs S v = (0, ci)) (hi : ib i n) (k : WJ p l e R s m args below meth c nL G A cells slots Q ad (pc + 1) lv st (sr S a i.toNatClampNeg v) dy) : WJ p l e R s m args below meth c nL G A cells slots Q ad pc lv (.ref (ad v) :: .int i :: .ref (ad a) :: st) S dy := by
  intro H locs ls hP hD hS hl
  obtain ⟨h0, h1⟩ := gs_lt Tq ht2
  obtain ⟨v0, v1⟩ := gs_lt Tv (by simp)
  have he := toW_at (cA := G.1) (ad := ad) (dy := dy) h0 h1
  have hev := toW_at (cA := G.1) (ad := ad) (dy := dy) v0 v1
  have cEa : ∀ S2 : ST, gs S2 a = (t, n) → cE G.1 ad S2 dy a = .inl (G.1 t, n, .inr (.inr (.inr (.inr (fun i => rO ad (gr S2 a i)))))) := fun S2 hS2 => by unfold cE; rw [hS2]; rw [if_neg (by show ¬ t = 0; omega), if_neg (by show ¬ t = 4; omega), if_neg (by show ¬ t ≤ 3; omega)]
  rw [cEa S Tq] at he
  rw [show cE G.1 ad S dy v = .inr (ci, (List.range (nF ci)).map (fV ad S dy v ci)) by unfold cE; rw [Tv]; rfl] at hev
  have e1 : ∀ x y, ¬ (x = a ∧ y = i.toNatClampNeg) → gr (sr S a i.toNatClampNeg v) x y = gr S x y := fun x y z => if_neg z
  have e2 : gr (sr S a i.toNatClampNeg v) a i.toNatClampNeg = v := if_pos ⟨rfl, rfl⟩
  have hs : (toW G.1 ad S dy).set (a - 1) (ad a, .inl (G.1 t, n, .inr (.inr (.inr (.inr (va_up (fun i => rO ad (gr S a i)) i.toNatClampNeg (some (ad v)))))))) = toW G.1 ad (sr S a i.toNatClampNeg v) dy := by
    refine toW_set2 h0 h1 rfl ?_ (fun b _ _ hb => cE_ext rfl (fun _ => rfl) (fun _ => rfl) (fun j => e1 b j (fun z => hb z.1)) (fun _ _ => rfl))
    rw [cEa _ (show gs (sr S a i.toNatClampNeg v) a = (t, n) from Tq)]
    have hfun : (fun j => rO ad (gr (sr S a i.toNatClampNeg v) a j)) = va_up (fun i => rO ad (gr S a i)) i.toNatClampNeg (some (ad v)) := by
      funext j
      unfold va_up
      by_cases hj : j = i.toNatClampNeg
      · rw [if_pos hj, hj, e2]
        unfold rO
        rw [if_neg (by omega)]
      · rw [if_neg hj, e1 a j (fun z => hj z.2)]
    rw [hfun]
  refine va_astq C.1 C.2.1 C.2.2.2.2.2.1 hP hD hS (a - 1) (t - 1) (v - 1) ci (r := (Cn, T, N)) he (TY_at (by omega) hty) hev hc (ib_in hi) d (fun H1 locs1 hP1 hD1 hS1 => ?_)
  rw [hs] at hP1 hD1
  exact k H1 locs1 ls hP1 hD1 hS1 hl
theorem ww_vretN (C : CX p s m args c cc nL own G A) (hr : meth.sig.returnType = none) (hlk : meth.locks = false) {ad0 : Nat → Nat} {S0 : ST} (d : decode cc pc = .ok (.return_, 1)) (hc : clo S) (hm : S0.1 ≤ S.1) (hag : ∀ x, x ≤ S0.1 → ad x = ad0 x) (E : some (S, dy) = some (S', dy')) : WJ p l e R s m args below meth c nL G A cells slots (MQ below (QN G ad0 A S0 S' dy') args s cells slots A) ad pc lv [] S dy := by
  cases E
  exact fun H locs ls hP hD hS hl => W.vret C.1 C.2.1 hr (fun t ht _ => ⟨⟨(), rfl, ⟨hc, hm⟩, ad, hag, by rw [ht]; exact hP, hD⟩, hS.F ht⟩) hS.2.2 d hlk
theorem cwN (C : CX p s m args c cc nL own G A) {i n dp mc ms : Nat} {y : MethodName} {bytes : ByteArray} {maxL : Nat} {ret : Option FieldType} (hd : CWD y bytes maxL ret n) (hl : Cond.methodLink own i y ∈ mw) (hR : dp + 1 ≤ R.frames ∧ 8 + (maxL + 11) + 40 * dp ≤ R.locals) : CallB R s args own i y bytes maxL ret (.code y bytes maxL ret :: mw) (rmN dp mc ms) mc ms n :=
  callB_of n C.2.2.2.2.1 (mw_good hd.1) rfl rfl rfl (C.2.2.2.2.1 _ hd.2.1) (C.2.2.2.2.1 _ hl) hd.2.2 hR
theorem ww_runN (C : CX p s m args c cc nL own G A) {mc ms : Nat} {st0 : List Value} (hr : ∀ (H : Heap) (locs : List Loc) (ls : Array Slot), va_P G.2.1 vwCl (toW G.1 ad S dy) H → va_D A (toW G.1 ad S dy) → va_S A s.heap H locs → lv_has ls nL lv → ∃ a : Array Value, va_Run p l e R s m args below meth c H locs cells slots mc ms (F0 m pc ls st0) st (QN G ad (va_A (toW G.1 ad S dy) H.size) S S' dy' a) (va_A (toW G.1 ad S dy) H.size)) (k : ∀ ad' : Nat → Nat, (∀ x, x ≤ S.1 → ad' x = ad x) → clo S' → S.1 ≤ S'.1 → WJ p l e R s m args below meth c nL G A (cells + mc) (slots + ms) Q ad' (pc + 3) lv st S' dy') : WJ p l e R s m args below meth c nL G A cells slots Q ad pc lv st0 S dy := by
  intro H locs ls hP hD hS hl
  obtain ⟨a, hrun⟩ := hr H locs ls hP hD hS hl
  refine va_callv hrun hS (fun q _ => free_of C hD hS q) (free_of C hD hS) (fun u t H1 locs1 ht hvm hw hB hz1 hk1 hS1 => ?_)
  obtain ⟨ad', hag, hP1, hD1⟩ := hB
  rw [ht] at hP1
  exact k ad' hag hw.1 hw.2 H1 locs1 ls hP1 (hD1.weaken (fun _ q _ z => free_of C hD hS q.1 z)) hS1 hl
theorem ww_callN (C : CX p s m args c cc nL own G A) {i n dp b mc ms : Nat} {y : MethodName} {bytes : ByteArray} {maxL : Nat} (As : List Value) (hM : MN l y bytes maxL dp G ad (.ref (ad b) :: As) S S' dy dy' mc ms) (hd : CWD y bytes maxL none n) (hl : Cond.methodLink own i y ∈ mw) (hi : Cond.instanceMethod y ∈ mw) (hyn : y.name = "<init>") (hn : As.length = n) (hst : (st.map fun v => v.category).sum ≤ 8) (hR : dp + 1 ≤ R.frames ∧ 8 + (maxL + 11) + 40 * dp ≤ R.locals) (hce : cells + mc ≤ R.cells ∧ slots + ms ≤ R.slots) (d : decode cc pc = .ok (.invokespecial i, 3)) {st0 : List Value} (hst0 : st0 = As.reverse ++ .ref (ad b) :: st) (k : ∀ ad' : Nat → Nat, (∀ x, x ≤ S.1 → ad' x = ad x) → clo S' → S.1 ≤ S'.1 → WJ p l e R s m args below meth c nL G A (cells + mc) (slots + ms) Q ad' (pc + 3) lv st S' dy') : WJ p l e R s m args below meth c nL G A cells slots Q ad pc lv st0 S dy := by
  subst hst0
  refine ww_runN C (fun H locs ls hP hD hS hl1 => ?_) k
  exact ⟨_, va_runI (As := As) (rest := st) ⟨C.1, C.2.1, C.2.2.1, C.2.2.2.1, C.2.2.2.2.1⟩ (hM H.size) ⟨cwN C hd hl hR, hyn, C.2.2.2.2.1 _ hi⟩ ⟨blind_PRE, fun U hU hW => pre_of C hP hD hS (.ref (ad b) :: As) U hU hW⟩ rfl hn hl1.1 rfl (lv_room hst) d hce⟩
theorem ww_callNN (C : CX p s m args c cc nL own G A) {i n dp b mc ms : Nat} {y : MethodName} {bytes : ByteArray} {maxL : Nat} {host : String} (As : List Value) (hM : MN l y bytes maxL dp G ad (.ref (ad b) :: As) S S' dy dy' mc ms) (hd : CWD y bytes maxL none n) (hl : (own, i, y, host) ∈ nestW) (hi : Cond.instanceMethod y ∈ mw) (hyn : y.name = "<init>") (hn : As.length = n) (hst : (st.map fun v => v.category).sum ≤ 8) (hR : dp + 1 ≤ R.frames ∧ 8 + (maxL + 11) + 40 * dp ≤ R.locals) (hce : cells + mc ≤ R.cells ∧ slots + ms ≤ R.slots) (d : decode cc pc = .ok (.invokespecial i, 3)) {st0 : List Value} (hst0 : st0 = As.reverse ++ .ref (ad b) :: st) (k : ∀ ad' : Nat → Nat, (∀ x, x ≤ S.1 → ad' x = ad x) → clo S' → S.1 ≤ S'.1 → WJ p l e R s m args below meth c nL G A (cells + mc) (slots + ms) Q ad' (pc + 3) lv st S' dy') : WJ p l e R s m args below meth c nL G A cells slots Q ad pc lv st0 S dy := by
  subst hst0
  refine ww_runN C (fun H locs ls hP hD hS hl1 => ?_) k
  exact ⟨_, va_runIN (As := As) (rest := st) ⟨C.1, C.2.1, C.2.2.1, C.2.2.2.1, C.2.2.2.2.1⟩ (hM H.size) ⟨va_cnB n C.2.2.2.2.1 (mw_good hd.1) rfl rfl rfl (C.2.2.2.2.2.2.2.2.2.2.1 _ hl) (C.2.2.2.2.1 _ hd.2.1) hd.2.2 hR, hyn, C.2.2.2.2.1 _ hi⟩ ⟨blind_PRE, fun U hU hW => pre_of C hP hD hS (.ref (ad b) :: As) U hU hW⟩ rfl hn hl1.1 rfl (lv_room hst) d hce⟩
end WN
