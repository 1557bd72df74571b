/-! what the decompiled methods rest on: shapes, guards, texts, copies -/
def fS (c k : Nat) : Nat × Nat := (([[(0, 4), (0, 2), (5, 9), (1, 90), (4, 512), (1, 512), (1, 5120), (99, 0), (99, 0)], [(1, 8), (1, 48), (1, 48), (1, 6), (1, 448)], [(99, 0), (1, 16), (1, 16), (1, 64), (1, 64), (1, 64), (3, 64)], [(0, 6), (0, 2)], [(99, 0), (99, 0), (99, 0), (99, 0), (3, 96), (1, 12), (1, 12), (1, 12), (1, 12), (1, 12), (1, 12), (1, 12), (1, 12)], [(0, 6), (0, 4)], [(2, 500), (99, 0), (99, 0), (99, 0), (99, 0), (99, 0), (99, 0), (99, 0)], [(2, 500), (99, 0), (99, 0), (99, 0), (7, 3), (99, 0), (8, 3), (99, 0), (0, 4), (0, 2), (0, 8), (99, 0), (0, 1)], [(0, 4), (0, 2), (99, 0), (99, 0), (99, 0), (99, 0), (99, 0), (99, 0), (99, 0), (1, 48), (1, 48), (1, 12), (1, 12), (1, 12), (1, 12), (1, 12), (1, 12), (1, 12), (1, 11), (1, 75)], [(0, 7), (6, 3), (3, 3), (0, 6), (0, 4), (0, 2), (0, 8), (0, 0), (0, 5), (0, 3)], [(99, 0), (2, 2000), (1, 4), (1, 4), (1, 4), (1, 4), (1, 12), (1, 12), (1, 12), (1, 12), (1, 1152), (1, 1152), (1, 4), (1, 12), (1, 3456), (1, 32), (1, 192), (1, 192), (99, 0), (99, 0), (99, 0), (99, 0), (99, 0), (99, 0), (99, 0), (99, 0), (99, 0), (99, 0), (99, 0), (99, 0), (99, 0), (99, 0), (99, 0), (1, 96), (1, 104), (99, 0), (99, 0), (99, 0), (1, 306), (1, 10080), (1, 12), (1, 12), (99, 0), (1, 12), (1, 12), (99, 0), (99, 0), (99, 0), (1, 12), (1, 12), (1, 9), (1, 9), (1, 9), (99, 0), (1, 9), (1, 201), (1, 448), (1, 6), (99, 0), (4, 18), (3, 3)]] : List (List (Nat × Nat))).getD c []).getD k (99, 0)
def eS (t : Nat) : Nat × Nat := if t = 5 then (0, 8) else if t = 6 then (0, 7) else if t = 7 then (0, 4) else (0, 2)
/-- the objects stand as their classes' constructors left them -/
def Good (S : ST) : Prop := (∀ a c, gs S a = (0, c) → ∀ k, (fS c k).1 ≠ 99 → gs S (gr S a k) = fS c k) ∧ (∀ a t n, gs S a = (t, n) → 4 < t → t < 9 → ∀ i, i < n → gs S (gr S a i) = eS t)
theorem gd_of {α : Type} {P : Prop} [Decidable P] {t : Option α} {r : α} (E : (if P then t else none) = some r) : P ∧ t = some r := by
  by_cases h : P
  · rw [if_pos h] at E; exact ⟨h, E⟩
  · rw [if_neg h] at E; cases E
theorem ib_lt {i : Int32} {n : Nat} (h : ib i n) : i.toNatClampNeg < n := by
  have h1 := h.1
  have h2 := h.2
  have : i.toNatClampNeg = i.toInt.toNat := rfl
  omega
theorem ti_ne {x v : Int32} {n : Int} (h : ¬ x = v) (e : v.toInt = n) : x.toInt ≠ n := fun q => h (Int32.toInt_inj.mp (q.trans e.symm))
theorem tab_out {x : Int32} {lo hi : Int} (h : ∀ v : Int, lo ≤ v → v ≤ hi → x.toInt ≠ v) : x.toInt < lo ∨ hi < x.toInt := by
  by_cases h1 : x.toInt < lo
  · exact Or.inl h1
  · by_cases h2 : hi < x.toInt
    · exact Or.inr h2
    · exact absurd rfl (h x.toInt (by omega) (by omega))
theorem lk_out2 {x a b oa ob d : Int} (h1 : x ≠ a) (h2 : x ≠ b) : Op.lookupswitch.offset [(a, oa), (b, ob)] d x = d := by
  rw [Op.lookupswitch.offset_cons, if_neg (Ne.symm h1), Op.lookupswitch.offset_cons, if_neg (Ne.symm h2), Op.lookupswitch.offset_nil]
abbrev ic (i n : Int32) (len : Nat) : Prop := 0 ≤ i.toInt ∧ 0 ≤ n.toInt ∧ i.toInt + n.toInt ≤ (len : Int)
def slenI (w : Nat) : Int32 := Int32.ofNat (sLen.getD w 0)
def schI (w : Nat) (i : Int32) : Int32 := (sByt.getD w []).getD i.toNatClampNeg 0
theorem nz_01 (x : Int32) : vp_nar .boolean x = 0 ∨ vp_nar .boolean x = 1 := by
  show x &&& 1 = 0 ∨ x &&& 1 = 1
  have h : (x &&& 1).toBitVec.toNat = x.toBitVec.toNat % 2 := by
    show (x.toBitVec &&& 1#32).toNat = _
    rw [BitVec.toNat_and]
    exact Nat.and_one_is_mod _
  rcases Nat.mod_two_eq_zero_or_one x.toBitVec.toNat with q | q
  · exact Or.inl (Int32.toBitVec.inj (BitVec.eq_of_toNat_eq (h.trans q)))
  · exact Or.inr (Int32.toBitVec.inj (BitVec.eq_of_toNat_eq (h.trans q)))
theorem nr_fit {t : Nat} {ty : FieldType} (h0 : 0 < t) (h3 : t ≤ 3) (hty : tyT[t - 1]? = some ty) (x : Int32) : fits ty (.int (nr t x)) = true := by
  rcases (show t = 1 ∨ t = 2 ∨ t = 3 by omega) with rfl | rfl | rfl
  · cases hty; rfl
  · cases hty
    show fits .byte (.int x.toInt8.toInt32) = true
    have h1 := x.toInt8.le_toInt; have h2 := x.toInt8.toInt_le
    simp only [fits, Bool.and_eq_true, decide_eq_true_eq, Int32.le_iff_toInt_le, Int8.toInt_toInt32]
    exact ⟨h1, h2⟩
  · cases hty
    show fits .boolean (.int (vp_nar .boolean x)) = true
    have h : vp_nar .boolean x = 0 ∨ vp_nar .boolean x = 1 := nz_01 x
    rcases h with h | h <;> rw [h] <;> rfl
section WS
variable {p : Program} {l : Launch} {e : Env} {R : Room} {s : State} {m : MethodId} {args : Array Value} {below : List Frame} {meth : Method} {c : Code} {cells slots : Nat} {Q : State → Prop}
variable {cc : ByteArray} {nL : Nat} {own : String} {G : GG} {A : Nat → Prop} {ad : Nat → Nat} {pc : Nat} {lv lv' : List (Nat × Value)} {st : List Value} {S : ST} {dy : DY}
theorem ic_of {i n : Int32} {len : Nat} (h : ic i n len) : ¬ i < 0 ∧ ¬ n < 0 ∧ i.toNatClampNeg + n.toNatClampNeg ≤ len := by
  obtain ⟨h1, h2, h3⟩ := h
  refine ⟨fun q => ?_, fun q => ?_, ?_⟩
  · have := Int32.lt_iff_toInt_lt.mp q
    simp only [Int32.toInt_zero] at this
    omega
  · have := Int32.lt_iff_toInt_lt.mp q
    simp only [Int32.toInt_zero] at this
    omega
  · have e1 : i.toNatClampNeg = i.toInt.toNat := rfl
    have e2 : n.toNatClampNeg = n.toInt.toNat := rfl
    omega
theorem cE_cp {cA : Nat → ClassId} {a b sp dp n x : Nat} (hb : x ≠ b) : cE cA ad S (cpi dy a b sp dp n) x = cE cA ad S dy x := by
  have e : ∀ j, gi (cpi dy a b sp dp n) x j = gi dy x j := fun j => by simp [gi, cpi, hb]
  have e2 : ∀ c j, fV ad S (cpi dy a b sp dp n) x c j = fV ad S dy x c j := fun c j => by unfold fV; rw [e j]; rfl
  unfold cE
  simp only [e]
  rw [show fV ad S (cpi dy a b sp dp n) x (gs S x).2 = fV ad S dy x (gs S x).2 from funext (e2 _)]
  rfl
theorem nat7 {x y : Nat} (h1 : x ≤ 8) (h2 : 40 ≤ y) : x + (nativeFrameWords "java/lang/System" "arraycopy" 5 + 11) ≤ y := by
  have h7 : nativeFrameWords "java/lang/System" "arraycopy" 5 = 7 := by decide +kernel
  omega
theorem ww_copy (C : CX p s m args c cc nL own G A) {a b na nb t i : Nat} {sp dp n : Int32} (d : decode cc pc = .ok (.invokestatic i, 3)) (Ta : gs S a = (t, na)) (Tb : gs S b = (t, nb)) (h0 : 0 < t) (h3 : t ≤ 3) (g1 : ic sp n na) (g2 : ic dp n nb) (hw : Cond.methodLink own i arraycopyName ∈ mw) (hw2 : Cond.native arraycopyName ∈ mw) (hw3 : Cond.static arraycopyName ∈ mw) (hw4 : Cond.initialized "java/lang/System" ∈ mw) (hfr : 1 ≤ R.frames) (hlo : 40 ≤ R.locals) (hst : (st.map fun v => v.category).sum ≤ 8) (k : WJ p l e R s m args below meth c nL G A cells slots Q ad (pc + 3) lv st S (cpi dy a b sp.toNatClampNeg dp.toNatClampNeg n.toNatClampNeg)) : WJ p l e R s m args below meth c nL G A cells slots Q ad pc lv (.int n :: .int dp :: .ref (ad b) :: .int sp :: .ref (ad a) :: st) S dy := by
  intro H locs ls hP hD hS hl
  obtain ⟨a0, a1⟩ := gs_lt Ta (by show t ≠ 99; omega)
  obtain ⟨b0, b1⟩ := gs_lt Tb (by show t ≠ 99; omega)
  obtain ⟨u1, u2, u3⟩ := ic_of g1
  obtain ⟨v1, v2, v3⟩ := ic_of g2
  have cEi : ∀ (x nx : Nat) (dz : DY), gs S x = (t, nx) → cE G.1 ad S dz x = .inl (G.1 t, nx, .inl (fun i => nr t (gi dz x i))) := by
    intro x nx dz hx
    unfold cE
    rw [hx]
    rw [if_neg (by show ¬ t = 0; omega), if_neg (by show ¬ t = 4; omega), if_pos (by show t ≤ 3; omega)]
  have hea := toW_at (cA := G.1) (ad := ad) (dy := dy) a0 a1
  have heb := toW_at (cA := G.1) (ad := ad) (dy := dy) b0 b1
  rw [cEi a na dy Ta] at hea
  rw [cEi b nb dy Tb] at heb
  obtain ⟨ty, hty⟩ : ∃ ty, tyT[t - 1]? = some ty := by
    rcases (show t = 1 ∨ t = 2 ∨ t = 3 by omega) with rfl | rfl | rfl <;> exact ⟨_, rfl⟩
  have hT : (TY G)[t - 1]? = some (G.1 t, ty) := by
    unfold TY
    rw [List.getElem?_map, List.getElem?_zipIdx, hty]
    simp
    rw [show t - 1 + 1 = t by omega]
  have hprim : refKind ty = false := by
    rcases (show t = 1 ∨ t = 2 ∨ t = 3 by omega) with rfl | rfl | rfl <;> cases hty <;> rfl
  have hs : (toW G.1 ad S dy).set (b - 1) (ad b, .inl (G.1 t, nb, .inl (va_cpy (fun i => nr t (gi dy a i)) (fun i => nr t (gi dy b i)) sp.toNatClampNeg dp.toNatClampNeg n.toNatClampNeg))) = toW G.1 ad S (cpi dy a b sp.toNatClampNeg dp.toNatClampNeg n.toNatClampNeg) := by
    refine toW_set b0 b1 ?_ (fun x _ _ hx => cE_cp hx)
    rw [cEi b nb _ Tb]
    congr 3
    congr 1
    funext j
    simp only [va_cpy, gi, cpi, true_and]
    split <;> rfl
  refine va_copyi C.1 C.2.1 (C.2.2.1.trans hl.1.symm) C.2.2.2.1 (C.2.2.2.2.1 _ hw) (C.2.2.2.2.1 _ hw2) (C.2.2.2.2.1 _ hw3) (C.2.2.2.2.1 _ hw4) C.2.2.2.2.2.1 hP hD hS (a - 1) (b - 1) (t - 1) (t - 1) hea heb hT hT hprim u1 v1 u2 u3 v3 (fun i _ => nr_fit h0 h3 hty _) hfr (nat7 hst hlo) d (fun H1 locs1 hP1 hD1 hS1 => ?_)
  rw [hs] at hP1 hD1
  exact k H1 locs1 ls hP1 hD1 hS1 hl
theorem ww_sget (C : CX p s m args c cc nL own G A) {w i : Nat} (d : decode cc pc = .ok (.getfield i, 3)) (Tw : w < 30) (hw : Cond.fieldLink own i "java/lang/String" "value" "[B" ∈ mw) (k : WJ p l e R s m args below meth c nL G A cells slots Q ad (pc + 3) lv (.ref (G.2.2.2 w) :: st) S dy) : WJ p l e R s m args below meth c nL G A cells slots Q ad pc lv (.ref (G.2.2.1 w) :: st) S dy :=
  fun H locs ls hP hD hS hl => vk_getf C.1 C.2.1 (C.2.2.2.2.2.2.2.1 w Tw).2.2.1 hS C.2.2.2.1 (C.2.2.2.2.1 _ hw) (fun _ q => q) d (k H locs ls hP hD hS hl)
theorem ww_scod (C : CX p s m args c cc nL own G A) {w i : Nat} (d : decode cc pc = .ok (.getfield i, 3)) (Tw : w < 30) (hw : Cond.fieldLink own i "java/lang/String" "coder" "B" ∈ mw) (k : WJ p l e R s m args below meth c nL G A cells slots Q ad (pc + 3) lv (.int 0 :: st) S dy) : WJ p l e R s m args below meth c nL G A cells slots Q ad pc lv (.ref (G.2.2.1 w) :: st) S dy :=
  fun H locs ls hP hD hS hl => vk_getf C.1 C.2.1 (C.2.2.2.2.2.2.2.1 w Tw).2.1 hS C.2.2.2.1 (C.2.2.2.2.1 _ hw) (fun _ q => q) d (k H locs ls hP hD hS hl)
theorem ww_gsw (C : CX p s m args c cc nL own G A) {i : Nat} (d : decode cc pc = .ok (.getstatic i, 3)) (hw : Cond.fieldLink own i "java/lang/String" "COMPACT_STRINGS" "Z" ∈ mw) (k : WJ p l e R s m args below meth c nL G A cells slots Q ad (pc + 3) lv (.int 1 :: st) S dy) : WJ p l e R s m args below meth c nL G A cells slots Q ad pc lv st S dy :=
  fun H locs ls hP hD hS hl => va_gets C.1 C.2.1 C.2.2.2.2.2.2.2.2.1 hS C.2.2.2.1 (C.2.2.2.2.1 _ hw) (fun _ q => q) d (k H locs ls hP hD hS hl)
theorem ww_gsq (C : CX p s m args c cc nL own G A) {i : Nat} (d : decode cc pc = .ok (.getstatic i, 3)) (hw : Cond.fieldLink own i "jdk/internal/util/Preconditions" "SIOOBE_FORMATTER" "Ljava/util/function/BiFunction;" ∈ mw) (k : ∀ v : Value, (v = .null ∨ ∃ t, v = .ref t) → WJ p l e R s m args below meth c nL G A cells slots Q ad (pc + 3) lv (v :: st) S dy) : WJ p l e R s m args below meth c nL G A cells slots Q ad pc lv st S dy := by
  intro H locs ls hP hD hS hl
  rcases C.2.2.2.2.2.2.2.2.2.2.2.2 with h | ⟨t, h⟩
  · exact va_gets C.1 C.2.1 h hS C.2.2.2.1 (C.2.2.2.2.1 _ hw) (fun _ q => q) d (k _ (Or.inl rfl) H locs ls hP hD hS hl)
  · exact va_gets C.1 C.2.1 h hS C.2.2.2.1 (C.2.2.2.2.1 _ hw) (fun _ q => q) d (k _ (Or.inr ⟨t, rfl⟩) H locs ls hP hD hS hl)
theorem ww_sal (C : CX p s m args c cc nL own G A) {w : Nat} (d : decode cc pc = .ok (.arraylength, 1)) (Tw : w < 30) (k : WJ p l e R s m args below meth c nL G A cells slots Q ad (pc + 1) lv (.int (slenI w) :: st) S dy) : WJ p l e R s m args below meth c nL G A cells slots Q ad pc lv (.ref (G.2.2.2 w) :: st) S dy :=
  fun H locs ls hP hD hS hl => va_tlen C.1 C.2.1 (C.2.2.2.2.2.2.2.1 w Tw).2.2.2 hS rfl d (k H locs ls hP hD hS hl)
theorem ww_sba (C : CX p s m args c cc nL own G A) {w : Nat} {x : Int32} (d : decode cc pc = .ok (.baload, 1)) (Tw : w < 30) (hx : ib x (sLen.getD w 0)) (k : WJ p l e R s m args below meth c nL G A cells slots Q ad (pc + 1) lv (.int (schI w x) :: st) S dy) : WJ p l e R s m args below meth c nL G A cells slots Q ad pc lv (.int x :: .ref (G.2.2.2 w) :: st) S dy :=
  fun H locs ls hP hD hS hl => va_tb C.1 C.2.1 (C.2.2.2.2.2.2.2.1 w Tw).2.2.2 hS (ib_in hx) rfl d (k H locs ls hP hD hS hl)
theorem ww_i2c (C : CX p s m args c cc nL own G A) {x v : Int32} (d : decode cc pc = .ok (.i2c, 1)) (hv : x.toUInt32.toUInt16.toUInt32.toInt32 = v) (k : WJ p l e R s m args below meth c nL G A cells slots Q ad (pc + 1) lv (.int v :: st) S dy) : WJ p l e R s m args below meth c nL G A cells slots Q ad pc lv (.int x :: st) S dy := by
  intro H locs ls hP hD hS hl
  first
  | exact lv_i2c C.1 C.2.1 d hv (k H locs ls hP hD hS hl)
  | exact lv_i2c C.1 C.2.1 d (by rw [← hv]; rfl) (k H locs ls hP hD hS hl)
theorem ww_jeqF (C : CX p s m args c cc nL own G A) {x : Int32} {off : Int} (d : decode cc pc = .ok (.ifCond .eq off, 3)) (tgt : Nat) (ht : (pc : Int) + off = (tgt : Int)) (hx : ¬ x = 0) (k : WJ p l e R s m args below meth c nL G A cells slots Q ad (pc + 3) lv st S dy) : WJ p l e R s m args below meth c nL G A cells slots Q ad pc lv (.int x :: st) S dy :=
  fun H locs ls hP hD hS hl => lv_if_eq C.1 C.2.1 d ht (fun q => absurd q hx) (fun _ => (k H locs ls hP hD hS hl))
theorem ww_jneF (C : CX p s m args c cc nL own G A) {x : Int32} {off : Int} (d : decode cc pc = .ok (.ifCond .ne off, 3)) (tgt : Nat) (ht : (pc : Int) + off = (tgt : Int)) (hx : x = 0) (k : WJ p l e R s m args below meth c nL G A cells slots Q ad (pc + 3) lv st S dy) : WJ p l e R s m args below meth c nL G A cells slots Q ad pc lv (.int x :: st) S dy :=
  fun H locs ls hP hD hS hl => lv_if_ne C.1 C.2.1 d ht (fun q => absurd hx q) (fun _ => (k H locs ls hP hD hS hl))
theorem ww_jltF (C : CX p s m args c cc nL own G A) {x : Int32} {off : Int} (d : decode cc pc = .ok (.ifCond .lt off, 3)) (tgt : Nat) (ht : (pc : Int) + off = (tgt : Int)) (hx : ¬ x < 0) (k : WJ p l e R s m args below meth c nL G A cells slots Q ad (pc + 3) lv st S dy) : WJ p l e R s m args below meth c nL G A cells slots Q ad pc lv (.int x :: st) S dy :=
  fun H locs ls hP hD hS hl => lv_if_lt C.1 C.2.1 d ht (fun q => absurd q hx) (fun _ => (k H locs ls hP hD hS hl))
theorem ww_jclt (C : CX p s m args c cc nL own G A) {x y : Int32} {off : Int} (d : decode cc pc = .ok (.if_icmp .lt off, 3)) (tgt : Nat) (ht : (pc : Int) + off = (tgt : Int)) (hx : x < y) (k : WJ p l e R s m args below meth c nL G A cells slots Q ad tgt lv st S dy) : WJ p l e R s m args below meth c nL G A cells slots Q ad pc lv (.int y :: .int x :: st) S dy :=
  fun H locs ls hP hD hS hl => lv_icmp_lt C.1 C.2.1 d ht (fun _ => (k H locs ls hP hD hS hl)) (fun q => absurd hx q)
theorem ww_xret (C : CX p s m args c cc nL own G A) {ty : FieldType} (hr : meth.sig.returnType = some ty) (hlk : meth.locks = false) {v : Int32} (d : decode cc pc = .ok (.ireturn, 1)) (hn : narrow ty (.int v) = .int v) : WJ p l e R s m args below meth c nL G A cells slots (MQ below (QI G ad A S v dy) args s cells slots A) ad pc lv [.int v] S dy :=
  fun H locs ls hP hD hS hl => W.zret C.1 C.2.1 hr hn (fun t ht _ => ⟨⟨v, (), rfl, rfl, by rw [ht]; exact hP, hD⟩, hS.F ht⟩) hS.2.2 d hlk
theorem runs_T (C : CX p s m args c cc nL own G A) {i n dp w : Nat} {y : MethodName} {bytes : ByteArray} {maxL : Nat} {ret : Option FieldType} {Qx : (Nat → Prop) → Array Value → State → Outcome → State → Prop} (As : List Value) (hM : MC l y bytes maxL ret dp G ad (.ref (G.2.2.1 w) :: As) S dy Qx) (hd : CWD y bytes maxL ret n) (hl : Cond.methodLink own i y ∈ mw) (hi : Cond.instanceMethod y ∈ mw) (hse : Cond.selects "java/lang/String" y y ∈ mw) (Tw : w < 30) (hn : As.length = n) (hst : (st.map fun v => v.category).sum ≤ 8) (hR : dp + 1 ≤ R.frames ∧ 8 + (maxL + 11) + 40 * dp ≤ R.locals) (hce : cells ≤ R.cells ∧ slots ≤ R.slots) (d : decode cc pc = .ok (.invokevirtual i, 3)) {st0 : List Value} (hst0 : st0 = As.reverse ++ .ref (G.2.2.1 w) :: st) :
    runsTo p l e R s m args below meth c nL G A cells slots ad pc lv st0 st S dy Qx := by
  intro H locs ls hP hD hS hl1
  subst hst0
  exact ⟨_, va_runV (As := As) (rest := st) ⟨C.1, C.2.1, C.2.2.1, C.2.2.2.1, C.2.2.2.2.1⟩ (hM H.size) ⟨cwB C hd hl hR, C.2.2.2.2.1 _ hi, C.2.2.2.2.1 _ hse⟩ ⟨blind_PRE, (by obtain ⟨cell, h1, h2, h3, -⟩ := (C.2.2.2.2.2.2.2.1 w Tw).1.kept hS.2.1; exact ⟨cell, h1, h2, h3⟩), fun U hU hW => pre_of C hP hD hS (.ref (G.2.2.1 w) :: As) U hU hW⟩ rfl hn hl1.1 rfl (lv_room hst) d hce⟩

end WS
theorem s_chr : ∀ w, w < 30 → ∀ j, j < sLen.getD w 0 → (((sByt.getD w []).getD j 0) &&& 255).toUInt32.toUInt16.toUInt32.toInt32 = (sByt.getD w []).getD j 0 ∧ narrow .char (.int ((sByt.getD w []).getD j 0)) = .int ((sByt.getD w []).getD j 0) := by decide +kernel
theorem s_len : ∀ w, w < 30 → sLen.getD w 0 < 1000 ∧ slenI w >>> ((0 : Int32) &&& 31) = slenI w ∧ (slenI w).toInt = sLen.getD w 0 := by decide +kernel
theorem dJ0_coder_7d493_0 : decode cJ0_coder_7d493 0 = .ok (.getstatic 38, 3) := by decide +kernel
theorem dJ0_coder_7d493_3 : decode cJ0_coder_7d493 3 = .ok (.ifCond .eq 10, 3) := by decide +kernel
theorem dJ0_coder_7d493_6 : decode cJ0_coder_7d493 6 = .ok (.aload_n 0, 1) := by decide +kernel
theorem dJ0_coder_7d493_7 : decode cJ0_coder_7d493 7 = .ok (.getfield 15, 3) := by decide +kernel
theorem dJ0_coder_7d493_10 : decode cJ0_coder_7d493 10 = .ok (.goto 4, 3) := by decide +kernel
theorem dJ0_coder_7d493_13 : decode cJ0_coder_7d493 13 = .ok (.iconst 1, 1) := by decide +kernel
theorem dJ0_coder_7d493_14 : decode cJ0_coder_7d493 14 = .ok (.ireturn, 1) := by decide +kernel
theorem dJ0_isLatin1_aae02_0 : decode cJ0_isLatin1_aae02 0 = .ok (.getstatic 38, 3) := by decide +kernel
theorem dJ0_isLatin1_aae02_3 : decode cJ0_isLatin1_aae02 3 = .ok (.ifCond .eq 14, 3) := by decide +kernel
theorem dJ0_isLatin1_aae02_6 : decode cJ0_isLatin1_aae02 6 = .ok (.aload_n 0, 1) := by decide +kernel
theorem dJ0_isLatin1_aae02_7 : decode cJ0_isLatin1_aae02 7 = .ok (.getfield 15, 3) := by decide +kernel
theorem dJ0_isLatin1_aae02_10 : decode cJ0_isLatin1_aae02 10 = .ok (.ifCond .ne 7, 3) := by decide +kernel
theorem dJ0_isLatin1_aae02_13 : decode cJ0_isLatin1_aae02 13 = .ok (.iconst 1, 1) := by decide +kernel
theorem dJ0_isLatin1_aae02_14 : decode cJ0_isLatin1_aae02 14 = .ok (.goto 4, 3) := by decide +kernel
theorem dJ0_isLatin1_aae02_17 : decode cJ0_isLatin1_aae02 17 = .ok (.iconst 0, 1) := by decide +kernel
theorem dJ0_isLatin1_aae02_18 : decode cJ0_isLatin1_aae02 18 = .ok (.ireturn, 1) := by decide +kernel
theorem dJ0_length_8abf5_0 : decode cJ0_length_8abf5 0 = .ok (.aload_n 0, 1) := by decide +kernel
theorem dJ0_length_8abf5_1 : decode cJ0_length_8abf5 1 = .ok (.getfield 9, 3) := by decide +kernel
theorem dJ0_length_8abf5_4 : decode cJ0_length_8abf5 4 = .ok (.arraylength, 1) := by decide +kernel
theorem dJ0_length_8abf5_5 : decode cJ0_length_8abf5 5 = .ok (.aload_n 0, 1) := by decide +kernel
theorem dJ0_length_8abf5_6 : decode cJ0_length_8abf5 6 = .ok (.invokevirtual 335, 3) := by decide +kernel
theorem dJ0_length_8abf5_9 : decode cJ0_length_8abf5 9 = .ok (.ishr, 1) := by decide +kernel
theorem dJ0_length_8abf5_10 : decode cJ0_length_8abf5 10 = .ok (.ireturn, 1) := by decide +kernel
theorem dJ3_checkIndex_8e157_0 : decode cJ3_checkIndex_8e157 0 = .ok (.iload_n 0, 1) := by decide +kernel
theorem dJ3_checkIndex_8e157_1 : decode cJ3_checkIndex_8e157 1 = .ok (.ifCond .lt 8, 3) := by decide +kernel
theorem dJ3_checkIndex_8e157_4 : decode cJ3_checkIndex_8e157 4 = .ok (.iload_n 0, 1) := by decide +kernel
theorem dJ3_checkIndex_8e157_5 : decode cJ3_checkIndex_8e157 5 = .ok (.iload_n 1, 1) := by decide +kernel
theorem dJ3_checkIndex_8e157_6 : decode cJ3_checkIndex_8e157 6 = .ok (.if_icmp .lt 10, 3) := by decide +kernel
theorem dJ3_checkIndex_8e157_9 : decode cJ3_checkIndex_8e157 9 = .ok (.aload_n 2, 1) := by decide +kernel
theorem dJ3_checkIndex_8e157_10 : decode cJ3_checkIndex_8e157 10 = .ok (.iload_n 0, 1) := by decide +kernel
theorem dJ3_checkIndex_8e157_11 : decode cJ3_checkIndex_8e157 11 = .ok (.iload_n 1, 1) := by decide +kernel
theorem dJ3_checkIndex_8e157_12 : decode cJ3_checkIndex_8e157 12 = .ok (.invokestatic 95, 3) := by decide +kernel
theorem dJ3_checkIndex_8e157_15 : decode cJ3_checkIndex_8e157 15 = .ok (.athrow, 1) := by decide +kernel
theorem dJ3_checkIndex_8e157_16 : decode cJ3_checkIndex_8e157 16 = .ok (.iload_n 0, 1) := by decide +kernel
theorem dJ3_checkIndex_8e157_17 : decode cJ3_checkIndex_8e157 17 = .ok (.ireturn, 1) := by decide +kernel
theorem dJ0_checkIndex_df160_0 : decode cJ0_checkIndex_df160 0 = .ok (.iload_n 0, 1) := by decide +kernel
theorem dJ0_checkIndex_df160_1 : decode cJ0_checkIndex_df160 1 = .ok (.iload_n 1, 1) := by decide +kernel
theorem dJ0_checkIndex_df160_2 : decode cJ0_checkIndex_df160 2 = .ok (.getstatic 1053, 3) := by decide +kernel
theorem dJ0_checkIndex_df160_5 : decode cJ0_checkIndex_df160 5 = .ok (.invokestatic 1059, 3) := by decide +kernel
theorem dJ0_checkIndex_df160_8 : decode cJ0_checkIndex_df160 8 = .ok (.pop, 1) := by decide +kernel
theorem dJ0_checkIndex_df160_9 : decode cJ0_checkIndex_df160 9 = .ok (.return_, 1) := by decide +kernel
theorem dJ1_charAt_3b067_0 : decode cJ1_charAt_3b067 0 = .ok (.iload_n 1, 1) := by decide +kernel
theorem dJ1_charAt_3b067_1 : decode cJ1_charAt_3b067 1 = .ok (.aload_n 0, 1) := by decide +kernel
theorem dJ1_charAt_3b067_2 : decode cJ1_charAt_3b067 2 = .ok (.arraylength, 1) := by decide +kernel
theorem dJ1_charAt_3b067_3 : decode cJ1_charAt_3b067 3 = .ok (.invokestatic 9, 3) := by decide +kernel
theorem dJ1_charAt_3b067_6 : decode cJ1_charAt_3b067 6 = .ok (.aload_n 0, 1) := by decide +kernel
theorem dJ1_charAt_3b067_7 : decode cJ1_charAt_3b067 7 = .ok (.iload_n 1, 1) := by decide +kernel
theorem dJ1_charAt_3b067_8 : decode cJ1_charAt_3b067 8 = .ok (.baload, 1) := by decide +kernel
theorem dJ1_charAt_3b067_9 : decode cJ1_charAt_3b067 9 = .ok (.sipush 255, 3) := by decide +kernel
theorem dJ1_charAt_3b067_12 : decode cJ1_charAt_3b067 12 = .ok (.iand, 1) := by decide +kernel
theorem dJ1_charAt_3b067_13 : decode cJ1_charAt_3b067 13 = .ok (.i2c, 1) := by decide +kernel
theorem dJ1_charAt_3b067_14 : decode cJ1_charAt_3b067 14 = .ok (.ireturn, 1) := by decide +kernel
theorem dJ0_charAt_5068e_0 : decode cJ0_charAt_5068e 0 = .ok (.aload_n 0, 1) := by decide +kernel
theorem dJ0_charAt_5068e_1 : decode cJ0_charAt_5068e 1 = .ok (.invokevirtual 492, 3) := by decide +kernel
theorem dJ0_charAt_5068e_4 : decode cJ0_charAt_5068e 4 = .ok (.ifCond .eq 12, 3) := by decide +kernel
theorem dJ0_charAt_5068e_7 : decode cJ0_charAt_5068e 7 = .ok (.aload_n 0, 1) := by decide +kernel
theorem dJ0_charAt_5068e_8 : decode cJ0_charAt_5068e 8 = .ok (.getfield 9, 3) := by decide +kernel
theorem dJ0_charAt_5068e_11 : decode cJ0_charAt_5068e 11 = .ok (.iload_n 1, 1) := by decide +kernel
theorem dJ0_charAt_5068e_12 : decode cJ0_charAt_5068e 12 = .ok (.invokestatic 495, 3) := by decide +kernel
theorem dJ0_charAt_5068e_15 : decode cJ0_charAt_5068e 15 = .ok (.ireturn, 1) := by decide +kernel
theorem dJ0_charAt_5068e_16 : decode cJ0_charAt_5068e 16 = .ok (.aload_n 0, 1) := by decide +kernel
theorem dJ0_charAt_5068e_17 : decode cJ0_charAt_5068e 17 = .ok (.getfield 9, 3) := by decide +kernel
theorem dJ0_charAt_5068e_20 : decode cJ0_charAt_5068e 20 = .ok (.iload_n 1, 1) := by decide +kernel
theorem dJ0_charAt_5068e_21 : decode cJ0_charAt_5068e 21 = .ok (.invokestatic 498, 3) := by decide +kernel
theorem dJ0_charAt_5068e_24 : decode cJ0_charAt_5068e 24 = .ok (.ireturn, 1) := by decide +kernel
theorem M_coder (l : Launch) (G : GG) (ad : Nat → Nat) {S : ST} (w : Nat) (dy : DY) (Tw : w < 30) : MC l yJ0_coder_7d493 cJ0_coder_7d493 1 (some .byte) 1 G ad [.ref (G.2.2.1 w)] S dy (fun A => QI G ad A S 0 dy) := by
  refine mc_of RJ0 (by decide) rfl (Nat.le_of_ble_eq_true rfl) (fun p e s m args below meth c A C HR HL => ?_)
  refine ww_sub (lv' := [(0, .ref (G.2.2.1 w))]) [0] rfl ?_
  refine ww_gsw C dJ0_coder_7d493_0 q627 ?_
  refine ww_jeqF C dJ0_coder_7d493_3 13 (by decide) (by decide) ?_
  refine ww_aload_n C dJ0_coder_7d493_6 rfl 0 rfl ?_
  refine ww_scod C dJ0_coder_7d493_7 Tw q1923 ?_
  refine ww_goto (tgt := 14) C dJ0_coder_7d493_10 (by decide) ?_
  exact ww_xret C HR HL dJ0_coder_7d493_14 rfl
theorem M_isLatin1 (l : Launch) (G : GG) (ad : Nat → Nat) {S : ST} (w : Nat) (dy : DY) (Tw : w < 30) : MC l yJ0_isLatin1_aae02 cJ0_isLatin1_aae02 1 (some .boolean) 1 G ad [.ref (G.2.2.1 w)] S dy (fun A => QI G ad A S 1 dy) := by
  refine mc_of RJ0 (by decide) rfl (Nat.le_of_ble_eq_true rfl) (fun p e s m args below meth c A C HR HL => ?_)
  refine ww_sub (lv' := [(0, .ref (G.2.2.1 w))]) [0] rfl ?_
  refine ww_gsw C dJ0_isLatin1_aae02_0 q627 ?_
  refine ww_jeqF C dJ0_isLatin1_aae02_3 17 (by decide) (by decide) ?_
  refine ww_aload_n C dJ0_isLatin1_aae02_6 rfl 0 rfl ?_
  refine ww_scod C dJ0_isLatin1_aae02_7 Tw q1923 ?_
  refine ww_jneF C dJ0_isLatin1_aae02_10 17 (by decide) rfl ?_
  refine ww_iconst (v := 1) C dJ0_isLatin1_aae02_13 (by decide) ?_
  refine ww_goto (tgt := 18) C dJ0_isLatin1_aae02_14 (by decide) ?_
  exact ww_xret C HR HL dJ0_isLatin1_aae02_18 rfl
theorem M_slength (l : Launch) (G : GG) (ad : Nat → Nat) {S : ST} (w : Nat) (dy : DY) (Tw : w < 30) : MC l yJ0_length_8abf5 cJ0_length_8abf5 1 (some .int) 2 G ad [.ref (G.2.2.1 w)] S dy (fun A => QI G ad A S (slenI w) dy) := by
  refine mc_of RJ0 (by decide) rfl (Nat.le_of_ble_eq_true rfl) (fun p e s m args below meth c A C HR HL => ?_)
  refine ww_sub (lv' := [(0, .ref (G.2.2.1 w))]) [0] rfl ?_
  refine ww_aload_n C dJ0_length_8abf5_0 rfl 0 rfl ?_
  refine ww_sget C dJ0_length_8abf5_1 Tw q1922 ?_
  refine ww_sal C dJ0_length_8abf5_4 Tw ?_
  refine ww_aload_n C dJ0_length_8abf5_5 rfl 0 rfl ?_
  refine ww_callI C (runs_T (n := 0) (st := [.int (slenI w)]) C [] (M_coder l G ad w dy Tw) ⟨q626, q120, by decide⟩ q623 q624 q625 Tw rfl (Nat.le_of_ble_eq_true rfl) ⟨Nat.le_of_ble_eq_true rfl, Nat.le_of_ble_eq_true rfl⟩ ⟨Nat.zero_le _, Nat.zero_le _⟩ dJ0_length_8abf5_6 rfl) ?_
  refine ww_ishr C dJ0_length_8abf5_9 ?_
  rw [(s_len w Tw).2.1]
  exact ww_iret C HR HL dJ0_length_8abf5_10 rfl
theorem M_pcheck (l : Launch) (G : GG) (ad : Nat → Nat) {S : ST} (x n : Int32) (v : Value) (hv : v = .null ∨ ∃ t, v = .ref t) (dy : DY) (h0 : ¬ x < 0) (h1 : x < n) : MC l yJ3_checkIndex_8e157 cJ3_checkIndex_8e157 3 (some .int) 1 G ad [.int x, .int n, v] S dy (fun A => QI G ad A S x dy) := by
  have key : (lg_sl [.int x, .int n, v]).length ≤ 3 ∧ ∃ l2, lv_args 0 [.int x, .int n, v] = (0, .int x) :: (1, .int n) :: l2 := by
    rcases hv with rfl | ⟨t, rfl⟩ <;> exact ⟨Nat.le_of_ble_eq_true rfl, _, rfl⟩
  obtain ⟨k1, l2, k2⟩ := key
  refine mc_of RJ3 (by decide) rfl k1 (fun p e s m args below meth c A C HR HL => ?_)
  rw [k2]
  refine ww_sub (lv' := [(0, .int x), (1, .int n)]) [0, 1] rfl ?_
  refine ww_iload_n C dJ3_checkIndex_8e157_0 rfl 0 rfl ?_
  refine ww_jltF C dJ3_checkIndex_8e157_1 9 (by decide) h0 ?_
  refine ww_iload_n C dJ3_checkIndex_8e157_4 rfl 0 rfl ?_
  refine ww_iload_n C dJ3_checkIndex_8e157_5 rfl 1 rfl ?_
  refine ww_jclt C dJ3_checkIndex_8e157_6 16 (by decide) h1 ?_
  refine ww_iload_n C dJ3_checkIndex_8e157_16 rfl 0 rfl ?_
  exact ww_iret C HR HL dJ3_checkIndex_8e157_17 rfl
theorem M_scheck (l : Launch) (G : GG) (ad : Nat → Nat) {S : ST} (x n : Int32) (dy : DY) (h0 : ¬ x < 0) (h1 : x < n) : MC l yJ0_checkIndex_df160 cJ0_checkIndex_df160 2 none 2 G ad [.int x, .int n] S dy (fun A => QV G ad A S dy) := by
  refine mc_of RJ0 (by decide) rfl (Nat.le_of_ble_eq_true rfl) (fun p e s m args below meth c A C HR HL => ?_)
  refine ww_sub (lv' := [(0, .int x), (1, .int n)]) [0, 1] rfl ?_
  refine ww_iload_n C dJ0_checkIndex_df160_0 rfl 0 rfl ?_
  refine ww_iload_n C dJ0_checkIndex_df160_1 rfl 1 rfl ?_
  refine ww_gsq C dJ0_checkIndex_df160_2 q643 (fun v hv => ?_)
  refine ww_callI C (runs_S (n := 3) (st := []) C [.int x, .int n, v] (M_pcheck l G ad x n v hv dy h0 h1) ⟨q647, q122, by decide⟩ q645 q646 rfl (Nat.le_of_ble_eq_true rfl) ⟨Nat.le_of_ble_eq_true rfl, Nat.le_of_ble_eq_true rfl⟩ ⟨Nat.zero_le _, Nat.zero_le _⟩ dJ0_checkIndex_df160_5 rfl) ?_
  refine ww_pop C dJ0_checkIndex_df160_8 rfl ?_
  exact ww_vret C HR HL dJ0_checkIndex_df160_9 rfl
theorem M_lchar (l : Launch) (G : GG) (ad : Nat → Nat) {S : ST} (w : Nat) (x : Int32) (dy : DY) (Tw : w < 30) (hx : ib x (sLen.getD w 0)) : MC l yJ1_charAt_3b067 cJ1_charAt_3b067 2 (some .char) 3 G ad [.ref (G.2.2.2 w), .int x] S dy (fun A => QI G ad A S (schI w x) dy) := by
  have h0 : ¬ x < 0 := (ic_of (i := x) (n := 0) (len := sLen.getD w 0) ⟨hx.1, Int.le_refl _, by have := hx.2; show x.toInt + 0 ≤ _; omega⟩).1
  have h1 : x < slenI w := Int32.lt_iff_toInt_lt.mpr (by rw [(s_len w Tw).2.2]; exact hx.2)
  refine mc_of RJ1 (by decide) rfl (Nat.le_of_ble_eq_true rfl) (fun p e s m args below meth c A C HR HL => ?_)
  refine ww_sub (lv' := [(0, .ref (G.2.2.2 w)), (1, .int x)]) [0, 1] rfl ?_
  refine ww_iload_n C dJ1_charAt_3b067_0 rfl 1 rfl ?_
  refine ww_aload_n C dJ1_charAt_3b067_1 rfl 0 rfl ?_
  refine ww_sal C dJ1_charAt_3b067_2 Tw ?_
  refine ww_callV C (runs_S (n := 2) (st := []) C [.int x, .int (slenI w)] (M_scheck l G ad x (slenI w) dy h0 h1) ⟨q642, q120, by decide⟩ q640 q641 rfl (Nat.le_of_ble_eq_true rfl) ⟨Nat.le_of_ble_eq_true rfl, Nat.le_of_ble_eq_true rfl⟩ ⟨Nat.zero_le _, Nat.zero_le _⟩ dJ1_charAt_3b067_3 rfl) ?_
  refine ww_aload_n C dJ1_charAt_3b067_6 rfl 0 rfl ?_
  refine ww_iload_n C dJ1_charAt_3b067_7 rfl 1 rfl ?_
  refine ww_sba C dJ1_charAt_3b067_8 Tw hx ?_
  refine ww_sipush (v := 255) C dJ1_charAt_3b067_9 (by decide) ?_
  refine ww_iand C dJ1_charAt_3b067_12 ?_
  refine ww_i2c (v := schI w x) C dJ1_charAt_3b067_13 (s_chr w Tw _ (ib_lt hx)).1 ?_
  exact ww_xret C HR HL dJ1_charAt_3b067_14 (s_chr w Tw _ (ib_lt hx)).2
theorem M_schar (l : Launch) (G : GG) (ad : Nat → Nat) {S : ST} (w : Nat) (x : Int32) (dy : DY) (Tw : w < 30) (hx : ib x (sLen.getD w 0)) : MC l yJ0_charAt_5068e cJ0_charAt_5068e 2 (some .char) 4 G ad [.ref (G.2.2.1 w), .int x] S dy (fun A => QI G ad A S (schI w x) dy) := by
  refine mc_of RJ0 (by decide) rfl (Nat.le_of_ble_eq_true rfl) (fun p e s m args below meth c A C HR HL => ?_)
  refine ww_sub (lv' := [(0, .ref (G.2.2.1 w)), (1, .int x)]) [0, 1] rfl ?_
  refine ww_aload_n C dJ0_charAt_5068e_0 rfl 0 rfl ?_
  refine ww_callI C (runs_T (n := 0) (st := []) C [] (M_isLatin1 l G ad w dy Tw) ⟨q636, q120, by decide⟩ q633 q634 q635 Tw rfl (Nat.le_of_ble_eq_true rfl) ⟨Nat.le_of_ble_eq_true rfl, Nat.le_of_ble_eq_true rfl⟩ ⟨Nat.zero_le _, Nat.zero_le _⟩ dJ0_charAt_5068e_1 rfl) ?_
  refine ww_jeqF C dJ0_charAt_5068e_4 16 (by decide) (by decide) ?_
  refine ww_aload_n C dJ0_charAt_5068e_7 rfl 0 rfl ?_
  refine ww_sget C dJ0_charAt_5068e_8 Tw q1922 ?_
  refine ww_iload_n C dJ0_charAt_5068e_11 rfl 1 rfl ?_
  refine ww_callI C (runs_S (n := 2) (st := []) C [.ref (G.2.2.2 w), .int x] (M_lchar l G ad w x dy Tw hx) ⟨q639, q121, by decide⟩ q637 q638 rfl (Nat.le_of_ble_eq_true rfl) ⟨Nat.le_of_ble_eq_true rfl, Nat.le_of_ble_eq_true rfl⟩ ⟨Nat.zero_le _, Nat.zero_le _⟩ dJ0_charAt_5068e_12 rfl) ?_
  exact ww_xret C HR HL dJ0_charAt_5068e_15 (s_chr w Tw _ (ib_lt hx)).2
section WS
variable {p : Program} {l : Launch} {e : Env} {R : Room} {s : State} {m : MethodId} {args : Array Value} {below : List Frame} {meth : Method} {c : Code} {cells slots : Nat} {Q : State → Prop}
variable {cc : ByteArray} {nL : Nat} {own : String} {G : GG} {A : Nat → Prop} {ad : Nat → Nat} {pc : Nat} {lv lv' : List (Nat × Value)} {st : List Value} {S : ST} {dy : DY}
theorem ww_slen (C : CX p s m args c cc nL own G A) {w i : Nat} (d : decode cc pc = .ok (.invokevirtual i, 3)) (Tw : w < 30) (hw : Cond.methodLink own i yJ0_length_8abf5 ∈ mw) (hfr : 5 ≤ R.frames) (hlo : 200 ≤ R.locals) (hst : (st.map fun v => v.category).sum ≤ 8) (k : WJ p l e R s m args below meth c nL G A 0 0 Q ad (pc + 3) lv (.int (slenI w) :: st) S dy) : WJ p l e R s m args below meth c nL G A 0 0 Q ad pc lv (.ref (G.2.2.1 w) :: st) S dy :=
  ww_callI C (runs_T (n := 0) (st := st) C [] (M_slength l G ad w dy Tw) ⟨q622, q120, by decide⟩ hw q620 q621 Tw rfl hst ⟨by omega, by omega⟩ ⟨Nat.zero_le _, Nat.zero_le _⟩ d rfl) k
theorem ww_schar (C : CX p s m args c cc nL own G A) {w i : Nat} {x : Int32} {α : Type} {t1 : Option α} {res : α} (d : decode cc pc = .ok (.invokevirtual i, 3)) (Tw : w < 30) (hw : Cond.methodLink own i yJ0_charAt_5068e ∈ mw) (hfr : 5 ≤ R.frames) (hlo : 200 ≤ R.locals) (hst : (st.map fun v => v.category).sum ≤ 8) (E : (if ib x (sLen.getD w 0) then t1 else none) = some res) (k : ib x (sLen.getD w 0) → t1 = some res → WJ p l e R s m args below meth c nL G A 0 0 Q ad (pc + 3) lv (.int (schI w x) :: st) S dy) : WJ p l e R s m args below meth c nL G A 0 0 Q ad pc lv (.int x :: .ref (G.2.2.1 w) :: st) S dy := by
  obtain ⟨hx, E⟩ := gd_of E
  exact ww_callI C (runs_T (n := 1) (st := st) C [.int x] (M_schar l G ad w x dy Tw hx) ⟨q632, q120, by decide⟩ hw q630 q631 Tw rfl hst ⟨by omega, by omega⟩ ⟨Nat.zero_le _, Nat.zero_le _⟩ d rfl) (k hx E)
end WS
