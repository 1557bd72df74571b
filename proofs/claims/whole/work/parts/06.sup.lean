/-! what the decompiled methods rest on: shapes, guards, texts, copies -/
def fS (c k : Nat) : Nat × Nat := (([[(0, 4), (0, 2), (5, 9), (1, 90), (4, 512), (1, 512), (1, 5120), (99, 0), (99, 0)], [(1, 8), (1, 48), (1, 48), (1, 6), (1, 448)], [(99, 0), (1, 16), (1, 16), (1, 64), (1, 64), (1, 64), (3, 64)], [(0, 6), (0, 2)], [(99, 0), (99, 0), (99, 0), (99, 0), (3, 96), (1, 12), (1, 12), (1, 12), (1, 12), (1, 12), (1, 12), (1, 12), (1, 12)], [(0, 6), (0, 4)], [(2, 500), (99, 0), (99, 0), (99, 0), (99, 0), (99, 0), (99, 0), (99, 0)], [(2, 500), (99, 0), (99, 0), (99, 0), (7, 3), (99, 0), (8, 3), (99, 0), (0, 4), (0, 2), (0, 8), (99, 0), (0, 1)], [(0, 4), (0, 2), (99, 0), (99, 0), (99, 0), (99, 0), (99, 0), (99, 0), (99, 0), (1, 48), (1, 48), (1, 12), (1, 12), (1, 12), (1, 12), (1, 12), (1, 12), (1, 12), (1, 11), (1, 75)], [(0, 7), (6, 3), (3, 3), (0, 6), (0, 4), (0, 2), (0, 8), (0, 0), (0, 5), (0, 3)], [(99, 0), (2, 2000), (1, 4), (1, 4), (1, 4), (1, 4), (1, 12), (1, 12), (1, 12), (1, 12), (1, 1152), (1, 1152), (1, 4), (1, 12), (1, 3456), (1, 32), (1, 192), (1, 192), (99, 0), (99, 0), (99, 0), (99, 0), (99, 0), (99, 0), (99, 0), (99, 0), (99, 0), (99, 0), (99, 0), (99, 0), (99, 0), (99, 0), (99, 0), (1, 96), (1, 104), (99, 0), (99, 0), (99, 0), (1, 306), (1, 10080), (1, 12), (1, 12), (99, 0), (1, 12), (1, 12), (99, 0), (99, 0), (99, 0), (1, 12), (1, 12), (1, 9), (1, 9), (1, 9), (99, 0), (1, 9), (1, 201), (1, 448), (1, 6), (99, 0), (4, 18), (3, 3)]] : List (List (Nat × Nat))).getD c []).getD k (99, 0)
def eS (t : Nat) : Nat × Nat := if t = 5 then (0, 8) else if t = 6 then (0, 7) else if t = 7 then (0, 4) else (0, 2)
/-- the objects stand as their classes' constructors left them -/
def Good (S : ST) : Prop := (∀ a c, gs S a = (0, c) → ∀ k, (fS c k).1 ≠ 99 → gs S (gr S a k) = fS c k) ∧ (∀ a t n, gs S a = (t, n) → 4 < t → t < 9 → ∀ i, i < n → gs S (gr S a i) = eS t)
theorem gd_of {α : Type} {P : Prop} [Decidable P] {t : Option α} {r : α} (E : (if P then t else none) = some r) : P ∧ t = some r := by
  by_cases h : P
  · rw [if_pos h] at E; exact ⟨h, E⟩
  · rw [if_neg h] at E; cases E
theorem ib_lt {i : Int32} {n : Nat} (h : ib i n) : i.toNatClampNeg < n := by
  have h1 := h.1
  have h2 := h.2
  have : i.toNatClampNeg = i.toInt.toNat := rfl
  omega
theorem ti_ne {x v : Int32} {n : Int} (h : ¬ x = v) (e : v.toInt = n) : x.toInt ≠ n := fun q => h (Int32.toInt_inj.mp (q.trans e.symm))
theorem tab_out {x : Int32} {lo hi : Int} (h : ∀ v : Int, lo ≤ v → v ≤ hi → x.toInt ≠ v) : x.toInt < lo ∨ hi < x.toInt := by
  by_cases h1 : x.toInt < lo
  · exact Or.inl h1
  · by_cases h2 : hi < x.toInt
    · exact Or.inr h2
    · exact absurd rfl (h x.toInt (by omega) (by omega))
theorem lk_out2 {x a b oa ob d : Int} (h1 : x ≠ a) (h2 : x ≠ b) : Op.lookupswitch.offset [(a, oa), (b, ob)] d x = d := by
  rw [Op.lookupswitch.offset_cons, if_neg (Ne.symm h1), Op.lookupswitch.offset_cons, if_neg (Ne.symm h2), Op.lookupswitch.offset_nil]
abbrev ic (i n : Int32) (len : Nat) : Prop := 0 ≤ i.toInt ∧ 0 ≤ n.toInt ∧ i.toInt + n.toInt ≤ (len : Int)
def slenI (w : Nat) : Int32 := Int32.ofNat (sLen.getD w 0)
def schI (w : Nat) (i : Int32) : Int32 := (sByt.getD w []).getD i.toNatClampNeg 0
theorem nz_01 (x : Int32) : vp_nar .boolean x = 0 ∨ vp_nar .boolean x = 1 := by
  show x &&& 1 = 0 ∨ x &&& 1 = 1
  have h : (x &&& 1).toBitVec.toNat = x.toBitVec.toNat % 2 := by
    show (x.toBitVec &&& 1#32).toNat = _
    rw [BitVec.toNat_and]
    exact Nat.and_one_is_mod _
  rcases Nat.mod_two_eq_zero_or_one x.toBitVec.toNat with q | q
  · exact Or.inl (Int32.toBitVec.inj (BitVec.eq_of_toNat_eq (h.trans q)))
  · exact Or.inr (Int32.toBitVec.inj (BitVec.eq_of_toNat_eq (h.trans q)))
theorem nr_fit {t : Nat} {ty : FieldType} (h0 : 0 < t) (h3 : t ≤ 3) (hty : tyT[t - 1]? = some ty) (x : Int32) : fits ty (.int (nr t x)) = true := by
  rcases (show t = 1 ∨ t = 2 ∨ t = 3 by omega) with rfl | rfl | rfl
  · cases hty; rfl
  · cases hty
    show fits .byte (.int x.toInt8.toInt32) = true
    have h1 := x.toInt8.le_toInt; have h2 := x.toInt8.toInt_le
    simp only [fits, Bool.and_eq_true, decide_eq_true_eq, Int32.le_iff_toInt_le, Int8.toInt_toInt32]
    exact ⟨h1, h2⟩
  · cases hty
    show fits .boolean (.int (vp_nar .boolean x)) = true
    have h : vp_nar .boolean x = 0 ∨ vp_nar .boolean x = 1 := nz_01 x
    rcases h with h | h <;> rw [h] <;> rfl
section WS
variable {p : Program} {l : Launch} {e : Env} {R : Room} {s : State} {m : MethodId} {args : Array Value} {below : List Frame} {meth : Method} {c : Code} {cells slots : Nat} {Q : State → Prop}
variable {cc : ByteArray} {nL : Nat} {own : String} {G : GG} {A : Nat → Prop} {ad : Nat → Nat} {pc : Nat} {lv lv' : List (Nat × Value)} {st : List Value} {S : ST} {dy : DY}
theorem ic_of {i n : Int32} {len : Nat} (h : ic i n len) : ¬ i < 0 ∧ ¬ n < 0 ∧ i.toNatClampNeg + n.toNatClampNeg ≤ len := by
  obtain ⟨h1, h2, h3⟩ := h
  refine ⟨fun q => ?_, fun q => ?_, ?_⟩
  · have := Int32.lt_iff_toInt_lt.mp q
    simp only [Int32.toInt_zero] at this
    omega
  · have := Int32.lt_iff_toInt_lt.mp q
    simp only [Int32.toInt_zero] at this
    omega
  · have e1 : i.toNatClampNeg = i.toInt.toNat := rfl
    have e2 : n.toNatClampNeg = n.toInt.toNat := rfl
    omega
theorem cE_cp {cA : Nat → ClassId} {a b sp dp n x : Nat} (hb : x ≠ b) : cE cA ad S (cpi dy a b sp dp n) x = cE cA ad S dy x := by
  have e : ∀ j, gi (cpi dy a b sp dp n) x j = gi dy x j := fun j => by simp [gi, cpi, hb]
  have e2 : ∀ c j, fV ad S (cpi dy a b sp dp n) x c j = fV ad S dy x c j := fun c j => by unfold fV; rw [e j]; rfl
  unfold cE
  simp only [e]
  rw [show fV ad S (cpi dy a b sp dp n) x (gs S x).2 = fV ad S dy x (gs S x).2 from funext (e2 _)]
  rfl
theorem nat7 {x y : Nat} (h1 : x ≤ 8) (h2 : 40 ≤ y) : x + (nativeFrameWords "java/lang/System" "arraycopy" 5 + 11) ≤ y := by
  have h7 : nativeFrameWords "java/lang/System" "arraycopy" 5 = 7 := by decide +kernel
  omega
theorem ww_copy (C : CX p s m args c cc nL own G A) {a b na nb t i : Nat} {sp dp n : Int32} (d : decode cc pc = .ok (.invokestatic i, 3)) (Ta : gs S a = (t, na)) (Tb : gs S b = (t, nb)) (h0 : 0 < t) (h3 : t ≤ 3) (g1 : ic sp n na) (g2 : ic dp n nb) (hw : Cond.methodLink own i arraycopyName ∈ mw) (hw2 : Cond.native arraycopyName ∈ mw) (hw3 : Cond.static arraycopyName ∈ mw) (hw4 : Cond.initialized "java/lang/System" ∈ mw) (hfr : 1 ≤ R.frames) (hlo : 40 ≤ R.locals) (hst : (st.map fun v => v.category).sum ≤ 8) (k : WJ p l e R s m args below meth c nL G A cells slots Q ad (pc + 3) lv st S (cpi dy a b sp.toNatClampNeg dp.toNatClampNeg n.toNatClampNeg)) : WJ p l e R s m args below meth c nL G A cells slots Q ad pc lv (.int n :: .int dp :: .ref (ad b) :: .int sp :: .ref (ad a) :: st) S dy := by
  intro H locs ls hP hD hS hl
  obtain ⟨a0, a1⟩ := gs_lt Ta (by show t ≠ 99; omega)
  obtain ⟨b0, b1⟩ := gs_lt Tb (by show t ≠ 99; omega)
  obtain ⟨u1, u2, u3⟩ := ic_of g1
  obtain ⟨v1, v2, v3⟩ := ic_of g2
  have cEi : ∀ (x nx : Nat) (dz : DY), gs S x = (t, nx) → cE G.1 ad S dz x = .inl (G.1 t, nx, .inl (fun i => nr t (gi dz x i))) := by
    intro x nx dz hx
    unfold cE
    rw [hx]
    rw [if_neg (by show ¬ t = 0; omega), if_neg (by show ¬ t = 4; omega), if_pos (by show t ≤ 3; omega)]
  have hea := toW_at (cA := G.1) (ad := ad) (dy := dy) a0 a1
  have heb := toW_at (cA := G.1) (ad := ad) (dy := dy) b0 b1
  rw [cEi a na dy Ta] at hea
  rw [cEi b nb dy Tb] at heb
  obtain ⟨ty, hty⟩ : ∃ ty, tyT[t - 1]? = some ty := by
    rcases (show t = 1 ∨ t = 2 ∨ t = 3 by omega) with rfl | rfl | rfl <;> exact ⟨_, rfl⟩
  have hT : (TY G)[t - 1]? = some (G.1 t, ty) := by
    unfold TY
    rw [List.getElem?_map, List.getElem?_zipIdx, hty]
    simp
    rw [show t - 1 + 1 = t by omega]
  have hprim : refKind ty = false := by
    rcases (show t = 1 ∨ t = 2 ∨ t = 3 by omega) with rfl | rfl | rfl <;> cases hty <;> rfl
  have hs : (toW G.1 ad S dy).set (b - 1) (ad b, .inl (G.1 t, nb, .inl (va_cpy (fun i => nr t (gi dy a i)) (fun i => nr t (gi dy b i)) sp.toNatClampNeg dp.toNatClampNeg n.toNatClampNeg))) = toW G.1 ad S (cpi dy a b sp.toNatClampNeg dp.toNatClampNeg n.toNatClampNeg) := by
    refine toW_set b0 b1 ?_ (fun x _ _ hx => cE_cp hx)
    rw [cEi b nb _ Tb]
    congr 3
    congr 1
    funext j
    simp only [va_cpy, gi, cpi, true_and]
    split <;> rfl
  refine va_copyi C.1 C.2.1 (C.2.2.1.trans hl.1.symm) C.2.2.2.1 (C.2.2.2.2.1 _ hw) (C.2.2.2.2.1 _ hw2) (C.2.2.2.2.1 _ hw3) (C.2.2.2.2.1 _ hw4) C.2.2.2.2.2.1 hP hD hS (a - 1) (b - 1) (t - 1) (t - 1) hea heb hT hT hprim u1 v1 u2 u3 v3 (fun i _ => nr_fit h0 h3 hty _) hfr (nat7 hst hlo) d (fun H1 locs1 hP1 hD1 hS1 => ?_)
  rw [hs] at hP1 hD1
  exact k H1 locs1 ls hP1 hD1 hS1 hl
theorem ww_slen (C : CX p s m args c cc nL own G A) {w i : Nat} (d : decode cc pc = .ok (.invokevirtual i, 3)) (Tw : w < 30) (hw : Cond.methodLink own i yJ0_length_8abf5 ∈ mw) (hfr : 4 ≤ R.frames) (hlo : 160 ≤ R.locals) (hst : (st.map fun v => v.category).sum ≤ 8) (k : WJ p l e R s m args below meth c nL G A cells slots Q ad (pc + 3) lv (.int (slenI w) :: st) S dy) : WJ p l e R s m args below meth c nL G A cells slots Q ad pc lv (.ref (G.2.2.1 w) :: st) S dy := sorry
theorem ww_schar (C : CX p s m args c cc nL own G A) {w i : Nat} {x : Int32} {α : Type} {t1 : Option α} {res : α} (d : decode cc pc = .ok (.invokevirtual i, 3)) (Tw : w < 30) (hw : Cond.methodLink own i yJ0_charAt_5068e ∈ mw) (hfr : 4 ≤ R.frames) (hlo : 160 ≤ R.locals) (hst : (st.map fun v => v.category).sum ≤ 8) (E : (if ib x (sLen.getD w 0) then t1 else none) = some res) (k : ib x (sLen.getD w 0) → t1 = some res → WJ p l e R s m args below meth c nL G A cells slots Q ad (pc + 3) lv (.int (schI w x) :: st) S dy) : WJ p l e R s m args below meth c nL G A cells slots Q ad pc lv (.int x :: .ref (G.2.2.1 w) :: st) S dy := sorry
end WS
