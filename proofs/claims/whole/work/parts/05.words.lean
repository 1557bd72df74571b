/-! what the decompiled methods rest on: shapes, guards, texts, copies -/
def fS (c k : Nat) : Nat × Nat := (([[(0, 4), (0, 2), (5, 9), (1, 90), (4, 512), (1, 512), (1, 5120), (99, 0), (99, 0)], [(1, 8), (1, 48), (1, 48), (1, 6), (1, 448)], [(99, 0), (1, 16), (1, 16), (1, 64), (1, 64), (1, 64), (3, 64)], [(0, 6), (0, 2)], [(99, 0), (99, 0), (99, 0), (99, 0), (3, 96), (1, 12), (1, 12), (1, 12), (1, 12), (1, 12), (1, 12), (1, 12), (1, 12)], [(0, 6), (0, 4)], [(2, 500), (99, 0), (99, 0), (99, 0), (99, 0), (99, 0), (99, 0), (99, 0)], [(2, 500), (99, 0), (99, 0), (99, 0), (7, 3), (99, 0), (8, 3), (99, 0), (0, 4), (0, 2), (0, 8), (99, 0), (0, 1)], [(0, 4), (0, 2), (99, 0), (99, 0), (99, 0), (99, 0), (99, 0), (99, 0), (99, 0), (1, 48), (1, 48), (1, 12), (1, 12), (1, 12), (1, 12), (1, 12), (1, 12), (1, 12), (1, 11), (1, 75)], [(0, 7), (6, 3), (3, 3), (0, 6), (0, 4), (0, 2), (0, 8), (0, 0), (0, 5), (0, 3)], [(99, 0), (2, 2000), (1, 4), (1, 4), (1, 4), (1, 4), (1, 12), (1, 12), (1, 12), (1, 12), (1, 1152), (1, 1152), (1, 4), (1, 12), (1, 3456), (1, 32), (1, 192), (1, 192), (99, 0), (99, 0), (99, 0), (99, 0), (99, 0), (99, 0), (99, 0), (99, 0), (99, 0), (99, 0), (99, 0), (99, 0), (99, 0), (99, 0), (99, 0), (1, 96), (1, 104), (99, 0), (99, 0), (99, 0), (1, 306), (1, 10080), (1, 12), (1, 12), (99, 0), (1, 12), (1, 12), (99, 0), (99, 0), (99, 0), (1, 12), (1, 12), (1, 9), (1, 9), (1, 9), (99, 0), (1, 9), (1, 201), (1, 448), (1, 6), (99, 0), (4, 18), (3, 3)]] : List (List (Nat × Nat))).getD c []).getD k (99, 0)
def eS (t : Nat) : Nat × Nat := if t = 5 then (0, 8) else if t = 6 then (0, 7) else if t = 7 then (0, 4) else (0, 2)
/-- the objects stand as their classes' constructors left them -/
def Good (S : ST) : Prop := (∀ a c, gs S a = (0, c) → ∀ k, (fS c k).1 ≠ 99 → gs S (gr S a k) = fS c k) ∧ (∀ a t n, gs S a = (t, n) → 4 < t → t < 9 → ∀ i, i < n → gs S (gr S a i) = eS t)
theorem gd_of {α : Type} {P : Prop} [Decidable P] {t : Option α} {r : α} (E : (if P then t else none) = some r) : P ∧ t = some r := by
  by_cases h : P
  · rw [if_pos h] at E; exact ⟨h, E⟩
  · rw [if_neg h] at E; cases E
theorem ib_lt {i : Int32} {n : Nat} (h : ib i n) : i.toNatClampNeg < n := by
  have h1 := h.1
  have h2 := h.2
  have : i.toNatClampNeg = i.toInt.toNat := rfl
  omega
theorem ti_ne {x v : Int32} {n : Int} (h : ¬ x = v) (e : v.toInt = n) : x.toInt ≠ n := fun q => h (Int32.toInt_inj.mp (q.trans e.symm))
theorem tab_out {x : Int32} {lo hi : Int} (h : ∀ v : Int, lo ≤ v → v ≤ hi → x.toInt ≠ v) : x.toInt < lo ∨ hi < x.toInt := by
  by_cases h1 : x.toInt < lo
  · exact Or.inl h1
  · by_cases h2 : hi < x.toInt
    · exact Or.inr h2
    · exact absurd rfl (h x.toInt (by omega) (by omega))
theorem lk_out2 {x a b oa ob d : Int} (h1 : x ≠ a) (h2 : x ≠ b) : Op.lookupswitch.offset [(a, oa), (b, ob)] d x = d := by
  rw [Op.lookupswitch.offset_cons, if_neg (Ne.symm h1), Op.lookupswitch.offset_cons, if_neg (Ne.symm h2), Op.lookupswitch.offset_nil]
abbrev ic (i n : Int32) (len : Nat) : Prop := 0 ≤ i.toInt ∧ 0 ≤ n.toInt ∧ i.toInt + n.toInt ≤ (len : Int)
def slenI (w : Nat) : Int32 := Int32.ofNat (sLen.getD w 0)
def schI (w : Nat) (i : Int32) : Int32 := (sByt.getD w []).getD i.toNatClampNeg 0
theorem nz_01 (x : Int32) : vp_nar .boolean x = 0 ∨ vp_nar .boolean x = 1 := by
  show x &&& 1 = 0 ∨ x &&& 1 = 1
  have h : (x &&& 1).toBitVec.toNat = x.toBitVec.toNat % 2 := by
    show (x.toBitVec &&& 1#32).toNat = _
    rw [BitVec.toNat_and]
    exact Nat.and_one_is_mod _
  rcases Nat.mod_two_eq_zero_or_one x.toBitVec.toNat with q | q
  · exact Or.inl (Int32.toBitVec.inj (BitVec.eq_of_toNat_eq (h.trans q)))
  · exact Or.inr (Int32.toBitVec.inj (BitVec.eq_of_toNat_eq (h.trans q)))
theorem nr_fit {t : Nat} {ty : FieldType} (h0 : 0 < t) (h3 : t ≤ 3) (hty : tyT[t - 1]? = some ty) (x : Int32) : fits ty (.int (nr t x)) = true := by
  rcases (show t = 1 ∨ t = 2 ∨ t = 3 by omega) with rfl | rfl | rfl
  · cases hty; rfl
  · cases hty
    show fits .byte (.int x.toInt8.toInt32) = true
    have h1 := x.toInt8.le_toInt; have h2 := x.toInt8.toInt_le
    simp only [fits, Bool.and_eq_true, decide_eq_true_eq, Int32.le_iff_toInt_le, Int8.toInt_toInt32]
    exact ⟨h1, h2⟩
  · cases hty
    show fits .boolean (.int (vp_nar .boolean x)) = true
    have h : vp_nar .boolean x = 0 ∨ vp_nar .boolean x = 1 := nz_01 x
    rcases h with h | h <;> rw [h] <;> rfl
section WS
variable {p : Program} {l : Launch} {e : Env} {R : Room} {s : State} {m : MethodId} {args : Array Value} {below : List Frame} {meth : Method} {c : Code} {cells slots : Nat} {Q : State → Prop}
variable {cc : ByteArray} {nL : Nat} {own : String} {G : GG} {A : Nat → Prop} {ad : Nat → Nat} {pc : Nat} {lv lv' : List (Nat × Value)} {st : List Value} {S : ST} {dy : DY}
theorem ic_of {i n : Int32} {len : Nat} (h : ic i n len) : ¬ i < 0 ∧ ¬ n < 0 ∧ i.toNatClampNeg + n.toNatClampNeg ≤ len := by
  obtain ⟨h1, h2, h3⟩ := h
  refine ⟨fun q => ?_, fun q => ?_, ?_⟩
  · have := Int32.lt_iff_toInt_lt.mp q
    simp only [Int32.toInt_zero] at this
    omega
  · have := Int32.lt_iff_toInt_lt.mp q
    simp only [Int32.toInt_zero] at this
    omega
  · have e1 : i.toNatClampNeg = i.toInt.toNat := rfl
    have e2 : n.toNatClampNeg = n.toInt.toNat := rfl
    omega
theorem cE_cp {cA : Nat → ClassId} {a b sp dp n x : Nat} (hb : x ≠ b) : cE cA ad S (cpi dy a b sp dp n) x = cE cA ad S dy x := by
  have e : ∀ j, gi (cpi dy a b sp dp n) x j = gi dy x j := fun j => by simp [gi, cpi, hb]
  have e2 : ∀ c j, fV ad S (cpi dy a b sp dp n) x c j = fV ad S dy x c j := fun c j => by unfold fV; rw [e j]; rfl
  unfold cE
  simp only [e]
  rw [show fV ad S (cpi dy a b sp dp n) x (gs S x).2 = fV ad S dy x (gs S x).2 from funext (e2 _)]
  rfl
theorem ww_copy (C : CX p s m args c cc nL own G A) {a b na nb t i : Nat} {sp dp n : Int32} (d : decode cc pc = .ok (.invokestatic i, 3)) (Ta : gs S a = (t, na)) (Tb : gs S b = (t, nb)) (h0 : 0 < t) (h3 : t ≤ 3) (g1 : ic sp n na) (g2 : ic dp n nb) (hw : Cond.methodLink own i arraycopyName ∈ mw) (hw2 : Cond.native arraycopyName ∈ mw) (hw3 : Cond.static arraycopyName ∈ mw) (hw4 : Cond.initialized "java/lang/System" ∈ mw) (hfr : 1 ≤ R.frames) (hlo : 40 ≤ R.locals) (hst : (st.map fun v => v.category).sum ≤ 8) (k : WJ p l e R s m args below meth c nL G A cells slots Q ad (pc + 3) lv st S (cpi dy a b sp.toNatClampNeg dp.toNatClampNeg n.toNatClampNeg)) : WJ p l e R s m args below meth c nL G A cells slots Q ad pc lv (.int n :: .int dp :: .ref (ad b) :: .int sp :: .ref (ad a) :: st) S dy := by
  intro H locs ls hP hD hS hl
  obtain ⟨a0, a1⟩ := gs_lt Ta (by show t ≠ 99; omega)
  obtain ⟨b0, b1⟩ := gs_lt Tb (by show t ≠ 99; omega)
  obtain ⟨u1, u2, u3⟩ := ic_of g1
  obtain ⟨v1, v2, v3⟩ := ic_of g2
  have cEi : ∀ (x nx : Nat) (dz : DY), gs S x = (t, nx) → cE G.1 ad S dz x = .inl (G.1 t, nx, .inl (fun i => nr t (gi dz x i))) := by
    intro x nx dz hx
    unfold cE
    rw [hx]
    rw [if_neg (by show ¬ t = 0; omega), if_neg (by show ¬ t = 4; omega), if_pos (by show t ≤ 3; omega)]
  have hea := toW_at (cA := G.1) (ad := ad) (dy := dy) a0 a1
  have heb := toW_at (cA := G.1) (ad := ad) (dy := dy) b0 b1
  rw [cEi a na dy Ta] at hea
  rw [cEi b nb dy Tb] at heb
  obtain ⟨ty, hty⟩ : ∃ ty, tyT[t - 1]? = some ty := by
    rcases (show t = 1 ∨ t = 2 ∨ t = 3 by omega) with rfl | rfl | rfl <;> exact ⟨_, rfl⟩
  have hT : (TY G)[t - 1]? = some (G.1 t, ty) := by
    unfold TY
    rw [List.getElem?_map, List.getElem?_zipIdx, hty]
    simp
    rw [show t - 1 + 1 = t by omega]
  have hprim : refKind ty = false := by
    rcases (show t = 1 ∨ t = 2 ∨ t = 3 by omega) with rfl | rfl | rfl <;> cases hty <;> rfl
  have hs : (toW G.1 ad S dy).set (b - 1) (ad b, .inl (G.1 t, nb, .inl (va_cpy (fun i => nr t (gi dy a i)) (fun i => nr t (gi dy b i)) sp.toNatClampNeg dp.toNatClampNeg n.toNatClampNeg))) = toW G.1 ad S (cpi dy a b sp.toNatClampNeg dp.toNatClampNeg n.toNatClampNeg) := by
    refine toW_set b0 b1 ?_ (fun x _ _ hx => cE_cp hx)
    rw [cEi b nb _ Tb]
    congr 3
    congr 1
    funext j
    simp only [va_cpy, gi, cpi, true_and]
    split <;> rfl
  refine va_copyi C.1 C.2.1 (C.2.2.1.trans hl.1.symm) C.2.2.2.1 (C.2.2.2.2.1 _ hw) (C.2.2.2.2.1 _ hw2) (C.2.2.2.2.1 _ hw3) (C.2.2.2.2.1 _ hw4) C.2.2.2.2.2.1 hP hD hS (a - 1) (b - 1) (t - 1) (t - 1) hea heb hT hT hprim u1 v1 u2 u3 v3 (fun i _ => nr_fit h0 h3 hty _) hfr (by have : nativeFrameWords "java/lang/System" "arraycopy" 5 = 7 := by decide +kernel
                                                                                                                                                                                                                                                                                               omega) d (fun H1 locs1 hP1 hD1 hS1 => ?_)
  rw [hs] at hP1 hD1
  exact k H1 locs1 ls hP1 hD1 hS1 hl
theorem ww_slen (C : CX p s m args c cc nL own G A) {w i : Nat} (d : decode cc pc = .ok (.invokevirtual i, 3)) (Tw : w < 30) (hw : Cond.methodLink own i yJ0_length_8abf5 ∈ mw) (hfr : 4 ≤ R.frames) (hlo : 160 ≤ R.locals) (hst : (st.map fun v => v.category).sum ≤ 8) (k : WJ p l e R s m args below meth c nL G A cells slots Q ad (pc + 3) lv (.int (slenI w) :: st) S dy) : WJ p l e R s m args below meth c nL G A cells slots Q ad pc lv (.ref (G.2.2.1 w) :: st) S dy := sorry
theorem ww_schar (C : CX p s m args c cc nL own G A) {w i : Nat} {x : Int32} {α : Type} {t1 : Option α} {res : α} (d : decode cc pc = .ok (.invokevirtual i, 3)) (Tw : w < 30) (hw : Cond.methodLink own i yJ0_charAt_5068e ∈ mw) (hfr : 4 ≤ R.frames) (hlo : 160 ≤ R.locals) (hst : (st.map fun v => v.category).sum ≤ 8) (E : (if ib x (sLen.getD w 0) then t1 else none) = some res) (k : ib x (sLen.getD w 0) → t1 = some res → WJ p l e R s m args below meth c nL G A cells slots Q ad (pc + 3) lv (.int (schI w x) :: st) S dy) : WJ p l e R s m args below meth c nL G A cells slots Q ad pc lv (.int x :: .ref (G.2.2.1 w) :: st) S dy := sorry
end WS
theorem inm0 : ∀ w ∈ u_ws RX0 TX0 9, w ∈ mw := by
  have h : (u_ws RX0 TX0 9).all (fun w => decide (w ∈ lw_tbl) && goodWord w) = true := by decide +kernel
  intro w hw
  have h1 := List.all_eq_true.mp h w hw
  simp only [Bool.and_eq_true, decide_eq_true_eq] at h1
  exact List.mem_filter.mpr h1
theorem inm1 : ∀ w ∈ u_ws RX1 TX1 5, w ∈ mw := by
  have h : (u_ws RX1 TX1 5).all (fun w => decide (w ∈ lw_tbl) && goodWord w) = true := by decide +kernel
  intro w hw
  have h1 := List.all_eq_true.mp h w hw
  simp only [Bool.and_eq_true, decide_eq_true_eq] at h1
  exact List.mem_filter.mpr h1
theorem inm2 : ∀ w ∈ u_ws RX2 TX2 7, w ∈ mw := by
  have h : (u_ws RX2 TX2 7).all (fun w => decide (w ∈ lw_tbl) && goodWord w) = true := by decide +kernel
  intro w hw
  have h1 := List.all_eq_true.mp h w hw
  simp only [Bool.and_eq_true, decide_eq_true_eq] at h1
  exact List.mem_filter.mpr h1
theorem inm3 : ∀ w ∈ u_ws RX3 TX3 2, w ∈ mw := by
  have h : (u_ws RX3 TX3 2).all (fun w => decide (w ∈ lw_tbl) && goodWord w) = true := by decide +kernel
  intro w hw
  have h1 := List.all_eq_true.mp h w hw
  simp only [Bool.and_eq_true, decide_eq_true_eq] at h1
  exact List.mem_filter.mpr h1
theorem inm4 : ∀ w ∈ u_ws RX4 TX4 13, w ∈ mw := by
  have h : (u_ws RX4 TX4 13).all (fun w => decide (w ∈ lw_tbl) && goodWord w) = true := by decide +kernel
  intro w hw
  have h1 := List.all_eq_true.mp h w hw
  simp only [Bool.and_eq_true, decide_eq_true_eq] at h1
  exact List.mem_filter.mpr h1
theorem inm5 : ∀ w ∈ u_ws RX5 TX5 2, w ∈ mw := by
  have h : (u_ws RX5 TX5 2).all (fun w => decide (w ∈ lw_tbl) && goodWord w) = true := by decide +kernel
  intro w hw
  have h1 := List.all_eq_true.mp h w hw
  simp only [Bool.and_eq_true, decide_eq_true_eq] at h1
  exact List.mem_filter.mpr h1
theorem inm6 : ∀ w ∈ u_ws RX6 TX6 8, w ∈ mw := by
  have h : (u_ws RX6 TX6 8).all (fun w => decide (w ∈ lw_tbl) && goodWord w) = true := by decide +kernel
  intro w hw
  have h1 := List.all_eq_true.mp h w hw
  simp only [Bool.and_eq_true, decide_eq_true_eq] at h1
  exact List.mem_filter.mpr h1
theorem inm7 : ∀ w ∈ u_ws RX7 TX7 13, w ∈ mw := by
  have h : (u_ws RX7 TX7 13).all (fun w => decide (w ∈ lw_tbl) && goodWord w) = true := by decide +kernel
  intro w hw
  have h1 := List.all_eq_true.mp h w hw
  simp only [Bool.and_eq_true, decide_eq_true_eq] at h1
  exact List.mem_filter.mpr h1
theorem inm8 : ∀ w ∈ u_ws RX8 TX8 20, w ∈ mw := by
  have h : (u_ws RX8 TX8 20).all (fun w => decide (w ∈ lw_tbl) && goodWord w) = true := by decide +kernel
  intro w hw
  have h1 := List.all_eq_true.mp h w hw
  simp only [Bool.and_eq_true, decide_eq_true_eq] at h1
  exact List.mem_filter.mpr h1
theorem inm9 : ∀ w ∈ u_ws RX9 TX9 10, w ∈ mw := by
  have h : (u_ws RX9 TX9 10).all (fun w => decide (w ∈ lw_tbl) && goodWord w) = true := by decide +kernel
  intro w hw
  have h1 := List.all_eq_true.mp h w hw
  simp only [Bool.and_eq_true, decide_eq_true_eq] at h1
  exact List.mem_filter.mpr h1
theorem inm10 : ∀ w ∈ u_ws RX10 TX10 61, w ∈ mw := by
  have h : (u_ws RX10 TX10 61).all (fun w => decide (w ∈ lw_tbl) && goodWord w) = true := by decide +kernel
  intro w hw
  have h1 := List.all_eq_true.mp h w hw
  simp only [Bool.and_eq_true, decide_eq_true_eq] at h1
  exact List.mem_filter.mpr h1
theorem q0 : Cond.selects RX5 yX5_readSize yX5_readSize ∈ mw := mw_in 0 (by decide +kernel) rfl
theorem q1 : Cond.selects RX5 yX5_readLine yX5_readLine ∈ mw := mw_in 1 (by decide +kernel) rfl
theorem q2 : Cond.selects RX5 yX5_readWall yX5_readWall ∈ mw := mw_in 2 (by decide +kernel) rfl
theorem q3 : Cond.selects RX5 yX5_isOpen yX5_isOpen ∈ mw := mw_in 3 (by decide +kernel) rfl
theorem q4 : Cond.selects RX5 yX5_readWalker yX5_readWalker ∈ mw := mw_in 4 (by decide +kernel) rfl
theorem q5 : Cond.selects RX5 yX5_readTrait yX5_readTrait ∈ mw := mw_in 5 (by decide +kernel) rfl
theorem q6 : Cond.selects RX5 yX5_readHand yX5_readHand ∈ mw := mw_in 6 (by decide +kernel) rfl
theorem q7 : Cond.selects RX5 yX5_readFriends yX5_readFriends ∈ mw := mw_in 7 (by decide +kernel) rfl
theorem q8 : Cond.selects RX4 yX4_unfriend yX4_unfriend ∈ mw := mw_in 8 (by decide +kernel) rfl
theorem q9 : Cond.selects RX3 yX3_readRule yX3_readRule ∈ mw := mw_in 9 (by decide +kernel) rfl
theorem q10 : Cond.selects RX3 yX3_readTest yX3_readTest ∈ mw := mw_in 10 (by decide +kernel) rfl
theorem q11 : Cond.selects RX3 yX3_readFind yX3_readFind ∈ mw := mw_in 11 (by decide +kernel) rfl
theorem q12 : Cond.selects RX3 yX3_readSign yX3_readSign ∈ mw := mw_in 12 (by decide +kernel) rfl
theorem q13 : Cond.selects RX3 yX3_readDeed yX3_readDeed ∈ mw := mw_in 13 (by decide +kernel) rfl
theorem q14 : Cond.selects RX8 yX8_sortByHaste yX8_sortByHaste ∈ mw := mw_in 14 (by decide +kernel) rfl
theorem q15 : Cond.selects RX8 yX8_freeSteps yX8_freeSteps ∈ mw := mw_in 15 (by decide +kernel) rfl
theorem q16 : Cond.selects RX8 yX8_stepsToWall yX8_stepsToWall ∈ mw := mw_in 16 (by decide +kernel) rfl
theorem q17 : Cond.selects RX8 yX8_pastOf yX8_pastOf ∈ mw := mw_in 17 (by decide +kernel) rfl
theorem q18 : Cond.selects RX8 yX8_lookAround yX8_lookAround ∈ mw := mw_in 18 (by decide +kernel) rfl
theorem q19 : Cond.selects RX2 yX2_holds yX2_holds ∈ mw := mw_in 19 (by decide +kernel) rfl
theorem q20 : Cond.selects RX8 yX8_draw yX8_draw ∈ mw := mw_in 20 (by decide +kernel) rfl
theorem q21 : Cond.selects RX8 yX8_goes yX8_goes ∈ mw := mw_in 21 (by decide +kernel) rfl
theorem q22 : Cond.selects RX8 yX8_arrive yX8_arrive ∈ mw := mw_in 22 (by decide +kernel) rfl
theorem q23 : Cond.selects RX8 yX8_passDoor yX8_passDoor ∈ mw := mw_in 23 (by decide +kernel) rfl
theorem q24 : Cond.selects RX8 yX8_dancesNow yX8_dancesNow ∈ mw := mw_in 24 (by decide +kernel) rfl
theorem q25 : Cond.selects RX8 yX8_danced yX8_danced ∈ mw := mw_in 25 (by decide +kernel) rfl
theorem q26 : Cond.selects RX8 yX8_wayOfRow yX8_wayOfRow ∈ mw := mw_in 26 (by decide +kernel) rfl
theorem q27 : Cond.selects RX9 yX9_prepare yX9_prepare ∈ mw := mw_in 27 (by decide +kernel) rfl
theorem q32 : Cond.selects RX9 yX9_arrivals yX9_arrivals ∈ mw := mw_in 32 (by decide +kernel) rfl
theorem q33 : Cond.selects RX9 yX9_bestChange yX9_bestChange ∈ mw := mw_in 33 (by decide +kernel) rfl
theorem q34 : Cond.selects RX9 yX9_tenthsOfOthers yX9_tenthsOfOthers ∈ mw := mw_in 34 (by decide +kernel) rfl
theorem q35 : Cond.selects RX9 yX9_areHatsOfTrial yX9_areHatsOfTrial ∈ mw := mw_in 35 (by decide +kernel) rfl
theorem q36 : Cond.selects RX1 yX1_leastFrom yX1_leastFrom ∈ mw := mw_in 36 (by decide +kernel) rfl
theorem q37 : Cond.selects RX1 yX1_coupled yX1_coupled ∈ mw := mw_in 37 (by decide +kernel) rfl
theorem q38 : Cond.selects RX1 yX1_leastPartner yX1_leastPartner ∈ mw := mw_in 38 (by decide +kernel) rfl
theorem q39 : Cond.selects RX10 yX10_four yX10_four ∈ mw := mw_in 39 (by decide +kernel) rfl
theorem q40 : Cond.selects RX10 yX10_takeTape yX10_takeTape ∈ mw := mw_in 40 (by decide +kernel) rfl
theorem q41 : Cond.selects RX10 yX10_isPassage yX10_isPassage ∈ mw := mw_in 41 (by decide +kernel) rfl
theorem q42 : Cond.selects RX10 yX10_token yX10_token ∈ mw := mw_in 42 (by decide +kernel) rfl
theorem q43 : Cond.selects RX10 yX10_see yX10_see ∈ mw := mw_in 43 (by decide +kernel) rfl
theorem q44 : Cond.selects RX10 yX10_sizeLine yX10_sizeLine ∈ mw := mw_in 44 (by decide +kernel) rfl
theorem q45 : Cond.selects RX10 yX10_isWord yX10_isWord ∈ mw := mw_in 45 (by decide +kernel) rfl
theorem q46 : Cond.selects RX10 yX10_stops yX10_stops ∈ mw := mw_in 46 (by decide +kernel) rfl
theorem q47 : Cond.selects RX10 yX10_number yX10_number ∈ mw := mw_in 47 (by decide +kernel) rfl
theorem q48 : Cond.selects RX10 yX10_later yX10_later ∈ mw := mw_in 48 (by decide +kernel) rfl
theorem q49 : Cond.selects RX10 yX10_passes yX10_passes ∈ mw := mw_in 49 (by decide +kernel) rfl
theorem q50 : Cond.selects RX10 yX10_isSignOf yX10_isSignOf ∈ mw := mw_in 50 (by decide +kernel) rfl
theorem q51 : Cond.selects RX10 yX10_passageLine yX10_passageLine ∈ mw := mw_in 51 (by decide +kernel) rfl
theorem q52 : Cond.selects RX10 yX10_wallLine yX10_wallLine ∈ mw := mw_in 52 (by decide +kernel) rfl
theorem q53 : Cond.selects RX10 yX10_readSquare yX10_readSquare ∈ mw := mw_in 53 (by decide +kernel) rfl
theorem q54 : Cond.selects RX10 yX10_isTaken yX10_isTaken ∈ mw := mw_in 54 (by decide +kernel) rfl
theorem q55 : Cond.selects RX10 yX10_walkerLine yX10_walkerLine ∈ mw := mw_in 55 (by decide +kernel) rfl
theorem q56 : Cond.selects RX10 yX10_ofLine yX10_ofLine ∈ mw := mw_in 56 (by decide +kernel) rfl
theorem q57 : Cond.selects RX10 yX10_handLine yX10_handLine ∈ mw := mw_in 57 (by decide +kernel) rfl
theorem q58 : Cond.selects RX10 yX10_friendsLine yX10_friendsLine ∈ mw := mw_in 58 (by decide +kernel) rfl
theorem q59 : Cond.selects RX10 yX10_part yX10_part ∈ mw := mw_in 59 (by decide +kernel) rfl
theorem q60 : Cond.selects RX10 yX10_isGood yX10_isGood ∈ mw := mw_in 60 (by decide +kernel) rfl
theorem q61 : Cond.selects RX10 yX10_isLaw yX10_isLaw ∈ mw := mw_in 61 (by decide +kernel) rfl
theorem q62 : Cond.selects RX10 yX10_ruleLine yX10_ruleLine ∈ mw := mw_in 62 (by decide +kernel) rfl
theorem q63 : Cond.selects RX10 yX10_test yX10_test ∈ mw := mw_in 63 (by decide +kernel) rfl
theorem q64 : Cond.selects RX10 yX10_testOf yX10_testOf ∈ mw := mw_in 64 (by decide +kernel) rfl
theorem q65 : Cond.selects RX10 yX10_actOf yX10_actOf ∈ mw := mw_in 65 (by decide +kernel) rfl
theorem q66 : Cond.selects RX10 yX10_lay yX10_lay ∈ mw := mw_in 66 (by decide +kernel) rfl
theorem q67 : Cond.selects RX10 yX10_step yX10_step ∈ mw := mw_in 67 (by decide +kernel) rfl
theorem q68 : Cond.selects RX10 yX10_aimBy yX10_aimBy ∈ mw := mw_in 68 (by decide +kernel) rfl
theorem q69 : Cond.selects RX10 yX10_isThere yX10_isThere ∈ mw := mw_in 69 (by decide +kernel) rfl
theorem q70 : Cond.selects RX10 yX10_actBy yX10_actBy ∈ mw := mw_in 70 (by decide +kernel) rfl
theorem q71 : Cond.selects RX10 yX10_look yX10_look ∈ mw := mw_in 71 (by decide +kernel) rfl
theorem q72 : Cond.selects RX10 yX10_holds yX10_holds ∈ mw := mw_in 72 (by decide +kernel) rfl
theorem q73 : Cond.selects RX10 yX10_found yX10_found ∈ mw := mw_in 73 (by decide +kernel) rfl
theorem q74 : Cond.selects RX10 yX10_way yX10_way ∈ mw := mw_in 74 (by decide +kernel) rfl
theorem q75 : Cond.selects RX10 yX10_freeOn yX10_freeOn ∈ mw := mw_in 75 (by decide +kernel) rfl
theorem q76 : Cond.selects RX10 yX10_isInside yX10_isInside ∈ mw := mw_in 76 (by decide +kernel) rfl
theorem q77 : Cond.selects RX10 yX10_isWall yX10_isWall ∈ mw := mw_in 77 (by decide +kernel) rfl
theorem q78 : Cond.selects RX10 yX10_seenOn yX10_seenOn ∈ mw := mw_in 78 (by decide +kernel) rfl
theorem q79 : Cond.selects RX10 yX10_soonBy yX10_soonBy ∈ mw := mw_in 79 (by decide +kernel) rfl
theorem q80 : Cond.selects RX10 yX10_nearBy yX10_nearBy ∈ mw := mw_in 80 (by decide +kernel) rfl
theorem q81 : Cond.selects RX10 yX10_distance yX10_distance ∈ mw := mw_in 81 (by decide +kernel) rfl
theorem q82 : Cond.selects RX10 yX10_isFacing yX10_isFacing ∈ mw := mw_in 82 (by decide +kernel) rfl
theorem q83 : Cond.selects RX10 yX10_isParted yX10_isParted ∈ mw := mw_in 83 (by decide +kernel) rfl
theorem q84 : Cond.selects RX10 yX10_lotIsRight yX10_lotIsRight ∈ mw := mw_in 84 (by decide +kernel) rfl
theorem q85 : Cond.selects RX10 yX10_goes yX10_goes ∈ mw := mw_in 85 (by decide +kernel) rfl
theorem q86 : Cond.selects RX10 yX10_isStoodOn yX10_isStoodOn ∈ mw := mw_in 86 (by decide +kernel) rfl
theorem q87 : Cond.selects RX10 yX10_passDoor yX10_passDoor ∈ mw := mw_in 87 (by decide +kernel) rfl
theorem q88 : Cond.selects RX10 yX10_dance yX10_dance ∈ mw := mw_in 88 (by decide +kernel) rfl
theorem q89 : Cond.selects RX10 yX10_ends yX10_ends ∈ mw := mw_in 89 (by decide +kernel) rfl
theorem q90 : Cond.selects RX10 yX10_isRunner yX10_isRunner ∈ mw := mw_in 90 (by decide +kernel) rfl
theorem q91 : Cond.selects RX10 yX10_lanes yX10_lanes ∈ mw := mw_in 91 (by decide +kernel) rfl
theorem q92 : Cond.selects RX10 yX10_waysOn yX10_waysOn ∈ mw := mw_in 92 (by decide +kernel) rfl
theorem q93 : Cond.selects RX10 yX10_findTwo yX10_findTwo ∈ mw := mw_in 93 (by decide +kernel) rfl
theorem q94 : Cond.selects RX10 yX10_layOver yX10_layOver ∈ mw := mw_in 94 (by decide +kernel) rfl
theorem q95 : Cond.selects RX10 yX10_isTried yX10_isTried ∈ mw := mw_in 95 (by decide +kernel) rfl
theorem q96 : Cond.selects RX10 yX10_tryOn yX10_tryOn ∈ mw := mw_in 96 (by decide +kernel) rfl
theorem q97 : Cond.selects RX10 yX10_isFreeAtFirst yX10_isFreeAtFirst ∈ mw := mw_in 97 (by decide +kernel) rfl
theorem q98 : Cond.selects RX10 yX10_tenths yX10_tenths ∈ mw := mw_in 98 (by decide +kernel) rfl
theorem q99 : Cond.selects RX10 yX10_arrive yX10_arrive ∈ mw := mw_in 99 (by decide +kernel) rfl
theorem q100 : Cond.selects RX10 yX10_areBeside yX10_areBeside ∈ mw := mw_in 100 (by decide +kernel) rfl
theorem q101 : Cond.selects RX10 yX10_fitsNow yX10_fitsNow ∈ mw := mw_in 101 (by decide +kernel) rfl
theorem q102 : Cond.selects RX10 yX10_isTrodden yX10_isTrodden ∈ mw := mw_in 102 (by decide +kernel) rfl
theorem q103 : Cond.selects RX10 yX10_hasHat yX10_hasHat ∈ mw := mw_in 103 (by decide +kernel) rfl
theorem q104 : Cond.selects RX10 yX10_findMatch yX10_findMatch ∈ mw := mw_in 104 (by decide +kernel) rfl
theorem q105 : Cond.selects RX10 yX10_couple yX10_couple ∈ mw := mw_in 105 (by decide +kernel) rfl
theorem q106 : Cond.selects RX10 yX10_copy yX10_copy ∈ mw := mw_in 106 (by decide +kernel) rfl
theorem q108 : Cond.initialized RX9 ∈ mw := mw_in 108 (by decide +kernel) rfl
theorem q109 : Cond.initialized RX7 ∈ mw := mw_in 109 (by decide +kernel) rfl
theorem q110 : Cond.initialized RX4 ∈ mw := mw_in 110 (by decide +kernel) rfl
theorem q111 : Cond.initialized RX2 ∈ mw := mw_in 111 (by decide +kernel) rfl
theorem q112 : Cond.initialized RX8 ∈ mw := mw_in 112 (by decide +kernel) rfl
theorem q113 : Cond.initialized RX1 ∈ mw := mw_in 113 (by decide +kernel) rfl
theorem q114 : Cond.initialized RX6 ∈ mw := mw_in 114 (by decide +kernel) rfl
theorem q116 : Cond.initialized RX5 ∈ mw := mw_in 116 (by decide +kernel) rfl
theorem q117 : Cond.initialized RX3 ∈ mw := mw_in 117 (by decide +kernel) rfl
theorem q118 : Cond.initialized RX10 ∈ mw := mw_in 118 (by decide +kernel) rfl
theorem q119 : Cond.initialized RJ9 ∈ mw := mw_in 119 (by decide +kernel) rfl
theorem q124 : Cond.initialized RJ10 ∈ mw := mw_in 124 (by decide +kernel) rfl
theorem q125 : Cond.initialized RJ7 ∈ mw := mw_in 125 (by decide +kernel) rfl
theorem q126 : Cond.initialized RJ6 ∈ mw := mw_in 126 (by decide +kernel) rfl
theorem q150 : Cond.fieldLink RX4 49 "PavementWalk$Passage" "length" "I" ∈ mw := mw_in 150 (by decide +kernel) rfl
theorem q151 : Cond.fieldLink RX5 109 "PavementWalk$Passage" "length" "I" ∈ mw := mw_in 151 (by decide +kernel) rfl
theorem q152 : Cond.fieldLink RX9 132 "PavementWalk$Passage" "length" "I" ∈ mw := mw_in 152 (by decide +kernel) rfl
theorem q153 : Cond.fieldLink RX8 141 "PavementWalk$Passage" "length" "I" ∈ mw := mw_in 153 (by decide +kernel) rfl
theorem q154 : Cond.fieldLink RX4 53 "PavementWalk$Passage" "width" "I" ∈ mw := mw_in 154 (by decide +kernel) rfl
theorem q155 : Cond.fieldLink RX5 112 "PavementWalk$Passage" "width" "I" ∈ mw := mw_in 155 (by decide +kernel) rfl
theorem q156 : Cond.fieldLink RX9 135 "PavementWalk$Passage" "width" "I" ∈ mw := mw_in 156 (by decide +kernel) rfl
theorem q157 : Cond.fieldLink RX8 144 "PavementWalk$Passage" "width" "I" ∈ mw := mw_in 157 (by decide +kernel) rfl
theorem q158 : Cond.fieldLink RX4 56 "PavementWalk$Passage" "wallCount" "I" ∈ mw := mw_in 158 (by decide +kernel) rfl
theorem q159 : Cond.fieldLink RX9 141 "PavementWalk$Passage" "wallCount" "I" ∈ mw := mw_in 159 (by decide +kernel) rfl
theorem q161 : Cond.fieldLink RX4 59 "PavementWalk$Passage" "walkers" "I" ∈ mw := mw_in 161 (by decide +kernel) rfl
theorem q162 : Cond.fieldLink RX8 91 "PavementWalk$Passage" "walkers" "I" ∈ mw := mw_in 162 (by decide +kernel) rfl
theorem q163 : Cond.fieldLink RX5 123 "PavementWalk$Passage" "walkers" "I" ∈ mw := mw_in 163 (by decide +kernel) rfl
theorem q164 : Cond.fieldLink RX9 138 "PavementWalk$Passage" "walkers" "I" ∈ mw := mw_in 164 (by decide +kernel) rfl
theorem q165 : Cond.fieldLink RX4 9 "PavementWalk$Passage" "walls" "[Z" ∈ mw := mw_in 165 (by decide +kernel) rfl
theorem q166 : Cond.fieldLink RX8 147 "PavementWalk$Passage" "walls" "[Z" ∈ mw := mw_in 166 (by decide +kernel) rfl
theorem q167 : Cond.fieldLink RX4 15 "PavementWalk$Passage" "col" "[I" ∈ mw := mw_in 167 (by decide +kernel) rfl
theorem q168 : Cond.fieldLink RX8 72 "PavementWalk$Passage" "col" "[I" ∈ mw := mw_in 168 (by decide +kernel) rfl
theorem q169 : Cond.fieldLink RX9 147 "PavementWalk$Passage" "col" "[I" ∈ mw := mw_in 169 (by decide +kernel) rfl
theorem q170 : Cond.fieldLink RX4 19 "PavementWalk$Passage" "row" "[I" ∈ mw := mw_in 170 (by decide +kernel) rfl
theorem q171 : Cond.fieldLink RX8 81 "PavementWalk$Passage" "row" "[I" ∈ mw := mw_in 171 (by decide +kernel) rfl
theorem q172 : Cond.fieldLink RX9 151 "PavementWalk$Passage" "row" "[I" ∈ mw := mw_in 172 (by decide +kernel) rfl
theorem q173 : Cond.fieldLink RX4 22 "PavementWalk$Passage" "way" "[I" ∈ mw := mw_in 173 (by decide +kernel) rfl
theorem q174 : Cond.fieldLink RX8 101 "PavementWalk$Passage" "way" "[I" ∈ mw := mw_in 174 (by decide +kernel) rfl
theorem q175 : Cond.fieldLink RX9 154 "PavementWalk$Passage" "way" "[I" ∈ mw := mw_in 175 (by decide +kernel) rfl
theorem q176 : Cond.fieldLink RX4 25 "PavementWalk$Passage" "pace" "[I" ∈ mw := mw_in 176 (by decide +kernel) rfl
theorem q177 : Cond.fieldLink RX5 81 "PavementWalk$Passage" "pace" "[I" ∈ mw := mw_in 177 (by decide +kernel) rfl
theorem q178 : Cond.fieldLink RX8 111 "PavementWalk$Passage" "pace" "[I" ∈ mw := mw_in 178 (by decide +kernel) rfl
theorem q179 : Cond.fieldLink RX9 157 "PavementWalk$Passage" "pace" "[I" ∈ mw := mw_in 179 (by decide +kernel) rfl
theorem q180 : Cond.fieldLink RX4 28 "PavementWalk$Passage" "late" "[I" ∈ mw := mw_in 180 (by decide +kernel) rfl
theorem q182 : Cond.fieldLink RX5 90 "PavementWalk$Passage" "late" "[I" ∈ mw := mw_in 182 (by decide +kernel) rfl
theorem q183 : Cond.fieldLink RX8 122 "PavementWalk$Passage" "late" "[I" ∈ mw := mw_in 183 (by decide +kernel) rfl
theorem q184 : Cond.fieldLink RX9 160 "PavementWalk$Passage" "late" "[I" ∈ mw := mw_in 184 (by decide +kernel) rfl
theorem q185 : Cond.fieldLink RX4 31 "PavementWalk$Passage" "haste" "[I" ∈ mw := mw_in 185 (by decide +kernel) rfl
theorem q186 : Cond.fieldLink RX8 94 "PavementWalk$Passage" "haste" "[I" ∈ mw := mw_in 186 (by decide +kernel) rfl
theorem q187 : Cond.fieldLink RX5 94 "PavementWalk$Passage" "haste" "[I" ∈ mw := mw_in 187 (by decide +kernel) rfl
theorem q188 : Cond.fieldLink RX9 163 "PavementWalk$Passage" "haste" "[I" ∈ mw := mw_in 188 (by decide +kernel) rfl
theorem q189 : Cond.fieldLink RX4 34 "PavementWalk$Passage" "hand" "[I" ∈ mw := mw_in 189 (by decide +kernel) rfl
theorem q190 : Cond.fieldLink RX5 146 "PavementWalk$Passage" "hand" "[I" ∈ mw := mw_in 190 (by decide +kernel) rfl
theorem q191 : Cond.fieldLink RX9 166 "PavementWalk$Passage" "hand" "[I" ∈ mw := mw_in 191 (by decide +kernel) rfl
theorem q192 : Cond.fieldLink RX8 180 "PavementWalk$Passage" "hand" "[I" ∈ mw := mw_in 192 (by decide +kernel) rfl
theorem q193 : Cond.fieldLink RX4 37 "PavementWalk$Passage" "friend" "[I" ∈ mw := mw_in 193 (by decide +kernel) rfl
theorem q194 : Cond.fieldLink RX9 169 "PavementWalk$Passage" "friend" "[I" ∈ mw := mw_in 194 (by decide +kernel) rfl
theorem q195 : Cond.fieldLink RX8 154 "PavementWalk$Passage" "friend" "[I" ∈ mw := mw_in 195 (by decide +kernel) rfl
theorem q231 : Cond.fieldLink RX2 31 "PavementWalk$Law" "rules" "I" ∈ mw := mw_in 231 (by decide +kernel) rfl
theorem q232 : Cond.fieldLink RX3 25 "PavementWalk$Law" "rules" "I" ∈ mw := mw_in 232 (by decide +kernel) rfl
theorem q233 : Cond.fieldLink RX9 176 "PavementWalk$Law" "rules" "I" ∈ mw := mw_in 233 (by decide +kernel) rfl
theorem q234 : Cond.fieldLink RX2 9 "PavementWalk$Law" "deeds" "[I" ∈ mw := mw_in 234 (by decide +kernel) rfl
theorem q235 : Cond.fieldLink RX2 15 "PavementWalk$Law" "tests" "[I" ∈ mw := mw_in 235 (by decide +kernel) rfl
theorem q236 : Cond.fieldLink RX2 18 "PavementWalk$Law" "what" "[I" ∈ mw := mw_in 236 (by decide +kernel) rfl
theorem q237 : Cond.fieldLink RX2 21 "PavementWalk$Law" "sign" "[I" ∈ mw := mw_in 237 (by decide +kernel) rfl
theorem q238 : Cond.fieldLink RX2 24 "PavementWalk$Law" "number" "[I" ∈ mw := mw_in 238 (by decide +kernel) rfl
theorem q239 : Cond.fieldLink RX2 27 "PavementWalk$Law" "not" "[Z" ∈ mw := mw_in 239 (by decide +kernel) rfl
theorem q261 : Cond.fieldLink RX8 45 "PavementWalk$Walk" "ground" "LPavementWalk$Passage;" ∈ mw := mw_in 261 (by decide +kernel) rfl
theorem q262 : Cond.fieldLink RX8 49 "PavementWalk$Walk" "law" "LPavementWalk$Law;" ∈ mw := mw_in 262 (by decide +kernel) rfl
theorem q263 : Cond.fieldLink RX8 57 "PavementWalk$Walk" "tenth" "I" ∈ mw := mw_in 263 (by decide +kernel) rfl
theorem q264 : Cond.fieldLink RX9 238 "PavementWalk$Walk" "tenth" "I" ∈ mw := mw_in 264 (by decide +kernel) rfl
theorem q265 : Cond.fieldLink RX8 53 "PavementWalk$Walk" "seed" "I" ∈ mw := mw_in 265 (by decide +kernel) rfl
theorem q266 : Cond.fieldLink RX8 60 "PavementWalk$Walk" "lots" "I" ∈ mw := mw_in 266 (by decide +kernel) rfl
theorem q267 : Cond.fieldLink RX9 256 "PavementWalk$Walk" "lots" "I" ∈ mw := mw_in 267 (by decide +kernel) rfl
theorem q268 : Cond.fieldLink RX8 63 "PavementWalk$Walk" "arrived" "I" ∈ mw := mw_in 268 (by decide +kernel) rfl
theorem q270 : Cond.fieldLink RX9 241 "PavementWalk$Walk" "arrived" "I" ∈ mw := mw_in 270 (by decide +kernel) rfl
theorem q271 : Cond.fieldLink RX8 66 "PavementWalk$Walk" "dances" "I" ∈ mw := mw_in 271 (by decide +kernel) rfl
theorem q273 : Cond.fieldLink RX9 247 "PavementWalk$Walk" "dances" "I" ∈ mw := mw_in 273 (by decide +kernel) rfl
theorem q274 : Cond.fieldLink RX8 69 "PavementWalk$Walk" "quiet" "I" ∈ mw := mw_in 274 (by decide +kernel) rfl
theorem q275 : Cond.fieldLink RX9 244 "PavementWalk$Walk" "quiet" "I" ∈ mw := mw_in 275 (by decide +kernel) rfl
theorem q276 : Cond.fieldLink RX8 108 "PavementWalk$Walk" "met" "I" ∈ mw := mw_in 276 (by decide +kernel) rfl
theorem q277 : Cond.fieldLink RX8 11 "PavementWalk$Walk" "col" "[I" ∈ mw := mw_in 277 (by decide +kernel) rfl
theorem q278 : Cond.fieldLink RX0 132 "PavementWalk$Walk" "col" "[I" ∈ mw := mw_in 278 (by decide +kernel) rfl
theorem q279 : Cond.fieldLink RX9 201 "PavementWalk$Walk" "col" "[I" ∈ mw := mw_in 279 (by decide +kernel) rfl
theorem q280 : Cond.fieldLink RX8 15 "PavementWalk$Walk" "row" "[I" ∈ mw := mw_in 280 (by decide +kernel) rfl
theorem q281 : Cond.fieldLink RX0 135 "PavementWalk$Walk" "row" "[I" ∈ mw := mw_in 281 (by decide +kernel) rfl
theorem q282 : Cond.fieldLink RX9 202 "PavementWalk$Walk" "row" "[I" ∈ mw := mw_in 282 (by decide +kernel) rfl
theorem q283 : Cond.fieldLink RX8 18 "PavementWalk$Walk" "arrivedIn" "[I" ∈ mw := mw_in 283 (by decide +kernel) rfl
theorem q284 : Cond.fieldLink RX9 203 "PavementWalk$Walk" "arrivedIn" "[I" ∈ mw := mw_in 284 (by decide +kernel) rfl
theorem q285 : Cond.fieldLink RX8 21 "PavementWalk$Walk" "moves" "[I" ∈ mw := mw_in 285 (by decide +kernel) rfl
theorem q286 : Cond.fieldLink RX9 206 "PavementWalk$Walk" "moves" "[I" ∈ mw := mw_in 286 (by decide +kernel) rfl
theorem q287 : Cond.fieldLink RX8 24 "PavementWalk$Walk" "sidesteps" "[I" ∈ mw := mw_in 287 (by decide +kernel) rfl
theorem q288 : Cond.fieldLink RX9 209 "PavementWalk$Walk" "sidesteps" "[I" ∈ mw := mw_in 288 (by decide +kernel) rfl
theorem q289 : Cond.fieldLink RX8 27 "PavementWalk$Walk" "bumps" "[I" ∈ mw := mw_in 289 (by decide +kernel) rfl
theorem q290 : Cond.fieldLink RX9 212 "PavementWalk$Walk" "bumps" "[I" ∈ mw := mw_in 290 (by decide +kernel) rfl
theorem q291 : Cond.fieldLink RX8 30 "PavementWalk$Walk" "waited" "[I" ∈ mw := mw_in 291 (by decide +kernel) rfl
theorem q292 : Cond.fieldLink RX0 138 "PavementWalk$Walk" "waited" "[I" ∈ mw := mw_in 292 (by decide +kernel) rfl
theorem q293 : Cond.fieldLink RX9 215 "PavementWalk$Walk" "waited" "[I" ∈ mw := mw_in 293 (by decide +kernel) rfl
theorem q294 : Cond.fieldLink RX8 33 "PavementWalk$Walk" "aim" "[I" ∈ mw := mw_in 294 (by decide +kernel) rfl
theorem q296 : Cond.fieldLink RX8 36 "PavementWalk$Walk" "order" "[I" ∈ mw := mw_in 296 (by decide +kernel) rfl
theorem q297 : Cond.fieldLink RX8 39 "PavementWalk$Walk" "sight" "[I" ∈ mw := mw_in 297 (by decide +kernel) rfl
theorem q298 : Cond.fieldLink RX9 224 "PavementWalk$Walk" "sight" "[I" ∈ mw := mw_in 298 (by decide +kernel) rfl
theorem q299 : Cond.fieldLink RX8 42 "PavementWalk$Walk" "doors" "[I" ∈ mw := mw_in 299 (by decide +kernel) rfl
theorem q347 : Cond.fieldLink RX1 9 "PavementWalk$Film" "hats" "[I" ∈ mw := mw_in 347 (by decide +kernel) rfl
theorem q348 : Cond.fieldLink RX9 300 "PavementWalk$Film" "hats" "[I" ∈ mw := mw_in 348 (by decide +kernel) rfl
theorem q349 : Cond.fieldLink RX1 15 "PavementWalk$Film" "col" "[I" ∈ mw := mw_in 349 (by decide +kernel) rfl
theorem q350 : Cond.fieldLink RX9 315 "PavementWalk$Film" "col" "[I" ∈ mw := mw_in 350 (by decide +kernel) rfl
theorem q351 : Cond.fieldLink RX1 18 "PavementWalk$Film" "row" "[I" ∈ mw := mw_in 351 (by decide +kernel) rfl
theorem q352 : Cond.fieldLink RX9 316 "PavementWalk$Film" "row" "[I" ∈ mw := mw_in 352 (by decide +kernel) rfl
theorem q353 : Cond.fieldLink RX1 21 "PavementWalk$Film" "partner" "[I" ∈ mw := mw_in 353 (by decide +kernel) rfl
theorem q354 : Cond.fieldLink RX9 335 "PavementWalk$Film" "partner" "[I" ∈ mw := mw_in 354 (by decide +kernel) rfl
theorem q355 : Cond.fieldLink RX1 24 "PavementWalk$Film" "least" "[I" ∈ mw := mw_in 355 (by decide +kernel) rfl
theorem q367 : Cond.fieldLink RX7 9 "PavementWalk$Told" "tape" "[B" ∈ mw := mw_in 367 (by decide +kernel) rfl
theorem q369 : Cond.fieldLink RX9 85 "PavementWalk$Told" "bytes" "I" ∈ mw := mw_in 369 (by decide +kernel) rfl
theorem q370 : Cond.fieldLink RX7 57 "PavementWalk$Told" "bytes" "I" ∈ mw := mw_in 370 (by decide +kernel) rfl
theorem q371 : Cond.fieldLink RX7 60 "PavementWalk$Told" "fault" "I" ∈ mw := mw_in 371 (by decide +kernel) rfl
theorem q372 : Cond.fieldLink RX9 111 "PavementWalk$Told" "fault" "I" ∈ mw := mw_in 372 (by decide +kernel) rfl
theorem q373 : Cond.fieldLink RX7 15 "PavementWalk$Told" "place" "I" ∈ mw := mw_in 373 (by decide +kernel) rfl
theorem q374 : Cond.fieldLink RX9 115 "PavementWalk$Told" "place" "I" ∈ mw := mw_in 374 (by decide +kernel) rfl
theorem q375 : Cond.fieldLink RX7 21 "PavementWalk$Told" "passages" "[LPavementWalk$Passage;" ∈ mw := mw_in 375 (by decide +kernel) rfl
theorem q376 : Cond.fieldLink RX7 63 "PavementWalk$Told" "passageCount" "I" ∈ mw := mw_in 376 (by decide +kernel) rfl
theorem q377 : Cond.fieldLink RX9 97 "PavementWalk$Told" "passageCount" "I" ∈ mw := mw_in 377 (by decide +kernel) rfl
theorem q378 : Cond.fieldLink RX7 27 "PavementWalk$Told" "laws" "[LPavementWalk$Law;" ∈ mw := mw_in 378 (by decide +kernel) rfl
theorem q379 : Cond.fieldLink RX7 66 "PavementWalk$Told" "lawCount" "I" ∈ mw := mw_in 379 (by decide +kernel) rfl
theorem q380 : Cond.fieldLink RX9 120 "PavementWalk$Told" "lawCount" "I" ∈ mw := mw_in 380 (by decide +kernel) rfl
theorem q381 : Cond.fieldLink RX7 32 "PavementWalk$Told" "ground" "LPavementWalk$Passage;" ∈ mw := mw_in 381 (by decide +kernel) rfl
theorem q382 : Cond.fieldLink RX9 179 "PavementWalk$Told" "ground" "LPavementWalk$Passage;" ∈ mw := mw_in 382 (by decide +kernel) rfl
theorem q383 : Cond.fieldLink RX7 37 "PavementWalk$Told" "bylaw" "LPavementWalk$Law;" ∈ mw := mw_in 383 (by decide +kernel) rfl
theorem q384 : Cond.fieldLink RX9 184 "PavementWalk$Told" "bylaw" "LPavementWalk$Law;" ∈ mw := mw_in 384 (by decide +kernel) rfl
theorem q385 : Cond.fieldLink RX7 46 "PavementWalk$Told" "walk" "LPavementWalk$Walk;" ∈ mw := mw_in 385 (by decide +kernel) rfl
theorem q386 : Cond.fieldLink RX9 188 "PavementWalk$Told" "walk" "LPavementWalk$Walk;" ∈ mw := mw_in 386 (by decide +kernel) rfl
theorem q387 : Cond.fieldLink RX7 91 "PavementWalk$Told" "walking" "Z" ∈ mw := mw_in 387 (by decide +kernel) rfl
theorem q388 : Cond.fieldLink RX9 194 "PavementWalk$Told" "walking" "Z" ∈ mw := mw_in 388 (by decide +kernel) rfl
theorem q389 : Cond.fieldLink RX7 53 "PavementWalk$Told" "film" "LPavementWalk$Film;" ∈ mw := mw_in 389 (by decide +kernel) rfl
theorem q390 : Cond.fieldLink RX9 296 "PavementWalk$Told" "film" "LPavementWalk$Film;" ∈ mw := mw_in 390 (by decide +kernel) rfl
theorem q425 : Cond.fieldLink RX6 9 "PavementWalk$Reader" "text" "[B" ∈ mw := mw_in 425 (by decide +kernel) rfl
theorem q426 : Cond.fieldLink RX6 24 "PavementWalk$Reader" "size" "I" ∈ mw := mw_in 426 (by decide +kernel) rfl
theorem q427 : Cond.fieldLink RX6 46 "PavementWalk$Reader" "kind" "I" ∈ mw := mw_in 427 (by decide +kernel) rfl
theorem q428 : Cond.fieldLink RX5 32 "PavementWalk$Reader" "from" "I" ∈ mw := mw_in 428 (by decide +kernel) rfl
theorem q429 : Cond.fieldLink RX3 35 "PavementWalk$Reader" "from" "I" ∈ mw := mw_in 429 (by decide +kernel) rfl
theorem q430 : Cond.fieldLink RX6 40 "PavementWalk$Reader" "from" "I" ∈ mw := mw_in 430 (by decide +kernel) rfl
theorem q431 : Cond.fieldLink RX6 28 "PavementWalk$Reader" "to" "I" ∈ mw := mw_in 431 (by decide +kernel) rfl
theorem q432 : Cond.fieldLink RX6 43 "PavementWalk$Reader" "value" "I" ∈ mw := mw_in 432 (by decide +kernel) rfl
theorem q433 : Cond.fieldLink RX6 31 "PavementWalk$Reader" "fault" "I" ∈ mw := mw_in 433 (by decide +kernel) rfl
theorem q434 : Cond.fieldLink RX9 108 "PavementWalk$Reader" "fault" "I" ∈ mw := mw_in 434 (by decide +kernel) rfl
theorem q435 : Cond.fieldLink RX6 34 "PavementWalk$Reader" "place" "I" ∈ mw := mw_in 435 (by decide +kernel) rfl
theorem q436 : Cond.fieldLink RX9 112 "PavementWalk$Reader" "place" "I" ∈ mw := mw_in 436 (by decide +kernel) rfl
theorem q472 : Cond.fieldLink RX0 17 "PavementWalk$Chances" "parts" "[I" ∈ mw := mw_in 472 (by decide +kernel) rfl
theorem q476 : Cond.fieldLink RX0 60 "PavementWalk$Chances" "lags" "I" ∈ mw := mw_in 476 (by decide +kernel) rfl
theorem q477 : Cond.fieldLink RX0 69 "PavementWalk$Chances" "weighsWaited" "Z" ∈ mw := mw_in 477 (by decide +kernel) rfl
theorem q504 : Cond.fieldLink RX5 9 "PavementWalk$PassageText" "reader" "LPavementWalk$Reader;" ∈ mw := mw_in 504 (by decide +kernel) rfl
theorem q505 : Cond.fieldLink RX5 15 "PavementWalk$PassageText" "passage" "LPavementWalk$Passage;" ∈ mw := mw_in 505 (by decide +kernel) rfl
theorem q517 : Cond.fieldLink RX3 9 "PavementWalk$LawText" "reader" "LPavementWalk$Reader;" ∈ mw := mw_in 517 (by decide +kernel) rfl
theorem q518 : Cond.fieldLink RX3 15 "PavementWalk$LawText" "law" "LPavementWalk$Law;" ∈ mw := mw_in 518 (by decide +kernel) rfl
theorem q524 : Cond.fieldLink RX9 10 "PavementWalk" "told" "LPavementWalk$Told;" ∈ mw := mw_in 524 (by decide +kernel) rfl
theorem q525 : Cond.fieldLink RX9 16 "PavementWalk" "images" "[LPavementWalk$Told;" ∈ mw := mw_in 525 (by decide +kernel) rfl
theorem q526 : Cond.fieldLink RX9 20 "PavementWalk" "kept" "[Z" ∈ mw := mw_in 526 (by decide +kernel) rfl
theorem q527 : Cond.fieldLink RX9 33 "PavementWalk" "reader" "LPavementWalk$Reader;" ∈ mw := mw_in 527 (by decide +kernel) rfl
theorem q528 : Cond.fieldLink RX9 40 "PavementWalk" "ground" "LPavementWalk$Passage;" ∈ mw := mw_in 528 (by decide +kernel) rfl
theorem q529 : Cond.fieldLink RX9 47 "PavementWalk" "bylaw" "LPavementWalk$Law;" ∈ mw := mw_in 529 (by decide +kernel) rfl
theorem q530 : Cond.fieldLink RX9 56 "PavementWalk" "trial" "LPavementWalk$Walk;" ∈ mw := mw_in 530 (by decide +kernel) rfl
theorem q532 : Cond.fieldLink RX9 72 "PavementWalk" "passageText" "LPavementWalk$PassageText;" ∈ mw := mw_in 532 (by decide +kernel) rfl
theorem q533 : Cond.fieldLink RX9 81 "PavementWalk" "lawText" "LPavementWalk$LawText;" ∈ mw := mw_in 533 (by decide +kernel) rfl
theorem q559 : Cond.methodLink RX9 89 yX7_append ∈ mw := mw_in 559 (by decide +kernel) rfl
theorem q560 : Cond.instanceMethod yX7_append ∈ mw := mw_in 560 (by decide +kernel) rfl
theorem q561 : Cond.selects RX7 yX7_append yX7_append ∈ mw := mw_in 561 (by decide +kernel) rfl
theorem q562 : Cond.code yX7_append cX7_append 3 (Option.none : Option Jvm.ClassFile.FieldType) ∈ mw := mw_in 562 (by decide +kernel) rfl
theorem q571 : Cond.methodLink RX9 93 yX7_takeTape ∈ mw := mw_in 571 (by decide +kernel) rfl
theorem q572 : Cond.instanceMethod yX7_takeTape ∈ mw := mw_in 572 (by decide +kernel) rfl
theorem q573 : Cond.selects RX7 yX7_takeTape yX7_takeTape ∈ mw := mw_in 573 (by decide +kernel) rfl
theorem q574 : Cond.code yX7_takeTape cX7_takeTape 2 (Option.some Jvm.ClassFile.FieldType.int) ∈ mw := mw_in 574 (by decide +kernel) rfl
theorem q575 : Cond.methodLink RX9 100 yX9_slotFor ∈ mw := mw_in 575 (by decide +kernel) rfl
theorem q576 : Cond.static yX9_slotFor ∈ mw := mw_in 576 (by decide +kernel) rfl
theorem q577 : Cond.code yX9_slotFor cX9_slotFor 2 (Option.some Jvm.ClassFile.FieldType.int) ∈ mw := mw_in 577 (by decide +kernel) rfl
theorem q578 : Cond.methodLink RX9 104 yX5_read ∈ mw := mw_in 578 (by decide +kernel) rfl
theorem q579 : Cond.instanceMethod yX5_read ∈ mw := mw_in 579 (by decide +kernel) rfl
theorem q580 : Cond.selects RX5 yX5_read yX5_read ∈ mw := mw_in 580 (by decide +kernel) rfl
theorem q581 : Cond.code yX5_read cX5_read 3 (Option.some Jvm.ClassFile.FieldType.boolean) ∈ mw := mw_in 581 (by decide +kernel) rfl
theorem q582 : Cond.methodLink RX5 19 yX6_open ∈ mw := mw_in 582 (by decide +kernel) rfl
theorem q583 : Cond.instanceMethod yX6_open ∈ mw := mw_in 583 (by decide +kernel) rfl
theorem q584 : Cond.selects RX6 yX6_open yX6_open ∈ mw := mw_in 584 (by decide +kernel) rfl
theorem q585 : Cond.code yX6_open cX6_open 2 (Option.none : Option Jvm.ClassFile.FieldType) ∈ mw := mw_in 585 (by decide +kernel) rfl
theorem q586 : Cond.methodLink RX6 15 yJ9_min_7cf53 ∈ mw := mw_in 586 (by decide +kernel) rfl
theorem q587 : Cond.static yJ9_min_7cf53 ∈ mw := mw_in 587 (by decide +kernel) rfl
theorem q588 : Cond.code yJ9_min_7cf53 cJ9_min_7cf53 2 (Option.some Jvm.ClassFile.FieldType.int) ∈ mw := mw_in 588 (by decide +kernel) rfl
theorem q589 : Cond.methodLink RX6 21 yJ9_max_7cf53 ∈ mw := mw_in 589 (by decide +kernel) rfl
theorem q590 : Cond.static yJ9_max_7cf53 ∈ mw := mw_in 590 (by decide +kernel) rfl
theorem q591 : Cond.code yJ9_max_7cf53 cJ9_max_7cf53 2 (Option.some Jvm.ClassFile.FieldType.int) ∈ mw := mw_in 591 (by decide +kernel) rfl
theorem q592 : Cond.methodLink RX6 37 yX6_step ∈ mw := mw_in 592 (by decide +kernel) rfl
theorem q593 : Cond.instanceMethod yX6_step ∈ mw := mw_in 593 (by decide +kernel) rfl
theorem q594 : Cond.selects RX6 yX6_step yX6_step ∈ mw := mw_in 594 (by decide +kernel) rfl
theorem q595 : Cond.code yX6_step cX6_step 2 (Option.none : Option Jvm.ClassFile.FieldType) ∈ mw := mw_in 595 (by decide +kernel) rfl
theorem q596 : Cond.methodLink RX6 49 yX6_isLetter ∈ mw := mw_in 596 (by decide +kernel) rfl
theorem q597 : Cond.static yX6_isLetter ∈ mw := mw_in 597 (by decide +kernel) rfl
theorem q598 : Cond.code yX6_isLetter cX6_isLetter 1 (Option.some Jvm.ClassFile.FieldType.boolean) ∈ mw := mw_in 598 (by decide +kernel) rfl
theorem q599 : Cond.methodLink RX6 53 yX6_isDigit ∈ mw := mw_in 599 (by decide +kernel) rfl
theorem q600 : Cond.static yX6_isDigit ∈ mw := mw_in 600 (by decide +kernel) rfl
theorem q601 : Cond.code yX6_isDigit cX6_isDigit 1 (Option.some Jvm.ClassFile.FieldType.boolean) ∈ mw := mw_in 601 (by decide +kernel) rfl
theorem q602 : Cond.methodLink RX5 25 yX5_readSize ∈ mw := mw_in 602 (by decide +kernel) rfl
theorem q604 : Cond.instanceMethod yX5_readSize ∈ mw := mw_in 604 (by decide +kernel) rfl
theorem q605 : Cond.code yX5_readSize cX5_readSize 3 (Option.none : Option Jvm.ClassFile.FieldType) ∈ mw := mw_in 605 (by decide +kernel) rfl
theorem q607 : Cond.methodLink RX5 48 yX6_needWord ∈ mw := mw_in 607 (by decide +kernel) rfl
theorem q608 : Cond.instanceMethod yX6_needWord ∈ mw := mw_in 608 (by decide +kernel) rfl
theorem q609 : Cond.selects RX6 yX6_needWord yX6_needWord ∈ mw := mw_in 609 (by decide +kernel) rfl
theorem q610 : Cond.code yX6_needWord cX6_needWord 2 (Option.none : Option Jvm.ClassFile.FieldType) ∈ mw := mw_in 610 (by decide +kernel) rfl
theorem q611 : Cond.methodLink RX6 70 yX6_takesWord ∈ mw := mw_in 611 (by decide +kernel) rfl
theorem q612 : Cond.instanceMethod yX6_takesWord ∈ mw := mw_in 612 (by decide +kernel) rfl
theorem q613 : Cond.selects RX6 yX6_takesWord yX6_takesWord ∈ mw := mw_in 613 (by decide +kernel) rfl
theorem q614 : Cond.code yX6_takesWord cX6_takesWord 3 (Option.some Jvm.ClassFile.FieldType.boolean) ∈ mw := mw_in 614 (by decide +kernel) rfl
theorem q615 : Cond.methodLink RX6 66 yX6_isWord ∈ mw := mw_in 615 (by decide +kernel) rfl
theorem q616 : Cond.instanceMethod yX6_isWord ∈ mw := mw_in 616 (by decide +kernel) rfl
theorem q617 : Cond.selects RX6 yX6_isWord yX6_isWord ∈ mw := mw_in 617 (by decide +kernel) rfl
theorem q618 : Cond.code yX6_isWord cX6_isWord 3 (Option.some Jvm.ClassFile.FieldType.boolean) ∈ mw := mw_in 618 (by decide +kernel) rfl
theorem q619 : Cond.methodLink RX6 56 yJ0_length_8abf5 ∈ mw := mw_in 619 (by decide +kernel) rfl
theorem q629 : Cond.methodLink RX6 62 yJ0_charAt_5068e ∈ mw := mw_in 629 (by decide +kernel) rfl
theorem q667 : Cond.methodLink RX6 73 yX6_breakOff ∈ mw := mw_in 667 (by decide +kernel) rfl
theorem q668 : Cond.instanceMethod yX6_breakOff ∈ mw := mw_in 668 (by decide +kernel) rfl
theorem q669 : Cond.selects RX6 yX6_breakOff yX6_breakOff ∈ mw := mw_in 669 (by decide +kernel) rfl
theorem q670 : Cond.code yX6_breakOff cX6_breakOff 1 (Option.none : Option Jvm.ClassFile.FieldType) ∈ mw := mw_in 670 (by decide +kernel) rfl
theorem q671 : Cond.methodLink RX5 52 yX6_needNumber_ ∈ mw := mw_in 671 (by decide +kernel) rfl
theorem q672 : Cond.instanceMethod yX6_needNumber_ ∈ mw := mw_in 672 (by decide +kernel) rfl
theorem q673 : Cond.selects RX6 yX6_needNumber_ yX6_needNumber_ ∈ mw := mw_in 673 (by decide +kernel) rfl
theorem q674 : Cond.code yX6_needNumber_ cX6_needNumber_ 5 (Option.some Jvm.ClassFile.FieldType.int) ∈ mw := mw_in 674 (by decide +kernel) rfl
theorem q675 : Cond.methodLink RX6 80 yX6_needNumber ∈ mw := mw_in 675 (by decide +kernel) rfl
theorem q676 : Cond.instanceMethod yX6_needNumber ∈ mw := mw_in 676 (by decide +kernel) rfl
theorem q677 : Cond.selects RX6 yX6_needNumber yX6_needNumber ∈ mw := mw_in 677 (by decide +kernel) rfl
theorem q678 : Cond.code yX6_needNumber cX6_needNumber 2 (Option.some Jvm.ClassFile.FieldType.int) ∈ mw := mw_in 678 (by decide +kernel) rfl
theorem q679 : Cond.methodLink RX6 83 yX6_note ∈ mw := mw_in 679 (by decide +kernel) rfl
theorem q680 : Cond.instanceMethod yX6_note ∈ mw := mw_in 680 (by decide +kernel) rfl
theorem q681 : Cond.selects RX6 yX6_note yX6_note ∈ mw := mw_in 681 (by decide +kernel) rfl
theorem q682 : Cond.code yX6_note cX6_note 3 (Option.none : Option Jvm.ClassFile.FieldType) ∈ mw := mw_in 682 (by decide +kernel) rfl
theorem q683 : Cond.methodLink RX5 56 yX6_needSign ∈ mw := mw_in 683 (by decide +kernel) rfl
theorem q684 : Cond.instanceMethod yX6_needSign ∈ mw := mw_in 684 (by decide +kernel) rfl
theorem q685 : Cond.selects RX6 yX6_needSign yX6_needSign ∈ mw := mw_in 685 (by decide +kernel) rfl
theorem q686 : Cond.code yX6_needSign cX6_needSign 2 (Option.none : Option Jvm.ClassFile.FieldType) ∈ mw := mw_in 686 (by decide +kernel) rfl
theorem q687 : Cond.methodLink RX6 76 yX6_isSign ∈ mw := mw_in 687 (by decide +kernel) rfl
theorem q688 : Cond.instanceMethod yX6_isSign ∈ mw := mw_in 688 (by decide +kernel) rfl
theorem q689 : Cond.selects RX6 yX6_isSign yX6_isSign ∈ mw := mw_in 689 (by decide +kernel) rfl
theorem q690 : Cond.code yX6_isSign cX6_isSign 2 (Option.some Jvm.ClassFile.FieldType.boolean) ∈ mw := mw_in 690 (by decide +kernel) rfl
theorem q691 : Cond.methodLink RX5 60 yX4_clear ∈ mw := mw_in 691 (by decide +kernel) rfl
theorem q692 : Cond.instanceMethod yX4_clear ∈ mw := mw_in 692 (by decide +kernel) rfl
theorem q693 : Cond.selects RX4 yX4_clear yX4_clear ∈ mw := mw_in 693 (by decide +kernel) rfl
theorem q694 : Cond.code yX4_clear cX4_clear 4 (Option.none : Option Jvm.ClassFile.FieldType) ∈ mw := mw_in 694 (by decide +kernel) rfl
theorem q695 : Cond.methodLink RX4 40 yJ9_min_7cf53 ∈ mw := mw_in 695 (by decide +kernel) rfl
theorem q696 : Cond.methodLink RX4 46 yJ9_max_7cf53 ∈ mw := mw_in 696 (by decide +kernel) rfl
theorem q697 : Cond.methodLink RX5 28 yX6_goesOn ∈ mw := mw_in 697 (by decide +kernel) rfl
theorem q698 : Cond.instanceMethod yX6_goesOn ∈ mw := mw_in 698 (by decide +kernel) rfl
theorem q699 : Cond.selects RX6 yX6_goesOn yX6_goesOn ∈ mw := mw_in 699 (by decide +kernel) rfl
theorem q700 : Cond.code yX6_goesOn cX6_goesOn 1 (Option.some Jvm.ClassFile.FieldType.boolean) ∈ mw := mw_in 700 (by decide +kernel) rfl
theorem q701 : Cond.methodLink RX5 36 yX6_note ∈ mw := mw_in 701 (by decide +kernel) rfl
theorem q702 : Cond.methodLink RX5 40 yX5_readLine ∈ mw := mw_in 702 (by decide +kernel) rfl
theorem q704 : Cond.instanceMethod yX5_readLine ∈ mw := mw_in 704 (by decide +kernel) rfl
theorem q705 : Cond.code yX5_readLine cX5_readLine 2 (Option.none : Option Jvm.ClassFile.FieldType) ∈ mw := mw_in 705 (by decide +kernel) rfl
theorem q707 : Cond.methodLink RX5 67 yX6_takesWord ∈ mw := mw_in 707 (by decide +kernel) rfl
theorem q708 : Cond.methodLink RX5 71 yX5_readWall ∈ mw := mw_in 708 (by decide +kernel) rfl
theorem q710 : Cond.instanceMethod yX5_readWall ∈ mw := mw_in 710 (by decide +kernel) rfl
theorem q711 : Cond.code yX5_readWall cX5_readWall 4 (Option.none : Option Jvm.ClassFile.FieldType) ∈ mw := mw_in 711 (by decide +kernel) rfl
theorem q712 : Cond.methodLink RX5 115 yX5_isOpen ∈ mw := mw_in 712 (by decide +kernel) rfl
theorem q714 : Cond.instanceMethod yX5_isOpen ∈ mw := mw_in 714 (by decide +kernel) rfl
theorem q715 : Cond.code yX5_isOpen cX5_isOpen 4 (Option.some Jvm.ClassFile.FieldType.boolean) ∈ mw := mw_in 715 (by decide +kernel) rfl
theorem q716 : Cond.methodLink RX5 43 yX6_isSound ∈ mw := mw_in 716 (by decide +kernel) rfl
theorem q717 : Cond.instanceMethod yX6_isSound ∈ mw := mw_in 717 (by decide +kernel) rfl
theorem q718 : Cond.selects RX6 yX6_isSound yX6_isSound ∈ mw := mw_in 718 (by decide +kernel) rfl
theorem q719 : Cond.code yX6_isSound cX6_isSound 1 (Option.some Jvm.ClassFile.FieldType.boolean) ∈ mw := mw_in 719 (by decide +kernel) rfl
theorem q720 : Cond.methodLink RX5 134 yX4_isTaken ∈ mw := mw_in 720 (by decide +kernel) rfl
theorem q721 : Cond.instanceMethod yX4_isTaken ∈ mw := mw_in 721 (by decide +kernel) rfl
theorem q722 : Cond.selects RX4 yX4_isTaken yX4_isTaken ∈ mw := mw_in 722 (by decide +kernel) rfl
theorem q723 : Cond.code yX4_isTaken cX4_isTaken 4 (Option.some Jvm.ClassFile.FieldType.boolean) ∈ mw := mw_in 723 (by decide +kernel) rfl
theorem q724 : Cond.methodLink RX4 72 yX4_isWall ∈ mw := mw_in 724 (by decide +kernel) rfl
theorem q725 : Cond.instanceMethod yX4_isWall ∈ mw := mw_in 725 (by decide +kernel) rfl
theorem q726 : Cond.selects RX4 yX4_isWall yX4_isWall ∈ mw := mw_in 726 (by decide +kernel) rfl
theorem q727 : Cond.code yX4_isWall cX4_isWall 3 (Option.some Jvm.ClassFile.FieldType.boolean) ∈ mw := mw_in 727 (by decide +kernel) rfl
theorem q728 : Cond.methodLink RX4 68 yX4_isInside ∈ mw := mw_in 728 (by decide +kernel) rfl
theorem q729 : Cond.instanceMethod yX4_isInside ∈ mw := mw_in 729 (by decide +kernel) rfl
theorem q730 : Cond.selects RX4 yX4_isInside yX4_isInside ∈ mw := mw_in 730 (by decide +kernel) rfl
theorem q731 : Cond.code yX4_isInside cX4_isInside 3 (Option.some Jvm.ClassFile.FieldType.boolean) ∈ mw := mw_in 731 (by decide +kernel) rfl
theorem q732 : Cond.methodLink RX5 119 yX4_setWall ∈ mw := mw_in 732 (by decide +kernel) rfl
theorem q733 : Cond.instanceMethod yX4_setWall ∈ mw := mw_in 733 (by decide +kernel) rfl
theorem q734 : Cond.selects RX4 yX4_setWall yX4_setWall ∈ mw := mw_in 734 (by decide +kernel) rfl
theorem q735 : Cond.code yX4_setWall cX4_setWall 4 (Option.none : Option Jvm.ClassFile.FieldType) ∈ mw := mw_in 735 (by decide +kernel) rfl
theorem q737 : Cond.methodLink RX5 76 yX5_readWalker ∈ mw := mw_in 737 (by decide +kernel) rfl
theorem q739 : Cond.instanceMethod yX5_readWalker ∈ mw := mw_in 739 (by decide +kernel) rfl
theorem q740 : Cond.code yX5_readWalker cX5_readWalker 6 (Option.none : Option Jvm.ClassFile.FieldType) ∈ mw := mw_in 740 (by decide +kernel) rfl
theorem q743 : Cond.methodLink RX5 130 yX4_addWalker ∈ mw := mw_in 743 (by decide +kernel) rfl
theorem q744 : Cond.instanceMethod yX4_addWalker ∈ mw := mw_in 744 (by decide +kernel) rfl
theorem q745 : Cond.selects RX4 yX4_addWalker yX4_addWalker ∈ mw := mw_in 745 (by decide +kernel) rfl
theorem q746 : Cond.code yX4_addWalker cX4_addWalker 5 (Option.none : Option Jvm.ClassFile.FieldType) ∈ mw := mw_in 746 (by decide +kernel) rfl
theorem q748 : Cond.methodLink RX5 84 yX5_readTrait ∈ mw := mw_in 748 (by decide +kernel) rfl
theorem q750 : Cond.instanceMethod yX5_readTrait ∈ mw := mw_in 750 (by decide +kernel) rfl
theorem q751 : Cond.code yX5_readTrait cX5_readTrait 6 (Option.none : Option Jvm.ClassFile.FieldType) ∈ mw := mw_in 751 (by decide +kernel) rfl
theorem q755 : Cond.methodLink RX5 98 yX5_readHand ∈ mw := mw_in 755 (by decide +kernel) rfl
theorem q757 : Cond.instanceMethod yX5_readHand ∈ mw := mw_in 757 (by decide +kernel) rfl
theorem q758 : Cond.code yX5_readHand cX5_readHand 3 (Option.none : Option Jvm.ClassFile.FieldType) ∈ mw := mw_in 758 (by decide +kernel) rfl
theorem q761 : Cond.methodLink RX5 142 yX4_has ∈ mw := mw_in 761 (by decide +kernel) rfl
theorem q762 : Cond.instanceMethod yX4_has ∈ mw := mw_in 762 (by decide +kernel) rfl
theorem q763 : Cond.selects RX4 yX4_has yX4_has ∈ mw := mw_in 763 (by decide +kernel) rfl
theorem q764 : Cond.code yX4_has cX4_has 2 (Option.some Jvm.ClassFile.FieldType.boolean) ∈ mw := mw_in 764 (by decide +kernel) rfl
theorem q766 : Cond.methodLink RX5 103 yX5_readFriends ∈ mw := mw_in 766 (by decide +kernel) rfl
theorem q768 : Cond.instanceMethod yX5_readFriends ∈ mw := mw_in 768 (by decide +kernel) rfl
theorem q769 : Cond.code yX5_readFriends cX5_readFriends 4 (Option.none : Option Jvm.ClassFile.FieldType) ∈ mw := mw_in 769 (by decide +kernel) rfl
theorem q770 : Cond.methodLink RX5 148 yX4_befriend ∈ mw := mw_in 770 (by decide +kernel) rfl
theorem q771 : Cond.instanceMethod yX4_befriend ∈ mw := mw_in 771 (by decide +kernel) rfl
theorem q772 : Cond.selects RX4 yX4_befriend yX4_befriend ∈ mw := mw_in 772 (by decide +kernel) rfl
theorem q773 : Cond.code yX4_befriend cX4_befriend 3 (Option.none : Option Jvm.ClassFile.FieldType) ∈ mw := mw_in 773 (by decide +kernel) rfl
theorem q774 : Cond.methodLink RX4 75 yX4_has ∈ mw := mw_in 774 (by decide +kernel) rfl
theorem q775 : Cond.methodLink RX4 79 yX4_unfriend ∈ mw := mw_in 775 (by decide +kernel) rfl
theorem q777 : Cond.instanceMethod yX4_unfriend ∈ mw := mw_in 777 (by decide +kernel) rfl
theorem q778 : Cond.code yX4_unfriend cX4_unfriend 3 (Option.none : Option Jvm.ClassFile.FieldType) ∈ mw := mw_in 778 (by decide +kernel) rfl
theorem q779 : Cond.methodLink RX5 106 yX6_breakOff ∈ mw := mw_in 779 (by decide +kernel) rfl
theorem q780 : Cond.methodLink RX9 116 yX7_keepPassage ∈ mw := mw_in 780 (by decide +kernel) rfl
theorem q781 : Cond.instanceMethod yX7_keepPassage ∈ mw := mw_in 781 (by decide +kernel) rfl
theorem q782 : Cond.selects RX7 yX7_keepPassage yX7_keepPassage ∈ mw := mw_in 782 (by decide +kernel) rfl
theorem q783 : Cond.code yX7_keepPassage cX7_keepPassage 3 (Option.none : Option Jvm.ClassFile.FieldType) ∈ mw := mw_in 783 (by decide +kernel) rfl
theorem q784 : Cond.methodLink RX7 69 yX4_copyFrom ∈ mw := mw_in 784 (by decide +kernel) rfl
theorem q785 : Cond.instanceMethod yX4_copyFrom ∈ mw := mw_in 785 (by decide +kernel) rfl
theorem q786 : Cond.selects RX4 yX4_copyFrom yX4_copyFrom ∈ mw := mw_in 786 (by decide +kernel) rfl
theorem q787 : Cond.code yX4_copyFrom cX4_copyFrom 2 (Option.none : Option Jvm.ClassFile.FieldType) ∈ mw := mw_in 787 (by decide +kernel) rfl
theorem q788 : Cond.methodLink RX4 62 ⟨"java/lang/System", "arraycopy", "(Ljava/lang/Object;ILjava/lang/Object;II)V"⟩ ∈ mw := mw_in 788 (by decide +kernel) rfl
theorem q789 : Cond.static ⟨"java/lang/System", "arraycopy", "(Ljava/lang/Object;ILjava/lang/Object;II)V"⟩ ∈ mw := mw_in 789 (by decide +kernel) rfl
theorem q790 : Cond.native ⟨"java/lang/System", "arraycopy", "(Ljava/lang/Object;ILjava/lang/Object;II)V"⟩ ∈ mw := mw_in 790 (by decide +kernel) rfl
theorem q791 : Cond.methodLink RX7 73 yJ9_max_7cf53 ∈ mw := mw_in 791 (by decide +kernel) rfl
theorem q796 : Cond.methodLink RX9 123 yX3_read ∈ mw := mw_in 796 (by decide +kernel) rfl
theorem q797 : Cond.instanceMethod yX3_read ∈ mw := mw_in 797 (by decide +kernel) rfl
theorem q798 : Cond.selects RX3 yX3_read yX3_read ∈ mw := mw_in 798 (by decide +kernel) rfl
theorem q799 : Cond.code yX3_read cX3_read 3 (Option.some Jvm.ClassFile.FieldType.boolean) ∈ mw := mw_in 799 (by decide +kernel) rfl
theorem q800 : Cond.methodLink RX3 19 yX6_open ∈ mw := mw_in 800 (by decide +kernel) rfl
theorem q801 : Cond.methodLink RX3 31 yX6_goesOn ∈ mw := mw_in 801 (by decide +kernel) rfl
theorem q802 : Cond.methodLink RX3 38 yX6_note ∈ mw := mw_in 802 (by decide +kernel) rfl
theorem q803 : Cond.methodLink RX3 42 yX3_readRule ∈ mw := mw_in 803 (by decide +kernel) rfl
theorem q805 : Cond.instanceMethod yX3_readRule ∈ mw := mw_in 805 (by decide +kernel) rfl
theorem q806 : Cond.code yX3_readRule cX3_readRule 3 (Option.none : Option Jvm.ClassFile.FieldType) ∈ mw := mw_in 806 (by decide +kernel) rfl
theorem q808 : Cond.methodLink RX3 50 yX6_takesWord ∈ mw := mw_in 808 (by decide +kernel) rfl
theorem q809 : Cond.methodLink RX3 54 yX3_readTest ∈ mw := mw_in 809 (by decide +kernel) rfl
theorem q811 : Cond.instanceMethod yX3_readTest ∈ mw := mw_in 811 (by decide +kernel) rfl
theorem q812 : Cond.code yX3_readTest cX3_readTest 6 (Option.none : Option Jvm.ClassFile.FieldType) ∈ mw := mw_in 812 (by decide +kernel) rfl
theorem q814 : Cond.methodLink RX3 72 yX3_readFind ∈ mw := mw_in 814 (by decide +kernel) rfl
theorem q816 : Cond.instanceMethod yX3_readFind ∈ mw := mw_in 816 (by decide +kernel) rfl
theorem q817 : Cond.code yX3_readFind cX3_readFind 2 (Option.some Jvm.ClassFile.FieldType.int) ∈ mw := mw_in 817 (by decide +kernel) rfl
theorem q818 : Cond.methodLink RX3 85 yX3_findWord ∈ mw := mw_in 818 (by decide +kernel) rfl
theorem q819 : Cond.static yX3_findWord ∈ mw := mw_in 819 (by decide +kernel) rfl
theorem q820 : Cond.code yX3_findWord cX3_findWord 1 (Option.some (Jvm.ClassFile.FieldType.object "java/lang/String")) ∈ mw := mw_in 820 (by decide +kernel) rfl
theorem q832 : Cond.methodLink RX3 89 yX6_breakOff ∈ mw := mw_in 832 (by decide +kernel) rfl
theorem q833 : Cond.methodLink RX3 75 yX3_readSign ∈ mw := mw_in 833 (by decide +kernel) rfl
theorem q835 : Cond.instanceMethod yX3_readSign ∈ mw := mw_in 835 (by decide +kernel) rfl
theorem q836 : Cond.code yX3_readSign cX3_readSign 1 (Option.some Jvm.ClassFile.FieldType.int) ∈ mw := mw_in 836 (by decide +kernel) rfl
theorem q837 : Cond.methodLink RX3 92 yX6_isSign ∈ mw := mw_in 837 (by decide +kernel) rfl
theorem q838 : Cond.methodLink RX3 96 yX6_step ∈ mw := mw_in 838 (by decide +kernel) rfl
theorem q839 : Cond.methodLink RX3 59 yX6_needSign ∈ mw := mw_in 839 (by decide +kernel) rfl
theorem q840 : Cond.methodLink RX3 78 yX6_needNumber ∈ mw := mw_in 840 (by decide +kernel) rfl
theorem q841 : Cond.methodLink RX3 45 yX6_isSound ∈ mw := mw_in 841 (by decide +kernel) rfl
theorem q842 : Cond.methodLink RX3 81 yX2_setTest ∈ mw := mw_in 842 (by decide +kernel) rfl
theorem q843 : Cond.instanceMethod yX2_setTest ∈ mw := mw_in 843 (by decide +kernel) rfl
theorem q844 : Cond.selects RX2 yX2_setTest yX2_setTest ∈ mw := mw_in 844 (by decide +kernel) rfl
theorem q845 : Cond.code yX2_setTest cX2_setTest 7 (Option.none : Option Jvm.ClassFile.FieldType) ∈ mw := mw_in 845 (by decide +kernel) rfl
theorem q847 : Cond.methodLink RX3 63 yX3_readDeed ∈ mw := mw_in 847 (by decide +kernel) rfl
theorem q849 : Cond.instanceMethod yX3_readDeed ∈ mw := mw_in 849 (by decide +kernel) rfl
theorem q850 : Cond.code yX3_readDeed cX3_readDeed 2 (Option.some Jvm.ClassFile.FieldType.int) ∈ mw := mw_in 850 (by decide +kernel) rfl
theorem q851 : Cond.methodLink RX3 99 yX3_deedWord ∈ mw := mw_in 851 (by decide +kernel) rfl
theorem q852 : Cond.static yX3_deedWord ∈ mw := mw_in 852 (by decide +kernel) rfl
theorem q853 : Cond.code yX3_deedWord cX3_deedWord 1 (Option.some (Jvm.ClassFile.FieldType.object "java/lang/String")) ∈ mw := mw_in 853 (by decide +kernel) rfl
theorem q858 : Cond.methodLink RX3 67 yX2_addRule ∈ mw := mw_in 858 (by decide +kernel) rfl
theorem q859 : Cond.instanceMethod yX2_addRule ∈ mw := mw_in 859 (by decide +kernel) rfl
theorem q860 : Cond.selects RX2 yX2_addRule yX2_addRule ∈ mw := mw_in 860 (by decide +kernel) rfl
theorem q861 : Cond.code yX2_addRule cX2_addRule 3 (Option.none : Option Jvm.ClassFile.FieldType) ∈ mw := mw_in 861 (by decide +kernel) rfl
theorem q862 : Cond.methodLink RX2 41 yJ9_min_7cf53 ∈ mw := mw_in 862 (by decide +kernel) rfl
theorem q863 : Cond.methodLink RX2 47 yJ9_max_7cf53 ∈ mw := mw_in 863 (by decide +kernel) rfl
theorem q864 : Cond.methodLink RX9 124 yX7_keepLaw ∈ mw := mw_in 864 (by decide +kernel) rfl
theorem q865 : Cond.instanceMethod yX7_keepLaw ∈ mw := mw_in 865 (by decide +kernel) rfl
theorem q866 : Cond.selects RX7 yX7_keepLaw yX7_keepLaw ∈ mw := mw_in 866 (by decide +kernel) rfl
theorem q867 : Cond.code yX7_keepLaw cX7_keepLaw 3 (Option.none : Option Jvm.ClassFile.FieldType) ∈ mw := mw_in 867 (by decide +kernel) rfl
theorem q868 : Cond.methodLink RX7 79 yX2_copyFrom ∈ mw := mw_in 868 (by decide +kernel) rfl
theorem q869 : Cond.instanceMethod yX2_copyFrom ∈ mw := mw_in 869 (by decide +kernel) rfl
theorem q870 : Cond.selects RX2 yX2_copyFrom yX2_copyFrom ∈ mw := mw_in 870 (by decide +kernel) rfl
theorem q871 : Cond.code yX2_copyFrom cX2_copyFrom 2 (Option.none : Option Jvm.ClassFile.FieldType) ∈ mw := mw_in 871 (by decide +kernel) rfl
theorem q872 : Cond.methodLink RX2 35 ⟨"java/lang/System", "arraycopy", "(Ljava/lang/Object;ILjava/lang/Object;II)V"⟩ ∈ mw := mw_in 872 (by decide +kernel) rfl
theorem q881 : Cond.methodLink RX9 128 yX7_passageOf ∈ mw := mw_in 881 (by decide +kernel) rfl
theorem q882 : Cond.instanceMethod yX7_passageOf ∈ mw := mw_in 882 (by decide +kernel) rfl
theorem q883 : Cond.selects RX7 yX7_passageOf yX7_passageOf ∈ mw := mw_in 883 (by decide +kernel) rfl
theorem q884 : Cond.code yX7_passageOf cX7_passageOf 2 (Option.some (Jvm.ClassFile.FieldType.object "PavementWalk$Passage")) ∈ mw := mw_in 884 (by decide +kernel) rfl
theorem q889 : Cond.methodLink RX9 144 yX4_has ∈ mw := mw_in 889 (by decide +kernel) rfl
theorem q894 : Cond.methodLink RX9 172 yX7_lawOf ∈ mw := mw_in 894 (by decide +kernel) rfl
theorem q895 : Cond.instanceMethod yX7_lawOf ∈ mw := mw_in 895 (by decide +kernel) rfl
theorem q896 : Cond.selects RX7 yX7_lawOf yX7_lawOf ∈ mw := mw_in 896 (by decide +kernel) rfl
theorem q897 : Cond.code yX7_lawOf cX7_lawOf 2 (Option.some (Jvm.ClassFile.FieldType.object "PavementWalk$Law")) ∈ mw := mw_in 897 (by decide +kernel) rfl
theorem q902 : Cond.methodLink RX9 180 yX4_copyFrom ∈ mw := mw_in 902 (by decide +kernel) rfl
theorem q903 : Cond.methodLink RX9 185 yX2_copyFrom ∈ mw := mw_in 903 (by decide +kernel) rfl
theorem q904 : Cond.methodLink RX9 191 yX8_begin ∈ mw := mw_in 904 (by decide +kernel) rfl
theorem q905 : Cond.instanceMethod yX8_begin ∈ mw := mw_in 905 (by decide +kernel) rfl
theorem q906 : Cond.selects RX8 yX8_begin yX8_begin ∈ mw := mw_in 906 (by decide +kernel) rfl
theorem q907 : Cond.code yX8_begin cX8_begin 3 (Option.none : Option Jvm.ClassFile.FieldType) ∈ mw := mw_in 907 (by decide +kernel) rfl
theorem q908 : Cond.methodLink RX8 75 ⟨"java/lang/System", "arraycopy", "(Ljava/lang/Object;ILjava/lang/Object;II)V"⟩ ∈ mw := mw_in 908 (by decide +kernel) rfl
theorem q909 : Cond.methodLink RX8 82 yJ7_fill_53178 ∈ mw := mw_in 909 (by decide +kernel) rfl
theorem q910 : Cond.static yJ7_fill_53178 ∈ mw := mw_in 910 (by decide +kernel) rfl
theorem q911 : Cond.code yJ7_fill_53178 cJ7_fill_53178 4 (Option.none : Option Jvm.ClassFile.FieldType) ∈ mw := mw_in 911 (by decide +kernel) rfl
theorem q912 : Cond.methodLink RX8 88 yX8_sortByHaste ∈ mw := mw_in 912 (by decide +kernel) rfl
theorem q914 : Cond.instanceMethod yX8_sortByHaste ∈ mw := mw_in 914 (by decide +kernel) rfl
theorem q915 : Cond.code yX8_sortByHaste cX8_sortByHaste 4 (Option.none : Option Jvm.ClassFile.FieldType) ∈ mw := mw_in 915 (by decide +kernel) rfl
theorem q920 : Cond.methodLink RX9 198 yX8_pass ∈ mw := mw_in 920 (by decide +kernel) rfl
theorem q921 : Cond.instanceMethod yX8_pass ∈ mw := mw_in 921 (by decide +kernel) rfl
theorem q922 : Cond.selects RX8 yX8_pass yX8_pass ∈ mw := mw_in 922 (by decide +kernel) rfl
theorem q923 : Cond.code yX8_pass cX8_pass 2 (Option.some Jvm.ClassFile.FieldType.int) ∈ mw := mw_in 923 (by decide +kernel) rfl
theorem q924 : Cond.methodLink RX8 166 yX8_deed ∈ mw := mw_in 924 (by decide +kernel) rfl
theorem q925 : Cond.instanceMethod yX8_deed ∈ mw := mw_in 925 (by decide +kernel) rfl
theorem q926 : Cond.selects RX8 yX8_deed yX8_deed ∈ mw := mw_in 926 (by decide +kernel) rfl
theorem q927 : Cond.code yX8_deed cX8_deed 3 (Option.some Jvm.ClassFile.FieldType.int) ∈ mw := mw_in 927 (by decide +kernel) rfl
theorem q928 : Cond.methodLink RX8 157 yX8_look ∈ mw := mw_in 928 (by decide +kernel) rfl
theorem q929 : Cond.instanceMethod yX8_look ∈ mw := mw_in 929 (by decide +kernel) rfl
theorem q930 : Cond.selects RX8 yX8_look yX8_look ∈ mw := mw_in 930 (by decide +kernel) rfl
theorem q931 : Cond.code yX8_look cX8_look 5 (Option.none : Option Jvm.ClassFile.FieldType) ∈ mw := mw_in 931 (by decide +kernel) rfl
theorem q932 : Cond.methodLink RX8 104 yX8_freeSteps ∈ mw := mw_in 932 (by decide +kernel) rfl
theorem q934 : Cond.instanceMethod yX8_freeSteps ∈ mw := mw_in 934 (by decide +kernel) rfl
theorem q935 : Cond.code yX8_freeSteps cX8_freeSteps 10 (Option.some Jvm.ClassFile.FieldType.int) ∈ mw := mw_in 935 (by decide +kernel) rfl
theorem q936 : Cond.methodLink RX8 134 yX8_stepsToWall ∈ mw := mw_in 936 (by decide +kernel) rfl
theorem q938 : Cond.instanceMethod yX8_stepsToWall ∈ mw := mw_in 938 (by decide +kernel) rfl
theorem q939 : Cond.code yX8_stepsToWall cX8_stepsToWall 7 (Option.some Jvm.ClassFile.FieldType.int) ∈ mw := mw_in 939 (by decide +kernel) rfl
theorem q940 : Cond.methodLink RX8 137 yX8_pastOf ∈ mw := mw_in 940 (by decide +kernel) rfl
theorem q942 : Cond.instanceMethod yX8_pastOf ∈ mw := mw_in 942 (by decide +kernel) rfl
theorem q943 : Cond.code yX8_pastOf cX8_pastOf 2 (Option.some Jvm.ClassFile.FieldType.int) ∈ mw := mw_in 943 (by decide +kernel) rfl
theorem q944 : Cond.methodLink RX8 125 yJ9_min_7cf53 ∈ mw := mw_in 944 (by decide +kernel) rfl
theorem q945 : Cond.methodLink RX8 131 yJ9_max_7cf53 ∈ mw := mw_in 945 (by decide +kernel) rfl
theorem q946 : Cond.methodLink RX8 114 yX8_soon ∈ mw := mw_in 946 (by decide +kernel) rfl
theorem q947 : Cond.static yX8_soon ∈ mw := mw_in 947 (by decide +kernel) rfl
theorem q948 : Cond.code yX8_soon cX8_soon 5 (Option.some Jvm.ClassFile.FieldType.int) ∈ mw := mw_in 948 (by decide +kernel) rfl
theorem q949 : Cond.methodLink RX8 118 yX8_lookAround ∈ mw := mw_in 949 (by decide +kernel) rfl
theorem q951 : Cond.instanceMethod yX8_lookAround ∈ mw := mw_in 951 (by decide +kernel) rfl
theorem q952 : Cond.code yX8_lookAround cX8_lookAround 5 (Option.none : Option Jvm.ClassFile.FieldType) ∈ mw := mw_in 952 (by decide +kernel) rfl
theorem q953 : Cond.methodLink RX8 151 yJ9_abs_0f7a4 ∈ mw := mw_in 953 (by decide +kernel) rfl
theorem q954 : Cond.static yJ9_abs_0f7a4 ∈ mw := mw_in 954 (by decide +kernel) rfl
theorem q955 : Cond.code yJ9_abs_0f7a4 cJ9_abs_0f7a4 1 (Option.some Jvm.ClassFile.FieldType.int) ∈ mw := mw_in 955 (by decide +kernel) rfl
theorem q956 : Cond.methodLink RX8 160 yX2_deedFor ∈ mw := mw_in 956 (by decide +kernel) rfl
theorem q957 : Cond.instanceMethod yX2_deedFor ∈ mw := mw_in 957 (by decide +kernel) rfl
theorem q958 : Cond.selects RX2 yX2_deedFor yX2_deedFor ∈ mw := mw_in 958 (by decide +kernel) rfl
theorem q959 : Cond.code yX2_deedFor cX2_deedFor 3 (Option.some Jvm.ClassFile.FieldType.int) ∈ mw := mw_in 959 (by decide +kernel) rfl
theorem q960 : Cond.methodLink RX2 50 yX2_holds ∈ mw := mw_in 960 (by decide +kernel) rfl
theorem q962 : Cond.instanceMethod yX2_holds ∈ mw := mw_in 962 (by decide +kernel) rfl
theorem q963 : Cond.code yX2_holds cX2_holds 7 (Option.some Jvm.ClassFile.FieldType.boolean) ∈ mw := mw_in 963 (by decide +kernel) rfl
theorem q964 : Cond.methodLink RX8 169 yX8_needsLot ∈ mw := mw_in 964 (by decide +kernel) rfl
theorem q965 : Cond.instanceMethod yX8_needsLot ∈ mw := mw_in 965 (by decide +kernel) rfl
theorem q966 : Cond.selects RX8 yX8_needsLot yX8_needsLot ∈ mw := mw_in 966 (by decide +kernel) rfl
theorem q967 : Cond.code yX8_needsLot cX8_needsLot 2 (Option.some Jvm.ClassFile.FieldType.boolean) ∈ mw := mw_in 967 (by decide +kernel) rfl
theorem q968 : Cond.methodLink RX8 172 yX8_draw ∈ mw := mw_in 968 (by decide +kernel) rfl
theorem q970 : Cond.instanceMethod yX8_draw ∈ mw := mw_in 970 (by decide +kernel) rfl
theorem q971 : Cond.code yX8_draw cX8_draw 1 (Option.some Jvm.ClassFile.FieldType.boolean) ∈ mw := mw_in 971 (by decide +kernel) rfl
theorem q972 : Cond.constant RX8 183 (1103515245) ∈ mw := mw_in 972 (by decide +kernel) rfl
theorem q973 : Cond.methodLink RX8 176 yX8_move ∈ mw := mw_in 973 (by decide +kernel) rfl
theorem q974 : Cond.instanceMethod yX8_move ∈ mw := mw_in 974 (by decide +kernel) rfl
theorem q975 : Cond.selects RX8 yX8_move yX8_move ∈ mw := mw_in 975 (by decide +kernel) rfl
theorem q976 : Cond.code yX8_move cX8_move 4 (Option.some Jvm.ClassFile.FieldType.int) ∈ mw := mw_in 976 (by decide +kernel) rfl
theorem q977 : Cond.methodLink RX8 184 yX8_goes ∈ mw := mw_in 977 (by decide +kernel) rfl
theorem q979 : Cond.instanceMethod yX8_goes ∈ mw := mw_in 979 (by decide +kernel) rfl
theorem q980 : Cond.code yX8_goes cX8_goes 9 (Option.some Jvm.ClassFile.FieldType.boolean) ∈ mw := mw_in 980 (by decide +kernel) rfl
theorem q981 : Cond.methodLink RX8 190 yX8_isThere ∈ mw := mw_in 981 (by decide +kernel) rfl
theorem q982 : Cond.instanceMethod yX8_isThere ∈ mw := mw_in 982 (by decide +kernel) rfl
theorem q983 : Cond.selects RX8 yX8_isThere yX8_isThere ∈ mw := mw_in 983 (by decide +kernel) rfl
theorem q984 : Cond.code yX8_isThere cX8_isThere 2 (Option.some Jvm.ClassFile.FieldType.boolean) ∈ mw := mw_in 984 (by decide +kernel) rfl
theorem q985 : Cond.methodLink RX8 97 yX4_has ∈ mw := mw_in 985 (by decide +kernel) rfl
theorem q986 : Cond.methodLink RX8 193 yX4_isInside ∈ mw := mw_in 986 (by decide +kernel) rfl
theorem q987 : Cond.methodLink RX8 197 yX8_arrive ∈ mw := mw_in 987 (by decide +kernel) rfl
theorem q989 : Cond.instanceMethod yX8_arrive ∈ mw := mw_in 989 (by decide +kernel) rfl
theorem q990 : Cond.code yX8_arrive cX8_arrive 2 (Option.none : Option Jvm.ClassFile.FieldType) ∈ mw := mw_in 990 (by decide +kernel) rfl
theorem q991 : Cond.methodLink RX8 200 yX4_isWall ∈ mw := mw_in 991 (by decide +kernel) rfl
theorem q992 : Cond.methodLink RX8 203 yX8_whoIsOn ∈ mw := mw_in 992 (by decide +kernel) rfl
theorem q993 : Cond.instanceMethod yX8_whoIsOn ∈ mw := mw_in 993 (by decide +kernel) rfl
theorem q994 : Cond.selects RX8 yX8_whoIsOn yX8_whoIsOn ∈ mw := mw_in 994 (by decide +kernel) rfl
theorem q995 : Cond.code yX8_whoIsOn cX8_whoIsOn 4 (Option.some Jvm.ClassFile.FieldType.int) ∈ mw := mw_in 995 (by decide +kernel) rfl
theorem q996 : Cond.methodLink RX8 206 yX8_passDoor ∈ mw := mw_in 996 (by decide +kernel) rfl
theorem q998 : Cond.instanceMethod yX8_passDoor ∈ mw := mw_in 998 (by decide +kernel) rfl
theorem q999 : Cond.code yX8_passDoor cX8_passDoor 4 (Option.none : Option Jvm.ClassFile.FieldType) ∈ mw := mw_in 999 (by decide +kernel) rfl
theorem q1000 : Cond.methodLink RX8 187 yX8_dancesNow ∈ mw := mw_in 1000 (by decide +kernel) rfl
theorem q1002 : Cond.instanceMethod yX8_dancesNow ∈ mw := mw_in 1002 (by decide +kernel) rfl
theorem q1003 : Cond.code yX8_dancesNow cX8_dancesNow 4 (Option.some Jvm.ClassFile.FieldType.int) ∈ mw := mw_in 1003 (by decide +kernel) rfl
theorem q1004 : Cond.methodLink RX8 210 yX8_danced ∈ mw := mw_in 1004 (by decide +kernel) rfl
theorem q1006 : Cond.instanceMethod yX8_danced ∈ mw := mw_in 1006 (by decide +kernel) rfl
theorem q1007 : Cond.code yX8_danced cX8_danced 6 (Option.some Jvm.ClassFile.FieldType.boolean) ∈ mw := mw_in 1007 (by decide +kernel) rfl
theorem q1016 : Cond.methodLink RX9 218 yX8_isThere ∈ mw := mw_in 1016 (by decide +kernel) rfl
theorem q1017 : Cond.methodLink RX9 221 yX8_look ∈ mw := mw_in 1017 (by decide +kernel) rfl
theorem q1022 : Cond.methodLink RX9 227 yX8_deed ∈ mw := mw_in 1022 (by decide +kernel) rfl
theorem q1027 : Cond.methodLink RX9 231 yX4_isWall ∈ mw := mw_in 1027 (by decide +kernel) rfl
theorem q1028 : Cond.methodLink RX9 235 yX8_whoIsOn ∈ mw := mw_in 1028 (by decide +kernel) rfl
theorem q1033 : Cond.methodLink RX9 250 yX8_lanes ∈ mw := mw_in 1033 (by decide +kernel) rfl
theorem q1034 : Cond.instanceMethod yX8_lanes ∈ mw := mw_in 1034 (by decide +kernel) rfl
theorem q1035 : Cond.selects RX8 yX8_lanes yX8_lanes ∈ mw := mw_in 1035 (by decide +kernel) rfl
theorem q1036 : Cond.code yX8_lanes cX8_lanes 5 (Option.some Jvm.ClassFile.FieldType.int) ∈ mw := mw_in 1036 (by decide +kernel) rfl
theorem q1037 : Cond.methodLink RX8 213 yX8_wayOfRow ∈ mw := mw_in 1037 (by decide +kernel) rfl
theorem q1039 : Cond.instanceMethod yX8_wayOfRow ∈ mw := mw_in 1039 (by decide +kernel) rfl
theorem q1040 : Cond.code yX8_wayOfRow cX8_wayOfRow 4 (Option.some Jvm.ClassFile.FieldType.int) ∈ mw := mw_in 1040 (by decide +kernel) rfl
theorem q1041 : Cond.methodLink RX9 253 yX8_mixedRows ∈ mw := mw_in 1041 (by decide +kernel) rfl
theorem q1042 : Cond.instanceMethod yX8_mixedRows ∈ mw := mw_in 1042 (by decide +kernel) rfl
theorem q1043 : Cond.selects RX8 yX8_mixedRows yX8_mixedRows ∈ mw := mw_in 1043 (by decide +kernel) rfl
theorem q1044 : Cond.code yX8_mixedRows cX8_mixedRows 3 (Option.some Jvm.ClassFile.FieldType.int) ∈ mw := mw_in 1044 (by decide +kernel) rfl
theorem q1049 : Cond.methodLink RX9 259 yX8_doorOf ∈ mw := mw_in 1049 (by decide +kernel) rfl
theorem q1050 : Cond.instanceMethod yX8_doorOf ∈ mw := mw_in 1050 (by decide +kernel) rfl
theorem q1051 : Cond.selects RX8 yX8_doorOf yX8_doorOf ∈ mw := mw_in 1051 (by decide +kernel) rfl
theorem q1052 : Cond.code yX8_doorOf cX8_doorOf 4 (Option.some Jvm.ClassFile.FieldType.int) ∈ mw := mw_in 1052 (by decide +kernel) rfl
theorem q1057 : Cond.methodLink RX9 262 yX9_prepare ∈ mw := mw_in 1057 (by decide +kernel) rfl
theorem q1059 : Cond.instanceMethod yX9_prepare ∈ mw := mw_in 1059 (by decide +kernel) rfl
theorem q1060 : Cond.code yX9_prepare cX9_prepare 5 (Option.some Jvm.ClassFile.FieldType.boolean) ∈ mw := mw_in 1060 (by decide +kernel) rfl
theorem q1084 : Cond.constantLong RX0 141 (10) ∈ mw := mw_in 1084 (by decide +kernel) rfl
theorem q1085 : Cond.constantLong RX0 143 (-7046029254386353131) ∈ mw := mw_in 1085 (by decide +kernel) rfl
theorem q1094 : Cond.instanceMethod yX8_copyFrom ∈ mw := mw_in 1094 (by decide +kernel) rfl
theorem q1095 : Cond.selects RX8 yX8_copyFrom yX8_copyFrom ∈ mw := mw_in 1095 (by decide +kernel) rfl
theorem q1096 : Cond.code yX8_copyFrom cX8_copyFrom 2 (Option.none : Option Jvm.ClassFile.FieldType) ∈ mw := mw_in 1096 (by decide +kernel) rfl
theorem q1106 : Cond.methodLink RX9 268 yX9_isTime ∈ mw := mw_in 1106 (by decide +kernel) rfl
theorem q1107 : Cond.static yX9_isTime ∈ mw := mw_in 1107 (by decide +kernel) rfl
theorem q1108 : Cond.code yX9_isTime cX9_isTime 2 (Option.some Jvm.ClassFile.FieldType.boolean) ∈ mw := mw_in 1108 (by decide +kernel) rfl
theorem q1109 : Cond.methodLink RX9 271 yX4_keepFirst ∈ mw := mw_in 1109 (by decide +kernel) rfl
theorem q1110 : Cond.instanceMethod yX4_keepFirst ∈ mw := mw_in 1110 (by decide +kernel) rfl
theorem q1111 : Cond.selects RX4 yX4_keepFirst yX4_keepFirst ∈ mw := mw_in 1111 (by decide +kernel) rfl
theorem q1112 : Cond.code yX4_keepFirst cX4_keepFirst 3 (Option.none : Option Jvm.ClassFile.FieldType) ∈ mw := mw_in 1112 (by decide +kernel) rfl
theorem q1113 : Cond.methodLink RX9 275 yX9_arrivals ∈ mw := mw_in 1113 (by decide +kernel) rfl
theorem q1115 : Cond.instanceMethod yX9_arrivals ∈ mw := mw_in 1115 (by decide +kernel) rfl
theorem q1116 : Cond.code yX9_arrivals cX9_arrivals 4 (Option.some Jvm.ClassFile.FieldType.int) ∈ mw := mw_in 1116 (by decide +kernel) rfl
theorem q1121 : Cond.methodLink RX9 278 yX9_bestChange ∈ mw := mw_in 1121 (by decide +kernel) rfl
theorem q1123 : Cond.instanceMethod yX9_bestChange ∈ mw := mw_in 1123 (by decide +kernel) rfl
theorem q1124 : Cond.code yX9_bestChange cX9_bestChange 10 (Option.some Jvm.ClassFile.FieldType.int) ∈ mw := mw_in 1124 (by decide +kernel) rfl
theorem q1125 : Cond.methodLink RX9 308 yX4_isTaken ∈ mw := mw_in 1125 (by decide +kernel) rfl
theorem q1126 : Cond.methodLink RX9 311 yX4_setWall ∈ mw := mw_in 1126 (by decide +kernel) rfl
theorem q1131 : Cond.constant RX9 282 (-100000) ∈ mw := mw_in 1131 (by decide +kernel) rfl
theorem q1132 : Cond.methodLink RX9 283 yX9_tenthsOfOthers ∈ mw := mw_in 1132 (by decide +kernel) rfl
theorem q1134 : Cond.instanceMethod yX9_tenthsOfOthers ∈ mw := mw_in 1134 (by decide +kernel) rfl
theorem q1135 : Cond.code yX9_tenthsOfOthers cX9_tenthsOfOthers 6 (Option.some Jvm.ClassFile.FieldType.int) ∈ mw := mw_in 1135 (by decide +kernel) rfl
theorem q1136 : Cond.methodLink RX9 287 yX4_drop ∈ mw := mw_in 1136 (by decide +kernel) rfl
theorem q1137 : Cond.instanceMethod yX4_drop ∈ mw := mw_in 1137 (by decide +kernel) rfl
theorem q1138 : Cond.selects RX4 yX4_drop yX4_drop ∈ mw := mw_in 1138 (by decide +kernel) rfl
theorem q1139 : Cond.code yX4_drop cX4_drop 3 (Option.none : Option Jvm.ClassFile.FieldType) ∈ mw := mw_in 1139 (by decide +kernel) rfl
theorem q1148 : Cond.methodLink RX9 290 yX8_mostArrivals ∈ mw := mw_in 1148 (by decide +kernel) rfl
theorem q1149 : Cond.instanceMethod yX8_mostArrivals ∈ mw := mw_in 1149 (by decide +kernel) rfl
theorem q1150 : Cond.selects RX8 yX8_mostArrivals yX8_mostArrivals ∈ mw := mw_in 1150 (by decide +kernel) rfl
theorem q1151 : Cond.code yX8_mostArrivals cX8_mostArrivals 6 (Option.some Jvm.ClassFile.FieldType.int) ∈ mw := mw_in 1151 (by decide +kernel) rfl
theorem q1156 : Cond.methodLink RX9 293 yX8_touches ∈ mw := mw_in 1156 (by decide +kernel) rfl
theorem q1157 : Cond.instanceMethod yX8_touches ∈ mw := mw_in 1157 (by decide +kernel) rfl
theorem q1158 : Cond.selects RX8 yX8_touches yX8_touches ∈ mw := mw_in 1158 (by decide +kernel) rfl
theorem q1159 : Cond.code yX8_touches cX8_touches 3 (Option.some Jvm.ClassFile.FieldType.boolean) ∈ mw := mw_in 1159 (by decide +kernel) rfl
theorem q1172 : Cond.methodLink RX9 305 yX9_areHatsOfTrial ∈ mw := mw_in 1172 (by decide +kernel) rfl
theorem q1174 : Cond.instanceMethod yX9_areHatsOfTrial ∈ mw := mw_in 1174 (by decide +kernel) rfl
theorem q1175 : Cond.code yX9_areHatsOfTrial cX9_areHatsOfTrial 5 (Option.some Jvm.ClassFile.FieldType.boolean) ∈ mw := mw_in 1175 (by decide +kernel) rfl
theorem q1176 : Cond.methodLink RX9 317 yX1_hasHat ∈ mw := mw_in 1176 (by decide +kernel) rfl
theorem q1177 : Cond.instanceMethod yX1_hasHat ∈ mw := mw_in 1177 (by decide +kernel) rfl
theorem q1178 : Cond.selects RX1 yX1_hasHat yX1_hasHat ∈ mw := mw_in 1178 (by decide +kernel) rfl
theorem q1179 : Cond.code yX1_hasHat cX1_hasHat 5 (Option.some Jvm.ClassFile.FieldType.boolean) ∈ mw := mw_in 1179 (by decide +kernel) rfl
theorem q1180 : Cond.methodLink RX1 33 yX1_has ∈ mw := mw_in 1180 (by decide +kernel) rfl
theorem q1181 : Cond.instanceMethod yX1_has ∈ mw := mw_in 1181 (by decide +kernel) rfl
theorem q1182 : Cond.selects RX1 yX1_has yX1_has ∈ mw := mw_in 1182 (by decide +kernel) rfl
theorem q1183 : Cond.code yX1_has cX1_has 3 (Option.some Jvm.ClassFile.FieldType.boolean) ∈ mw := mw_in 1183 (by decide +kernel) rfl
theorem q1188 : Cond.methodLink RX9 321 yX9_isFrame ∈ mw := mw_in 1188 (by decide +kernel) rfl
theorem q1189 : Cond.static yX9_isFrame ∈ mw := mw_in 1189 (by decide +kernel) rfl
theorem q1190 : Cond.code yX9_isFrame cX9_isFrame 2 (Option.some Jvm.ClassFile.FieldType.boolean) ∈ mw := mw_in 1190 (by decide +kernel) rfl
theorem q1191 : Cond.methodLink RX9 324 yX1_add ∈ mw := mw_in 1191 (by decide +kernel) rfl
theorem q1192 : Cond.instanceMethod yX1_add ∈ mw := mw_in 1192 (by decide +kernel) rfl
theorem q1193 : Cond.selects RX1 yX1_add yX1_add ∈ mw := mw_in 1193 (by decide +kernel) rfl
theorem q1194 : Cond.code yX1_add cX1_add 5 (Option.some Jvm.ClassFile.FieldType.int) ∈ mw := mw_in 1194 (by decide +kernel) rfl
theorem q1203 : Cond.methodLink RX9 327 yX9_isPrice ∈ mw := mw_in 1203 (by decide +kernel) rfl
theorem q1204 : Cond.static yX9_isPrice ∈ mw := mw_in 1204 (by decide +kernel) rfl
theorem q1205 : Cond.code yX9_isPrice cX9_isPrice 1 (Option.some Jvm.ClassFile.FieldType.boolean) ∈ mw := mw_in 1205 (by decide +kernel) rfl
theorem q1206 : Cond.methodLink RX9 330 yX1_has ∈ mw := mw_in 1206 (by decide +kernel) rfl
theorem q1207 : Cond.methodLink RX9 332 yX1_pair ∈ mw := mw_in 1207 (by decide +kernel) rfl
theorem q1208 : Cond.instanceMethod yX1_pair ∈ mw := mw_in 1208 (by decide +kernel) rfl
theorem q1209 : Cond.selects RX1 yX1_pair yX1_pair ∈ mw := mw_in 1209 (by decide +kernel) rfl
theorem q1210 : Cond.code yX1_pair cX1_pair 6 (Option.some Jvm.ClassFile.FieldType.int) ∈ mw := mw_in 1210 (by decide +kernel) rfl
theorem q1211 : Cond.methodLink RX1 37 yJ6_bitCount_0f7a4 ∈ mw := mw_in 1211 (by decide +kernel) rfl
theorem q1212 : Cond.static yJ6_bitCount_0f7a4 ∈ mw := mw_in 1212 (by decide +kernel) rfl
theorem q1213 : Cond.code yJ6_bitCount_0f7a4 cJ6_bitCount_0f7a4 1 (Option.some Jvm.ClassFile.FieldType.int) ∈ mw := mw_in 1213 (by decide +kernel) rfl
theorem q1214 : Cond.constant RJ6 265 (1431655765) ∈ mw := mw_in 1214 (by decide +kernel) rfl
theorem q1215 : Cond.constant RJ6 266 (858993459) ∈ mw := mw_in 1215 (by decide +kernel) rfl
theorem q1216 : Cond.constant RJ6 267 (252645135) ∈ mw := mw_in 1216 (by decide +kernel) rfl
theorem q1217 : Cond.methodLink RX1 43 yX1_leastFrom ∈ mw := mw_in 1217 (by decide +kernel) rfl
theorem q1219 : Cond.instanceMethod yX1_leastFrom ∈ mw := mw_in 1219 (by decide +kernel) rfl
theorem q1220 : Cond.code yX1_leastFrom cX1_leastFrom 7 (Option.some Jvm.ClassFile.FieldType.int) ∈ mw := mw_in 1220 (by decide +kernel) rfl
theorem q1221 : Cond.methodLink RX1 51 yX1_coupled ∈ mw := mw_in 1221 (by decide +kernel) rfl
theorem q1223 : Cond.instanceMethod yX1_coupled ∈ mw := mw_in 1223 (by decide +kernel) rfl
theorem q1224 : Cond.code yX1_coupled cX1_coupled 8 (Option.some Jvm.ClassFile.FieldType.int) ∈ mw := mw_in 1224 (by decide +kernel) rfl
theorem q1225 : Cond.methodLink RX1 60 yJ9_abs_0f7a4 ∈ mw := mw_in 1225 (by decide +kernel) rfl
theorem q1226 : Cond.methodLink RX1 54 yJ9_min_7cf53 ∈ mw := mw_in 1226 (by decide +kernel) rfl
theorem q1227 : Cond.methodLink RX1 47 yX1_leastPartner ∈ mw := mw_in 1227 (by decide +kernel) rfl
theorem q1229 : Cond.instanceMethod yX1_leastPartner ∈ mw := mw_in 1229 (by decide +kernel) rfl
theorem q1230 : Cond.code yX1_leastPartner cX1_leastPartner 6 (Option.some Jvm.ClassFile.FieldType.int) ∈ mw := mw_in 1230 (by decide +kernel) rfl
theorem q1257 : Cond.methodLink RX9 351 yX7_copyFrom ∈ mw := mw_in 1257 (by decide +kernel) rfl
theorem q1258 : Cond.instanceMethod yX7_copyFrom ∈ mw := mw_in 1258 (by decide +kernel) rfl
theorem q1259 : Cond.selects RX7 yX7_copyFrom yX7_copyFrom ∈ mw := mw_in 1259 (by decide +kernel) rfl
theorem q1260 : Cond.code yX7_copyFrom cX7_copyFrom 3 (Option.none : Option Jvm.ClassFile.FieldType) ∈ mw := mw_in 1260 (by decide +kernel) rfl
theorem q1261 : Cond.methodLink RX7 82 ⟨"java/lang/System", "arraycopy", "(Ljava/lang/Object;ILjava/lang/Object;II)V"⟩ ∈ mw := mw_in 1261 (by decide +kernel) rfl
theorem q1262 : Cond.methodLink RX7 88 yX8_copyFrom ∈ mw := mw_in 1262 (by decide +kernel) rfl
theorem q1263 : Cond.methodLink RX7 95 yX1_copyFrom ∈ mw := mw_in 1263 (by decide +kernel) rfl
theorem q1264 : Cond.instanceMethod yX1_copyFrom ∈ mw := mw_in 1264 (by decide +kernel) rfl
theorem q1265 : Cond.selects RX1 yX1_copyFrom yX1_copyFrom ∈ mw := mw_in 1265 (by decide +kernel) rfl
theorem q1266 : Cond.code yX1_copyFrom cX1_copyFrom 2 (Option.none : Option Jvm.ClassFile.FieldType) ∈ mw := mw_in 1266 (by decide +kernel) rfl
theorem q1267 : Cond.methodLink RX1 27 ⟨"java/lang/System", "arraycopy", "(Ljava/lang/Object;ILjava/lang/Object;II)V"⟩ ∈ mw := mw_in 1267 (by decide +kernel) rfl
theorem q1278 : Cond.fieldLink RX10 121 "PavementWalkModel" "code" "I" ∈ mw := mw_in 1278 (by decide +kernel) rfl
theorem q1279 : Cond.fieldLink RX10 7 "PavementWalkModel" "tape" "[B" ∈ mw := mw_in 1279 (by decide +kernel) rfl
theorem q1280 : Cond.fieldLink RX10 13 "PavementWalkModel" "size" "[I" ∈ mw := mw_in 1280 (by decide +kernel) rfl
theorem q1281 : Cond.fieldLink RX10 17 "PavementWalkModel" "fault" "[I" ∈ mw := mw_in 1281 (by decide +kernel) rfl
theorem q1282 : Cond.fieldLink RX10 20 "PavementWalkModel" "faultPlace" "[I" ∈ mw := mw_in 1282 (by decide +kernel) rfl
theorem q1283 : Cond.fieldLink RX10 23 "PavementWalkModel" "passages" "[I" ∈ mw := mw_in 1283 (by decide +kernel) rfl
theorem q1284 : Cond.fieldLink RX10 26 "PavementWalkModel" "lengths" "[I" ∈ mw := mw_in 1284 (by decide +kernel) rfl
theorem q1285 : Cond.fieldLink RX10 29 "PavementWalkModel" "widths" "[I" ∈ mw := mw_in 1285 (by decide +kernel) rfl
theorem q1286 : Cond.fieldLink RX10 32 "PavementWalkModel" "many" "[I" ∈ mw := mw_in 1286 (by decide +kernel) rfl
theorem q1287 : Cond.fieldLink RX10 35 "PavementWalkModel" "walls" "[I" ∈ mw := mw_in 1287 (by decide +kernel) rfl
theorem q1288 : Cond.fieldLink RX10 38 "PavementWalkModel" "wall" "[I" ∈ mw := mw_in 1288 (by decide +kernel) rfl
theorem q1289 : Cond.fieldLink RX10 41 "PavementWalkModel" "of" "[I" ∈ mw := mw_in 1289 (by decide +kernel) rfl
theorem q1290 : Cond.fieldLink RX10 44 "PavementWalkModel" "laws" "[I" ∈ mw := mw_in 1290 (by decide +kernel) rfl
theorem q1291 : Cond.fieldLink RX10 47 "PavementWalkModel" "ruled" "[I" ∈ mw := mw_in 1291 (by decide +kernel) rfl
theorem q1292 : Cond.fieldLink RX10 50 "PavementWalkModel" "rule" "[I" ∈ mw := mw_in 1292 (by decide +kernel) rfl
theorem q1293 : Cond.fieldLink RX10 53 "PavementWalkModel" "hats" "[I" ∈ mw := mw_in 1293 (by decide +kernel) rfl
theorem q1294 : Cond.fieldLink RX10 56 "PavementWalkModel" "hatX" "[I" ∈ mw := mw_in 1294 (by decide +kernel) rfl
theorem q1295 : Cond.fieldLink RX10 59 "PavementWalkModel" "hatY" "[I" ∈ mw := mw_in 1295 (by decide +kernel) rfl
theorem q1296 : Cond.fieldLink RX10 137 "PavementWalkModel" "ahead" "I" ∈ mw := mw_in 1296 (by decide +kernel) rfl
theorem q1297 : Cond.fieldLink RX10 140 "PavementWalkModel" "length" "I" ∈ mw := mw_in 1297 (by decide +kernel) rfl
theorem q1298 : Cond.fieldLink RX10 147 "PavementWalkModel" "begins" "I" ∈ mw := mw_in 1298 (by decide +kernel) rfl
theorem q1299 : Cond.fieldLink RX10 154 "PavementWalkModel" "sort" "I" ∈ mw := mw_in 1299 (by decide +kernel) rfl
theorem q1300 : Cond.fieldLink RX10 157 "PavementWalkModel" "value" "I" ∈ mw := mw_in 1300 (by decide +kernel) rfl
theorem q1301 : Cond.fieldLink RX10 150 "PavementWalkModel" "word" "J" ∈ mw := mw_in 1301 (by decide +kernel) rfl
theorem q1302 : Cond.fieldLink RX10 164 "PavementWalkModel" "wrongAt" "I" ∈ mw := mw_in 1302 (by decide +kernel) rfl
theorem q1303 : Cond.fieldLink RX10 167 "PavementWalkModel" "laterFault" "I" ∈ mw := mw_in 1303 (by decide +kernel) rfl
theorem q1304 : Cond.fieldLink RX10 170 "PavementWalkModel" "laterPlace" "I" ∈ mw := mw_in 1304 (by decide +kernel) rfl
theorem q1305 : Cond.fieldLink RX10 177 "PavementWalkModel" "read" "I" ∈ mw := mw_in 1305 (by decide +kernel) rfl
theorem q1306 : Cond.fieldLink RX10 184 "PavementWalkModel" "good" "Z" ∈ mw := mw_in 1306 (by decide +kernel) rfl
theorem q1307 : Cond.fieldLink RX10 194 "PavementWalkModel" "newLength" "I" ∈ mw := mw_in 1307 (by decide +kernel) rfl
theorem q1308 : Cond.fieldLink RX10 201 "PavementWalkModel" "newWidth" "I" ∈ mw := mw_in 1308 (by decide +kernel) rfl
theorem q1309 : Cond.fieldLink RX10 210 "PavementWalkModel" "newMany" "I" ∈ mw := mw_in 1309 (by decide +kernel) rfl
theorem q1310 : Cond.fieldLink RX10 216 "PavementWalkModel" "newWalls" "I" ∈ mw := mw_in 1310 (by decide +kernel) rfl
theorem q1311 : Cond.fieldLink RX10 62 "PavementWalkModel" "newWall" "[I" ∈ mw := mw_in 1311 (by decide +kernel) rfl
theorem q1312 : Cond.fieldLink RX10 65 "PavementWalkModel" "newOf" "[I" ∈ mw := mw_in 1312 (by decide +kernel) rfl
theorem q1313 : Cond.fieldLink RX10 204 "PavementWalkModel" "square" "I" ∈ mw := mw_in 1313 (by decide +kernel) rfl
theorem q1314 : Cond.fieldLink RX10 302 "PavementWalkModel" "newRules" "I" ∈ mw := mw_in 1314 (by decide +kernel) rfl
theorem q1315 : Cond.fieldLink RX10 299 "PavementWalkModel" "newTests" "I" ∈ mw := mw_in 1315 (by decide +kernel) rfl
theorem q1316 : Cond.fieldLink RX10 68 "PavementWalkModel" "newRule" "[I" ∈ mw := mw_in 1316 (by decide +kernel) rfl
theorem q1317 : Cond.fieldLink RX10 71 "PavementWalkModel" "run" "[I" ∈ mw := mw_in 1317 (by decide +kernel) rfl
theorem q1318 : Cond.fieldLink RX10 74 "PavementWalkModel" "seenX" "[I" ∈ mw := mw_in 1318 (by decide +kernel) rfl
theorem q1319 : Cond.fieldLink RX10 77 "PavementWalkModel" "seenY" "[I" ∈ mw := mw_in 1319 (by decide +kernel) rfl
theorem q1320 : Cond.fieldLink RX10 336 "PavementWalkModel" "metWalker" "I" ∈ mw := mw_in 1320 (by decide +kernel) rfl
theorem q1321 : Cond.fieldLink RX10 80 "PavementWalkModel" "aim" "[I" ∈ mw := mw_in 1321 (by decide +kernel) rfl
theorem q1322 : Cond.fieldLink RX10 83 "PavementWalkModel" "moved" "[I" ∈ mw := mw_in 1322 (by decide +kernel) rfl
theorem q1323 : Cond.fieldLink RX10 385 "PavementWalkModel" "lotsTold" "Z" ∈ mw := mw_in 1323 (by decide +kernel) rfl
theorem q1324 : Cond.fieldLink RX10 388 "PavementWalkModel" "toldLots" "I" ∈ mw := mw_in 1324 (by decide +kernel) rfl
theorem q1325 : Cond.fieldLink RX10 382 "PavementWalkModel" "usedLots" "I" ∈ mw := mw_in 1325 (by decide +kernel) rfl
theorem q1326 : Cond.fieldLink RX10 86 "PavementWalkModel" "nowX" "[I" ∈ mw := mw_in 1326 (by decide +kernel) rfl
theorem q1327 : Cond.fieldLink RX10 89 "PavementWalkModel" "nowY" "[I" ∈ mw := mw_in 1327 (by decide +kernel) rfl
theorem q1328 : Cond.fieldLink RX10 92 "PavementWalkModel" "choice" "[I" ∈ mw := mw_in 1328 (by decide +kernel) rfl
theorem q1329 : Cond.fieldLink RX10 95 "PavementWalkModel" "choices" "[I" ∈ mw := mw_in 1329 (by decide +kernel) rfl
theorem q1330 : Cond.fieldLink RX10 98 "PavementWalkModel" "part" "[I" ∈ mw := mw_in 1330 (by decide +kernel) rfl
theorem q1331 : Cond.fieldLink RX10 438 "PavementWalkModel" "bothCame" "I" ∈ mw := mw_in 1331 (by decide +kernel) rfl
theorem q1332 : Cond.fieldLink RX10 101 "PavementWalkModel" "danced" "[I" ∈ mw := mw_in 1332 (by decide +kernel) rfl
theorem q1333 : Cond.fieldLink RX10 104 "PavementWalkModel" "came" "[I" ∈ mw := mw_in 1333 (by decide +kernel) rfl
theorem q1334 : Cond.fieldLink RX10 107 "PavementWalkModel" "least" "[I" ∈ mw := mw_in 1334 (by decide +kernel) rfl
theorem q1335 : Cond.fieldLink RX10 110 "PavementWalkModel" "partner" "[I" ∈ mw := mw_in 1335 (by decide +kernel) rfl
theorem q1336 : Cond.fieldLink RX10 482 "PavementWalkModel" "matchCost" "I" ∈ mw := mw_in 1336 (by decide +kernel) rfl
theorem q1337 : Cond.fieldLink RX10 113 "PavementWalkModel" "rights" "[J" ∈ mw := mw_in 1337 (by decide +kernel) rfl
theorem q1338 : Cond.fieldLink RX10 117 "PavementWalkModel" "kept" "[Z" ∈ mw := mw_in 1338 (by decide +kernel) rfl
theorem q1466 : Cond.methodLink RX10 133 yX10_four ∈ mw := mw_in 1466 (by decide +kernel) rfl
theorem q1468 : Cond.instanceMethod yX10_four ∈ mw := mw_in 1468 (by decide +kernel) rfl
theorem q1469 : Cond.code yX10_four cX10_four 3 (Option.none : Option Jvm.ClassFile.FieldType) ∈ mw := mw_in 1469 (by decide +kernel) rfl
theorem q1474 : Cond.methodLink RX10 129 yX10_in ∈ mw := mw_in 1474 (by decide +kernel) rfl
theorem q1475 : Cond.static yX10_in ∈ mw := mw_in 1475 (by decide +kernel) rfl
theorem q1476 : Cond.code yX10_in cX10_in 3 (Option.some Jvm.ClassFile.FieldType.boolean) ∈ mw := mw_in 1476 (by decide +kernel) rfl
theorem q1481 : Cond.methodLink RX10 267 yX10_takeTape ∈ mw := mw_in 1481 (by decide +kernel) rfl
theorem q1483 : Cond.instanceMethod yX10_takeTape ∈ mw := mw_in 1483 (by decide +kernel) rfl
theorem q1484 : Cond.code yX10_takeTape cX10_takeTape 1 (Option.none : Option Jvm.ClassFile.FieldType) ∈ mw := mw_in 1484 (by decide +kernel) rfl
theorem q1485 : Cond.methodLink RX10 270 yX10_isPassage ∈ mw := mw_in 1485 (by decide +kernel) rfl
theorem q1487 : Cond.instanceMethod yX10_isPassage ∈ mw := mw_in 1487 (by decide +kernel) rfl
theorem q1488 : Cond.code yX10_isPassage cX10_isPassage 2 (Option.some Jvm.ClassFile.FieldType.boolean) ∈ mw := mw_in 1488 (by decide +kernel) rfl
theorem q1489 : Cond.methodLink RX10 188 yX10_token ∈ mw := mw_in 1489 (by decide +kernel) rfl
theorem q1491 : Cond.instanceMethod yX10_token ∈ mw := mw_in 1491 (by decide +kernel) rfl
theorem q1492 : Cond.code yX10_token cX10_token 3 (Option.none : Option Jvm.ClassFile.FieldType) ∈ mw := mw_in 1492 (by decide +kernel) rfl
theorem q1493 : Cond.methodLink RX10 143 yX10_see ∈ mw := mw_in 1493 (by decide +kernel) rfl
theorem q1495 : Cond.instanceMethod yX10_see ∈ mw := mw_in 1495 (by decide +kernel) rfl
theorem q1496 : Cond.code yX10_see cX10_see 1 (Option.some Jvm.ClassFile.FieldType.int) ∈ mw := mw_in 1496 (by decide +kernel) rfl
theorem q1497 : Cond.methodLink RX10 160 yX10_isSign ∈ mw := mw_in 1497 (by decide +kernel) rfl
theorem q1498 : Cond.static yX10_isSign ∈ mw := mw_in 1498 (by decide +kernel) rfl
theorem q1499 : Cond.code yX10_isSign cX10_isSign 1 (Option.some Jvm.ClassFile.FieldType.boolean) ∈ mw := mw_in 1499 (by decide +kernel) rfl
theorem q1500 : Cond.methodLink RX10 273 yX10_sizeLine ∈ mw := mw_in 1500 (by decide +kernel) rfl
theorem q1502 : Cond.instanceMethod yX10_sizeLine ∈ mw := mw_in 1502 (by decide +kernel) rfl
theorem q1503 : Cond.code yX10_sizeLine cX10_sizeLine 1 (Option.some Jvm.ClassFile.FieldType.boolean) ∈ mw := mw_in 1503 (by decide +kernel) rfl
theorem q1504 : Cond.constantLong RX10 265 (1936292453) ∈ mw := mw_in 1504 (by decide +kernel) rfl
theorem q1505 : Cond.methodLink RX10 221 yX10_isWord ∈ mw := mw_in 1505 (by decide +kernel) rfl
theorem q1507 : Cond.instanceMethod yX10_isWord ∈ mw := mw_in 1507 (by decide +kernel) rfl
theorem q1508 : Cond.code yX10_isWord cX10_isWord 3 (Option.some Jvm.ClassFile.FieldType.boolean) ∈ mw := mw_in 1508 (by decide +kernel) rfl
theorem q1509 : Cond.methodLink RX10 173 yX10_stops ∈ mw := mw_in 1509 (by decide +kernel) rfl
theorem q1511 : Cond.instanceMethod yX10_stops ∈ mw := mw_in 1511 (by decide +kernel) rfl
theorem q1512 : Cond.code yX10_stops cX10_stops 1 (Option.some Jvm.ClassFile.FieldType.boolean) ∈ mw := mw_in 1512 (by decide +kernel) rfl
theorem q1513 : Cond.methodLink RX10 197 yX10_number ∈ mw := mw_in 1513 (by decide +kernel) rfl
theorem q1515 : Cond.instanceMethod yX10_number ∈ mw := mw_in 1515 (by decide +kernel) rfl
theorem q1516 : Cond.code yX10_number cX10_number 3 (Option.some Jvm.ClassFile.FieldType.boolean) ∈ mw := mw_in 1516 (by decide +kernel) rfl
theorem q1517 : Cond.methodLink RX10 180 yX10_later ∈ mw := mw_in 1517 (by decide +kernel) rfl
theorem q1519 : Cond.instanceMethod yX10_later ∈ mw := mw_in 1519 (by decide +kernel) rfl
theorem q1520 : Cond.code yX10_later cX10_later 3 (Option.none : Option Jvm.ClassFile.FieldType) ∈ mw := mw_in 1520 (by decide +kernel) rfl
theorem q1521 : Cond.methodLink RX10 262 yX10_passes ∈ mw := mw_in 1521 (by decide +kernel) rfl
theorem q1523 : Cond.instanceMethod yX10_passes ∈ mw := mw_in 1523 (by decide +kernel) rfl
theorem q1524 : Cond.code yX10_passes cX10_passes 1 (Option.some Jvm.ClassFile.FieldType.boolean) ∈ mw := mw_in 1524 (by decide +kernel) rfl
theorem q1525 : Cond.methodLink RX10 191 yX10_isSignOf ∈ mw := mw_in 1525 (by decide +kernel) rfl
theorem q1527 : Cond.instanceMethod yX10_isSignOf ∈ mw := mw_in 1527 (by decide +kernel) rfl
theorem q1528 : Cond.code yX10_isSignOf cX10_isSignOf 2 (Option.some Jvm.ClassFile.FieldType.boolean) ∈ mw := mw_in 1528 (by decide +kernel) rfl
theorem q1529 : Cond.methodLink RX10 276 yX10_passageLine ∈ mw := mw_in 1529 (by decide +kernel) rfl
theorem q1531 : Cond.instanceMethod yX10_passageLine ∈ mw := mw_in 1531 (by decide +kernel) rfl
theorem q1532 : Cond.code yX10_passageLine cX10_passageLine 5 (Option.some Jvm.ClassFile.FieldType.boolean) ∈ mw := mw_in 1532 (by decide +kernel) rfl
theorem q1533 : Cond.constantLong RX10 233 (2002873452) ∈ mw := mw_in 1533 (by decide +kernel) rfl
theorem q1534 : Cond.constantLong RX10 235 (131260314510706) ∈ mw := mw_in 1534 (by decide +kernel) rfl
theorem q1535 : Cond.constantLong RX10 237 (1885430629) ∈ mw := mw_in 1535 (by decide +kernel) rfl
theorem q1536 : Cond.constantLong RX10 239 (1818326117) ∈ mw := mw_in 1536 (by decide +kernel) rfl
theorem q1537 : Cond.constantLong RX10 241 (448311555173) ∈ mw := mw_in 1537 (by decide +kernel) rfl
theorem q1538 : Cond.constantLong RX10 243 (1751215716) ∈ mw := mw_in 1538 (by decide +kernel) rfl
theorem q1539 : Cond.constantLong RX10 245 (28836244623352947) ∈ mw := mw_in 1539 (by decide +kernel) rfl
theorem q1540 : Cond.methodLink RX10 247 yX10_wallLine ∈ mw := mw_in 1540 (by decide +kernel) rfl
theorem q1542 : Cond.instanceMethod yX10_wallLine ∈ mw := mw_in 1542 (by decide +kernel) rfl
theorem q1543 : Cond.code yX10_wallLine cX10_wallLine 1 (Option.some Jvm.ClassFile.FieldType.boolean) ∈ mw := mw_in 1543 (by decide +kernel) rfl
theorem q1544 : Cond.methodLink RX10 213 yX10_readSquare ∈ mw := mw_in 1544 (by decide +kernel) rfl
theorem q1546 : Cond.instanceMethod yX10_readSquare ∈ mw := mw_in 1546 (by decide +kernel) rfl
theorem q1547 : Cond.code yX10_readSquare cX10_readSquare 3 (Option.some Jvm.ClassFile.FieldType.boolean) ∈ mw := mw_in 1547 (by decide +kernel) rfl
theorem q1548 : Cond.methodLink RX10 207 yX10_isTaken ∈ mw := mw_in 1548 (by decide +kernel) rfl
theorem q1550 : Cond.instanceMethod yX10_isTaken ∈ mw := mw_in 1550 (by decide +kernel) rfl
theorem q1551 : Cond.code yX10_isTaken cX10_isTaken 3 (Option.some Jvm.ClassFile.FieldType.boolean) ∈ mw := mw_in 1551 (by decide +kernel) rfl
theorem q1552 : Cond.methodLink RX10 250 yX10_walkerLine ∈ mw := mw_in 1552 (by decide +kernel) rfl
theorem q1554 : Cond.instanceMethod yX10_walkerLine ∈ mw := mw_in 1554 (by decide +kernel) rfl
theorem q1555 : Cond.code yX10_walkerLine cX10_walkerLine 3 (Option.some Jvm.ClassFile.FieldType.boolean) ∈ mw := mw_in 1555 (by decide +kernel) rfl
theorem q1556 : Cond.constantLong RX10 219 (1700885364) ∈ mw := mw_in 1556 (by decide +kernel) rfl
theorem q1557 : Cond.constantLong RX10 225 (2003137396) ∈ mw := mw_in 1557 (by decide +kernel) rfl
theorem q1558 : Cond.methodLink RX10 253 yX10_ofLine ∈ mw := mw_in 1558 (by decide +kernel) rfl
theorem q1560 : Cond.instanceMethod yX10_ofLine ∈ mw := mw_in 1560 (by decide +kernel) rfl
theorem q1561 : Cond.code yX10_ofLine cX10_ofLine 5 (Option.some Jvm.ClassFile.FieldType.boolean) ∈ mw := mw_in 1561 (by decide +kernel) rfl
theorem q1562 : Cond.methodLink RX10 256 yX10_handLine ∈ mw := mw_in 1562 (by decide +kernel) rfl
theorem q1564 : Cond.instanceMethod yX10_handLine ∈ mw := mw_in 1564 (by decide +kernel) rfl
theorem q1565 : Cond.code yX10_handLine cX10_handLine 1 (Option.some Jvm.ClassFile.FieldType.boolean) ∈ mw := mw_in 1565 (by decide +kernel) rfl
theorem q1566 : Cond.constantLong RX10 227 (491394656372) ∈ mw := mw_in 1566 (by decide +kernel) rfl
theorem q1567 : Cond.constantLong RX10 229 (1818584692) ∈ mw := mw_in 1567 (by decide +kernel) rfl
theorem q1568 : Cond.methodLink RX10 259 yX10_friendsLine ∈ mw := mw_in 1568 (by decide +kernel) rfl
theorem q1570 : Cond.instanceMethod yX10_friendsLine ∈ mw := mw_in 1570 (by decide +kernel) rfl
theorem q1571 : Cond.code yX10_friendsLine cX10_friendsLine 3 (Option.some Jvm.ClassFile.FieldType.boolean) ∈ mw := mw_in 1571 (by decide +kernel) rfl
theorem q1572 : Cond.methodLink RX10 231 yX10_part ∈ mw := mw_in 1572 (by decide +kernel) rfl
theorem q1574 : Cond.instanceMethod yX10_part ∈ mw := mw_in 1574 (by decide +kernel) rfl
theorem q1575 : Cond.code yX10_part cX10_part 3 (Option.none : Option Jvm.ClassFile.FieldType) ∈ mw := mw_in 1575 (by decide +kernel) rfl
theorem q1576 : Cond.methodLink RX10 279 yX10_isGood ∈ mw := mw_in 1576 (by decide +kernel) rfl
theorem q1578 : Cond.instanceMethod yX10_isGood ∈ mw := mw_in 1578 (by decide +kernel) rfl
theorem q1579 : Cond.code yX10_isGood cX10_isGood 2 (Option.some Jvm.ClassFile.FieldType.boolean) ∈ mw := mw_in 1579 (by decide +kernel) rfl
theorem q1584 : Cond.methodLink RX10 326 yX10_isLaw ∈ mw := mw_in 1584 (by decide +kernel) rfl
theorem q1586 : Cond.instanceMethod yX10_isLaw ∈ mw := mw_in 1586 (by decide +kernel) rfl
theorem q1587 : Cond.code yX10_isLaw cX10_isLaw 2 (Option.some Jvm.ClassFile.FieldType.boolean) ∈ mw := mw_in 1587 (by decide +kernel) rfl
theorem q1588 : Cond.methodLink RX10 329 yX10_ruleLine ∈ mw := mw_in 1588 (by decide +kernel) rfl
theorem q1590 : Cond.instanceMethod yX10_ruleLine ∈ mw := mw_in 1590 (by decide +kernel) rfl
theorem q1591 : Cond.code yX10_ruleLine cX10_ruleLine 2 (Option.some Jvm.ClassFile.FieldType.boolean) ∈ mw := mw_in 1591 (by decide +kernel) rfl
theorem q1592 : Cond.constantLong RX10 316 (26982) ∈ mw := mw_in 1592 (by decide +kernel) rfl
theorem q1593 : Cond.methodLink RX10 318 yX10_test ∈ mw := mw_in 1593 (by decide +kernel) rfl
theorem q1595 : Cond.instanceMethod yX10_test ∈ mw := mw_in 1595 (by decide +kernel) rfl
theorem q1596 : Cond.code yX10_test cX10_test 3 (Option.some Jvm.ClassFile.FieldType.boolean) ∈ mw := mw_in 1596 (by decide +kernel) rfl
theorem q1597 : Cond.constantLong RX10 305 (7237492) ∈ mw := mw_in 1597 (by decide +kernel) rfl
theorem q1598 : Cond.methodLink RX10 307 yX10_testOf ∈ mw := mw_in 1598 (by decide +kernel) rfl
theorem q1600 : Cond.instanceMethod yX10_testOf ∈ mw := mw_in 1600 (by decide +kernel) rfl
theorem q1601 : Cond.code yX10_testOf cX10_testOf 1 (Option.some Jvm.ClassFile.FieldType.int) ∈ mw := mw_in 1601 (by decide +kernel) rfl
theorem q1602 : Cond.constantLong RX10 283 (418363302244) ∈ mw := mw_in 1602 (by decide +kernel) rfl
theorem q1603 : Cond.constantLong RX10 285 (1936682862) ∈ mw := mw_in 1603 (by decide +kernel) rfl
theorem q1604 : Cond.constantLong RX10 287 (1852137842) ∈ mw := mw_in 1604 (by decide +kernel) rfl
theorem q1605 : Cond.constantLong RX10 289 (131260264768868) ∈ mw := mw_in 1605 (by decide +kernel) rfl
theorem q1606 : Cond.constantLong RX10 291 (427121669988) ∈ mw := mw_in 1606 (by decide +kernel) rfl
theorem q1607 : Cond.constantLong RX10 293 (27703773382796644) ∈ mw := mw_in 1607 (by decide +kernel) rfl
theorem q1608 : Cond.constantLong RX10 295 (112568465714791) ∈ mw := mw_in 1608 (by decide +kernel) rfl
theorem q1609 : Cond.constantLong RX10 297 (123563834369380) ∈ mw := mw_in 1609 (by decide +kernel) rfl
theorem q1610 : Cond.constantLong RX10 321 (6385252) ∈ mw := mw_in 1610 (by decide +kernel) rfl
theorem q1611 : Cond.methodLink RX10 323 yX10_actOf ∈ mw := mw_in 1611 (by decide +kernel) rfl
theorem q1613 : Cond.instanceMethod yX10_actOf ∈ mw := mw_in 1613 (by decide +kernel) rfl
theorem q1614 : Cond.code yX10_actOf cX10_actOf 1 (Option.some Jvm.ClassFile.FieldType.int) ∈ mw := mw_in 1614 (by decide +kernel) rfl
theorem q1615 : Cond.constantLong RX10 310 (26479) ∈ mw := mw_in 1615 (by decide +kernel) rfl
theorem q1616 : Cond.constantLong RX10 312 (7106420) ∈ mw := mw_in 1616 (by decide +kernel) rfl
theorem q1617 : Cond.constantLong RX10 314 (2002872692) ∈ mw := mw_in 1617 (by decide +kernel) rfl
theorem q1638 : Cond.methodLink RX10 420 yX10_lay ∈ mw := mw_in 1638 (by decide +kernel) rfl
theorem q1640 : Cond.instanceMethod yX10_lay ∈ mw := mw_in 1640 (by decide +kernel) rfl
theorem q1641 : Cond.code yX10_lay cX10_lay 13 (Option.none : Option Jvm.ClassFile.FieldType) ∈ mw := mw_in 1641 (by decide +kernel) rfl
theorem q1642 : Cond.methodLink RX10 332 yX10_at ∈ mw := mw_in 1642 (by decide +kernel) rfl
theorem q1643 : Cond.static yX10_at ∈ mw := mw_in 1643 (by decide +kernel) rfl
theorem q1644 : Cond.code yX10_at cX10_at 2 (Option.some Jvm.ClassFile.FieldType.int) ∈ mw := mw_in 1644 (by decide +kernel) rfl
theorem q1649 : Cond.methodLink RX10 424 yX10_step ∈ mw := mw_in 1649 (by decide +kernel) rfl
theorem q1651 : Cond.instanceMethod yX10_step ∈ mw := mw_in 1651 (by decide +kernel) rfl
theorem q1652 : Cond.code yX10_step cX10_step 7 (Option.some Jvm.ClassFile.FieldType.int) ∈ mw := mw_in 1652 (by decide +kernel) rfl
theorem q1653 : Cond.methodLink RX10 408 yX10_aimBy ∈ mw := mw_in 1653 (by decide +kernel) rfl
theorem q1655 : Cond.instanceMethod yX10_aimBy ∈ mw := mw_in 1655 (by decide +kernel) rfl
theorem q1656 : Cond.code yX10_aimBy cX10_aimBy 5 (Option.some Jvm.ClassFile.FieldType.int) ∈ mw := mw_in 1656 (by decide +kernel) rfl
theorem q1657 : Cond.methodLink RX10 392 yX10_isThere ∈ mw := mw_in 1657 (by decide +kernel) rfl
theorem q1659 : Cond.instanceMethod yX10_isThere ∈ mw := mw_in 1659 (by decide +kernel) rfl
theorem q1660 : Cond.code yX10_isThere cX10_isThere 3 (Option.some Jvm.ClassFile.FieldType.boolean) ∈ mw := mw_in 1660 (by decide +kernel) rfl
theorem q1661 : Cond.methodLink RX10 395 yX10_actBy ∈ mw := mw_in 1661 (by decide +kernel) rfl
theorem q1663 : Cond.instanceMethod yX10_actBy ∈ mw := mw_in 1663 (by decide +kernel) rfl
theorem q1664 : Cond.code yX10_actBy cX10_actBy 8 (Option.some Jvm.ClassFile.FieldType.int) ∈ mw := mw_in 1664 (by decide +kernel) rfl
theorem q1665 : Cond.methodLink RX10 376 yX10_look ∈ mw := mw_in 1665 (by decide +kernel) rfl
theorem q1667 : Cond.instanceMethod yX10_look ∈ mw := mw_in 1667 (by decide +kernel) rfl
theorem q1668 : Cond.code yX10_look cX10_look 6 (Option.none : Option Jvm.ClassFile.FieldType) ∈ mw := mw_in 1668 (by decide +kernel) rfl
theorem q1669 : Cond.methodLink RX10 379 yX10_holds ∈ mw := mw_in 1669 (by decide +kernel) rfl
theorem q1671 : Cond.instanceMethod yX10_holds ∈ mw := mw_in 1671 (by decide +kernel) rfl
theorem q1672 : Cond.code yX10_holds cX10_holds 8 (Option.some Jvm.ClassFile.FieldType.boolean) ∈ mw := mw_in 1672 (by decide +kernel) rfl
theorem q1673 : Cond.methodLink RX10 372 yX10_found ∈ mw := mw_in 1673 (by decide +kernel) rfl
theorem q1675 : Cond.instanceMethod yX10_found ∈ mw := mw_in 1675 (by decide +kernel) rfl
theorem q1676 : Cond.code yX10_found cX10_found 5 (Option.some Jvm.ClassFile.FieldType.int) ∈ mw := mw_in 1676 (by decide +kernel) rfl
theorem q1677 : Cond.methodLink RX10 349 yX10_way ∈ mw := mw_in 1677 (by decide +kernel) rfl
theorem q1679 : Cond.instanceMethod yX10_way ∈ mw := mw_in 1679 (by decide +kernel) rfl
theorem q1680 : Cond.code yX10_way cX10_way 3 (Option.some Jvm.ClassFile.FieldType.int) ∈ mw := mw_in 1680 (by decide +kernel) rfl
theorem q1681 : Cond.methodLink RX10 352 yX10_freeOn ∈ mw := mw_in 1681 (by decide +kernel) rfl
theorem q1683 : Cond.instanceMethod yX10_freeOn ∈ mw := mw_in 1683 (by decide +kernel) rfl
theorem q1684 : Cond.code yX10_freeOn cX10_freeOn 9 (Option.some Jvm.ClassFile.FieldType.int) ∈ mw := mw_in 1684 (by decide +kernel) rfl
theorem q1685 : Cond.methodLink RX10 339 yX10_isInside ∈ mw := mw_in 1685 (by decide +kernel) rfl
theorem q1687 : Cond.instanceMethod yX10_isInside ∈ mw := mw_in 1687 (by decide +kernel) rfl
theorem q1688 : Cond.code yX10_isInside cX10_isInside 4 (Option.some Jvm.ClassFile.FieldType.boolean) ∈ mw := mw_in 1688 (by decide +kernel) rfl
theorem q1689 : Cond.methodLink RX10 342 yX10_isWall ∈ mw := mw_in 1689 (by decide +kernel) rfl
theorem q1691 : Cond.instanceMethod yX10_isWall ∈ mw := mw_in 1691 (by decide +kernel) rfl
theorem q1692 : Cond.code yX10_isWall cX10_isWall 4 (Option.some Jvm.ClassFile.FieldType.boolean) ∈ mw := mw_in 1692 (by decide +kernel) rfl
theorem q1693 : Cond.methodLink RX10 345 yX10_seenOn ∈ mw := mw_in 1693 (by decide +kernel) rfl
theorem q1695 : Cond.instanceMethod yX10_seenOn ∈ mw := mw_in 1695 (by decide +kernel) rfl
theorem q1696 : Cond.code yX10_seenOn cX10_seenOn 6 (Option.some Jvm.ClassFile.FieldType.int) ∈ mw := mw_in 1696 (by decide +kernel) rfl
theorem q1697 : Cond.methodLink RX10 359 yX10_soonBy ∈ mw := mw_in 1697 (by decide +kernel) rfl
theorem q1699 : Cond.instanceMethod yX10_soonBy ∈ mw := mw_in 1699 (by decide +kernel) rfl
theorem q1700 : Cond.code yX10_soonBy cX10_soonBy 8 (Option.some Jvm.ClassFile.FieldType.int) ∈ mw := mw_in 1700 (by decide +kernel) rfl
theorem q1701 : Cond.methodLink RX10 362 yX10_nearBy ∈ mw := mw_in 1701 (by decide +kernel) rfl
theorem q1703 : Cond.instanceMethod yX10_nearBy ∈ mw := mw_in 1703 (by decide +kernel) rfl
theorem q1704 : Cond.code yX10_nearBy cX10_nearBy 8 (Option.some Jvm.ClassFile.FieldType.int) ∈ mw := mw_in 1704 (by decide +kernel) rfl
theorem q1705 : Cond.methodLink RX10 356 yX10_distance ∈ mw := mw_in 1705 (by decide +kernel) rfl
theorem q1707 : Cond.instanceMethod yX10_distance ∈ mw := mw_in 1707 (by decide +kernel) rfl
theorem q1708 : Cond.code yX10_distance cX10_distance 5 (Option.some Jvm.ClassFile.FieldType.int) ∈ mw := mw_in 1708 (by decide +kernel) rfl
theorem q1709 : Cond.methodLink RX10 366 yX10_isFacing ∈ mw := mw_in 1709 (by decide +kernel) rfl
theorem q1711 : Cond.instanceMethod yX10_isFacing ∈ mw := mw_in 1711 (by decide +kernel) rfl
theorem q1712 : Cond.code yX10_isFacing cX10_isFacing 3 (Option.some Jvm.ClassFile.FieldType.boolean) ∈ mw := mw_in 1712 (by decide +kernel) rfl
theorem q1713 : Cond.methodLink RX10 369 yX10_isParted ∈ mw := mw_in 1713 (by decide +kernel) rfl
theorem q1715 : Cond.instanceMethod yX10_isParted ∈ mw := mw_in 1715 (by decide +kernel) rfl
theorem q1716 : Cond.code yX10_isParted cX10_isParted 4 (Option.some Jvm.ClassFile.FieldType.boolean) ∈ mw := mw_in 1716 (by decide +kernel) rfl
theorem q1717 : Cond.methodLink RX10 398 yX10_lotIsRight ∈ mw := mw_in 1717 (by decide +kernel) rfl
theorem q1719 : Cond.instanceMethod yX10_lotIsRight ∈ mw := mw_in 1719 (by decide +kernel) rfl
theorem q1720 : Cond.code yX10_lotIsRight cX10_lotIsRight 3 (Option.some Jvm.ClassFile.FieldType.boolean) ∈ mw := mw_in 1720 (by decide +kernel) rfl
theorem q1721 : Cond.constant RX10 391 (1103515245) ∈ mw := mw_in 1721 (by decide +kernel) rfl
theorem q1722 : Cond.methodLink RX10 411 yX10_goes ∈ mw := mw_in 1722 (by decide +kernel) rfl
theorem q1724 : Cond.instanceMethod yX10_goes ∈ mw := mw_in 1724 (by decide +kernel) rfl
theorem q1725 : Cond.code yX10_goes cX10_goes 8 (Option.none : Option Jvm.ClassFile.FieldType) ∈ mw := mw_in 1725 (by decide +kernel) rfl
theorem q1726 : Cond.methodLink RX10 401 yX10_isStoodOn ∈ mw := mw_in 1726 (by decide +kernel) rfl
theorem q1728 : Cond.instanceMethod yX10_isStoodOn ∈ mw := mw_in 1728 (by decide +kernel) rfl
theorem q1729 : Cond.code yX10_isStoodOn cX10_isStoodOn 5 (Option.some Jvm.ClassFile.FieldType.boolean) ∈ mw := mw_in 1729 (by decide +kernel) rfl
theorem q1730 : Cond.methodLink RX10 404 yX10_passDoor ∈ mw := mw_in 1730 (by decide +kernel) rfl
theorem q1732 : Cond.instanceMethod yX10_passDoor ∈ mw := mw_in 1732 (by decide +kernel) rfl
theorem q1733 : Cond.code yX10_passDoor cX10_passDoor 6 (Option.none : Option Jvm.ClassFile.FieldType) ∈ mw := mw_in 1733 (by decide +kernel) rfl
theorem q1734 : Cond.methodLink RX10 414 yX10_dance ∈ mw := mw_in 1734 (by decide +kernel) rfl
theorem q1736 : Cond.instanceMethod yX10_dance ∈ mw := mw_in 1736 (by decide +kernel) rfl
theorem q1737 : Cond.code yX10_dance cX10_dance 7 (Option.some Jvm.ClassFile.FieldType.boolean) ∈ mw := mw_in 1737 (by decide +kernel) rfl
theorem q1738 : Cond.methodLink RX10 417 yX10_ends ∈ mw := mw_in 1738 (by decide +kernel) rfl
theorem q1740 : Cond.instanceMethod yX10_ends ∈ mw := mw_in 1740 (by decide +kernel) rfl
theorem q1741 : Cond.code yX10_ends cX10_ends 4 (Option.none : Option Jvm.ClassFile.FieldType) ∈ mw := mw_in 1741 (by decide +kernel) rfl
theorem q1746 : Cond.methodLink RX10 428 yX10_isRunner ∈ mw := mw_in 1746 (by decide +kernel) rfl
theorem q1748 : Cond.instanceMethod yX10_isRunner ∈ mw := mw_in 1748 (by decide +kernel) rfl
theorem q1749 : Cond.code yX10_isRunner cX10_isRunner 2 (Option.some Jvm.ClassFile.FieldType.boolean) ∈ mw := mw_in 1749 (by decide +kernel) rfl
theorem q1766 : Cond.methodLink RX10 434 yX10_lanes ∈ mw := mw_in 1766 (by decide +kernel) rfl
theorem q1768 : Cond.instanceMethod yX10_lanes ∈ mw := mw_in 1768 (by decide +kernel) rfl
theorem q1769 : Cond.code yX10_lanes cX10_lanes 7 (Option.some Jvm.ClassFile.FieldType.int) ∈ mw := mw_in 1769 (by decide +kernel) rfl
theorem q1770 : Cond.methodLink RX10 431 yX10_waysOn ∈ mw := mw_in 1770 (by decide +kernel) rfl
theorem q1772 : Cond.instanceMethod yX10_waysOn ∈ mw := mw_in 1772 (by decide +kernel) rfl
theorem q1773 : Cond.code yX10_waysOn cX10_waysOn 5 (Option.some Jvm.ClassFile.FieldType.int) ∈ mw := mw_in 1773 (by decide +kernel) rfl
theorem q1782 : Cond.methodLink RX10 444 yX10_findTwo ∈ mw := mw_in 1782 (by decide +kernel) rfl
theorem q1784 : Cond.instanceMethod yX10_findTwo ∈ mw := mw_in 1784 (by decide +kernel) rfl
theorem q1785 : Cond.code yX10_findTwo cX10_findTwo 4 (Option.none : Option Jvm.ClassFile.FieldType) ∈ mw := mw_in 1785 (by decide +kernel) rfl
theorem q1786 : Cond.methodLink RX10 441 yX10_layOver ∈ mw := mw_in 1786 (by decide +kernel) rfl
theorem q1788 : Cond.instanceMethod yX10_layOver ∈ mw := mw_in 1788 (by decide +kernel) rfl
theorem q1789 : Cond.code yX10_layOver cX10_layOver 4 (Option.none : Option Jvm.ClassFile.FieldType) ∈ mw := mw_in 1789 (by decide +kernel) rfl
theorem q1794 : Cond.methodLink RX10 447 yX10_isTried ∈ mw := mw_in 1794 (by decide +kernel) rfl
theorem q1796 : Cond.instanceMethod yX10_isTried ∈ mw := mw_in 1796 (by decide +kernel) rfl
theorem q1797 : Cond.code yX10_isTried cX10_isTried 5 (Option.some Jvm.ClassFile.FieldType.boolean) ∈ mw := mw_in 1797 (by decide +kernel) rfl
theorem q1798 : Cond.methodLink RX10 451 yX10_tryOn ∈ mw := mw_in 1798 (by decide +kernel) rfl
theorem q1800 : Cond.instanceMethod yX10_tryOn ∈ mw := mw_in 1800 (by decide +kernel) rfl
theorem q1801 : Cond.code yX10_tryOn cX10_tryOn 3 (Option.none : Option Jvm.ClassFile.FieldType) ∈ mw := mw_in 1801 (by decide +kernel) rfl
theorem q1806 : Cond.methodLink RX10 454 yX10_isFreeAtFirst ∈ mw := mw_in 1806 (by decide +kernel) rfl
theorem q1808 : Cond.instanceMethod yX10_isFreeAtFirst ∈ mw := mw_in 1808 (by decide +kernel) rfl
theorem q1809 : Cond.code yX10_isFreeAtFirst cX10_isFreeAtFirst 7 (Option.some Jvm.ClassFile.FieldType.boolean) ∈ mw := mw_in 1809 (by decide +kernel) rfl
theorem q1814 : Cond.constant RX10 457 (-100000) ∈ mw := mw_in 1814 (by decide +kernel) rfl
theorem q1815 : Cond.methodLink RX10 458 yX10_tenths ∈ mw := mw_in 1815 (by decide +kernel) rfl
theorem q1817 : Cond.instanceMethod yX10_tenths ∈ mw := mw_in 1817 (by decide +kernel) rfl
theorem q1818 : Cond.code yX10_tenths cX10_tenths 6 (Option.some Jvm.ClassFile.FieldType.int) ∈ mw := mw_in 1818 (by decide +kernel) rfl
theorem q1823 : Cond.methodLink RX10 461 yX10_arrive ∈ mw := mw_in 1823 (by decide +kernel) rfl
theorem q1825 : Cond.instanceMethod yX10_arrive ∈ mw := mw_in 1825 (by decide +kernel) rfl
theorem q1826 : Cond.code yX10_arrive cX10_arrive 5 (Option.some Jvm.ClassFile.FieldType.int) ∈ mw := mw_in 1826 (by decide +kernel) rfl
theorem q1835 : Cond.methodLink RX10 464 yX10_areBeside ∈ mw := mw_in 1835 (by decide +kernel) rfl
theorem q1837 : Cond.instanceMethod yX10_areBeside ∈ mw := mw_in 1837 (by decide +kernel) rfl
theorem q1838 : Cond.code yX10_areBeside cX10_areBeside 7 (Option.some Jvm.ClassFile.FieldType.boolean) ∈ mw := mw_in 1838 (by decide +kernel) rfl
theorem q1851 : Cond.methodLink RX10 473 yX10_fitsNow ∈ mw := mw_in 1851 (by decide +kernel) rfl
theorem q1853 : Cond.instanceMethod yX10_fitsNow ∈ mw := mw_in 1853 (by decide +kernel) rfl
theorem q1854 : Cond.code yX10_fitsNow cX10_fitsNow 3 (Option.some Jvm.ClassFile.FieldType.boolean) ∈ mw := mw_in 1854 (by decide +kernel) rfl
theorem q1855 : Cond.methodLink RX10 467 yX10_isTrodden ∈ mw := mw_in 1855 (by decide +kernel) rfl
theorem q1857 : Cond.instanceMethod yX10_isTrodden ∈ mw := mw_in 1857 (by decide +kernel) rfl
theorem q1858 : Cond.code yX10_isTrodden cX10_isTrodden 4 (Option.some Jvm.ClassFile.FieldType.boolean) ∈ mw := mw_in 1858 (by decide +kernel) rfl
theorem q1859 : Cond.methodLink RX10 470 yX10_hasHat ∈ mw := mw_in 1859 (by decide +kernel) rfl
theorem q1861 : Cond.instanceMethod yX10_hasHat ∈ mw := mw_in 1861 (by decide +kernel) rfl
theorem q1862 : Cond.code yX10_hasHat cX10_hasHat 5 (Option.some Jvm.ClassFile.FieldType.boolean) ∈ mw := mw_in 1862 (by decide +kernel) rfl
theorem q1875 : Cond.methodLink RX10 485 yX10_isMatch ∈ mw := mw_in 1875 (by decide +kernel) rfl
theorem q1876 : Cond.static yX10_isMatch ∈ mw := mw_in 1876 (by decide +kernel) rfl
theorem q1877 : Cond.code yX10_isMatch cX10_isMatch 2 (Option.some Jvm.ClassFile.FieldType.boolean) ∈ mw := mw_in 1877 (by decide +kernel) rfl
theorem q1878 : Cond.methodLink RX10 488 yX10_findMatch ∈ mw := mw_in 1878 (by decide +kernel) rfl
theorem q1880 : Cond.instanceMethod yX10_findMatch ∈ mw := mw_in 1880 (by decide +kernel) rfl
theorem q1881 : Cond.code yX10_findMatch cX10_findMatch 10 (Option.none : Option Jvm.ClassFile.FieldType) ∈ mw := mw_in 1881 (by decide +kernel) rfl
theorem q1882 : Cond.methodLink RX10 476 yX10_ones ∈ mw := mw_in 1882 (by decide +kernel) rfl
theorem q1883 : Cond.static yX10_ones ∈ mw := mw_in 1883 (by decide +kernel) rfl
theorem q1884 : Cond.code yX10_ones cX10_ones 3 (Option.some Jvm.ClassFile.FieldType.int) ∈ mw := mw_in 1884 (by decide +kernel) rfl
theorem q1885 : Cond.methodLink RX10 479 yX10_couple ∈ mw := mw_in 1885 (by decide +kernel) rfl
theorem q1887 : Cond.instanceMethod yX10_couple ∈ mw := mw_in 1887 (by decide +kernel) rfl
theorem q1888 : Cond.code yX10_couple cX10_couple 6 (Option.some Jvm.ClassFile.FieldType.int) ∈ mw := mw_in 1888 (by decide +kernel) rfl
theorem q1901 : Cond.constantLong RX10 491 (-1) ∈ mw := mw_in 1901 (by decide +kernel) rfl
theorem q1902 : Cond.constantLong RX10 493 (12) ∈ mw := mw_in 1902 (by decide +kernel) rfl
theorem q1911 : Cond.methodLink RX10 495 yX10_copy ∈ mw := mw_in 1911 (by decide +kernel) rfl
theorem q1913 : Cond.instanceMethod yX10_copy ∈ mw := mw_in 1913 (by decide +kernel) rfl
theorem q1914 : Cond.code yX10_copy cX10_copy 4 (Option.none : Option Jvm.ClassFile.FieldType) ∈ mw := mw_in 1914 (by decide +kernel) rfl
theorem q1915 : Cond.methodLink RX10 125 yX10_move ∈ mw := mw_in 1915 (by decide +kernel) rfl
theorem q1916 : Cond.static yX10_move ∈ mw := mw_in 1916 (by decide +kernel) rfl
theorem q1917 : Cond.code yX10_move cX10_move 5 (Option.none : Option Jvm.ClassFile.FieldType) ∈ mw := mw_in 1917 (by decide +kernel) rfl
