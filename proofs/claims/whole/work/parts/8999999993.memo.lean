/-! two: what is known already -/
theorem TT_gone (N r L W : Nat) (hN : 40 ≤ N) : ∀ (k : Nat) (c m : DY) (w : Nat), SR c m w r L W → AWn c w 2 = 2 → ∀ j : Nat, TT N r k m j = if j = 0 ∨ j = 1 then 4 ^ k else 0 := by
  intro k
  induction k with
  | zero =>
    intro c m w hS hA j
    rw [TT_0, SR_arr hS, hA, if_pos (show iz ((2 : Nat) : Int) = 2 from rfl)]
    by_cases z : j = 0
    · rw [if_pos z, if_pos (Or.inl z)]
    · rw [if_neg z]
      by_cases y : j = 1
      · rw [if_pos y, if_pos (Or.inr y)]
      · rw [if_neg y, if_neg (by omega)]
  | succ k ih =>
    intro c m w hS hA j
    obtain ⟨R, p0, p1, x0, x1, o0, o1, wy, hT⟩ := SR_TLD N hN hS
    obtain ⟨⟨h1, R16⟩, hWh, ⟨k1, k2, k3, k4⟩, ⟨d0, d1⟩, ⟨z0, z1, z05, z15, e0, e1⟩, ⟨q1, q2, q3⟩, hw⟩ := hT
    have all := AWn_all 2 hA
    have gx : ∀ i : Nat, i < 2 → cx c w 0 i = -1 := fun i hi => by
      unfold cx
      rw [Nat.mul_zero, Nat.zero_add, all i hi]
      rfl
    have hv := SR_c hS
    have gy : ∀ i : Nat, i < 2 → cy c w 0 i = -1 := fun i hi => by
      have := (hv.2.2.2.2.1 0 i (by omega) hi).2.2
      have g := gx i hi
      unfold inS at this
      omega
    have five : ∀ (i : Nat) (x : Int32), i < 2 → DD c w L W R i x → x = 5 := fun i x hi h => by
      rcases h with y | y
      · exact y.2
      · exact absurd (gx i hi) y.1
    have x05 := five 0 x0 (by omega) d0
    have x15 := five 1 x1 (by omega) d1
    have nd : ∀ p : Nat, ndT 5 p = 0 := fun p => if_neg (fun z => by
      rcases z with z | z
      · exact absurd z (by decide)
      · exact absurd z.1 (by decide))
    obtain ⟨s, a', ma', m0, m1, X0, Y0, X1, Y1, A1, A2, A3, A4, A5, A6, A7, A8, A9, A10, A11, A12, A13, A14, A15, A16, _, _⟩ := told_of N 0 hN hS h1 R16 hWh k1 k2 k3 k4 d0 d1 z0 z1 z05 z15 e0 e1 (by omega) (si (si c (w + 8) 0 (aimT x0 p0 (0 % 2))) (w + 8) 1 (aimT x1 p1 (0 / 2 ^ ndT x0 p0 % 2))) (fun x k _ _ h8 _ => by rw [gi_si_if, if_neg (by omega), gi_si_if, if_neg (by omega)]) (by rw [gi_si_if, if_neg (by omega), gi_si_if, if_pos ⟨rfl, rfl⟩]) (by rw [gi_si_if, if_pos ⟨rfl, rfl⟩]) o0 o1 q1 q2 q3 wy hw
    have us : usT N r m = 0 := by
      unfold usT
      rw [A2, A4, x05, x15, nd, nd]
      rfl
    have stay : ∀ {wl : Int → Int → Prop} {px py : Nat → Int} {i am mv : Nat} {st : Prop} {wyi X Y : Int}, GFP L W 2 wl px py i st am wyi mv X Y → px i = -1 → X = px i ∧ Y = py i := fun h hp => by
      rcases h with ⟨_, _, y1, y2⟩ | ⟨a, _⟩ | ⟨a, _⟩ | ⟨a, _⟩ | ⟨a, _⟩
      · exact ⟨y1, y2⟩
      · exact absurd (Or.inl hp) a
      · exact absurd (Or.inl hp) a
      · exact absurd (Or.inl hp) a
      · exact absurd (Or.inl hp) a
    have ow : o0 < 2 ∧ o1 < 2 := by omega
    have s0 := stay A7 (gx o0 ow.1)
    have s1 := stay A8 (by
      unfold updI
      rw [if_neg (by omega)]
      exact gx o1 ow.2)
    have fin : ∀ i : Nat, i < 2 → gi a' (w + 1) i = -1 ∧ gi a' (w + 2) i = -1 := fun i hi => by
      rw [(A9 i hi).1, (A9 i hi).2]
      have e : updI (updI (cx c w 0) o0 X0) o1 X1 i = -1 ∧ updI (updI (cy c w 0) o0 Y0) o1 Y1 i = -1 := by
        have t1 := s1.1
        have t2 := s1.2
        unfold updI at t1 t2 ⊢
        rw [if_neg (by omega)] at t1 t2
        by_cases z : i = o1
        · rw [if_pos z, if_pos z, t1, t2]
          exact ⟨gx o1 ow.2, gy o1 ow.2⟩
        · rw [if_neg z, if_neg z]
          by_cases y : i = o0
          · rw [if_pos y, if_pos y, s0.1, s0.2]
            exact ⟨gx o0 ow.1, gy o0 ow.1⟩
          · rw [if_neg y, if_neg y]
            exact ⟨gx i hi, gy i hi⟩
      rw [e.1, e.2]
      exact ⟨rfl, rfl⟩
    have hA' : AWn a' w 2 = 2 := by
      rw [show AWn a' w 2 = 0 + (if gi a' (w + 1) 0 = -1 then 1 else 0) + (if gi a' (w + 1) 1 = -1 then 1 else 0) from rfl, if_pos (fin 0 (by omega)).1, if_pos (fin 1 (by omega)).1]
    have dn0 : dnT N r m 0 = 0 := by
      rw [A16]
      unfold dCN
      refine S1_zero 2 (fun x hx => S1_zero 2 (fun y hy => ?_))
      unfold dC2 dC1
      rw [if_pos (fin x hx).2]
      by_cases z : x < y
      · rw [if_pos z]
        by_cases u : gi a' (95 + 4) x = gi a' (95 + 4) y
        · rw [if_pos u]
        · rw [if_neg u]
      · rw [if_neg z]
    rw [TT_s, us, Nat.pow_zero]
    show 0 + 4 / 1 * (if j = 0 then TT N r k (stT N r m 0) 0 else if dnT N r m 0 + 1 ≤ j then TT N r k (stT N r m 0) (j - dnT N r m 0) else 0) = _
    rw [dn0, A2, ih a' ma' w A3 hA', Nat.zero_add, Nat.div_one, ih a' ma' w A3 hA', if_pos (Or.inl rfl), Nat.pow_succ]
    by_cases z : j = 0
    · rw [if_pos z, if_pos (Or.inl z)]; omega
    · rw [if_neg z]
      by_cases y : j = 1
      · rw [if_pos (by omega), if_pos (Or.inr (by omega)), if_pos (Or.inr y)]; omega
      · rw [if_neg (show ¬ (j = 0 ∨ j = 1) by omega)]
        by_cases u : 0 + 1 ≤ j
        · rw [if_pos u, if_neg (by omega)]
        · rw [if_neg u]
theorem SR_orderq {a b ma mb : DY} {wa wb ra rb L W : Nat} (hA : SR a ma wa ra L W) (hB : SR b mb wb rb L W) (g : ∀ x k : Nat, 95 ≤ x → x ≤ 111 → gi b x k = gi a x k) : ∀ p : Nat, p < 2 → gi b (wb + 9) p = gi a (wa + 9) p := by
  have one : ∀ {c m : DY} {w r : Nat}, SR c m w r L W → ∃ od : Nat → Nat, (od 0 = 0 ∧ od 1 = 1 ∨ od 0 = 1 ∧ od 1 = 0) ∧ (∀ p : Nat, p < 2 → gi c (w + 9) p = iz (od p : Nat)) ∧ (hsI c 95 (od 1) < hsI c 95 (od 0) ∨ hsI c 95 (od 0) = hsI c 95 (od 1) ∧ od 0 < od 1) := fun {c m w r} h => by
    obtain ⟨hG, hw, r14, hR, h45, hAW⟩ := h
    obtain ⟨_, _, _, _, d5⟩ := cv_dj hG
    obtain ⟨_, _, _, _, _, _, _, _, _, _, _, od, o1, o2, o3⟩ := hR
    obtain ⟨a1, _⟩ := o1 0 (by omega)
    obtain ⟨b1, _⟩ := o1 1 (by omega)
    have b := o2 0 1 (by omega) (by omega)
    have hh : ∀ i : Nat, hsI (mixD c (si m 531 (720 * r + 5) (gi c w 4))) 95 i = hsI c 95 i := fun i => by
      unfold hsI
      rw [mix_c _ _ _ _ (by omega)]
    unfold bef at b
    rw [hh, hh] at b
    refine ⟨od, ?_, fun p hp => ?_, b⟩
    · have ne : od 0 ≠ od 1 := fun z => by
        rw [z] at b
        omega
      omega
    · have := (o1 p hp).2
      rw [mix_c _ _ _ _ (by omega)] at this
      exact this
  obtain ⟨oa, a1, a2, a3⟩ := one hA
  obtain ⟨ob, b1, b2, b3⟩ := one hB
  have hh : ∀ i : Nat, hsI b 95 i = hsI a 95 i := fun i => by
    unfold hsI
    rw [g _ _ (by omega) (by omega)]
  rw [hh, hh] at b3
  intro p hp
  rw [a2 p hp, b2 p hp]
  have P : p = 0 ∨ p = 1 := by omega
  have same : oa 0 = ob 0 ∧ oa 1 = ob 1 := by
    rcases a1 with ⟨u1, u2⟩ | ⟨u1, u2⟩ <;> rcases b1 with ⟨v1, v2⟩ | ⟨v1, v2⟩ <;> rw [u1, u2] at a3 <;> rw [v1, v2] at b3 <;> omega
  rcases P with rfl | rfl
  · rw [same.1]
  · rw [same.2]
/-- the key's number, all of it -/
def KN (wf : Int32) (lg : Nat) (a : DY) (wa : Nat) : Nat := if wf = 0 then kyN a wa lg else 256 * kyN a wa lg + 16 * (gi a (wa + 7) 0).toNatClampNeg + (gi a (wa + 7) 1).toNatClampNeg
def WT16 (a : DY) (wa b : Nat) : Prop := ∀ i : Nat, i < 2 → ∃ v : Nat, v ≤ b ∧ gi a (wa + 7) i = iz v
theorem KQ_key {a b ma mb : DY} {wa wb ra rb L W lg : Nat} {wf : Int32} (hA : SR a ma wa ra L W) (hB : SR b mb wb rb L W) (g : ∀ x k : Nat, 95 ≤ x → x ≤ 111 → gi b x k = gi a x k) (lg4 : lg ≤ 4) (ht : gi b wb 2 = gi a wa 2) (wa16 : WT16 a wa 15) (wb16 : WT16 b wb 15) (hwf : wf = 0 → ∀ R : Nat, gi a 105 0 = iz R → R ≤ 16 → ¬ WGH a 105 R) (hK : KN wf lg b wb = KN wf lg a wa) : KQ lg a b wa wb := by
  obtain ⟨u0, u0b, u0e⟩ := wa16 0 (by omega)
  obtain ⟨u1, u1b, u1e⟩ := wa16 1 (by omega)
  obtain ⟨v0, v0b, v0e⟩ := wb16 0 (by omega)
  obtain ⟨v1, v1b, v1e⟩ := wb16 1 (by omega)
  unfold KN at hK
  rw [u0e, u1e, v0e, v1e, tnn _ u0 rfl (by omega), tnn _ u1 rfl (by omega), tnn _ v0 rfl (by omega), tnn _ v1 rfl (by omega)] at hK
  by_cases z : wf = 0
  · rw [if_pos z, if_pos z] at hK
    exact ⟨g, ht, fun t i h1 h2 => kyN_inj (SR_c hA) (SR_c hB) lg lg4 hK t i h1 h2, SR_orderq hA hB g, Or.inr (hwf z)⟩
  · rw [if_neg z, if_neg z] at hK
    refine ⟨g, ht, fun t i h1 h2 => kyN_inj (SR_c hA) (SR_c hB) lg lg4 (by omega) t i h1 h2, SR_orderq hA hB g, Or.inl (fun i hi => ?_)⟩
    have I : i = 0 ∨ i = 1 := by omega
    rcases I with rfl | rfl
    · rw [u0e, v0e]; exact congrArg iz (by omega)
    · rw [u1e, v1e]; exact congrArg iz (by omega)
/-- what is known is so -/
def MEMO (N n lg L W : Nat) (wf : Int32) (c : DY) : Prop := ∀ s : Nat, s < 512 → gi c 128 s = 0 ∨ ∃ k : Nat, 1 ≤ k ∧ k ≤ n ∧ gi c 128 s = iz k ∧ ∀ (a ma : DY) (wa ra : Nat), SR a ma wa ra L W → (∀ x y : Nat, 95 ≤ x → x ≤ 111 → gi a x y = gi c x y) → gi a wa 2 = iz ((n - k : Nat) : Int) → WT16 a wa 15 → KN wf lg a wa = (gl c 127 s).toBitVec.toNat → ∀ j : Nat, j < 10 → gi c 129 (10 * s + j) = iz (TT N ra k ma j : Nat)
theorem MEMO_fr {N n lg L W : Nat} {wf : Int32} {c e : DY} (h : MEMO N n lg L W wf c) (h1 : ∀ x y : Nat, (95 ≤ x ∧ x ≤ 111) ∨ x = 128 ∨ x = 129 → gi e x y = gi c x y) (h2 : ∀ s : Nat, gl e 127 s = gl c 127 s) : MEMO N n lg L W wf e := by
  intro s hs
  rw [h1 128 s (by omega), h2]
  rcases h s hs with z | ⟨k, k1, k2, k3, k4⟩
  · exact Or.inl z
  · refine Or.inr ⟨k, k1, k2, k3, fun a ma wa ra a1 a2 a3 a4 a5 j hj => ?_⟩
    rw [h1 129 _ (by omega)]
    exact k4 a ma wa ra a1 (fun x y y1 y2 => by rw [a2 x y y1 y2, h1 x y (by omega)]) a3 a4 a5 j hj
theorem pow4_sh : ∀ k : Nat, k ≤ 8 → (1 : Int32) <<< (((2 : Int32) * iz (k : Int)) &&& 31) = iz ((4 ^ k : Nat) : Int) := by
  have : ∀ k : Fin 9, (1 : Int32) <<< (((2 : Int32) * iz ((k.1 : Nat) : Int)) &&& 31) = iz ((4 ^ k.1 : Nat) : Int) := by decide +kernel
  exact fun k hk => this ⟨k, by omega⟩
