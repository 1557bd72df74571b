/-! reading a PASSAGE: friends -/
theorem c_unfr (N : Nat) (d : DY) (n u : Nat) (n12 : n ≤ 12) (hu : u < n) (g3 : gi d 95 3 = iz n) (fr : Nat → Int) (hfr : ∀ i : Nat, i < n → gi d 104 i = iz (fr i) ∧ (fr i = -1 ∨ 0 ≤ fr i ∧ fr i < n)) : ∃ e : DY, F_X4_unfriend Z0.1 N 95 (iz u) d = some e ∧ (∀ x i : Nat, x ≠ 104 → gi e x i = gi d x i) ∧ (∀ i : Nat, i < n → gi e 104 i = iz (losI fr u i)) ∧ ∀ x i : Nat, gl e x i = gl d x i := by
  have iu : ib (iz (u : Int)) 12 := iz_ib (by omega)
  obtain ⟨fu, bu⟩ := hfr u hu
  have hs2 := c_hasG Z0.1 N 95 (fr u) n d (by omega) (by omega) g3 n12
  have U := F_X4_unfriend_s Z0.1 N 95 (iz u) d
  rw [if_pos iu, cv_g9 cvg_try, tnn _ u rfl (by omega), show (95 + 9 : Nat) = 104 from rfl, fu, hs2, sb_eq] at U
  rcases bu with z | z
  · rw [if_neg (show ¬ (0 ≤ fr u ∧ fr u < (n : Int)) by omega), if_pos rfl] at U
    refine ⟨d, U, fun _ _ _ => rfl, fun i hi => ?_, fun _ _ => rfl⟩
    unfold losI
    rw [if_neg (by omega)]
    exact (hfr i hi).1
  · have t : (iz (fr u)).toNatClampNeg = (fr u).toNat := tnn _ _ (by omega) (by omega)
    rw [if_pos (show 0 ≤ fr u ∧ fr u < (n : Int) from z), if_neg (show ¬ (1 : Int32) = 0 by decide), if_pos (show ib (iz (fr u)) 12 from iz_ib (by omega)), bd_eq, t] at U
    refine ⟨_, U, fun x i h => by rw [gi_si_if, if_neg (by omega)], fun i hi => ?_, fun _ _ => rfl⟩
    rw [gi_si_if]
    unfold losI
    by_cases y : fr u = i
    · rw [if_pos (by omega), if_pos y]; rfl
    · rw [if_neg (by omega), if_neg y]
      exact (hfr i hi).1
theorem losI_ok {fr : Nat → Int} {n u : Nat} (h : ∀ i : Nat, i < n → fr i = -1 ∨ 0 ≤ fr i ∧ fr i < n) : ∀ i : Nat, i < n → losI fr u i = -1 ∨ 0 ≤ losI fr u i ∧ losI fr u i < n := fun i hi => by
  unfold losI
  by_cases z : fr u = i
  · rw [if_pos z]; exact Or.inl rfl
  · rw [if_neg z]; exact h i hi
def prtI (fr : Nat → Int) (a i : Nat) : Int := if fr a = -1 then fr i else if (i : Int) = fr a ∨ i = a then -1 else fr i
theorem prtI_ok {fr : Nat → Int} {n u : Nat} (h : ∀ i : Nat, i < n → fr i = -1 ∨ 0 ≤ fr i ∧ fr i < n) : ∀ i : Nat, i < n → prtI fr u i = -1 ∨ 0 ≤ prtI fr u i ∧ prtI fr u i < n := fun i hi => by
  unfold prtI
  by_cases z : fr u = -1
  · rw [if_pos z]; exact h i hi
  · rw [if_neg z]
    by_cases y : (i : Int) = fr u ∨ i = u
    · rw [if_pos y]; exact Or.inl rfl
    · rw [if_neg y]; exact h i hi
theorem m_part (N : Nat) (m : DY) (n a : Nat) (n12 : n ≤ 12) (ha : a < n) (fr : Nat → Int) (hfr : ∀ i : Nat, i < n → gi m 529 (8 * i + 7) = iz (fr i) ∧ (fr i = -1 ∨ 0 ≤ fr i ∧ fr i < n)) : ∃ e : DY, F_X10_part Z0.1 N 510 (iz a) m = some e ∧ (∀ x i : Nat, ¬ (x = 529 ∧ i % 8 = 7) → gi e x i = gi m x i) ∧ (∀ i : Nat, i < n → gi e 529 (8 * i + 7) = iz (prtI fr a i)) ∧ ∀ x i : Nat, gl e x i = gl m x i := by
  have e8 : ∀ k : Int, (8 : Int32) * iz k + (7 : Int32) = iz (8 * k + 7) := fun k => by rw [show (8 : Int32) * iz k = iz (8 * k) from iz_mul 8 k, l_7, iz_add]
  obtain ⟨fa, ba⟩ := hfr a ha
  have F := F_X10_part_s Z0.1 N 510 (iz a) m
  have ta : (iz (8 * (a : Int) + 7)).toNatClampNeg = 8 * a + 7 := tnn _ _ (by omega) (by omega)
  have ia : ib (iz (8 * (a : Int) + 7)) 104 := iz_ib (by omega)
  rw [e8, if_pos ia, r_510_34, ta, fa] at F
  unfold prtI
  by_cases z : fr a = -1
  · rw [if_pos (show iz (fr a) = -1 by rw [z]; rfl)] at F
    refine ⟨m, F, fun _ _ _ => rfl, fun i hi => ?_, fun _ _ => rfl⟩
    rw [if_pos z]
    exact (hfr i hi).1
  · have tf : (iz (8 * fr a + 7)).toNatClampNeg = 8 * (fr a).toNat + 7 := tnn _ _ (by omega) (by omega)
    rw [if_neg (show ¬ iz (fr a) = -1 by rw [l_m1]; exact iz_nei (by omega)), e8, if_pos (show ib (iz (8 * fr a + 7)) 104 from iz_ib (by omega)), bd_eq, if_pos ia, bd_eq, tf] at F
    refine ⟨_, F, fun x i q => by rw [gi_si_if, if_neg (fun w => q ⟨w.1, by omega⟩), gi_si_if, if_neg (fun w => q ⟨w.1, by omega⟩)], fun i hi => ?_, fun _ _ => rfl⟩
    rw [if_neg z, gi_si_if, gi_si_if]
    by_cases y : (i : Int) = fr a ∨ i = a
    · rw [if_pos y]
      by_cases w : i = a
      · rw [if_pos (by omega)]; rfl
      · rw [if_neg (by omega), if_pos (by omega)]; rfl
    · rw [if_neg y, if_neg (by omega), if_neg (by omega)]
      exact (hfr i hi).1
/-- everyone's friend then -/
def FRB (fr : Nat → Int) (a b i : Nat) : Int := if i = b then (a : Int) else if i = a then (b : Int) else if (if fr a = b then -1 else fr b) = (i : Int) then -1 else if fr a = i then -1 else fr i
theorem FRB_ok {fr : Nat → Int} {n a b : Nat} (ha : a < n) (hb : b < n) (h : ∀ i : Nat, i < n → fr i = -1 ∨ 0 ≤ fr i ∧ fr i < n) : ∀ i : Nat, i < n → FRB fr a b i = -1 ∨ 0 ≤ FRB fr a b i ∧ FRB fr a b i < n := fun i hi => by
  have := h i hi
  unfold FRB
  by_cases q1 : i = b
  · rw [if_pos q1]; omega
  rw [if_neg q1]
  by_cases q2 : i = a
  · rw [if_pos q2]; omega
  rw [if_neg q2]
  by_cases q3 : (if fr a = b then -1 else fr b) = (i : Int)
  · rw [if_pos q3]; omega
  rw [if_neg q3]
  by_cases q4 : fr a = i
  · rw [if_pos q4]; omega
  rw [if_neg q4]
  exact this
theorem FRB_sym {fr : Nat → Int} {n a b : Nat} (hab : a ≠ b) (h : ∀ i j : Nat, i < n → j < n → fr i = j → fr j = i) (hr : ∀ i : Nat, i < n → fr i = -1 ∨ 0 ≤ fr i ∧ fr i < n) (ha : a < n) (hb : b < n) : ∀ i j : Nat, i < n → j < n → FRB fr a b i = j → FRB fr a b j = i := fun i j hi hj e => by
  unfold FRB at e ⊢
  by_cases q1 : i = b
  · rw [if_pos q1] at e
    rw [if_neg (by omega), if_pos (by omega)]
    omega
  rw [if_neg q1] at e
  by_cases q2 : i = a
  · rw [if_pos q2] at e
    rw [if_pos (by omega)]
    omega
  rw [if_neg q2] at e
  by_cases q3 : (if fr a = b then -1 else fr b) = (i : Int)
  · rw [if_pos q3] at e; omega
  rw [if_neg q3] at e
  by_cases q4 : fr a = i
  · rw [if_pos q4] at e; omega
  rw [if_neg q4] at e
  have ji := h i j hi hj e
  -- j is neither a nor b
  have ja : j ≠ a := fun z => q4 (by rw [← z]; exact ji)
  have jb : j ≠ b := fun z => by
    rw [z] at ji
    by_cases w : fr a = b
    · have := h a b ha hb w
      omega
    · rw [if_neg w] at q3
      exact q3 ji
  rw [if_neg jb, if_neg ja]
  have n3 : ¬ (if fr a = b then -1 else fr b) = (j : Int) := fun z => by
    by_cases w : fr a = b
    · rw [if_pos w] at z; omega
    · rw [if_neg w] at z
      have := h b j hb hj z
      omega
  have n4 : ¬ fr a = j := fun z => by
    have := h a j ha hj z
    omega
  rw [if_neg n3, if_neg n4]
  exact ji
theorem c_befr (N : Nat) (d : DY) (n a b : Nat) (n12 : n ≤ 12) (ha : a < n) (hb : b < n) (hab : a ≠ b) (g3 : gi d 95 3 = iz n) (fr : Nat → Int) (hfr : ∀ i : Nat, i < n → gi d 104 i = iz (fr i) ∧ (fr i = -1 ∨ 0 ≤ fr i ∧ fr i < n)) : ∃ e : DY, F_X4_befriend Z0.1 N 95 (iz a) (iz b) d = some e ∧ (∀ x i : Nat, x ≠ 104 → gi e x i = gi d x i) ∧ (∀ i : Nat, i < n → gi e 104 i = iz (FRB fr a b i)) ∧ ∀ x i : Nat, gl e x i = gl d x i := by
  have n1 : ¬ (1 : Int32) = 0 := by decide
  have h1 := c_hasG Z0.1 N 95 (a : Int) n d (by omega) (by omega) g3 n12
  have h2 := c_hasG Z0.1 N 95 (b : Int) n d (by omega) (by omega) g3 n12
  rw [if_pos (by omega)] at h1 h2
  obtain ⟨e1, u1, u2, u3, u4⟩ := c_unfr N d n a n12 ha g3 fr hfr
  obtain ⟨e2, v1, v2, v3, v4⟩ := c_unfr N e1 n b n12 hb ((u2 95 3 (by omega)).trans g3) (losI fr a) (fun i hi => ⟨u3 i hi, losI_ok (fun i hi => (hfr i hi).2) i hi⟩)
  have ia : ib (iz (a : Int)) 12 := iz_ib (by omega)
  have ib' : ib (iz (b : Int)) 12 := iz_ib (by omega)
  refine ⟨si (si e2 104 a (iz b)) 104 b (iz a), ?_, fun x i q => ?_, fun i hi => ?_, fun x i => (v4 x i).trans (u4 x i)⟩
  · rw [F_X4_befriend_s]
    refine bnd h1 ((if_neg n1).trans (bnd h2 ((if_neg n1).trans ((if_neg (show ¬ iz (a : Int) = iz (b : Int) from iz_nei (by omega))).trans (bnd u1 (bnd v1 ?_))))))
    rw [if_pos ia, bd_eq, if_pos ib', bd_eq, cv_g9 cvg_try, tnn _ a rfl (by omega), tnn _ b rfl (by omega)]
  · rw [gi_si_if, if_neg (by omega), gi_si_if, if_neg (by omega), v2 x i q, u2 x i q]
  · rw [gi_si_if, gi_si_if, v3 i hi]
    unfold FRB
    by_cases q1 : i = b
    · rw [if_pos ⟨rfl, q1⟩, if_pos q1]
    rw [if_neg (fun z => q1 z.2), if_neg q1]
    by_cases q2 : i = a
    · rw [if_pos ⟨rfl, q2⟩, if_pos q2]
    rw [if_neg (fun z => q2 z.2), if_neg q2]
    rfl
/-- the reference's -/
theorem m_befr (N : Nat) (m : DY) (n a b : Nat) (n12 : n ≤ 12) (ha : a < n) (hb : b < n) (hab : a ≠ b) (g27 : gi m 510 27 = iz b) (g28 : gi m 510 28 = 1) (fr : Nat → Int) (hfr : ∀ i : Nat, i < n → gi m 529 (8 * i + 7) = iz (fr i) ∧ (fr i = -1 ∨ 0 ≤ fr i ∧ fr i < n)) : ∃ e : DY, F_X10_friendsLine_68 Z0.1 N 510 (iz a) m = some (1, e) ∧ (∀ x i : Nat, ¬ (x = 529 ∧ i % 8 = 7) → gi e x i = gi m x i) ∧ (∀ i : Nat, i < n → gi e 529 (8 * i + 7) = iz (FRB fr a b i)) ∧ ∀ x i : Nat, gl e x i = gl m x i := by
  have e8 : ∀ k : Nat, (8 : Int32) * iz (k : Int) + (7 : Int32) = iz ((8 * k + 7 : Nat) : Int) := fun k => by
    rw [show (8 : Int32) * iz (k : Int) = iz (8 * (k : Int)) from iz_mul 8 k, l_7, iz_add]
    exact congrArg iz (by omega)
  obtain ⟨e1, u1, u2, u3, u4⟩ := m_part N m n a n12 ha fr hfr
  obtain ⟨e2, v1, v2, v3, v4⟩ := m_part N e1 n b n12 hb (prtI fr a) (fun i hi => ⟨u3 i hi, prtI_ok (fun i hi => (hfr i hi).2) i hi⟩)
  have g1 : gi e1 510 27 = iz b := (u2 510 27 (by omega)).trans g27
  have g2 : gi e2 510 27 = iz b := (v2 510 27 (by omega)).trans g1
  refine ⟨si (si e2 529 (8 * a + 7) (iz b)) 529 (8 * b + 7) (iz a), ?_, fun x i q => ?_, fun i hi => ?_, fun x i => (v4 x i).trans (u4 x i)⟩
  · rw [F_X10_friendsLine_68_s, g28, if_neg (by decide)]
    refine bnd u1 ?_
    rw [g1]
    refine bnd v1 ?_
    rw [e8, if_pos (show ib (iz ((8 * a + 7 : Nat) : Int)) 104 from iz_ib (by omega)), bd_eq, r_510_34, tnn _ (8 * a + 7) rfl (by omega), g2, show gi (si e2 529 (8 * a + 7) (iz b)) 510 27 = iz b from by rw [gi_si_if, if_neg (by omega)]; exact g2, e8, if_pos (show ib (iz ((8 * b + 7 : Nat) : Int)) 104 from iz_ib (by omega)), bd_eq, tnn _ (8 * b + 7) rfl (by omega)]
  · rw [gi_si_if, if_neg (fun w => q ⟨w.1, by omega⟩), gi_si_if, if_neg (fun w => q ⟨w.1, by omega⟩), v2 x i q, u2 x i q]
  · rw [gi_si_if, gi_si_if, v3 i hi]
    have ra := (hfr a ha).2
    have rb := (hfr b hb).2
    have ri := (hfr i hi).2
    unfold FRB
    by_cases q1 : i = b
    · rw [if_pos ⟨rfl, by omega⟩, if_pos q1]
    rw [if_neg (by omega), if_neg q1]
    by_cases q2 : i = a
    · rw [if_pos ⟨rfl, by omega⟩, if_pos q2]
    rw [if_neg (by omega), if_neg q2]
    refine congrArg iz ?_
    have pb : prtI fr a b = if fr a = b then -1 else fr b := by
      unfold prtI
      by_cases z : fr a = -1
      · rw [if_pos z, if_neg (by omega)]
      · rw [if_neg z]
        by_cases y : fr a = b
        · rw [if_pos (Or.inl y.symm), if_pos y]
        · rw [if_neg (by omega), if_neg y]
    have pi : prtI fr a i = if fr a = i then -1 else fr i := by
      unfold prtI
      by_cases z : fr a = -1
      · rw [if_pos z, if_neg (by omega)]
      · rw [if_neg z]
        by_cases y : fr a = i
        · rw [if_pos (Or.inl y.symm), if_pos y]
        · rw [if_neg (by omega), if_neg y]
    show (if prtI fr a b = -1 then prtI fr a i else if (i : Int) = prtI fr a b ∨ i = b then -1 else prtI fr a i) = _
    rw [pb, pi]
    generalize (if fr a = (b : Int) then -1 else fr b) = w
    by_cases z : w = -1
    · rw [if_pos z, if_neg (show ¬ w = (i : Int) by omega)]
    · rw [if_neg z]
      by_cases y : w = i
      · rw [if_pos (Or.inl y.symm), if_pos y]
      · rw [if_neg (by omega), if_neg y]
theorem friends_line {c m : DY} {Z : Nat → Int} {sz f : Nat} (N : Nat) (hN : 900 ≤ N) (hT : TKS c m Z sz f) (hF : FLT c m f) (hP : PS c m) (hg : gi m 510 28 = 1) : ∃ (c' m' : DY) (v : Int32), F_X5_readFriends Z0.1 N 238 c = some c' ∧ F_X10_friendsLine Z0.1 N 510 m = some (v, m') ∧ LO c m c' m' v Z sz f := by
  have n1 : ¬ (1 : Int32) = 0 := by decide
  have C0 := F_X5_readFriends_s Z0.1 N 238 c
  rw [r_238_0, r_238_1] at C0
  have M0 := F_X10_friendsLine_s Z0.1 N 510 m
  have b58 : ∀ (x y : Int32) (d : DY), gi d 94 6 ≠ 0 → F_X5_readFriends_58 Z0.1 N 238 x y d = some d := fun x y d hd => by
    rw [F_X5_readFriends_58_s, r_238_0, c_sound, sb_eq, if_neg hd, if_pos rfl]
  have m68 : ∀ (x : Int32) (d : DY), gi d 510 28 = 0 → F_X10_friendsLine_68 Z0.1 N 510 x d = some (1, d) := fun x d hd => by
    rw [F_X10_friendsLine_68_s, hd, if_pos (by decide)]
  have nn : ∀ (x y : Int32) (d : DY), gi d 94 6 ≠ 0 → F_X6_note Z0.1 N 94 x y d = some d := fun x y d hd => by rw [F_X6_note_s, if_neg hd]
  -- in any case: nothing more by the class when there is a FAULT
  have cfin : ∀ (x y : Int32) (c1 c2 : DY), F_X6_needNumber_ Z0.1 N 94 0 (gi c 95 3 - 1) c = some (x, c1) → F_X6_needNumber_ Z0.1 N 94 0 (gi c1 95 3 - 1) c1 = some (y, c2) → gi c2 94 6 ≠ 0 → F_X5_readFriends Z0.1 N 238 c = some c2 := fun x y c1 c2 h1 h2 h3 => by
    refine C0.trans (bnd h1 (bnd h2 ?_))
    by_cases q : x = y
    · exact (if_pos q).trans (bnd (nn _ _ c2 h3) (b58 _ _ c2 h3))
    · exact (if_neg q).trans (b58 _ _ c2 h3)
  rcases wnum_both N hN hT hF hP hg with ⟨c1, m1, k1, k2, k3, k4, k5⟩ | ⟨u, c1, m1, u09, k1, k2, k3, k4, k5, k6, k7, k8, k9, k10, k11, k12⟩
  · exact ⟨c1, m1, 0, cfin 0 0 c1 c1 k1 (b_num_ N _ _ c1 k3.1) (by rw [k3.1]; decide), M0.trans (bnd k2 (if_pos rfl)), frLC_P k4, frLM_Q k5, Or.inl ⟨rfl, f, k3⟩⟩
  · rw [k2, sb_eq, if_neg n1] at M0
    by_cases g0 : gi m1 510 28 = 0
    · -- the first is none
      have uns : gi c1 94 6 ≠ 0 := fun z => by
        have := (k11 z).2.1
        rw [g0] at this
        exact absurd this (by decide)
      obtain ⟨⟨Lc, Wc, nc, bc, cc0, cc1, cc3⟩, ⟨Lm, Wm, nm, bm, mm29, mm30, mm31, mfr⟩, _⟩ := id k9
      have e1 : gi c1 95 3 - 1 = iz ((nc : Int) - 1) := by rw [cc3]; exact iz_sub _ 1
      have em1 : gi m1 510 31 - 1 = iz ((nm : Int) - 1) := by rw [mm31]; exact iz_sub _ 1
      rw [em1] at M0
      rcases num_both N 0 ((nc : Int) - 1) ((nm : Int) - 1) hN k3 k4 (by omega) (by omega) (by omega) (fun z => absurd z uns) with ⟨c2, m2, p1, p2, p3, p4, p5⟩ | ⟨v, c2, m2, v09, p1, p2, p3, p4, p5, p6, p7, p8, p9, p10, p11⟩
      · exact ⟨c2, m2, 0, cfin _ _ c1 c2 k1 (by rw [e1]; exact p1) (by rw [p3.1]; decide), M0.trans (bnd p2 (if_pos rfl)), frLC_tr (frLC_P k7) (frLC_P p4), frLM_tr (frLM_Q k8) (frLM_Q p5), Or.inl ⟨rfl, _, p3⟩⟩
      · have un2 : gi c2 94 6 ≠ 0 := fun z => uns (p10 z).1
        have g2 : gi m2 510 28 = 0 := by
          rcases p9 with ⟨_, _, q, _⟩ | q
          · exact q.trans g0
          · exact q
        refine ⟨c2, m2, 1, cfin _ _ c1 c2 k1 (by rw [e1]; exact p1) un2, M0.trans (bnd p2 ((if_neg n1).trans ?_)), frLC_tr (frLC_P k7) (frLC_P p7), frLM_tr (frLM_Q k8) (frLM_Q p8), Or.inr ⟨rfl, _, p3, by omega, FLT_up p4 (by omega), fun z => absurd z un2, PS_fr k9 p7 p8 (fun z => (p10 z).1)⟩⟩
        show (if (nr 3 (gi m2 510 28)) = 0 then (F_X10_friendsLine_68 Z0.1 N) 510 (gi m1 510 27) m2 else _) = _
        rw [g2, if_pos (by decide)]
        exact m68 _ m2 g2
    · obtain ⟨g1, ⟨ka, ka12, gka, uka⟩, f25, f26⟩ := k10.resolve_right g0
      rcases wnum_both N hN k3 k4 k9 g1 with ⟨c2, m2, p1, p2, p3, p4, p5⟩ | ⟨v, c2, m2, v09, p1, p2, p3, p4, p5, p6, p7, p8, p9, p10, p11, p12⟩
      · exact ⟨c2, m2, 0, cfin _ _ c1 c2 k1 p1 (by rw [p3.1]; decide), M0.trans (bnd p2 (if_pos rfl)), frLC_tr (frLC_P k7) (frLC_P p4), frLM_tr (frLM_Q k8) (frLM_Q p5), Or.inl ⟨rfl, _, p3⟩⟩
      · rw [p2, sb_eq, if_neg n1] at M0
        have M1 : F_X10_friendsLine Z0.1 N 510 m = (if (nr 3 (gi m2 510 28)) = 0 then (F_X10_friendsLine_68 Z0.1 N) 510 (iz u) m2 else (if iz v = iz u then (F_X10_later Z0.1 N 510 (2 : Int32) (iz (nx Z sz f : Nat)) m2).bind fun u5 => bd (si u5 510 28 (0 : Int32)) fun dy7 => (F_X10_friendsLine_68 Z0.1 N) 510 (iz u) dy7 else (F_X10_friendsLine_68 Z0.1 N) 510 (iz u) m2)) := by
          rw [M0, k6]
          show (if (nr 3 (gi m2 510 28)) = 0 then _ else (if gi m2 510 27 = iz u then (F_X10_later Z0.1 N 510 (2 : Int32) (gi m1 510 20) m2).bind _ else _)) = _
          rw [p6, k3.2.2.2.1.2]
        have fr12 : frLC c c2 := frLC_tr (frLC_P k7) (frLC_P p7)
        have fm12 : frLM m m2 := frLM_tr (frLM_Q k8) (frLM_Q p8)
        by_cases g20 : gi m2 510 28 = 0
        · have un2 : gi c2 94 6 ≠ 0 := fun z => by
            have := (p11 z).2.1
            rw [g20] at this
            exact absurd this (by decide)
          rw [g20, if_pos (by decide), m68 _ m2 g20] at M1
          exact ⟨c2, m2, 1, cfin _ _ c1 c2 k1 p1 un2, M1, fr12, fm12, Or.inr ⟨rfl, _, p3, by omega, p4, fun z => absurd z un2, p9⟩⟩
        · obtain ⟨g2, ⟨kb, kb12, gkb, vkb⟩, h25, h26⟩ := p10.resolve_right g20
          have ekk : ka = kb := by
            have := (k8.1 510 31 (by omega)).symm.trans gkb
            rw [gka, iz_inj (by omega) (by omega) (by omega) (by omega)] at this
            omega
          subst ekk
          rw [g2, if_neg (by decide)] at M1
          have f5 : nx Z sz f ≤ 500 := by have := k3.1; omega
          -- the FAULT, if any, is ahead of the second NUMBER
          have F21 : FLT c2 m2 (nx Z sz f) := by
            rcases p4 with z | ⟨F, p, z1, z2, z3, z4, z5, z6⟩
            · exact Or.inl z
            · rcases k4 with y | ⟨F', p', y1, y2, y3, y4, y5, y6⟩
              · exfalso
                have := h25.symm.trans z5
                rw [y.2.2] at this
                exact absurd this.symm (iz_nei (b := 0) (by omega))
              · have := (h26.symm.trans z6).symm.trans y6
                rw [iz_inj (by omega) (by omega) (by omega) (by omega)] at this
                exact Or.inr ⟨F, p, z1, by omega, z3, z4, z5, z6⟩
          have keep : gi c2 94 6 = 0 → gi c 94 6 = 0 := fun z => (k11 (p11 z).1).1
          clear k10 k11 k12 p10 p12
          by_cases same : iz v = iz u
          · -- one and the same
            obtain ⟨c3, m3, q1, q2, q3, q4, _, q6, q7, q8, q9⟩ := note_both N (c := c2) (m := m2) (at_ := nx Z sz f) (F0 := 2) f5 (by omega) (Or.inl F21)
            have M2 := M1.trans ((if_pos same).trans (bnd q2 rfl))
            rw [bd_eq, m68 _ _ (by rw [gi_si_if, if_pos ⟨rfl, rfl⟩])] at M2
            have o : ∀ x k : Nat, ¬ (x = 510 ∧ (k = 25 ∨ k = 26 ∨ k = 28)) → gi (si m3 510 28 0) x k = gi m2 x k := fun x k q => by rw [gi_si_if, if_neg (by omega), q8 x k (by omega)]
            refine ⟨c3, si m3 510 28 0, 1, ?_, M2, frLC_tr fr12 (fun x k q => q6 x k (by omega)), frLM_tr fm12 (fun x k q => o x k (by omega)), Or.inr ⟨rfl, _, TKS_fr p3 (fun x k q => q6 x k (by omega)) (fun x k q => o x k (by omega)) (q9 _ _), by omega, FLT_cells (FLT_up q3 (by omega)) rfl rfl (by rw [gi_si_if, if_neg (by omega)]) (by rw [gi_si_if, if_neg (by omega)]), fun z => absurd z q4, CWF_fr p9.1 (fun k => q6 _ _ (by omega)), RWF_fr p9.2.1 (fun x k q => o x k (by omega)), fun z => absurd z q4⟩⟩
            refine C0.trans (bnd k1 (bnd p1 ((if_pos same.symm).trans (bnd (v := c3) ?_ (b58 _ _ c3 q4)))))
            show F_X6_note Z0.1 N 94 2 (gi c1 94 3) c2 = some c3
            rw [k3.2.2.2.1.1]
            exact q1
          · obtain ⟨a, rfl⟩ : ∃ a : Nat, u = a := ⟨u.toNat, by omega⟩
            obtain ⟨b, rfl⟩ : ∃ b : Nat, v = b := ⟨v.toNat, by omega⟩
            have hab : a ≠ b := fun z => same (congrArg iz (by omega))
            obtain ⟨Lm, Wm, nm, bm, mm29, mm30, mm31, mfr⟩ := id p9.2.1
            have enm : nm = ka := by
              have := mm31.symm.trans ((p8.1 510 31 (by omega)).trans gkb)
              rw [iz_inj (by omega) (by omega) (by omega) (by omega)] at this
              omega
            subst enm
            have hfrm : ∀ i : Nat, i < nm → gi m2 529 (8 * i + 7) = iz (gi m2 529 (8 * i + 7)).toInt ∧ ((gi m2 529 (8 * i + 7)).toInt = -1 ∨ 0 ≤ (gi m2 529 (8 * i + 7)).toInt ∧ (gi m2 529 (8 * i + 7)).toInt < nm) := fun i hi => by
              refine ⟨(iz_self _).symm, ?_⟩
              rcases mfr i hi with z | ⟨j, j1, j2⟩
              · rw [z]; exact Or.inl rfl
              · rw [j2, iz_toInt (by omega) (by omega)]; omega
            obtain ⟨m3, r1, r2, r3, r4⟩ := m_befr N m2 nm a b (by omega) (by omega) (by omega) hab p6 g2 (fun i => (gi m2 529 (8 * i + 7)).toInt) hfrm
            have M2 := M1.trans ((if_neg same).trans r1)
            have R3 : RWF m3 := ⟨Lm, Wm, nm, bm, (r2 _ _ (by omega)).trans mm29, (r2 _ _ (by omega)).trans mm30, (r2 _ _ (by omega)).trans mm31, fun i hi => by
              rw [r3 i hi]
              rcases FRB_ok (n := nm) (a := a) (b := b) (by omega) (by omega) (fun i hi => (hfrm i hi).2) i hi with z | z
              · rw [z]; exact Or.inl rfl
              · exact Or.inr ⟨(FRB (fun i => (gi m2 529 (8 * i + 7)).toInt) a b i).toNat, by omega, congrArg iz (by omega)⟩⟩
            have T3 : ∀ c3 : DY, (∀ x k : Nat, x ≠ 104 → gi c3 x k = gi c2 x k) → TKS c3 m3 Z sz (nx Z sz (nx Z sz f)) := fun c3 hc3 => TKS_fr p3 (fun x k q => hc3 x k (by omega)) (fun x k q => r2 x k (by omega)) (r4 _ _)
            by_cases snd : gi c2 94 6 = 0
            · obtain ⟨L, W, n, a', ⟨b1, b2⟩, ⟨d1, d2⟩, ⟨e1, e2⟩, f', g, gin, wk, s⟩ := p9.2.2 snd
              have en : n = nm := by
                have := e2.symm.trans mm31
                rw [iz_inj (by omega) (by omega) (by omega) (by omega)] at this
                omega
              subst en
              have cm : ∀ i : Nat, i < n → gi c2 104 i = gi m2 529 (8 * i + 7) := fun i hi => (wk i hi).2.2.2.2.2.2.2.1
              obtain ⟨c3, t1, t2, t3, t4⟩ := c_befr N c2 n a b (by omega) (by omega) (by omega) hab e1 (fun i => (gi m2 529 (8 * i + 7)).toInt) (fun i hi => ⟨by rw [cm i hi]; exact (hfrm i hi).1, (hfrm i hi).2⟩)
              have cres : F_X5_readFriends Z0.1 N 238 c = some c3 := by
                refine C0.trans (bnd k1 (bnd p1 ((if_neg (fun z => same z.symm)).trans ?_)))
                rw [F_X5_readFriends_58_s, r_238_0, r_238_1]
                refine bnd (c_sound N c2) ?_
                show (if (if gi c2 94 6 = 0 then (1 : Int32) else 0) = 0 then some c2 else (F_X4_befriend Z0.1 N 95 (iz (a : Int)) (iz (b : Int)) c2).bind fun u5 => some u5) = _
                rw [if_pos snd, if_neg n1]
                exact bnd t1 rfl
              refine ⟨c3, m3, 1, cres, M2, frLC_tr fr12 (fun x k q => t2 x k (by omega)), frLM_tr fm12 (fun x k q => r2 x k (by omega)), Or.inr ⟨rfl, _, T3 c3 t2, by omega, FLT_cells p4 (t2 _ _ (by omega)) (t2 _ _ (by omega)) (r2 _ _ (by omega)) (r2 _ _ (by omega)), fun _ => keep snd, CWF_fr p9.1 (fun k => t2 _ _ (by omega)), R3, fun _ => ⟨L, W, n, a', ⟨(t2 _ _ (by omega)).trans b1, (r2 _ _ (by omega)).trans b2⟩, ⟨(t2 _ _ (by omega)).trans d1, (r2 _ _ (by omega)).trans d2⟩, ⟨(t2 _ _ (by omega)).trans e1, (r2 _ _ (by omega)).trans e2⟩, ?_, fun i hi => ?_, fun x y hx hy => ?_, fun i hi => ?_, fun i j hi hj => ?_⟩⟩⟩
              · rw [t2 _ _ (by omega), r2 _ _ (by omega)]; exact f'
              · rw [t2 96 i (by omega), r2 528 i (by omega)]; exact g i hi
              · rw [t2 96 _ (by omega)]; exact gin x y hx hy
              · obtain ⟨w1, w2, w3, w4, w5, w6, w7, _, _⟩ := wk i hi
                unfold WKG
                rw [t2 97 i (by omega), t2 98 i (by omega), t2 99 i (by omega), t2 100 i (by omega), t2 101 i (by omega), t2 102 i (by omega), t2 103 i (by omega), r2 529 (8 * i) (by omega), r2 529 (8 * i + 1) (by omega), r2 529 (8 * i + 2) (by omega), r2 529 (8 * i + 3) (by omega), r2 529 (8 * i + 4) (by omega), r2 529 (8 * i + 5) (by omega), r2 529 (8 * i + 6) (by omega)]
                refine ⟨w1, w2, w3, w4, w5, w6, w7, (t3 i hi).trans (r3 i hi).symm, ?_⟩
                rw [t3 i hi]
                rcases FRB_ok (n := n) (a := a) (b := b) (by omega) (by omega) (fun i hi => (hfrm i hi).2) i hi with z | z
                · rw [z]; exact Or.inl rfl
                · exact Or.inr ⟨(FRB (fun i => (gi m2 529 (8 * i + 7)).toInt) a b i).toNat, by omega, congrArg iz (by omega)⟩
              · rw [t3 i hi, t3 j hj]
                intro q
                have bi := FRB_ok (n := n) (a := a) (b := b) (by omega) (by omega) (fun i hi => (hfrm i hi).2) i hi
                rw [iz_inj (by omega) (by omega) (by omega) (by omega)] at q
                exact congrArg iz (FRB_sym (n := n) hab (fun i j hi hj q => by
                  have q : (gi m2 529 (8 * i + 7)).toInt = j := q
                  show (gi m2 529 (8 * j + 7)).toInt = i
                  have := s i j hi hj (by rw [cm i hi, ← q, iz_self])
                  rw [← cm j hj, this, iz_toInt (by omega) (by omega)]) (fun i hi => (hfrm i hi).2) (by omega) (by omega) i j hi hj q)
            · refine ⟨c2, m3, 1, cfin _ _ c1 c2 k1 p1 snd, M2, fr12, frLM_tr fm12 (fun x k q => r2 x k (by omega)), Or.inr ⟨rfl, _, T3 c2 (fun _ _ _ => rfl), by omega, FLT_cells p4 rfl rfl (r2 _ _ (by omega)) (r2 _ _ (by omega)), fun z => absurd z snd, p9.1, R3, fun z => absurd z snd⟩⟩
