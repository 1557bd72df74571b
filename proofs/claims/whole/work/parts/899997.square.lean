/-! reading a PASSAGE: what is laid so far; a square -/
def WKG (c m : DY) (L W n i : Nat) : Prop := (∃ x : Nat, x < L ∧ gi c 97 i = iz x ∧ gi m 529 (8 * i) = iz x) ∧ (∃ y : Nat, y < W ∧ gi c 98 i = iz y ∧ gi m 529 (8 * i + 1) = iz y) ∧ (gi c 99 i = 1 ∧ gi m 529 (8 * i + 2) = 1 ∨ gi c 99 i = -1 ∧ gi m 529 (8 * i + 2) = 0) ∧ (∃ p : Nat, 1 ≤ p ∧ p ≤ 4 ∧ gi c 100 i = iz p ∧ gi m 529 (8 * i + 3) = iz p) ∧ (∃ p : Nat, p ≤ 3 ∧ gi c 101 i = iz p ∧ gi m 529 (8 * i + 4) = iz p) ∧ (∃ p : Nat, p ≤ 9 ∧ gi c 102 i = iz p ∧ gi m 529 (8 * i + 5) = iz p) ∧ (∃ p : Nat, p ≤ 2 ∧ gi c 103 i = iz p ∧ gi m 529 (8 * i + 6) = iz p) ∧ gi c 104 i = gi m 529 (8 * i + 7) ∧ (gi c 104 i = -1 ∨ ∃ j : Nat, j < n ∧ gi c 104 i = iz j)
def GRN (c m : DY) : Prop := ∃ L W n : Nat, (L ≤ 16 ∧ W ≤ 6 ∧ n ≤ 12) ∧ (gi c 95 0 = iz L ∧ gi m 510 29 = iz L) ∧ (gi c 95 1 = iz W ∧ gi m 510 30 = iz W) ∧ (gi c 95 3 = iz n ∧ gi m 510 31 = iz n) ∧ gi c 95 2 = gi m 510 32 ∧ (∀ i : Nat, i < 96 → gi c 96 i = gi m 528 i ∧ (gi c 96 i = 0 ∨ gi c 96 i = 1)) ∧ (∀ x y : Nat, x < 16 → y < 6 → gi c 96 (6 * x + y) ≠ 0 → x < L ∧ y < W) ∧ (∀ i : Nat, i < n → WKG c m L W n i) ∧ ∀ i j : Nat, i < n → j < n → gi c 104 i = iz j → gi c 104 j = iz i
def RWF (m : DY) : Prop := ∃ L W n : Nat, (L ≤ 16 ∧ W ≤ 6 ∧ n ≤ 12) ∧ gi m 510 29 = iz L ∧ gi m 510 30 = iz W ∧ gi m 510 31 = iz n ∧ ∀ i : Nat, i < n → gi m 529 (8 * i + 7) = -1 ∨ ∃ j : Nat, j < n ∧ gi m 529 (8 * i + 7) = iz j
def CWF (c : DY) : Prop := ∃ L W n : Nat, (L ≤ 16 ∧ W ≤ 6 ∧ n ≤ 12) ∧ gi c 95 0 = iz L ∧ gi c 95 1 = iz W ∧ gi c 95 3 = iz n
def PS (c m : DY) : Prop := CWF c ∧ RWF m ∧ (gi c 94 6 = 0 → GRN c m)
theorem GRN_fr {c m c' m' : DY} (h : GRN c m) (hc : ∀ x k : Nat, 95 ≤ x → x ≤ 104 → gi c' x k = gi c x k) (hm : ∀ x k : Nat, (x = 510 ∧ 29 ≤ k ∧ k ≤ 32 ∨ x = 528 ∨ x = 529) → gi m' x k = gi m x k) : GRN c' m' := by
  obtain ⟨L, W, n, a, ⟨b1, b2⟩, ⟨d1, d2⟩, ⟨e1, e2⟩, f, g, g2, w, s⟩ := h
  refine ⟨L, W, n, a, ⟨(hc _ _ (by omega) (by omega)).trans b1, (hm _ _ (by omega)).trans b2⟩, ⟨(hc _ _ (by omega) (by omega)).trans d1, (hm _ _ (by omega)).trans d2⟩, ⟨(hc _ _ (by omega) (by omega)).trans e1, (hm _ _ (by omega)).trans e2⟩, ?_, fun i hi => ?_, fun x y hx hy => ?_, fun i hi => ?_, fun i j hi hj => ?_⟩
  · rw [hc _ _ (by omega) (by omega), hm _ _ (by omega)]; exact f
  · rw [hc 96 i (by omega) (by omega), hm 528 i (by omega)]; exact g i hi
  · rw [hc 96 _ (by omega) (by omega)]; exact g2 x y hx hy
  · unfold WKG
    rw [hc 97 i (by omega) (by omega), hc 98 i (by omega) (by omega), hc 99 i (by omega) (by omega), hc 100 i (by omega) (by omega), hc 101 i (by omega) (by omega), hc 102 i (by omega) (by omega), hc 103 i (by omega) (by omega), hc 104 i (by omega) (by omega), hm 529 _ (by omega), hm 529 _ (by omega), hm 529 _ (by omega), hm 529 _ (by omega), hm 529 _ (by omega), hm 529 _ (by omega), hm 529 _ (by omega), hm 529 _ (by omega)]
    exact w i hi
  · rw [hc 104 i (by omega) (by omega), hc 104 j (by omega) (by omega)]; exact s i j hi hj
theorem RWF_fr {m m' : DY} (h : RWF m) (hm : ∀ x k : Nat, (x = 510 ∧ 29 ≤ k ∧ k ≤ 31 ∨ x = 529 ∧ k % 8 = 7 ∧ k < 96) → gi m' x k = gi m x k) : RWF m' := by
  obtain ⟨L, W, n, a, b, d, e, w⟩ := h
  refine ⟨L, W, n, a, (hm _ _ (by omega)).trans b, (hm _ _ (by omega)).trans d, (hm _ _ (by omega)).trans e, fun i hi => ?_⟩
  rw [hm 529 _ (by omega)]
  exact w i hi
theorem CWF_fr {c c' : DY} (h : CWF c) (hc : ∀ k : Nat, gi c' 95 k = gi c 95 k) : CWF c' := by
  obtain ⟨L, W, n, a, b, d, e⟩ := h
  exact ⟨L, W, n, a, (hc _).trans b, (hc _).trans d, (hc _).trans e⟩
theorem PS_fr {c m c' m' : DY} (h : PS c m) (hc : frP c c') (hm : frQ m m') (hs : gi c' 94 6 = 0 → gi c 94 6 = 0) : PS c' m' := ⟨CWF_fr h.1 (fun k => hc.1 _ _ (by omega)), RWF_fr h.2.1 (fun x k q => hm.1 _ _ (by omega)), fun z => GRN_fr (h.2.2 (hs z)) (fun x k q1 q2 => hc.1 _ _ (by omega)) (fun x k q => hm.1 _ _ (by omega))⟩
theorem m_takenG (N n s : Nat) (m : DY) (n12 : n ≤ 12) (hs : s < 96) (g31 : gi m 510 31 = iz n) : ∀ q w k : Nat, w + q = n → q < k → ∃ v : Int32, (v = 0 ∨ v = 1) ∧ F_X10_isTaken_2 Z0.1 N k 510 (iz s) (iz w) m = some (v, m) ∧ (v = 1 ↔ (∃ i : Nat, w ≤ i ∧ i < n ∧ (6 : Int32) * gi m 529 (8 * i) + gi m 529 (8 * i + 1) = iz s) ∨ gi m 528 s = 1) := by
  intro q
  induction q with
  | zero =>
    intro w k hq hk
    obtain ⟨k, rfl⟩ : ∃ j, k = j + 1 := ⟨k - 1, by omega⟩
    obtain rfl : w = n := by omega
    have st : ∀ R, (if gi m 528 s = 1 then some ((1 : Int32), m) else some (0, m)) = R → F_X10_isTaken_2 Z0.1 N (k + 1) 510 (iz s) (iz w) m = R := fun R hR => by
      rw [F_X10_isTaken_2_s, g31, if_pos (Int32.le_refl _), if_pos (show ib (iz (s : Int)) 96 from iz_ib (by omega)), r_510_33, tnn _ s rfl (by omega)]
      exact hR
    by_cases z : gi m 528 s = 1
    · exact ⟨1, Or.inr rfl, st _ (if_pos z), ⟨fun _ => Or.inr z, fun _ => rfl⟩⟩
    · refine ⟨0, Or.inl rfl, st _ (if_neg z), ⟨fun y => absurd y (by decide), fun y => ?_⟩⟩
      rcases y with ⟨i, i1, i2, _⟩ | y
      · omega
      · exact absurd y z
  | succ q ih =>
    intro w k hq hk
    obtain ⟨k, rfl⟩ : ∃ j, k = j + 1 := ⟨k - 1, by omega⟩
    obtain ⟨v, v1, v2, v3⟩ := ih (w + 1) k (by omega) (by omega)
    have e8 : (8 : Int32) * iz (w : Int) = iz ((8 * w : Nat) : Int) := iz_mul 8 w
    have st : ∀ R, (if (6 : Int32) * gi m 529 (8 * w) + gi m 529 (8 * w + 1) = iz s then some ((1 : Int32), m) else F_X10_isTaken_2 Z0.1 N k 510 (iz s) (iz ((w + 1 : Nat) : Int)) m) = R → F_X10_isTaken_2 Z0.1 N (k + 1) 510 (iz s) (iz w) m = R := fun R hR => by
      rw [F_X10_isTaken_2_s, g31, if_neg (iz_nle (by omega)), e8, show iz ((8 * w : Nat) : Int) + (1 : Int32) = iz ((8 * w + 1 : Nat) : Int) from iz_add _ 1, if_pos (show ib (iz ((8 * w : Nat) : Int)) 104 from iz_ib (by omega)), if_pos (show ib (iz ((8 * w + 1 : Nat) : Int)) 104 from iz_ib (by omega)), r_510_34, tnn _ (8 * w) rfl (by omega), tnn _ (8 * w + 1) rfl (by omega), show iz (w : Int) + (1 : Int32) = iz ((w + 1 : Nat) : Int) from iz_add w 1]
      exact hR
    by_cases z : (6 : Int32) * gi m 529 (8 * w) + gi m 529 (8 * w + 1) = iz s
    · exact ⟨1, Or.inr rfl, st _ (if_pos z), ⟨fun _ => Or.inl ⟨w, by omega, by omega, z⟩, fun _ => rfl⟩⟩
    · refine ⟨v, v1, st _ ((if_neg z).trans v2), v3.trans ⟨fun y => ?_, fun y => ?_⟩⟩
      · rcases y with ⟨i, i1, i2, i3⟩ | y
        · exact Or.inl ⟨i, by omega, i2, i3⟩
        · exact Or.inr y
      · rcases y with ⟨i, i1, i2, i3⟩ | y
        · by_cases q : i = w
          · rw [q] at i3
            exact absurd i3 z
          · exact Or.inl ⟨i, by omega, i2, i3⟩
        · exact Or.inr y
/-- taken, for both -/
theorem taken_same {c m : DY} {L W n : Nat} (N x y : Nat) (hN : 900 ≤ N) (hb : L ≤ 16 ∧ W ≤ 6 ∧ n ≤ 12) (g31 : gi m 510 31 = iz n) (hw : ∀ i : Nat, i < 96 → gi c 96 i = gi m 528 i ∧ (gi c 96 i = 0 ∨ gi c 96 i = 1)) (hk : ∀ i : Nat, i < n → WKG c m L W n i) (hx : x < L) (hy : y < W) : F_X10_isTaken Z0.1 N 510 (iz ((6 * x + y : Nat) : Int)) m = some (tkU (gi c 97) (gi c 98) (iz x) (iz y) (gi c 96 (6 * x + y)) n 0, m) := by
  obtain ⟨v, v0, v1, v2⟩ := m_takenG N n (6 * x + y) m hb.2.2 (by omega) g31 n 0 N (by omega) (by omega)
  obtain ⟨w1, w2⟩ := hw (6 * x + y) (by omega)
  obtain ⟨t1, t2⟩ := tkU_b (gi c 97) (gi c 98) (iz x) (iz y) n 0
  have t01 := tkU_01 (gi c 97) (gi c 98) (iz x) (iz y) (gi c 96 (6 * x + y)) w2 n 0
  have mt : ∀ i : Nat, i < n → ((6 : Int32) * gi m 529 (8 * i) + gi m 529 (8 * i + 1) = iz ((6 * x + y : Nat) : Int) ↔ gi c 97 i = iz x ∧ gi c 98 i = iz y) := fun i hi => by
    obtain ⟨⟨a, a1, a2, a3⟩, ⟨b, b1, b2, b3⟩, _⟩ := hk i hi
    rw [a2, a3, b2, b3, l_6, iz_mul, iz_add, iz_inj (by omega) (by omega) (by omega) (by omega), iz_inj (by omega) (by omega) (by omega) (by omega), iz_inj (by omega) (by omega) (by omega) (by omega)]
    omega
  have key : v = 1 ↔ tkU (gi c 97) (gi c 98) (iz x) (iz y) (gi c 96 (6 * x + y)) n 0 = 1 := by
    rw [v2, ← w1]
    rcases w2 with z | z
    · rw [z]
      constructor
      · rintro (⟨i, _, i2, i3⟩ | q)
        · rcases tkU_01 (gi c 97) (gi c 98) (iz x) (iz y) 0 (Or.inl rfl) n 0 with q | q
          · exact absurd ((mt i i2).mp i3) (t2.mp q i (by omega) (by omega))
          · exact q
        · exact absurd q (by decide)
      · intro q
        by_cases e : ∃ i : Nat, 0 ≤ i ∧ i < n ∧ (6 : Int32) * gi m 529 (8 * i) + gi m 529 (8 * i + 1) = iz ((6 * x + y : Nat) : Int)
        · exact Or.inl e
        · have := t2.mpr (fun i h1 h2 h3 => e ⟨i, h1, by omega, (mt i (by omega)).mpr h3⟩)
          rw [q] at this
          exact absurd this (by decide)
    · rw [z, t1]
      exact ⟨fun _ => rfl, fun _ => Or.inr rfl⟩
  rw [F_X10_isTaken_s]
  refine v1.trans (congrArg (fun z => some (z, m)) ?_)
  rcases v0 with a | a
  · rcases t01 with b | b
    · rw [a, b]
    · rw [key.mpr b] at a
      exact absurd a (by decide)
  · rw [a, key.mp a]
/-- two NUMBERS of the class's, for a square or another pair -/
theorem sq_both {c m : DY} {Z : Nat → Int} {sz f : Nat} (N : Nat) (hN : 900 ≤ N) (hT : TKS c m Z sz f) (hF : FLT c m f) (hP : PS c m) (hg : gi m 510 28 = 1) : ∃ (x y : Int32) (c1 c2 : DY), F_X6_needNumber_ Z0.1 N 94 0 (gi c 95 0 - 1) c = some (x, c1) ∧ F_X6_needNumber_ Z0.1 N 94 0 (gi c1 95 1 - 1) c1 = some (y, c2) ∧ frP c c2 ∧ ((∃ (m' : DY) (w : Nat), F_X10_readSquare Z0.1 N 510 m = some (0, m') ∧ BRK c2 m' w ∧ frQ m m') ∨ ∃ (m' : DY) (f' : Nat) (u v : Int), F_X10_readSquare Z0.1 N 510 m = some (1, m') ∧ frQ m m' ∧ TKS c2 m' Z sz f' ∧ f < f' ∧ (x = iz u ∧ y = iz v ∧ 0 ≤ u ∧ u ≤ 999 ∧ 0 ≤ v ∧ v ≤ 999) ∧ gi m' 510 35 = iz (6 * u + v) ∧ (gi m' 510 28 = 0 ∨ gi m' 510 28 = 1 ∧ u ≤ 15 ∧ v ≤ 5) ∧ ((gi c2 94 6 = 0 ∧ gi c 94 6 = 0 ∧ gi c2 94 7 = -1 ∧ gi m' 510 28 = 1 ∧ ∃ (L W n : Nat), (L ≤ 16 ∧ W ≤ 6 ∧ n ≤ 12) ∧ gi c 95 0 = iz L ∧ gi c 95 1 = iz W ∧ gi c 95 3 = iz n ∧ u < L ∧ v < W ∧ ((tkU (gi c 97) (gi c 98) x y (gi c 96 (6 * u + v).toNat) n 0 = 0 ∧ gi m' 510 25 = 0) ∨ (tkU (gi c 97) (gi c 98) x y (gi c 96 (6 * u + v).toNat) n 0 = 1 ∧ gi m' 510 25 = 4 ∧ gi m' 510 26 = iz f))) ∨ (gi c2 94 6 ≠ 0 ∧ FLT c2 m' f'))) := by
  obtain ⟨⟨Lc, Wc, nc, bc, cc0, cc1, cc3⟩, ⟨Lm, Wm, nm, bm, mm29, mm30, mm31, mfr⟩, hG⟩ := id hP
  have l0 : (0 : Int32) = iz 0 := rfl
  have f500 : f ≤ 500 := by have := hT.1; omega
  have e0 : gi c 95 0 - 1 = iz ((Lc : Int) - 1) := by rw [cc0]; exact iz_sub _ 1
  have em0 : gi m 510 29 - 1 = iz ((Lm : Int) - 1) := by rw [mm29]; exact iz_sub _ 1
  have RS := F_X10_readSquare_s Z0.1 N 510 m
  rw [em0] at RS
  have same0 : gi c 94 6 = 0 → ((Lc : Int) - 1 = (Lm : Int) - 1 ∧ (Wc : Int) - 1 = (Wm : Int) - 1) := fun z => by
    obtain ⟨L, W, n, a, ⟨b1, b2⟩, ⟨d1, d2⟩, _⟩ := hG z
    have q1 := b1.symm.trans cc0
    have q2 := b2.symm.trans mm29
    have q3 := d1.symm.trans cc1
    have q4 := d2.symm.trans mm30
    rw [iz_inj (by omega) (by omega) (by omega) (by omega)] at q1 q2 q3 q4
    omega
  rcases num_both N 0 ((Lc : Int) - 1) ((Lm : Int) - 1) hN hT hF (by omega) (by omega) (by omega) (fun z => (same0 z).1) with ⟨c1, m1, n1, n2, n3, n4, n5⟩ | ⟨u, c1, m1, u09, n1, n2, n3, n4, n5, n6, n7, n8, n9, n10, n11⟩
  · refine ⟨0, 0, c1, c1, by rw [e0]; exact n1, b_num_ N _ _ c1 n3.1, n4, Or.inl ⟨m1, f, RS.trans (bnd n2 (if_pos rfl)), n3, n5⟩⟩
  · have cc1' : gi c1 95 1 = iz Wc := (n7.1 _ _ (by omega)).trans cc1
    have e1 : gi c1 95 1 - 1 = iz ((Wc : Int) - 1) := by rw [cc1']; exact iz_sub _ 1
    have em1 : gi m1 510 30 - 1 = iz ((Wm : Int) - 1) := by rw [n8.1 _ _ (by omega), mm30]; exact iz_sub _ 1
    have n1z : ¬ (1 : Int32) = 0 := by decide
    have hF1 : FLT c1 m1 (nx Z sz f) := FLT_up n4 (by omega)
    rcases num_both N 0 ((Wc : Int) - 1) ((Wm : Int) - 1) hN n3 hF1 (by omega) (by omega) (by omega) (fun z => (same0 (n10 z).1).2) with ⟨c2, m2, k1, k2, k3, k4, k5⟩ | ⟨v, c2, m2, v09, k1, k2, k3, k4, k5, k6, k7, k8, k9, k10, k11⟩
    · refine ⟨iz u, 0, c1, c2, by rw [e0]; exact n1, by rw [e1]; exact k1, frP_tr n7 k4, Or.inl ⟨m2, nx Z sz f, ?_, k3, frQ_tr n8 k5⟩⟩
      refine RS.trans (bnd n2 ((if_neg n1z).trans ?_))
      rw [em1]
      exact bnd k2 (if_pos rfl)
    · refine ⟨iz u, iz v, c1, c2, by rw [e0]; exact n1, by rw [e1]; exact k1, frP_tr n7 k7, Or.inr ?_⟩
      obtain ⟨m3, hm3⟩ : ∃ m3 : DY, m3 = si m2 510 35 (iz (6 * u + v)) := ⟨_, rfl⟩
      have o3 : ∀ x k : Nat, ¬ (x = 510 ∧ k = 35) → gi m3 x k = gi m2 x k := fun x k q => by rw [hm3, gi_si_if, if_neg q]
      have g35 : gi m3 510 35 = iz (6 * u + v) := by rw [hm3, gi_si_if, if_pos ⟨rfl, rfl⟩]
      have q3 : frQ m m3 := frQ_tr n8 (frQ_tr k8 (by rw [hm3]; exact frQ_si m2 35 _ (by omega)))
      have T3 : TKS c2 m3 Z sz (nx Z sz (nx Z sz f)) := TKS_fr k3 (fun _ _ _ => rfl) (fun x k q => o3 x k (by omega)) (by rw [hm3]; rfl)
      have ff : f < nx Z sz (nx Z sz f) := by omega
      have RS2 : F_X10_readSquare Z0.1 N 510 m = (if (nr 3 (gi m3 510 28)) = 0 then some ((1 : Int32), m3) else (F_X10_isTaken Z0.1 N 510 (iz (6 * u + v)) m3).bind fun u6 => (if u6.1 = 0 then some ((1 : Int32), u6.2) else (F_X10_later Z0.1 N 510 (4 : Int32) (gi m 510 20) u6.2).bind fun u8 => some ((1 : Int32), u8))) := by
        refine RS.trans (bnd n2 ((if_neg n1z).trans ?_))
        rw [em1]
        refine bnd k2 ((if_neg n1z).trans ?_)
        show (bd (si m2 510 35 ((6 : Int32) * gi m1 510 27 + gi m2 510 27)) fun dy5 => _) = _
        rw [n6, k6, l_6, iz_mul, iz_add, bd_eq, ← hm3, g35]
      have g28 : gi m3 510 28 = gi m2 510 28 := o3 510 28 (by omega)
      have m20 : gi m 510 20 = iz f := hT.2.2.2.1.2
      by_cases gd : gi m2 510 28 = 0
      · -- not good: the class has a FAULT
        have uns : gi c2 94 6 ≠ 0 := fun z => by
          have a := (k10 z)
          have b := n10 a.1
          rw [a.2.2.2, b.2.2.2, hg] at gd
          exact absurd gd (by decide)
        refine ⟨m3, _, u, v, ?_, q3, T3, ff, ⟨rfl, rfl, by omega, by omega, by omega, by omega⟩, g35, Or.inl (g28.trans gd), Or.inr ⟨uns, FLT_cells (FLT_up k4 (by omega)) rfl rfl (o3 510 25 (by omega)) (o3 510 26 (by omega))⟩⟩
        rw [RS2, g28, gd, if_pos (by decide)]
      · have A2 : (0 : Int) ≤ v ∧ v ≤ (Wm : Int) - 1 ∧ gi m2 510 28 = gi m1 510 28 ∧ gi m2 510 25 = gi m1 510 25 ∧ gi m2 510 26 = gi m1 510 26 := k9.resolve_right gd
        have A1 : (0 : Int) ≤ u ∧ u ≤ (Lm : Int) - 1 ∧ gi m1 510 28 = gi m 510 28 ∧ gi m1 510 25 = gi m 510 25 ∧ gi m1 510 26 = gi m 510 26 := n9.resolve_right (by rw [← A2.2.2.1]; exact gd)
        have g1 : gi m3 510 28 = 1 := by rw [g28, A2.2.2.1, A1.2.2.1, hg]
        have g25 : gi m3 510 25 = gi m 510 25 := by rw [o3 510 25 (by omega), A2.2.2.2.1, A1.2.2.2.1]
        have g26 : gi m3 510 26 = gi m 510 26 := by rw [o3 510 26 (by omega), A2.2.2.2.2, A1.2.2.2.2]
        obtain ⟨s, hs⟩ : ∃ s : Nat, (6 * u + v) = s := ⟨(6 * u + v).toNat, by omega⟩
        have s96 : s < 96 := by omega
        rw [g1, if_neg (by decide), m20] at RS2
        by_cases snd : gi c2 94 6 = 0
        · -- sound
          have a := k10 snd
          have b := n10 a.1
          obtain ⟨L, W, n, ⟨p1, p2, p3⟩, ⟨b1, b2⟩, ⟨d1, d2⟩, ⟨h1, h2⟩, _, hw, _, hk, _⟩ := hG b.1
          have eL : L = Lc := by
            have q := b1.symm.trans cc0
            rw [iz_inj (by omega) (by omega) (by omega) (by omega)] at q
            omega
          have eW : W = Wc := by
            have q := d1.symm.trans cc1
            rw [iz_inj (by omega) (by omega) (by omega) (by omega)] at q
            omega
          have ts := taken_same (c := c) (m := m3) (L := L) (W := W) (n := n) N u.toNat v.toNat hN ⟨p1, p2, p3⟩ ((q3.1 _ _ (by omega)).trans h2) (fun i hi => by rw [q3.1 528 i (by omega)]; exact hw i hi) (fun i hi => by
            have := hk i hi
            unfold WKG at this ⊢
            rw [q3.1 529 _ (by omega), q3.1 529 _ (by omega), q3.1 529 _ (by omega), q3.1 529 _ (by omega), q3.1 529 _ (by omega), q3.1 529 _ (by omega), q3.1 529 _ (by omega), q3.1 529 _ (by omega)]
            exact this) (by omega) (by omega)
          rw [show (((6 * u.toNat + v.toNat : Nat)) : Int) = 6 * u + v by omega, show ((u.toNat : Nat) : Int) = u by omega, show ((v.toNat : Nat) : Int) = v by omega, show 6 * u.toNat + v.toNat = (6 * u + v).toNat by omega] at ts
          have f0 : gi m 510 25 = 0 := (FL3_iff (FL3_of hF)).mp b.1
          have c7 : gi c2 94 7 = -1 := by
            rcases k4 with z | ⟨F, p, z1, z2, z3, _⟩
            · exact z.2.1
            · rw [z3] at snd
              exact absurd snd (iz_nei (b := 0) (by omega))
          have t01 := tkU_01 (gi c 97) (gi c 98) (iz u) (iz v) (gi c 96 (6 * u + v).toNat) (hw _ (by omega)).2 n 0
          rcases t01 with t | t
          · rw [t] at ts
            refine ⟨m3, _, u, v, RS2.trans (bnd ts (if_pos rfl)), q3, T3, ff, ⟨rfl, rfl, by omega, by omega, by omega, by omega⟩, g35, Or.inr ⟨g1, by omega, by omega⟩, Or.inl ⟨snd, b.1, c7, g1, L, W, n, ⟨p1, p2, p3⟩, b1, d1, h1, by omega, by omega, Or.inl ⟨t, g25.trans f0⟩⟩⟩
          · rw [t] at ts
            obtain ⟨m4, hm4⟩ : ∃ m4 : DY, m4 = si (si m3 510 25 (iz ((4 : Nat) : Int))) 510 26 (iz f) := ⟨_, rfl⟩
            have lt : F_X10_later Z0.1 N 510 (4 : Int32) (iz f) m3 = some m4 := by
              rw [F_X10_later_s, g25, f0, if_pos rfl, F_X10_later_31_s, bd_eq, bd_eq, hm4]
              rfl
            have o4 : ∀ x k : Nat, ¬ (x = 510 ∧ (k = 25 ∨ k = 26)) → gi m4 x k = gi m3 x k := fun x k q => by rw [hm4, gi_si_if, if_neg (by omega), gi_si_if, if_neg (by omega)]
            refine ⟨m4, _, u, v, RS2.trans (bnd ts ((if_neg n1z).trans (bnd lt rfl))), frQ_tr q3 (by rw [hm4]; exact frQ_tr (frQ_si m3 25 _ (by omega)) (frQ_si _ 26 _ (by omega))), TKS_fr T3 (fun _ _ _ => rfl) (fun x k q => o4 x k (by omega)) (by rw [hm4]; rfl), ff, ⟨rfl, rfl, by omega, by omega, by omega, by omega⟩, (o4 _ _ (by omega)).trans g35, Or.inr ⟨(o4 _ _ (by omega)).trans g1, by omega, by omega⟩, Or.inl ⟨snd, b.1, c7, (o4 _ _ (by omega)).trans g1, L, W, n, ⟨p1, p2, p3⟩, b1, d1, h1, by omega, by omega, Or.inr ⟨t, ?_, ?_⟩⟩⟩
            · rw [hm4, gi_si_if, if_neg (by omega), gi_si_if, if_pos ⟨rfl, rfl⟩]; rfl
            · rw [hm4, gi_si_if, if_pos ⟨rfl, rfl⟩]
        · -- a FAULT ahead of the line
          have cu : gi c 94 6 ≠ 0 := fun z => by
            by_cases y : gi c1 94 6 = 0
            · exact gd (k11 y snd)
            · have := n11 z y
              rw [A1.2.2.1, hg] at this
              exact absurd this (by decide)
          obtain ⟨F, p, z1, z2, z3, z4, z5, z6⟩ : ∃ F p : Nat, (2 ≤ F ∧ F ≤ 4) ∧ (p < f ∧ p ≤ 500) ∧ gi c 94 6 = iz F ∧ gi c 94 7 = iz p ∧ gi m 510 25 = iz F ∧ gi m 510 26 = iz p := by
            rcases hF with z | z
            · exact absurd z.1 cu
            · exact z
          obtain ⟨t, t0, t1, _⟩ := m_takenG N nm s m3 bm.2.2 s96 ((q3.1 _ _ (by omega)).trans mm31) nm 0 N (by omega) (by omega)
          have tk : F_X10_isTaken Z0.1 N 510 (iz (6 * u + v)) m3 = some (t, m3) := by
            rw [F_X10_isTaken_s, hs]
            exact t1
          have lt : F_X10_later Z0.1 N 510 (4 : Int32) (iz f) m3 = some m3 := by
            rw [F_X10_later_s, g25, g26, z5, z6, if_neg (show ¬ iz (F : Int) = 0 from iz_nei (b := 0) (by omega)), if_neg (show ¬ iz (f : Int) < iz (p : Int) from iz_nlt (by omega)), if_neg (show ¬ iz (f : Int) = iz (p : Int) from iz_nei (by omega))]
          have RS3 : F_X10_readSquare Z0.1 N 510 m = some (1, m3) := by
            refine RS2.trans (bnd tk ?_)
            rcases t0 with w | w
            · exact if_pos w
            · exact (if_neg (show ¬ t = 0 by rw [w]; decide)).trans (bnd lt rfl)
          exact ⟨m3, _, u, v, RS3, q3, T3, ff, ⟨rfl, rfl, by omega, by omega, by omega, by omega⟩, g35, Or.inr ⟨g1, by omega, by omega⟩, Or.inr ⟨snd, FLT_cells (FLT_up k4 (by omega)) rfl rfl (o3 510 25 (by omega)) (o3 510 26 (by omega))⟩⟩
