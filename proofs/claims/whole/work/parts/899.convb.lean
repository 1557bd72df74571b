/-! end, rules, about, walker, feed upon Inv -/
theorem iq_end (N : Nat) (x : Int32) (dy : DY) (h : Inv dy) : ∃ r dy1 dy2, F_X9_end Z0.1 N 1 x dy = some (r, dy1) ∧ F_X10_end Z0.1 N 510 x dy1 = some (r, dy2) ∧ Inv dy2 := by
  obtain ⟨⟨t1, t2, t3, t4⟩, tb, _, _, _, f1, f2, _, _, _, _, f3⟩ := h.1
  by_cases c0 : x < 0
  · exact ⟨-1, dy, si dy 510 0 0, by rw [c_end, if_pos c0], by rw [m_end, if_pos c0], inv_0 h⟩
  by_cases c1 : x ≤ gi dy 2 1
  · refine ⟨x, si dy 2 1 x, si (si (si dy 2 1 x) 510 0 0) 512 0 x, by rw [c_end, if_neg c0, if_pos c1], ?_, ?_⟩
    · have e : gi (si dy 2 1 x) 512 0 = gi dy 512 0 := by rw [gi_si_if, if_neg (by omega)]
      rw [m_end, if_neg c0, e, ← t1, if_pos c1]
    · have s' : ∀ y k : Nat, ¬ (y = 2 ∧ k = 1) → ¬ (y = 510 ∧ k = 0) → ¬ (y = 512 ∧ k = 0) → gi (si (si (si dy 2 1 x) 510 0 0) 512 0 x) y k = gi dy y k := fun y k a b c => by
        rw [gi_si_if, if_neg c, gi_si_if, if_neg b, gi_si_if, if_neg a]
      have e2 : gi (si (si (si dy 2 1 x) 510 0 0) 512 0 x) 2 1 = x := by rw [gi_si_if, if_neg (by omega), gi_si_if, if_neg (by omega), gi_si_if, if_pos ⟨rfl, rfl⟩]
      have e3 : gi (si (si (si dy 2 1 x) 510 0 0) 512 0 x) 512 0 = x := by rw [gi_si_if, if_pos ⟨rfl, rfl⟩]
      have b1 := Int32.le_iff_toInt_le.mp c1
      have b2 := Int32.le_iff_toInt_le.mp (Int32.not_lt.mp c0)
      simp only [Int32.toInt_zero] at b2
      refine Inv_part h ⟨e2.trans e3.symm, by rw [e2]; exact b2, by rw [e2]; omega, fun i hi => ?_⟩ (fun i hi => ?_) ⟨fun i hi => ?_, fun i hi => ?_⟩ (fun i hi => ?_) (fun y hy => by rw [s' (2 + 33 + 2) y (by omega) (by omega) (by omega)]; exact f3 y hy) (fun y k hy => s' y k (by omega) (by omega) (by omega)) (fun y k hy => s' y k (by omega) (by omega) (by omega))
      · rw [s' (2 + 1) i (by omega) (by omega) (by omega), s' 511 _ (by omega) (by omega) (by omega)]; exact t4 i hi
      · rw [s' 511 _ (by omega) (by omega) (by omega)]; exact tb i hi
      · rw [s' (2 + 33 + 1) i (by omega) (by omega) (by omega), s' 525 _ (by omega) (by omega) (by omega)]; exact f1.1 i hi
      · rw [s' (2 + 33 + 2) i (by omega) (by omega) (by omega), s' (2 + 33 + 3) i (by omega) (by omega) (by omega), s' 526 _ (by omega) (by omega) (by omega), s' 527 _ (by omega) (by omega) (by omega)]; exact f1.2 i hi
      · rw [s' (2 + 33 + 1) i (by omega) (by omega) (by omega)]; exact f2 i hi
  · exact ⟨-1, dy, si dy 510 0 0, by rw [c_end, if_neg c0, if_neg c1], by rw [m_end, if_neg c0, ← t1, if_neg c1], inv_0 h⟩
theorem iq_rules (N : Nat) (x : Int32) (dy : DY) (h : Inv dy) : ∃ r dy1 dy2, F_X9_rules Z0.1 N 1 x dy = some (r, dy1) ∧ F_X10_rules Z0.1 N 510 x dy1 = some (r, dy2) ∧ Inv dy2 := by
  obtain ⟨_, _, _, g4, g5, _, _, _, g9, _⟩ := h.1
  obtain ⟨r, d1, d2, a, b, c⟩ := eq_rules N x dy g4 g5 (fun k hk => by
    obtain ⟨n, _, n1, n2, _⟩ := g9 k hk
    rw [show 51 + 17 * k = 2 + 49 + 17 * k by omega, n1]
    rw [show 3 * 0 + k = k by omega] at n2
    exact n2.symm)
  exact ⟨r, d1, d2, a, b, inv_fr h c⟩
theorem iq_about (N : Nat) (x w : Int32) (dy : DY) (h : Inv dy) : ∃ r dy1 dy2, F_X9_about Z0.1 N 1 x w dy = some (r, dy1) ∧ F_X10_about Z0.1 N 510 x w dy1 = some (r, dy2) ∧ Inv dy2 := by
  obtain ⟨_, _, _, g4, g5, _, _, g8, _⟩ := h.1
  obtain ⟨r, d1, d2, a, b, c⟩ := eq_about N x w dy g4 g5 (fun k hk => by
    obtain ⟨L, W, n, _, ⟨k2, k2'⟩, ⟨k3, k3'⟩, k4, ⟨k5, k5'⟩, _⟩ := g8 k hk
    rw [show 3 * 0 + k = k by omega] at k2' k3' k4 k5'
    rw [show 2 + 39 + 17 * k = 41 + 17 * k by omega] at k2 k3 k4 k5
    exact ⟨k2.trans k2'.symm, k3.trans k3'.symm, k5.trans k5'.symm, k4⟩)
  exact ⟨r, d1, d2, a, b, inv_fr h c⟩
theorem iq_walker (N : Nat) (x w y : Int32) (dy : DY) (h : Inv dy) : ∃ r dy1 dy2, F_X9_walker Z0.1 N 1 x w y dy = some (r, dy1) ∧ F_X10_walker Z0.1 N 510 x w y dy1 = some (r, dy2) ∧ Inv dy2 := by
  obtain ⟨_, _, _, g4, g5, _, _, g8, _⟩ := h.1
  obtain ⟨r, d1, d2, a, b, c⟩ := eq_walker N x w y dy g4 g5 (fun k hk => by
    obtain ⟨L, W, n, ⟨_, _, n12⟩, _, _, _, ⟨k5, k5'⟩, _, k7, _⟩ := g8 k hk
    rw [show 3 * 0 + k = k by omega] at k5' k7
    rw [show 2 + 39 + 17 * k = 41 + 17 * k by omega] at k5 k7
    refine ⟨k5.trans k5'.symm, n, k5, n12, fun i hi => ?_⟩
    obtain ⟨⟨_, _, u1, u2⟩, ⟨_, _, u3, u4⟩, ⟨tw, ⟨_, _, _, p1, p2⟩, ⟨_, _, l1, l2⟩, ⟨_, _, h1, h2⟩, ⟨_, _, q1, q2⟩⟩, fr, _⟩ := k7 i hi
    refine ⟨u1.trans u2.symm, u3.trans u4.symm, ?_, p1.trans p2.symm, l1.trans l2.symm, h1.trans h2.symm, q1.trans q2.symm, fr⟩
    rcases tw with ⟨z1, z2⟩ | ⟨z1, z2⟩
    · rw [z1, z2]; decide
    · rw [z1, z2]; decide)
  exact ⟨r, d1, d2, a, b, inv_fr h c⟩
theorem fd5C_o (a b c d e : Int32) (nb : Nat) (m : DY) (x k : Nat) (h2 : x ≠ 2) (h3 : x ≠ 3) : gi (fd5C a b c d e nb m) x k = gi m x k := by
  unfold fd5C ap4C
  simp only [apC_o _ _ _ _ x k h3 (fun z => h2 z.1)]
/-- a tape of bytes, from one state to a later one; what lies behind 500 stays -/
def BT (m m' : DY) : Prop := ((∀ i : Nat, i < 500 → nr 2 (gi m 511 i) = gi m 511 i) → ∀ i : Nat, i < 500 → nr 2 (gi m' 511 i) = gi m' 511 i) ∧ ∀ i : Nat, 500 ≤ i → gi m' 511 i = gi m 511 i
theorem BT_tr {a b c : DY} (h : BT a b) (k : BT b c) : BT a c := ⟨fun z => k.1 (h.1 z), fun i hi => (k.2 i hi).trans (h.2 i hi)⟩
theorem nr_byt (v s : Int32) : nr 2 (byt v s) = byt v s := by
  unfold byt
  show ((v >>> (s &&& 31)).toInt8.toInt32).toInt8.toInt32 = (v >>> (s &&& 31)).toInt8.toInt32
  rw [Int8.toInt8_toInt32]
theorem BT_ap (v s : Int32) (nb : Nat) (m : DY) (h : nb < 500) : BT m (apM v s nb m) := by
  have g : ∀ k : Nat, gi (apM v s nb m) 511 k = if k = nb then byt v s else gi m 511 k := fun k => by
    unfold apM
    rw [gi_si_if, if_neg (by omega), gi_si_if]
    by_cases z : k = nb
    · rw [if_pos z, if_pos ⟨rfl, z⟩]
    · rw [if_neg z, if_neg (fun y => z y.2)]
  refine ⟨fun hb i hi => ?_, fun i hi => ?_⟩
  · rw [g]
    by_cases z : i = nb
    · rw [if_pos z]; exact nr_byt v s
    · rw [if_neg z]; exact hb i hi
  · rw [g, if_neg (by omega)]
theorem BT_4 (v : Int32) (nb : Nat) (m : DY) (h : nb + 4 ≤ 500) : BT m (ap4M v nb m) := BT_tr (BT_tr (BT_tr (BT_ap _ _ _ _ (by omega)) (BT_ap _ _ _ _ (by omega))) (BT_ap _ _ _ _ (by omega))) (BT_ap _ _ _ _ (by omega))
theorem BT_5 (a b c d e : Int32) (nb : Nat) (m : DY) (h : nb + 20 ≤ 500) : BT m (fd5M a b c d e nb m) := BT_tr (BT_tr (BT_tr (BT_tr (BT_4 _ _ _ (by omega)) (BT_4 _ _ _ (by omega))) (BT_4 _ _ _ (by omega))) (BT_4 _ _ _ (by omega))) (BT_4 _ _ _ (by omega))
