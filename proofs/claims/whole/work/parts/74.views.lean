/-! the halves of the bonds; finds, does, ran -/
theorem PO_cx {d : DY} {w i t L W o : Nat} (h : PO d w i t L W o) (L16 : L ≤ 16) (W6 : W ≤ 6) : gi d (w + 1) (12 * t + i) = iz (cx d w t i) ∧ gi d (w + 2) (12 * t + i) = iz (cy d w t i) ∧ gi d 531 (o + t) = iz (cx d w t i) ∧ gi d 531 (o + 4 + t) = iz (cy d w t i) ∧ (cx d w t i = -1 ∧ cy d w t i = -1 ∨ inS L W (cx d w t i) (cy d w t i)) := by
  unfold cx cy
  rcases h with ⟨h1, h2, h3, h4⟩ | ⟨x, y, hx, hy, h1, h2, h3, h4⟩
  · rw [h1, h2, h3, h4]
    exact ⟨rfl, rfl, rfl, rfl, Or.inl ⟨rfl, rfl⟩⟩
  · rw [h1, h2, h3, h4, iz_toInt (by omega) (by omega), iz_toInt (by omega) (by omega)]
    refine ⟨rfl, rfl, rfl, rfl, Or.inr ?_⟩
    unfold inS
    omega
theorem RRx_CV {d : DY} {g l w r : Nat} {ι : Nat → Nat} {L W n M : Nat} (hG : CVg g l w) (h : RRx d g l w r ι L W n M) : CV d g l w L W n := by
  obtain ⟨⟨k1, k1', k1'', k1'''⟩, k2, k3, k4, k5, k6, k7, k8, k9, k10, k11, k12, k13⟩ := h
  refine ⟨hG, ⟨k1, k1', k1''⟩, ⟨k2.1, k3.1, k4.1⟩, fun i hi => (k5 i hi).2, fun t i ht hi => ?_, fun i hi => ?_⟩
  · obtain ⟨m1, _⟩ := k10 i hi
    obtain ⟨a, b, _, _, c⟩ := PO_cx (m1 t ht) k1 k1'
    exact ⟨a, b, c⟩
  · obtain ⟨_, ⟨a1, ⟨p2, b2, c2, e2, _⟩, ⟨p3, b3, e3, _⟩, ⟨p4, b4, e4, _⟩, ⟨p5, b5, e5, _⟩⟩, _, _, v, v1, v2, _⟩ := k10 i hi
    refine ⟨?_, ⟨p2, b2, c2, e2⟩, ⟨p3, b3, e3⟩, ⟨p4, b4, e4⟩, ⟨p5, b5, e5⟩, ⟨v, v1, v2⟩⟩
    rcases a1 with ⟨z, _⟩ | ⟨z, _⟩
    · exact Or.inl z
    · exact Or.inr z
theorem RRx_MV {d : DY} {g l w r : Nat} {ι : Nat → Nat} {L W n M : Nat} (hG : CVg g l w) (r14 : r < 14) (h : RRx d g l w r ι L W n M) : MV d g w r ι L W n M := by
  have hv := RRx_CV hG h
  obtain ⟨⟨k1, k1', k1'', k1'''⟩, k2, k3, k4, k5, k6, k7, k8, k9, k10, k11, k12, k13⟩ := h
  refine ⟨⟨r14, k1, k1', k1'', k1'''⟩, ⟨k2.2, k3.2, k4.2⟩, k5, k8, k9, fun t i ht hi => ?_, fun i hi => ?_⟩
  · obtain ⟨m1, _⟩ := k10 i hi
    obtain ⟨_, _, a, b, c⟩ := PO_cx (m1 t ht) k1 k1'
    exact ⟨a, b, c⟩
  · obtain ⟨_, ⟨a1, ⟨p2, b2, c2, e2, f2⟩, ⟨p3, b3, e3, f3⟩, _⟩, _⟩ := k10 i hi
    refine ⟨a1, ⟨p2, b2, c2, e2, f2⟩, ?_⟩
    obtain ⟨x1, x2⟩ := lt_eq hv i hi
    refine ⟨?_, x2⟩
    rw [← x1, e3]
    exact f3
/-- the rest of a walker's bonds -/
theorem RRx_one {d : DY} {g l w r : Nat} {ι : Nat → Nat} {L W n M : Nat} (h : RRx d g l w r ι L W n M) (i : Nat) (hi : i < n) : FRI d g r ι n M i ∧ gi d 531 (720 * r + 16 + 20 * ι i + 18) = gi d (w + 7) i ∧ gi d 531 (720 * r + 16 + 20 * ι i + 11) = gi d (g + 7) i ∧ gi d 531 (720 * r + 16 + 20 * ι i + 12) = gi d (g + 8) i ∧ gi d (w + 3) i = gi d 531 (720 * r + 16 + 20 * ι i + 14) ∧ gi d (w + 4) i = gi d 531 (720 * r + 16 + 20 * ι i + 15) ∧ gi d (w + 5) i = gi d 531 (720 * r + 16 + 20 * ι i + 16) ∧ gi d (w + 6) i = gi d 531 (720 * r + 16 + 20 * ι i + 17) := by
  obtain ⟨_, k2, k3, k4, k5, k6, k7, k8, k9, k10, k11, k12, k13⟩ := h
  obtain ⟨_, ⟨_, _, _, ⟨p4, _, e4, f4⟩, ⟨p5, _, e5, f5⟩⟩, hf, ⟨m3, m4, m5, m6⟩, v, v1, v2, v3⟩ := k10 i hi
  refine ⟨hf, v3.trans v2.symm, ?_, ?_, m3, m4, m5, m6⟩
  · rw [e4]; exact f4
  · rw [e5]; exact f5
theorem cvg_run : CVg 6 16 23 := ⟨by decide, by decide, by decide, r_23_0, r_23_1, by decide, by decide⟩
theorem tb2 : gr Z0.1 2 8 = 6 ∧ gr Z0.1 2 9 = 16 ∧ gr Z0.1 2 10 = 23 := ⟨(tb_of 2 (by decide)).2.2.2.1, (tb_of 2 (by decide)).2.2.2.2.1, (tb_of 2 (by decide)).2.2.2.2.2.1⟩
theorem c_hasG (S : ST) (N b : Nat) (x : Int) (n : Nat) (dy : DY) (x1 : -2147483648 ≤ x) (x2 : x < 2147483648) (hn : gi dy b 3 = iz n) (h12 : n ≤ 12) : F_X4_has S N b (iz x) dy = some (if 0 ≤ x ∧ x < n then 1 else 0, dy) := c_has S N b x n dy x1 x2 hn h12
theorem c_there (N : Nat) (d : DY) (g l w L W n : Nat) (x : Int) (hv : CV d g l w L W n) (x1 : -2147483648 ≤ x) (x2 : x < 2147483648) : (0 ≤ x ∧ x < n ∧ cx d w 0 x.toNat ≠ -1 → F_X8_isThere Z0.1 N w (iz x) d = some (1, d)) ∧ (¬ (0 ≤ x ∧ x < n ∧ cx d w 0 x.toNat ≠ -1) → F_X8_isThere Z0.1 N w (iz x) d = some (0, d)) := by
  obtain ⟨hG, ⟨L16, W6, n12⟩, ⟨e0, e1, e3⟩, _, hpos, _⟩ := hv
  have F := F_X8_isThere_s Z0.1 N w (iz x) d
  rw [cv_r0 hG, c_hasG _ _ g x n d x1 x2 e3 n12, sb_eq] at F
  have n1 : ¬ (1 : Int32) = 0 := by decide
  by_cases h : 0 ≤ x ∧ x < n
  · obtain ⟨i, rfl⟩ : ∃ i : Nat, x = i := ⟨x.toNat, by omega⟩
    obtain ⟨p1, _, p3⟩ := hpos 0 i (by omega) (by omega)
    rw [Nat.mul_zero, Nat.zero_add] at p1
    rw [if_pos h, if_neg n1, if_pos (show ib (iz (i : Int)) 48 from iz_ib (by omega)), cv_w1 hG, tnn _ i rfl (by omega), p1] at F
    rw [Int.toNat_natCast]
    unfold inS at p3
    refine ⟨fun z => ?_, fun z => ?_⟩
    · rw [if_neg (show ¬ iz (cx d w 0 i) = -1 from iz_nei (b := -1) (by have := z.2.2; omega))] at F
      exact F
    · have : cx d w 0 i = -1 := by
        rcases p3 with y | y
        · exact y.1
        · exact absurd ⟨h.1, h.2, by omega⟩ z
      rw [if_pos (show iz (cx d w 0 i) = -1 from by rw [this]; rfl)] at F
      exact F
  · rw [if_neg h, if_pos rfl] at F
    exact ⟨fun z => absurd ⟨z.1, z.2.1⟩ h, fun _ => F⟩
theorem cx_b {d : DY} {g l w L W n : Nat} (hv : CV d g l w L W n) (i : Nat) (hi : i < n) (h : cx d w 0 i ≠ -1) : inS L W (cx d w 0 i) (cy d w 0 i) := by
  obtain ⟨_, _, _, _, hpos, _⟩ := hv
  rcases (hpos 0 i (by omega) hi).2.2 with z | z
  · exact absurd z.1 h
  · exact z
theorem m_runner (N : Nat) (d : DY) (n : Nat) (x : Int) (n12 : n ≤ 12) (h2 : gi d 531 2 = iz n) (x1 : -2147483648 ≤ x) (x2 : x < 2147483648) : F_X10_isRunner Z0.1 N 510 (iz x) d = some (if gi d 531 10 = 1 ∧ 0 ≤ x ∧ x < n then 1 else 0, d) := by
  have s1 : iz (n : Int) - (1 : Int32) = iz ((n : Int) - 1) := iz_sub _ 1
  rw [F_X10_isRunner_s, if_pos (by decide), r_510_39, show (10 : Int32).toNatClampNeg = 10 from rfl, show (2 : Int32).toNatClampNeg = 2 from rfl]
  by_cases h : gi d 531 10 = 1
  · rw [if_pos h, if_pos (by decide), h2, s1, m_in0 _ _ x _ _ x1 x2 (by omega) (by omega), sb_eq]
    by_cases q : 0 ≤ x ∧ x ≤ (n : Int) - 1
    · rw [if_pos q, if_neg (by decide : ¬ (1 : Int32) = 0), if_pos ⟨h, by omega⟩]
    · rw [if_neg q, if_pos rfl, if_neg (fun z => q (by omega))]
  · rw [if_neg h, if_neg (fun z => h z.1)]
theorem m_thereR (N : Nat) (d0 d : DY) (g w r : Nat) (ι : Nat → Nat) (L W n M i : Nat) (hv : MV d0 g w r ι L W n M) (hi : i < n) (hk : ∀ k : Nat, gi d 531 k = gi d0 531 k) : F_X10_isThere Z0.1 N 510 (iz r) (iz (ι i : Nat)) d = some (if cx d0 w 0 i = -1 then 0 else 1, d) := by
  obtain ⟨⟨r14, L16, W6, n12, M12⟩, _, _, ⟨hι, hmono⟩, _, hpos, hwk⟩ := hv
  have hιi := hι i hi
  obtain ⟨p1, _, p3⟩ := hpos 0 i (by omega) hi
  rw [Nat.add_zero] at p1
  unfold inS at p3
  rw [F_X10_isThere_s]
  refine bnd (m_at _ _ r (ι i) d) ?_
  show (if ib (iz ((720 * r + 16 + 20 * ι i : Nat) : Int)) 10080 then _ else _) = _
  rw [if_pos (ibr _ (by omega)), r_510_39, tnn _ (720 * r + 16 + 20 * ι i) rfl (by omega)]
  show (if gi d 531 (720 * r + 16 + 20 * ι i) = -1 then _ else _) = _
  rw [hk, p1]
  by_cases z : cx d0 w 0 i = -1
  · rw [if_pos (by rw [z]; rfl), if_pos z]
  · rw [if_neg (show ¬ iz (cx d0 w 0 i) = -1 from iz_nei (b := -1) (by omega)), if_neg z]
