/-! the reference lays a row: what stands there then -/
def LAID (m e : DY) (r q lw M : Nat) (seed x5 x6 : Int32) : Prop := (∀ x y : Nat, ¬ (x = 531 ∧ 720 * r ≤ y ∧ y < 720 * r + 720) → gi e x y = gi m x y) ∧ (∀ x y : Nat, gl e x y = gl m x y) ∧ (gi e 531 (720 * r) = gi m 516 q ∧ gi e 531 (720 * r + 1) = gi m 517 q ∧ gi e 531 (720 * r + 2) = gi m 518 q ∧ gi e 531 (720 * r + 4) = seed ∧ gi e 531 (720 * r + 9) = gi m 523 lw ∧ gi e 531 (720 * r + 10) = 1) ∧ (gi e 531 (720 * r + 3) = 0 ∧ ∀ y : Nat, 5 ≤ y → y ≤ 8 → gi e 531 (720 * r + y) = 0) ∧ (∀ j : Nat, j < M → WKL e m r q x5 x6 j ∧ ∀ y : Nat, 15 ≤ y → y < 20 → gi e 531 (720 * r + 16 + 20 * j + y) = 0) ∧ (∀ j : Nat, j < 96 → gi e 531 (720 * r + 256 + j) = gi m 520 (96 * q + j)) ∧ (∀ j : Nat, j < 288 → gi e 531 (720 * r + 352 + j) = gi m 524 (288 * lw + j)) ∧ ∀ y : Nat, 640 ≤ y → y < 720 → gi e 531 (720 * r + y) = 0
theorem m_lay (N r q lw M : Nat) (seed x5 x6 : Int32) (m : DY) (hN : 900 ≤ N) (r14 : r < 14) (q12 : q < 12) (l12 : lw < 12) (hM : M ≤ 12) (h8 : gi m 518 q = iz M) : ∃ e : DY, F_X10_lay Z0.1 N 510 (iz r) (iz q) (iz lw) seed x5 x6 m = some e ∧ LAID m e r q lw M seed x5 x6 := by
  have x720 : (720 : Int32) * iz (r : Int) = iz ((720 * r : Nat) : Int) := (iz_mul 720 r).trans (congrArg iz (by omega))
  obtain ⟨z, u1, u2, u3, u4⟩ := m_l10 N r q lw seed x5 x6 r14 q12 l12 720 0 N m (by omega) (by omega)
  have hz : ∀ x y : Nat, x ≠ 531 → gi (hdM z r q lw seed) x y = gi m x y := fun x y h => by
    rw [gi_hdM, if_neg (by omega), if_neg (by omega), if_neg (by omega), if_neg (by omega), if_neg (by omega), if_neg (by omega), u2 x y (by omega)]
  obtain ⟨b, v1, v2, v3, v4⟩ := m_l121 N r q M (iz lw) x5 x6 (iz ((720 * r : Nat) : Int)) (by omega) r14 q12 hM M 0 N (hdM z r q lw seed) (by omega) (by omega) (by rw [hz 518 q (by omega)]; exact h8)
  obtain ⟨e, w1, w2, w3, w4, w5⟩ := m_l305 N r q lw (by omega) r14 q12 l12 96 0 N b (by omega) (by omega)
  have bz : ∀ x y : Nat, x ≠ 531 → gi b x y = gi m x y := fun x y h => by rw [v2 x y (by omega), hz x y h]
  have hb : ∀ y : Nat, y < 16 → gi e 531 (720 * r + y) = gi (hdM z r q lw seed) 531 (720 * r + y) := fun y hy => by rw [w2 531 _ (by omega), v2 531 _ (by omega)]
  have hb0 := hb 0 (by omega)
  rw [Nat.add_zero] at hb0
  refine ⟨e, ?_, fun x y h => ?_, fun x y => ?_, ⟨?_, ?_, ?_, ?_, ?_, ?_⟩, ⟨?_, fun y h1 h2 => ?_⟩, fun j hj => ⟨?_, fun y h1 h2 => ?_⟩, fun j hj => ?_, fun j hj => ?_, fun y h1 h2 => ?_⟩
  · rw [F_X10_lay_s, x720]
    exact u1.trans (v1.trans w1)
  · rw [w2 x y (by omega), v2 x y (by omega), gi_hdM, if_neg (by omega), if_neg (by omega), if_neg (by omega), if_neg (by omega), if_neg (by omega), if_neg (by omega), u2 x y (by omega)]
  · rw [w3, v3]
    exact u3 x y
  · rw [hb0, gi_hdM, if_neg (by omega), if_neg (by omega), if_neg (by omega), if_neg (by omega), if_neg (by omega), if_pos ⟨rfl, rfl⟩, u2 516 q (by omega)]
  · rw [hb 1 (by omega), gi_hdM, if_neg (by omega), if_neg (by omega), if_neg (by omega), if_neg (by omega), if_pos ⟨rfl, rfl⟩, u2 517 q (by omega)]
  · rw [hb 2 (by omega), gi_hdM, if_neg (by omega), if_neg (by omega), if_neg (by omega), if_pos ⟨rfl, rfl⟩, u2 518 q (by omega)]
  · rw [hb 4 (by omega), gi_hdM, if_neg (by omega), if_neg (by omega), if_pos ⟨rfl, rfl⟩]
  · rw [hb 9 (by omega), gi_hdM, if_neg (by omega), if_pos ⟨rfl, rfl⟩, u2 523 lw (by omega)]
  · rw [hb 10 (by omega), gi_hdM, if_pos ⟨rfl, rfl⟩]
  · rw [hb 3 (by omega), gi_hdM, if_neg (by omega), if_neg (by omega), if_neg (by omega), if_neg (by omega), if_neg (by omega), if_neg (by omega), u4 3 (by omega) (by omega)]
  · rw [hb y (by omega), gi_hdM, if_neg (by omega), if_neg (by omega), if_neg (by omega), if_neg (by omega), if_neg (by omega), if_neg (by omega), u4 y (by omega) (by omega)]
  · obtain ⟨W1, W2, W3⟩ := v4 j (by omega) hj
    refine ⟨fun y hy => ?_, fun y h1 h2 => ?_, ?_⟩
    · have W := W1 y hy
      rw [hz 521 _ (by omega), hz 521 _ (by omega)] at W
      rw [w2 531 _ (by omega), w2 531 _ (by omega)]
      exact W
    · rw [w2 531 _ (by omega), W2 y h1 h2, hz 521 _ (by omega)]
    · rw [w2 531 _ (by omega), W3]
  · rw [w2 531 _ (by omega), v2 531 _ (by omega), gi_hdM, if_neg (by omega), if_neg (by omega), if_neg (by omega), if_neg (by omega), if_neg (by omega), if_neg (by omega)]
    have := u4 (16 + 20 * j + y) (by omega) (by omega)
    rw [← Nat.add_assoc, ← Nat.add_assoc] at this
    exact this
  · rw [w4 j (by omega) hj, bz 520 _ (by omega)]
  · rw [w5 j hj, bz 524 _ (by omega)]
  · rw [w2 531 _ (by omega), v2 531 _ (by omega), gi_hdM, if_neg (by omega), if_neg (by omega), if_neg (by omega), if_neg (by omega), if_neg (by omega), if_neg (by omega), u4 y (by omega) h2]
/-- a row laid, a walk begun: they are bound -/
theorem RRx_lay {d E : DY} {b q lw g l w r n : Nat} {seed x5 x6 : Int32} (hG : CVg g l w) (bl : Nat) (hb : PR d b q) (hL : LR d bl (gi d 523 lw) 524 (288 * lw)) (hn : gi d b 3 = iz n ∧ n ≤ 12) (hp : blk pF pC b g d E) (hl : blk lF lC bl l d E) (hB : BEG E E g w seed) (hO : ORD E g w n) (hA : LAID d E r q lw n seed x5 x6) (hx : ∀ j : Nat, j < n → ¬ awy x5 x6 j) : ∃ L W : Nat, RRx E g l w r id L W n n := by
  obtain ⟨L, W, n', ⟨k1, k1', k1''⟩, ⟨k2, k2'⟩, ⟨k3, k3'⟩, k4, ⟨k5, k5'⟩, k6, k7, _⟩ := hb
  have nn : n' = n := by
    have := k5.symm.trans hn.1
    rw [iz_inj (by omega) (by omega) (by omega) (by omega)] at this
    omega
  subst nn
  obtain ⟨_, _, ⟨a3, a4, a5, a6, a7, a8⟩, ⟨z3, z5⟩, aw, a9, a10, a11⟩ := hA
  obtain ⟨⟨b3, b2, b4, b5, b6, b7⟩, bl1, bl2, bl3, _⟩ := hB
  have f : ∀ x : Nat, x < 4 → gi E g x = gi d b x := fun x hx => hp.1 x (pF_in x hx)
  have c : ∀ x i : Nat, 2 ≤ x → x ≤ 9 → i < 12 → gi E (g + x) i = gi d (b + x) i := fun x i h1 h2 h3 => hp.2 (x, 12) (pC_in x (by omega) h1) i h3
  have c1 : ∀ i : Nat, i < 96 → gi E (g + 1) i = gi d (b + 1) i := fun i h3 => hp.2 (1, 96) (by decide) i h3
  refine ⟨L, W, ⟨k1, k1', k1'', k1''⟩, ⟨(f 0 (by omega)).trans k2, a3.trans k2'⟩, ⟨(f 1 (by omega)).trans k3, a4.trans k3'⟩, ⟨(f 3 (by omega)).trans k5, a5.trans k5'⟩, fun i hi => ?_, LR_of hL hl a7 a10, ⟨b2.trans z3.symm, b3.trans a6.symm, b4.trans (z5 5 (by omega) (by omega)).symm, b5.trans (z5 6 (by omega) (by omega)).symm, b6.trans (z5 8 (by omega) (by omega)).symm, b7.trans (z5 7 (by omega) (by omega)).symm⟩, ⟨fun i hi => hi, fun i j h _ => h⟩, fun m hm ha => absurd rfl (ha m hm), fun i hi => ?_, fun x hx => ?_, hO⟩
  · rw [c1 i hi, a9 i hi]
    exact k6 i hi
  · show RW E g w L W n' n' i (720 * r + 16 + 20 * i) id
    obtain ⟨⟨x, x1, x2, x3⟩, ⟨y, y1, y2, y3⟩, tw, fr, fb⟩ := k7 i hi
    obtain ⟨⟨W1, W2, W3⟩, W4⟩ := aw i hi
    have i12 : i < 12 := by omega
    refine ⟨fun t ht => ?_, TW_of tw (fun x h1 h2 => c x i (by omega) (by omega) i12) (fun x hx => ?_), ?_, ⟨?_, ?_, ?_, ?_⟩, 0, by omega, (bl2 i i12).2.2.2.2, W4 18 (by omega) (by omega)⟩
    · obtain ⟨p1, p2⟩ := bl1 t i ht i12
      obtain ⟨p3, p4⟩ := (W1 t ht).2 (hx i hi)
      refine Or.inr ⟨x, y, x1, y1, ?_, ?_, ?_, ?_⟩
      · rw [p1, c 2 i (by omega) (by omega) i12, x2]
      · rw [p2, c 3 i (by omega) (by omega) i12, y2]
      · rw [p3, x3]
      · rw [p4, y3]
    · have := W2 (2 + x) (by omega) (by omega)
      rw [← Nat.add_assoc, ← Nat.add_assoc] at this
      exact this
    · have w13 : gi E 531 (720 * r + 16 + 20 * i + 13) = gi d (b + 9) i := (W2 7 (by omega) (by omega)).trans fr.symm
      rw [w13, c 9 i (by omega) (by omega) i12]
      rcases fb with z | ⟨j, j1, j2⟩
      · refine Or.inr ⟨fun j hj y => ?_, Or.inl z⟩
        rw [z, l_m1] at y
        exact iz_nei (by omega) y
      · exact Or.inl ⟨j, j1, j2, j2⟩
    · rw [(bl2 i i12).1, W3]
    · rw [(bl2 i i12).2.1, W4 15 (by omega) (by omega)]
    · rw [(bl2 i i12).2.2.1, W4 16 (by omega) (by omega)]
    · rw [(bl2 i i12).2.2.2.1, W4 17 (by omega) (by omega)]
  · have q : ∀ y : Nat, y < 5 → gi E (w + 11) (5 * x + y) = 0 ∧ gi E 531 (720 * r + 640 + 5 * x + y) = 0 := fun y hy => by
      have := a11 (640 + 5 * x + y) (by omega) (by omega)
      rw [← Nat.add_assoc, ← Nat.add_assoc] at this
      exact ⟨bl3 _ (by omega), this⟩
    have q0 := q 0 (by omega)
    rw [Nat.add_zero (5 * x), Nat.add_zero (720 * r + 640 + 5 * x)] at q0
    rw [q0.1, q0.2, (q 1 (by omega)).1, (q 1 (by omega)).2, (q 2 (by omega)).1, (q 2 (by omega)).2, (q 3 (by omega)).1, (q 3 (by omega)).2, (q 4 (by omega)).1, (q 4 (by omega)).2]
    exact ⟨rfl, rfl, rfl, rfl, rfl⟩
