/-! a door that is passed -/
def DRS (c m : DY) (w r : Nat) : Prop := ∀ x : Nat, x < 15 → gi c (w + 11) (5 * x) = gi m 531 (720 * r + 640 + 5 * x + 3) ∧ gi c (w + 11) (5 * x + 1) = gi m 531 (720 * r + 640 + 5 * x + 2) ∧ gi c (w + 11) (5 * x + 2) = gi m 531 (720 * r + 640 + 5 * x + 4) ∧ gi c (w + 11) (5 * x + 3) = gi m 531 (720 * r + 640 + 5 * x) ∧ gi c (w + 11) (5 * x + 4) = gi m 531 (720 * r + 640 + 5 * x + 1)
/-- the class's door after a step: turns, longest, steps, latest way, in a row -/
def drC (w b : Nat) (v0 v1 v2 v3 v4 : Int32) (c c' : DY) : Prop := (gi c' (w + 11) b = v0 ∧ gi c' (w + 11) (b + 1) = v1 ∧ gi c' (w + 11) (b + 2) = v2 ∧ gi c' (w + 11) (b + 3) = v3 ∧ gi c' (w + 11) (b + 4) = v4) ∧ (∀ x k : Nat, ¬ (x = w + 11 ∧ b ≤ k ∧ k < b + 5) → gi c' x k = gi c x k) ∧ ∀ x k : Nat, gl c' x k = gl c x k
def mxI (a b : Int32) : Int32 := if a < b then b else a
theorem c_d57 {g l w : Nat} (N b : Nat) (c : DY) (hG : CVg g l w) (hb : b ≤ 70) : ∃ c' : DY, F_X8_passDoor_57 Z0.1 N w (iz b) c = some c' ∧ drC w b (gi c (w + 11) b) (mxI (gi c (w + 11) (b + 1)) (gi c (w + 11) (b + 4) + 1)) (gi c (w + 11) (b + 2) + 1) (gi c (w + 11) (b + 3)) (gi c (w + 11) (b + 4) + 1) c c' := by
  have b4 : iz (b : Int) + (4 : Int32) = iz ((b + 4 : Nat) : Int) := iz_add b 4
  have b2 : iz (b : Int) + (2 : Int32) = iz ((b + 2 : Nat) : Int) := iz_add b 2
  have b1 : iz (b : Int) + (1 : Int32) = iz ((b + 1 : Nat) : Int) := iz_add b 1
  have j4 : ib (iz ((b + 4 : Nat) : Int)) 75 := iz_ib (by omega)
  have j2 : ib (iz ((b + 2 : Nat) : Int)) 75 := iz_ib (by omega)
  have j1 : ib (iz ((b + 1 : Nat) : Int)) 75 := iz_ib (by omega)
  have t4 : (iz ((b + 4 : Nat) : Int)).toNatClampNeg = b + 4 := tnn _ _ rfl (by omega)
  have t2 : (iz ((b + 2 : Nat) : Int)).toNatClampNeg = b + 2 := tnn _ _ rfl (by omega)
  have t1 : (iz ((b + 1 : Nat) : Int)).toNatClampNeg = b + 1 := tnn _ _ rfl (by omega)
  have F := F_X8_passDoor_57_s Z0.1 N w (iz (b : Int)) c
  rw [b4, if_pos j4, if_pos j4, bd_eq, b2, if_pos j2, if_pos j2, bd_eq, b1, if_pos j1, if_pos j4, if_pos j1, bd_eq, cv_w11 hG, t4, t2, t1] at F
  have x2 : gi (si c (w + 11) (b + 4) (gi c (w + 11) (b + 4) + 1)) (w + 11) (b + 2) = gi c (w + 11) (b + 2) := by rw [gi_si_if, if_neg (by omega)]
  rw [x2] at F
  have x1 : gi (si (si c (w + 11) (b + 4) (gi c (w + 11) (b + 4) + 1)) (w + 11) (b + 2) (gi c (w + 11) (b + 2) + 1)) (w + 11) (b + 1) = gi c (w + 11) (b + 1) := by rw [gi_si_if, if_neg (by omega), gi_si_if, if_neg (by omega)]
  have x4 : gi (si (si c (w + 11) (b + 4) (gi c (w + 11) (b + 4) + 1)) (w + 11) (b + 2) (gi c (w + 11) (b + 2) + 1)) (w + 11) (b + 4) = gi c (w + 11) (b + 4) + 1 := by rw [gi_si_if, if_neg (by omega), gi_si_if, if_pos ⟨rfl, rfl⟩]
  rw [x1, x4] at F
  refine ⟨_, F, ⟨?_, ?_, ?_, ?_, ?_⟩, fun x k h => ?_, fun _ _ => rfl⟩
  · rw [gi_si_if, if_neg (by omega), gi_si_if, if_neg (by omega), gi_si_if, if_neg (by omega)]
  · rw [gi_si_if, if_pos ⟨rfl, rfl⟩]; rfl
  · rw [gi_si_if, if_neg (by omega), gi_si_if, if_pos ⟨rfl, rfl⟩]
  · rw [gi_si_if, if_neg (by omega), gi_si_if, if_neg (by omega), gi_si_if, if_neg (by omega)]
  · rw [gi_si_if, if_neg (by omega), gi_si_if, if_neg (by omega), gi_si_if, if_pos ⟨rfl, rfl⟩]
  · rw [gi_si_if, if_neg (by omega), gi_si_if, if_neg (by omega), gi_si_if, if_neg (by omega)]
theorem c_door {g l w : Nat} (N x : Nat) (c : DY) (v : Int32) (hG : CVg g l w) (hx : x < 15) : ∃ c' : DY, F_X8_passDoor Z0.1 N w (iz x) v c = some c' ∧ drC w (5 * x) (if gi c (w + 11) (5 * x + 3) = v then gi c (w + 11) (5 * x) else gi c (w + 11) (5 * x) + 1) (mxI (gi c (w + 11) (5 * x + 1)) ((if gi c (w + 11) (5 * x + 3) = v then gi c (w + 11) (5 * x + 4) else 0) + 1)) (gi c (w + 11) (5 * x + 2) + 1) v ((if gi c (w + 11) (5 * x + 3) = v then gi c (w + 11) (5 * x + 4) else 0) + 1) c c' := by
  have m : iz (x : Int) * (5 : Int32) = iz ((5 * x : Nat) : Int) := by rw [l_5, iz_mul]; exact congrArg iz (by omega)
  have b3 : iz ((5 * x : Nat) : Int) + (3 : Int32) = iz ((5 * x + 3 : Nat) : Int) := iz_add _ 3
  have b4 : iz ((5 * x : Nat) : Int) + (4 : Int32) = iz ((5 * x + 4 : Nat) : Int) := iz_add _ 4
  have b0 : iz ((5 * x : Nat) : Int) + (0 : Int32) = iz ((5 * x : Nat) : Int) := by rw [l_0, iz_add, Int.add_zero]
  have j3 : ib (iz ((5 * x + 3 : Nat) : Int)) 75 := iz_ib (by omega)
  have j4 : ib (iz ((5 * x + 4 : Nat) : Int)) 75 := iz_ib (by omega)
  have j0 : ib (iz ((5 * x : Nat) : Int)) 75 := iz_ib (by omega)
  have t3 : (iz ((5 * x + 3 : Nat) : Int)).toNatClampNeg = 5 * x + 3 := tnn _ _ rfl (by omega)
  have t4 : (iz ((5 * x + 4 : Nat) : Int)).toNatClampNeg = 5 * x + 4 := tnn _ _ rfl (by omega)
  have t0 : (iz ((5 * x : Nat) : Int)).toNatClampNeg = 5 * x := tnn _ _ rfl (by omega)
  have F := F_X8_passDoor_s Z0.1 N w (iz (x : Int)) v c
  rw [if_neg (show ¬ iz (x : Int) < 0 from iz_nlt0 (by omega)), if_pos (show iz (x : Int) < 15 from iz_lti (b := 15) (by omega)), m, b3, if_pos j3, cv_w11 hG, t3] at F
  by_cases q : gi c (w + 11) (5 * x + 3) = v
  · rw [if_pos q] at F
    rw [if_pos q, if_pos q]
    obtain ⟨c', u1, u2⟩ := c_d57 N (5 * x) c hG (by omega)
    rw [q] at u2
    exact ⟨c', F.trans u1, u2⟩
  · rw [if_neg q, if_pos j3, bd_eq, b4, if_pos j4, bd_eq, b0, if_pos j0, if_pos j0, bd_eq, t4, t0] at F
    rw [if_neg q, if_neg q]
    have e0 : gi (si (si c (w + 11) (5 * x + 3) v) (w + 11) (5 * x + 4) 0) (w + 11) (5 * x) = gi c (w + 11) (5 * x) := by rw [gi_si_if, if_neg (by omega), gi_si_if, if_neg (by omega)]
    rw [e0] at F
    obtain ⟨c', u1, ⟨y0, y1, y2, y3, y4⟩, u3, u4⟩ := c_d57 N (5 * x) (si (si (si c (w + 11) (5 * x + 3) v) (w + 11) (5 * x + 4) 0) (w + 11) (5 * x) (gi c (w + 11) (5 * x) + 1)) hG (by omega)
    refine ⟨c', F.trans u1, ⟨?_, ?_, ?_, ?_, ?_⟩, fun y k h => ?_, fun y k => u4 y k⟩
    · rw [y0, gi_si_if, if_pos ⟨rfl, rfl⟩]
    · rw [y1, gi_si_if, if_neg (by omega), gi_si_if, if_neg (by omega), gi_si_if, if_neg (by omega), gi_si_if, if_neg (by omega), gi_si_if, if_pos ⟨rfl, rfl⟩]
    · rw [y2, gi_si_if, if_neg (by omega), gi_si_if, if_neg (by omega), gi_si_if, if_neg (by omega)]
    · rw [y3, gi_si_if, if_neg (by omega), gi_si_if, if_neg (by omega), gi_si_if, if_pos ⟨rfl, rfl⟩]
    · rw [y4, gi_si_if, if_neg (by omega), gi_si_if, if_pos ⟨rfl, rfl⟩]
    · rw [u3 y k h, gi_si_if, if_neg (by omega), gi_si_if, if_neg (by omega), gi_si_if, if_neg (by omega)]
/-- the reference's: latest way, in a row, longest, turns, steps -/
def drM (o : Nat) (v0 v1 v2 v3 v4 : Int32) (m m' : DY) : Prop := (gi m' 531 o = v0 ∧ gi m' 531 (o + 1) = v1 ∧ gi m' 531 (o + 2) = v2 ∧ gi m' 531 (o + 3) = v3 ∧ gi m' 531 (o + 4) = v4) ∧ (∀ x k : Nat, ¬ (x = 531 ∧ o ≤ k ∧ k < o + 5) → gi m' x k = gi m x k) ∧ ∀ x k : Nat, gl m' x k = gl m x k
theorem m_door (N r x : Nat) (m : DY) (v : Int32) (r14 : r < 14) (hx : x < 15) : ∃ m' : DY, F_X10_passDoor Z0.1 N 510 (iz r) (iz x) v m = some m' ∧ drM (720 * r + 640 + 5 * x) v ((if gi m 531 (720 * r + 640 + 5 * x) = v then gi m 531 (720 * r + 640 + 5 * x + 1) else 0) + 1) (mxI (gi m 531 (720 * r + 640 + 5 * x + 2)) ((if gi m 531 (720 * r + 640 + 5 * x) = v then gi m 531 (720 * r + 640 + 5 * x + 1) else 0) + 1)) (if gi m 531 (720 * r + 640 + 5 * x) = v then gi m 531 (720 * r + 640 + 5 * x + 3) else gi m 531 (720 * r + 640 + 5 * x + 3) + 1) (gi m 531 (720 * r + 640 + 5 * x + 4) + 1) m m' := by
  obtain ⟨o, ho⟩ : ∃ o, o = 720 * r + 640 + 5 * x := ⟨_, rfl⟩
  have ob : o + 4 < 10080 := by omega
  have m0 : (720 : Int32) * iz (r : Int) + (640 : Int32) + (5 : Int32) * iz (x : Int) = iz (o : Int) := by
    rw [show (720 : Int32) = iz 720 from rfl, show (640 : Int32) = iz 640 from rfl, l_5, iz_mul, iz_mul, iz_add, iz_add]
    exact congrArg iz (by omega)
  rw [← ho]
  have b1 : iz (o : Int) + (1 : Int32) = iz ((o + 1 : Nat) : Int) := iz_add o 1
  have b2 : iz (o : Int) + (2 : Int32) = iz ((o + 2 : Nat) : Int) := iz_add o 2
  have b3 : iz (o : Int) + (3 : Int32) = iz ((o + 3 : Nat) : Int) := iz_add o 3
  have b4 : iz (o : Int) + (4 : Int32) = iz ((o + 4 : Nat) : Int) := iz_add o 4
  have j0 := ibr o (by omega)
  have j1 := ibr (o + 1) (by omega)
  have j2 := ibr (o + 2) (by omega)
  have j3 := ibr (o + 3) (by omega)
  have j4 := ibr (o + 4) (by omega)
  have t0 : (iz (o : Int)).toNatClampNeg = o := tnn _ _ rfl (by omega)
  have t1 : (iz ((o + 1 : Nat) : Int)).toNatClampNeg = o + 1 := tnn _ _ rfl (by omega)
  have t2 : (iz ((o + 2 : Nat) : Int)).toNatClampNeg = o + 2 := tnn _ _ rfl (by omega)
  have t3 : (iz ((o + 3 : Nat) : Int)).toNatClampNeg = o + 3 := tnn _ _ rfl (by omega)
  have t4 : (iz ((o + 4 : Nat) : Int)).toNatClampNeg = o + 4 := tnn _ _ rfl (by omega)
  have h83 : ∀ (d : DY) (y : Int32), ∃ e : DY, F_X10_passDoor_83 Z0.1 N 510 v (iz (o : Int)) 531 (iz ((o + 1 : Nat) : Int)) y d = some e ∧ (gi e 531 o = v ∧ gi e 531 (o + 1) = y ∧ gi e 531 (o + 2) = mxI (gi d 531 (o + 2)) y ∧ gi e 531 (o + 3) = gi d 531 (o + 3) ∧ gi e 531 (o + 4) = gi d 531 (o + 4) + 1) ∧ (∀ x k : Nat, ¬ (x = 531 ∧ o ≤ k ∧ k < o + 5) → gi e x k = gi d x k) ∧ ∀ x k : Nat, gl e x k = gl d x k := fun d y => by
    have h134 : ∀ z : Int32, F_X10_passDoor_134 Z0.1 N 510 v (iz (o : Int)) 531 (iz ((o + 2 : Nat) : Int)) z (si d 531 (o + 1) y) = some (si (si (si (si d 531 (o + 1) y) 531 (o + 2) z) 531 o v) 531 (o + 4) (gi d 531 (o + 4) + 1)) := fun z => by
      have e4 : gi (si (si (si d 531 (o + 1) y) 531 (o + 2) z) 531 o v) 531 (o + 4) = gi d 531 (o + 4) := by rw [gi_si_if, if_neg (by omega), gi_si_if, if_neg (by omega), gi_si_if, if_neg (by omega)]
      rw [F_X10_passDoor_134_s, if_pos j2, bd_eq, if_pos j0, bd_eq, b4, if_pos j4, if_pos j4, bd_eq, r_510_39, t2, t0, t4, e4]
    have e1 : gi (si d 531 (o + 1) y) 531 (o + 1) = y := by rw [gi_si_if, if_pos ⟨rfl, rfl⟩]
    have e2 : gi (si d 531 (o + 1) y) 531 (o + 2) = gi d 531 (o + 2) := by rw [gi_si_if, if_neg (by omega)]
    have F := F_X10_passDoor_83_s Z0.1 N 510 v (iz (o : Int)) 531 (iz ((o + 1 : Nat) : Int)) y d
    rw [if_pos j1, bd_eq, b1, if_pos j1, b2, if_pos j2, if_pos j2, if_pos j1, r_510_39, t1, t2, e1, e2, h134, h134] at F
    refine ⟨si (si (si (si d 531 (o + 1) y) 531 (o + 2) (mxI (gi d 531 (o + 2)) y)) 531 o v) 531 (o + 4) (gi d 531 (o + 4) + 1), ?_, ⟨?_, ?_, ?_, ?_, ?_⟩, fun x k h => ?_, fun _ _ => rfl⟩
    · rw [F]
      unfold mxI
      by_cases q : gi d 531 (o + 2) < y
      · rw [if_neg (Int32.not_le.mpr q), if_pos q]
      · rw [if_pos (Int32.not_lt.mp q), if_neg q]
    · rw [gi_si_if, if_neg (by omega), gi_si_if, if_pos ⟨rfl, rfl⟩]
    · rw [gi_si_if, if_neg (by omega), gi_si_if, if_neg (by omega), gi_si_if, if_neg (by omega), gi_si_if, if_pos ⟨rfl, rfl⟩]
    · rw [gi_si_if, if_neg (by omega), gi_si_if, if_neg (by omega), gi_si_if, if_pos ⟨rfl, rfl⟩]
    · rw [gi_si_if, if_neg (by omega), gi_si_if, if_neg (by omega), gi_si_if, if_neg (by omega), gi_si_if, if_neg (by omega)]
    · rw [gi_si_if, if_pos ⟨rfl, rfl⟩]
    · rw [gi_si_if, if_neg (by omega), gi_si_if, if_neg (by omega), gi_si_if, if_neg (by omega), gi_si_if, if_neg (by omega)]
  have F := F_X10_passDoor_s Z0.1 N 510 (iz (r : Int)) (iz (x : Int)) v m
  rw [m0, if_pos j0, r_510_39, t0, F_X10_passDoor_31_s, F_X10_passDoor_31_s, b3, if_pos j3, if_neg (show ¬ (1 : Int32) = 0 from by decide), if_pos j3, if_pos (show (0 : Int32) = 0 from rfl), r_510_39, t3, F_X10_passDoor_53_s, F_X10_passDoor_53_s, if_pos j3, bd_eq, if_pos j3, bd_eq, if_neg (show ¬ (1 : Int32) = 0 from by decide), if_pos (show (0 : Int32) = 0 from rfl), b1, if_pos j1, r_510_39, t3, t1] at F
  have z0 : gi m 531 (o + 3) + 0 = gi m 531 (o + 3) := Int32.add_zero _
  rw [z0] at F
  by_cases q : gi m 531 o = v
  · rw [if_pos q] at F
    rw [if_pos q, if_pos q]
    obtain ⟨e, u1, ⟨y0, y1, y2, y3, y4⟩, u3, u4⟩ := h83 (si m 531 (o + 3) (gi m 531 (o + 3))) (gi (si m 531 (o + 3) (gi m 531 (o + 3))) 531 (o + 1) + 1)
    have e1 : gi (si m 531 (o + 3) (gi m 531 (o + 3))) 531 (o + 1) = gi m 531 (o + 1) := by rw [gi_si_if, if_neg (by omega)]
    rw [e1] at y1 y2
    refine ⟨e, F.trans u1, ⟨y0, y1, ?_, ?_, ?_⟩, fun y k h => ?_, fun y k => u4 y k⟩
    · rw [y2, gi_si_if, if_neg (by omega)]
    · rw [y3, gi_si_if, if_pos ⟨rfl, rfl⟩]
    · rw [y4, gi_si_if, if_neg (by omega)]
    · rw [u3 y k h, gi_si_if, if_neg (by omega)]
  · rw [if_neg q] at F
    rw [if_neg q, if_neg q]
    obtain ⟨e, u1, ⟨y0, y1, y2, y3, y4⟩, u3, u4⟩ := h83 (si m 531 (o + 3) (gi m 531 (o + 3) + 1)) 1
    refine ⟨e, F.trans u1, ⟨y0, y1.trans rfl, ?_, ?_, ?_⟩, fun y k h => ?_, fun y k => u4 y k⟩
    · rw [y2, gi_si_if, if_neg (by omega)]; rfl
    · rw [y3, gi_si_if, if_pos ⟨rfl, rfl⟩]
    · rw [y4, gi_si_if, if_neg (by omega)]
    · rw [u3 y k h, gi_si_if, if_neg (by omega)]
theorem doors_both {g l w : Nat} (N r x : Nat) (c m : DY) (v : Int32) (hG : CVg g l w) (r14 : r < 14) (hx : x < 15) (h : DRS c m w r) : ∃ c' m' : DY, F_X8_passDoor Z0.1 N w (iz x) v c = some c' ∧ F_X10_passDoor Z0.1 N 510 (iz r) (iz x) v m = some m' ∧ DRS c' m' w r ∧ (∀ y k : Nat, y ≠ w + 11 → gi c' y k = gi c y k) ∧ (∀ y k : Nat, gl c' y k = gl c y k) ∧ (∀ y k : Nat, ¬ (y = 531 ∧ 720 * r + 640 ≤ k ∧ k < 720 * r + 720) → gi m' y k = gi m y k) ∧ ∀ y k : Nat, gl m' y k = gl m y k := by
  obtain ⟨c', F1, ⟨a0, a1, a2, a3, a4⟩, a5, a6⟩ := c_door N x c v hG hx
  obtain ⟨m', F2, ⟨b0, b1, b2, b3, b4⟩, b5, b6⟩ := m_door N r x m v r14 hx
  obtain ⟨h0, h1, h2, h3, h4⟩ := h x hx
  refine ⟨c', m', F1, F2, fun y hy => ?_, fun y k z => a5 y k (by omega), a6, fun y k z => b5 y k (by omega), b6⟩
  by_cases q : y = x
  · rw [q, a0, a1, a2, a3, a4, b0, b1, b2, b3, b4, h0, h1, h2, h3, h4]
    exact ⟨rfl, rfl, rfl, rfl, rfl⟩
  · obtain ⟨k0, k1, k2, k3, k4⟩ := h y hy
    rw [a5 _ _ (by omega), a5 _ _ (by omega), a5 _ _ (by omega), a5 _ _ (by omega), a5 _ _ (by omega), b5 _ _ (by omega), b5 _ _ (by omega), b5 _ _ (by omega), b5 _ _ (by omega), b5 _ _ (by omega)]
    exact ⟨k0, k1, k2, k3, k4⟩
