/-! touch: the look of each side -/
def tch (d : DY) (w a b : Nat) : Int32 := if cx d w 0 a = -1 ∨ cx d w 0 b = -1 then 0 else if (cx d w 0 a - cx d w 0 b).natAbs + (cy d w 0 a - cy d w 0 b).natAbs = 1 then 1 else 0
theorem c_touches (N : Nat) (c : DY) (g l w L W n a b : Nat) (hv : CV c g l w L W n) (ha : a < n) (hb : b < n) : F_X8_touches Z0.1 N w (iz a) (iz b) c = some (tch c w a b, c) := by
  have n1 : ¬ (1 : Int32) = 0 := by decide
  obtain ⟨hG, ⟨L16, W6, n12⟩, _, _, hpos, _⟩ := id hv
  have ta := c_there N c g l w L W n (a : Int) hv (by omega) (by omega)
  have tb := c_there N c g l w L W n (b : Int) hv (by omega) (by omega)
  rw [Int.toNat_natCast] at ta tb
  rw [F_X8_touches_s]
  unfold tch
  by_cases qa : cx c w 0 a = -1
  · rw [if_pos (Or.inl qa)]
    exact bnd (ta.2 (fun z => z.2.2 qa)) (if_pos rfl)
  refine bnd (ta.1 ⟨by omega, by omega, qa⟩) ?_
  refine (if_neg n1).trans ?_
  by_cases qb : cx c w 0 b = -1
  · rw [if_pos (Or.inr qb)]
    exact bnd (tb.2 (fun z => z.2.2 qb)) (if_pos rfl)
  refine bnd (tb.1 ⟨by omega, by omega, qb⟩) ?_
  refine (if_neg n1).trans ?_
  rw [if_neg (show ¬ (cx c w 0 a = -1 ∨ cx c w 0 b = -1) from fun z => z.elim qa qb)]
  obtain ⟨p1, p2, p3⟩ := hpos 0 a (by omega) ha
  obtain ⟨r1, r2, r3⟩ := hpos 0 b (by omega) hb
  rw [Nat.mul_zero, Nat.zero_add] at p1 p2 r1 r2
  unfold inS at p3 r3
  have a48 : ib (iz (a : Int)) 48 := iz_ib (by omega)
  have b48 : ib (iz (b : Int)) 48 := iz_ib (by omega)
  rw [if_pos a48, if_pos b48, if_pos a48, if_pos b48, cv_w1 hG, cv_w2 hG, tnn _ a rfl (by omega), tnn _ b rfl (by omega)]
  show (if abI (gi c (w + 1) a - gi c (w + 1) b) + abI (gi c (w + 2) a - gi c (w + 2) b) = 1 then some ((1 : Int32), c) else some (0, c)) = _
  rw [p1, p2, r1, r2, iz_sub, iz_sub, abI_nat (by omega), abI_nat (by omega), iz_add]
  have l1 : (1 : Int32) = iz 1 := rfl
  by_cases z : (cx c w 0 a - cx c w 0 b).natAbs + (cy c w 0 a - cy c w 0 b).natAbs = 1
  · rw [if_pos z, if_pos (by rw [l1]; exact congrArg iz (by omega))]
  · rw [if_neg z, if_neg (by rw [l1]; exact iz_nei (by omega))]
theorem m_beside (N : Nat) (d m : DY) (g w L W n M a b : Nat) (hv : MV d g w 4 id L W n M) (hd : ∀ k : Nat, gi m 531 k = gi d 531 k) (ha : a < n) (hb : b < n) : F_X10_areBeside Z0.1 N 510 (iz a) (iz b) m = some (tch d w a b, m) := by
  obtain ⟨⟨_, L16, W6, n12, M12⟩, _, _, _, _, mpos, _⟩ := id hv
  obtain ⟨p1, p2, p3⟩ := mpos 0 a (by omega) ha
  obtain ⟨r1, r2, r3⟩ := mpos 0 b (by omega) hb
  rw [Nat.add_zero] at p1 p2 r1 r2
  rw [← hd] at p1 p2 r1 r2
  have p1 : gi m 531 (720 * 4 + 16 + 20 * a) = iz (cx d w 0 a) := p1
  have p2 : gi m 531 (720 * 4 + 16 + 20 * a + 4) = iz (cy d w 0 a) := p2
  have r1 : gi m 531 (720 * 4 + 16 + 20 * b) = iz (cx d w 0 b) := r1
  have r2 : gi m 531 (720 * 4 + 16 + 20 * b + 4) = iz (cy d w 0 b) := r2
  unfold inS at p3 r3
  have e4 : ∀ k : Nat, iz ((720 * 4 + 16 + 20 * k : Nat) : Int) + (4 : Int32) = iz ((720 * 4 + 16 + 20 * k + 4 : Nat) : Int) := fun k => iz_add _ 4
  have j0 : ∀ k : Nat, k < 12 → ib (iz ((720 * 4 + 16 + 20 * k : Nat) : Int)) 10080 := fun k _ => ibr _ (by omega)
  have j4 : ∀ k : Nat, k < 12 → ib (iz ((720 * 4 + 16 + 20 * k + 4 : Nat) : Int)) 10080 := fun k _ => ibr _ (by omega)
  have t0 : ∀ k : Nat, k < 12 → (iz ((720 * 4 + 16 + 20 * k : Nat) : Int)).toNatClampNeg = 720 * 4 + 16 + 20 * k := fun k _ => tnn _ _ rfl (by omega)
  have t4 : ∀ k : Nat, k < 12 → (iz ((720 * 4 + 16 + 20 * k + 4 : Nat) : Int)).toNatClampNeg = 720 * 4 + 16 + 20 * k + 4 := fun k _ => tnn _ _ rfl (by omega)
  have at4 : ∀ k : Nat, F_X10_at Z0.1 N (4 : Int32) (iz k) m = some (iz ((720 * 4 + 16 + 20 * k : Nat) : Int), m) := fun k => m_at _ _ 4 k m
  have a12 : a < 12 := by omega
  have b12 : b < 12 := by omega
  rw [F_X10_areBeside_s, at4, sb_eq, at4, sb_eq]
  rw [e4, e4, if_pos (j0 a a12), if_pos (j0 b b12), if_pos (j4 a a12), if_pos (j4 b b12), if_pos (j0 a a12), if_pos (j0 b b12), r_510_39, t0 a a12, t0 b b12, t4 a a12, t4 b b12, p1, p2, r1, r2]
  unfold tch
  by_cases qa : cx d w 0 a = -1
  · rw [if_pos (Or.inl qa), if_pos (show iz (cx d w 0 a) = -1 by rw [qa]; rfl)]
  rw [if_neg (show ¬ iz (cx d w 0 a) = -1 by rw [l_m1]; exact iz_nei (by omega))]
  by_cases qb : cx d w 0 b = -1
  · rw [if_pos (Or.inr qb), if_pos (show iz (cx d w 0 b) = -1 by rw [qb]; rfl)]
  rw [if_neg (show ¬ iz (cx d w 0 b) = -1 by rw [l_m1]; exact iz_nei (by omega)), if_neg (show ¬ (cx d w 0 a = -1 ∨ cx d w 0 b = -1) from fun z => z.elim qa qb)]
  rw [iz_sub, iz_sub, iz_mul, iz_mul, iz_add]
  have sq := sq_one (cx d w 0 a - cx d w 0 b) (cy d w 0 a - cy d w 0 b)
  have l1 : (1 : Int32) = iz 1 := rfl
  have bd1 : ∀ z : Int, -40 < z → z < 40 → 0 ≤ z * z ∧ z * z < 1600 := fun z h1 h2 => by
    have e : z * z = ((z.natAbs * z.natAbs : Nat) : Int) := (Int.natAbs_mul_self).symm
    have : z.natAbs * z.natAbs ≤ 39 * 39 := Nat.mul_le_mul (by omega) (by omega)
    rw [e]
    omega
  have b1 := bd1 (cx d w 0 a - cx d w 0 b) (by omega) (by omega)
  have b2 := bd1 (cy d w 0 a - cy d w 0 b) (by omega) (by omega)
  generalize (cx d w 0 a - cx d w 0 b) * (cx d w 0 a - cx d w 0 b) = u at *
  generalize (cy d w 0 a - cy d w 0 b) * (cy d w 0 a - cy d w 0 b) = v at *
  by_cases z : (cx d w 0 a - cx d w 0 b).natAbs + (cy d w 0 a - cy d w 0 b).natAbs = 1
  · rw [if_pos z, if_pos (show iz (u + v) = 1 by rw [sq.mpr z]; rfl)]
  · have hne : ¬ u + v = 1 := fun y => z (sq.mp y)
    rw [if_neg z, if_neg (show ¬ iz (u + v) = 1 by rw [l1]; exact iz_nei (by omega))]
