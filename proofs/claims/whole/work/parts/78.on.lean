/-! on -/
theorem c_inside (N : Nat) (d : DY) (g L W : Nat) (X Y : Int) (L16 : L ≤ 16) (W6 : W ≤ 6) (g0 : gi d g 0 = iz L) (g1 : gi d g 1 = iz W) (x1 : -2147483648 ≤ X) (x2 : X < 2147483648) (y1 : -2147483648 ≤ Y) (y2 : Y < 2147483648) : F_X4_isInside Z0.1 N g (iz X) (iz Y) d = some (if 0 ≤ X ∧ X < L ∧ 0 ≤ Y ∧ Y < W then 1 else 0, d) := by
  rw [F_X4_isInside_s, g0, g1]
  by_cases q1 : X < 0
  · rw [if_pos (iz_lt0 (by omega)), if_neg (by omega)]
  · rw [if_neg (iz_nlt0 (by omega))]
    by_cases q2 : (L : Int) ≤ X
    · rw [if_pos (iz_lei (by omega)), if_neg (by omega)]
    · rw [if_neg (iz_nle (by omega))]
      by_cases q3 : Y < 0
      · rw [if_pos (iz_lt0 (by omega)), if_neg (by omega)]
      · rw [if_neg (iz_nlt0 (by omega))]
        by_cases q4 : (W : Int) ≤ Y
        · rw [if_pos (iz_lei (by omega)), if_neg (by omega)]
        · rw [if_neg (iz_nle (by omega)), if_pos (by omega)]
theorem c_wallG (N : Nat) (d : DY) (g L W : Nat) (X Y : Int) (hg : g ∈ PB) (L16 : L ≤ 16) (W6 : W ≤ 6) (g0 : gi d g 0 = iz L) (g1 : gi d g 1 = iz W) (hw : ∀ i : Nat, i < 96 → gi d (g + 1) i = 0 ∨ gi d (g + 1) i = 1) (x1 : -2147483648 ≤ X) (x2 : X < 2147483648) (y1 : -2147483648 ≤ Y) (y2 : Y < 2147483648) : (¬ inS L W X Y → F_X4_isWall Z0.1 N g (iz X) (iz Y) d = some (0, d)) ∧ (inS L W X Y → F_X4_isWall Z0.1 N g (iz X) (iz Y) d = some (gi d (g + 1) (6 * X + Y).toNat, d)) := by
  have hI := c_inside N d g L W X Y L16 W6 g0 g1 x1 x2 y1 y2
  have F := F_X4_isWall_s Z0.1 N g (iz X) (iz Y) d
  rw [hI, sb_eq] at F
  unfold inS
  refine ⟨fun h => ?_, fun h => ?_⟩
  · rw [if_neg h, if_pos rfl] at F
    exact F
  · have m : iz X * (6 : Int32) + iz Y = iz (6 * X + Y) := by
      rw [l_6, iz_mul, iz_add]; exact congrArg iz (by omega)
    have e4 : gr Z0.1 g 4 = g + 1 := (pb_of g hg).1
    rw [if_pos h, if_neg (by decide : ¬ (1 : Int32) = 0), m, if_pos (iz_ib (by omega)), e4, iz_tn (by omega) (by omega)] at F
    rw [F]
    clear e4
    rcases hw (6 * X + Y).toNat (by omega) with z | z
    · rw [z, if_pos (by decide)]
    · rw [z, if_neg (by decide)]
/-- v is the first of the n who stands on this square, or -1 -/
def FIR (px py : Nat → Int) (n : Nat) (X Y v : Int) : Prop := (v = -1 ∧ ∀ i : Nat, i < n → ¬ (px i = X ∧ py i = Y ∧ X ≠ -1)) ∨ ∃ i : Nat, i < n ∧ v = i ∧ px i = X ∧ py i = Y ∧ X ≠ -1 ∧ ∀ j : Nat, j < i → ¬ (px j = X ∧ py j = Y ∧ X ≠ -1)
theorem c_who (N : Nat) (d : DY) (g l w n : Nat) (px py : Nat → Int) (X Y : Int) (hG : CVg g l w) (n12 : n ≤ 12) (g3 : gi d g 3 = iz n) (hp : ∀ i : Nat, i < n → gi d (w + 1) i = iz (px i) ∧ gi d (w + 2) i = iz (py i) ∧ -1 ≤ px i ∧ px i ≤ 20 ∧ -1 ≤ py i ∧ py i ≤ 20) (x1 : -2147483648 ≤ X) (x2 : X < 2147483648) (y1 : -2147483648 ≤ Y) (y2 : Y < 2147483648) : ∀ r k o : Nat, o + r = n → r < k → (∀ j : Nat, j < o → ¬ (px j = X ∧ py j = Y ∧ X ≠ -1)) → ∃ v : Int, F_X8_whoIsOn_2 Z0.1 N k w (iz X) (iz Y) (iz o) d = some (iz v, d) ∧ FIR px py n X Y v := by
  intro r
  induction r with
  | zero =>
    intro k o ho hk hA
    obtain ⟨k, rfl⟩ : ∃ j, k = j + 1 := ⟨k - 1, by omega⟩
    refine ⟨-1, ?_, Or.inl ⟨rfl, fun i hi => hA i (by omega)⟩⟩
    rw [F_X8_whoIsOn_2_s, cv_r0 hG, g3, if_pos (show iz (n : Int) ≤ iz (o : Int) from iz_lei (by omega))]
    rfl
  | succ r ih =>
    intro k o ho hk hA
    obtain ⟨k, rfl⟩ : ∃ j, k = j + 1 := ⟨k - 1, by omega⟩
    obtain ⟨p1, p2, p3⟩ := hp o (by omega)
    have io : ib (iz (o : Int)) 48 := iz_ib (by omega)
    have skip : ¬ (px o = X ∧ py o = Y ∧ X ≠ -1) → ∃ v : Int, F_X8_whoIsOn_2 Z0.1 N k w (iz X) (iz Y) (iz ((o + 1 : Nat) : Int)) d = some (iz v, d) ∧ FIR px py n X Y v := fun z => ih k (o + 1) (by omega) (by omega) (fun j hj => by
      rcases Nat.lt_or_ge j o with c | c
      · exact hA j c
      · rw [show j = o by omega]; exact z)
    rw [F_X8_whoIsOn_2_s, cv_r0 hG, g3, if_neg (show ¬ iz (n : Int) ≤ iz (o : Int) from iz_nle (by omega)), if_pos io, if_pos io, cv_w1 hG, cv_w2 hG, tnn _ o rfl (by omega), p1, p2, show iz (o : Int) + (1 : Int32) = iz ((o + 1 : Nat) : Int) from iz_add o 1]
    by_cases q1 : px o = X
    · rw [if_pos (by rw [q1])]
      by_cases q2 : py o = Y
      · rw [if_pos (by rw [q2])]
        by_cases q3 : X = -1
        · rw [if_pos (show iz X = -1 from by rw [q3]; rfl)]
          exact skip (fun z => z.2.2 q3)
        · rw [if_neg (show ¬ iz X = -1 from iz_nei (b := -1) (by omega))]
          exact ⟨o, rfl, Or.inr ⟨o, by omega, rfl, q1, q2, q3, hA⟩⟩
      · rw [if_neg (show ¬ iz (py o) = iz Y from iz_nei (by omega))]
        exact skip (fun z => q2 z.2.1)
    · rw [if_neg (show ¬ iz (px o) = iz X from iz_nei (by omega))]
      exact skip (fun z => q1 z.1)
theorem m_on42 (N : Nat) (d0 d : DY) (w g L W n : Nat) (X Y : Int) (hv : MV d0 g w 0 id L W n n) (hk : ∀ k : Nat, gi d 531 k = gi d0 531 k) (hX : 0 ≤ X ∧ X ≤ 20) (hY : 0 ≤ Y ∧ Y ≤ 20) (v : Int) (hF : FIR (cx d0 w 0) (cy d0 w 0) n X Y v) : ∀ r k o : Nat, o + r = n → r < k → (∀ j : Nat, j < o → ¬ (cx d0 w 0 j = X ∧ cy d0 w 0 j = Y ∧ X ≠ -1)) → F_X10_on_42 Z0.1 N k 510 (iz X) (iz Y) (iz o) d = some (iz v, d) := by
  obtain ⟨⟨r14, L16, W6, n12, M12⟩, ⟨e0, e1, e3⟩, _, _, _, hpos, hwk⟩ := hv
  have e3' : gi d 531 2 = iz n := by rw [hk]; exact e3
  intro r
  induction r with
  | zero =>
    intro k o ho hk' hA
    obtain ⟨k, rfl⟩ : ∃ j, k = j + 1 := ⟨k - 1, by omega⟩
    have hv1 : v = -1 := by
      rcases hF with z | ⟨i, hi, _, z1, z2, z3, _⟩
      · exact z.1
      · exact absurd ⟨z1, z2, z3⟩ (hA i (by omega))
    rw [F_X10_on_42_s, if_pos (by decide), r_510_39, show (2 : Int32).toNatClampNeg = 2 from rfl, e3', if_pos (show iz (n : Int) ≤ iz (o : Int) from iz_lei (by omega)), hv1]
    rfl
  | succ r ih =>
    intro k o ho hk' hA
    obtain ⟨k, rfl⟩ : ∃ j, k = j + 1 := ⟨k - 1, by omega⟩
    obtain ⟨p1, p2, p3⟩ := hpos 0 o (by omega) (by omega)
    have p1' : gi d 531 (720 * 0 + 16 + 20 * o) = iz (cx d0 w 0 o) := by rw [hk]; exact p1
    have p2' : gi d 531 (720 * 0 + 16 + 20 * o + 4) = iz (cy d0 w 0 o) := by rw [hk]; exact p2
    have a4 : iz ((720 * 0 + 16 + 20 * o : Nat) : Int) + (4 : Int32) = iz ((720 * 0 + 16 + 20 * o + 4 : Nat) : Int) := iz_add _ 4
    have a1 : iz (o : Int) + (1 : Int32) = iz ((o + 1 : Nat) : Int) := iz_add o 1
    unfold inS at p3
    have skip : ¬ (cx d0 w 0 o = X ∧ cy d0 w 0 o = Y ∧ X ≠ -1) → F_X10_on_42 Z0.1 N k 510 (iz X) (iz Y) (iz ((o + 1 : Nat) : Int)) d = some (iz v, d) := fun z => ih k (o + 1) (by omega) (by omega) (fun j hj => by
      rcases Nat.lt_or_ge j o with c | c
      · exact hA j c
      · rw [show j = o by omega]; exact z)
    rw [F_X10_on_42_s, if_pos (by decide), r_510_39, show (2 : Int32).toNatClampNeg = 2 from rfl, e3', if_neg (show ¬ iz (n : Int) ≤ iz (o : Int) from iz_nle (by omega)), a1]
    refine bnd (m_at Z0.1 N 0 o d) ?_
    show (if ib (iz ((720 * 0 + 16 + 20 * o : Nat) : Int)) 10080 then (if gi d 531 (iz ((720 * 0 + 16 + 20 * o : Nat) : Int)).toNatClampNeg = iz X then _ else _) else none) = _
    rw [if_pos (ibr _ (by omega)), tnn _ (720 * 0 + 16 + 20 * o) rfl (by omega), p1']
    by_cases q1 : cx d0 w 0 o = X
    · rw [if_pos (by rw [q1])]
      refine bnd (m_at Z0.1 N 0 o d) ?_
      show (if ib (iz ((720 * 0 + 16 + 20 * o : Nat) : Int) + (4 : Int32)) 10080 then (if gi d 531 (iz ((720 * 0 + 16 + 20 * o : Nat) : Int) + (4 : Int32)).toNatClampNeg = iz Y then _ else _) else none) = _
      rw [a4, if_pos (ibr _ (by omega)), tnn _ (720 * 0 + 16 + 20 * o + 4) rfl (by omega), p2']
      by_cases q2 : cy d0 w 0 o = Y
      · rw [if_pos (by rw [q2])]
        have hvo : v = o := by
          rcases hF with ⟨_, z⟩ | ⟨i, hi, z0, z1, z2, z3, z4⟩
          · exact absurd ⟨q1, q2, by omega⟩ (z o (by omega))
          · rcases Nat.lt_trichotomy i o with c | c | c
            · exact absurd ⟨z1, z2, z3⟩ (hA i c)
            · rw [z0, c]
            · exact absurd ⟨q1, q2, by omega⟩ (z4 o c)
        rw [hvo]
      · rw [if_neg (show ¬ iz (cy d0 w 0 o) = iz Y from iz_nei (by omega))]
        exact skip (fun z => q2 z.2.1)
    · rw [if_neg (show ¬ iz (cx d0 w 0 o) = iz X from iz_nei (by omega))]
      exact skip (fun z => q1 z.1)
theorem eq_on (N : Nat) (a b : Int32) (dy : DY) (hN : 20 ≤ N) (h : Inv dy) : ∃ r dy1 dy2, F_X9_on Z0.1 N 1 a b dy = some (r, dy1) ∧ F_X10_on Z0.1 N 510 a b dy1 = some (r, dy2) ∧ Inv dy2 := by
  obtain ⟨X, rfl, x1, x2⟩ := iz_ex a
  obtain ⟨Y, rfl, y1, y2⟩ := iz_ex b
  have n1 : ¬ (1 : Int32) = 0 := by decide
  have F := F_X9_on_s Z0.1 N 1 (iz X) (iz Y) dy
  rw [r_1_0, tb2.2.2, tb2.1] at F
  have hM := F_X10_on_s Z0.1 N 510 (iz X) (iz Y) dy
  rw [bd_eq, if_pos (by decide), r_510_39, show (10 : Int32).toNatClampNeg = 10 from rfl, s510] at hM
  rcases runOf h with ⟨w0, w1⟩ | ⟨w0, w1, L, W, n, hR⟩
  · rw [w0, if_pos (by decide)] at F
    rw [w1, if_pos rfl] at hM
    exact ⟨-1, dy, si dy 510 0 0, F, hM, inv_0 h⟩
  · rw [w0, if_neg (by decide)] at F
    rw [w1, if_neg (by decide)] at hM
    have hv := RRx_CV cvg_run hR
    have hV := RRx_MV cvg_run (by omega) hR
    obtain ⟨_, ⟨L16, W6, n12⟩, ⟨e0, e1, e3⟩, hwall, hpos, _⟩ := id hv
    obtain ⟨wn, wi⟩ := c_wallG N dy 6 L W X Y (by decide) L16 W6 e0 e1 hwall x1 x2 y1 y2
    obtain ⟨v, v1, v2⟩ := c_who N dy 6 16 23 n (cx dy 23 0) (cy dy 23 0) X Y cvg_run n12 e3 (fun i hi => by
      obtain ⟨p1, p2, p3⟩ := hpos 0 i (by omega) hi
      rw [Nat.mul_zero, Nat.zero_add] at p1 p2
      unfold inS at p3
      exact ⟨p1, p2, by omega, by omega, by omega, by omega⟩) x1 x2 y1 y2 n N 0 (by omega) (by omega) (fun j hj => absurd hj (by omega))
    have who : F_X8_whoIsOn Z0.1 N 23 (iz X) (iz Y) dy = some (iz v, dy) := by rw [F_X8_whoIsOn_s]; exact v1
    have mI : F_X10_isInside Z0.1 N 510 0 (iz X) (iz Y) (si dy 510 0 0) = some (if 0 ≤ X ∧ X < L ∧ 0 ≤ Y ∧ Y < W then 1 else 0, si dy 510 0 0) := by
      have g0 : gi (si dy 510 0 0) 531 0 = iz L := by rw [s510]; exact hV.2.1.1
      have g1 : gi (si dy 510 0 0) 531 1 = iz W := by rw [s510]; exact hV.2.1.2.1
      have s1 : iz (L : Int) - (1 : Int32) = iz ((L : Int) - 1) := iz_sub _ 1
      have s2 : iz (W : Int) - (1 : Int32) = iz ((W : Int) - 1) := iz_sub _ 1
      rw [F_X10_isInside_s, if_pos (by decide), r_510_39, show ((720 : Int32) * 0 + 0).toNatClampNeg = 0 from rfl, g0, s1, m_in0 _ _ X _ _ x1 x2 (by omega) (by omega), sb_eq]
      by_cases q1 : 0 ≤ X ∧ X ≤ (L : Int) - 1
      · rw [if_pos q1, if_neg n1, if_pos (by decide), show ((720 : Int32) * 0 + 1).toNatClampNeg = 1 from rfl, g1, s2, m_in0 _ _ Y _ _ y1 y2 (by omega) (by omega), sb_eq]
        by_cases q2 : 0 ≤ Y ∧ Y ≤ (W : Int) - 1
        · rw [if_pos q2, if_neg n1, if_pos (by omega)]
        · rw [if_neg q2, if_pos rfl, if_neg (by omega)]
      · rw [if_neg q1, if_pos rfl, if_neg (by omega)]
    rw [mI, sb_eq] at hM
    by_cases c : inS L W X Y
    · have c' := c
      unfold inS at c'
      have hk0 : lkM dy (si dy 510 0 0) (si dy 510 0 0) := lkM_start (w := 23) (by omega) (lkC_start 23 dy)
      obtain ⟨m1, m0⟩ := m_wall N dy (si dy 510 0 0) 6 23 0 id L W n n X Y hV hk0 c
      rw [wi c, sb_eq] at F
      rw [if_pos c', if_neg n1] at hM
      by_cases q : wlP dy 6 X Y
      · have q' : gi dy (6 + 1) (6 * X + Y).toNat = 1 := q
        have m1' : F_X10_isWall Z0.1 N 510 0 (iz X) (iz Y) (si dy 510 0 0) = some (1, si dy 510 0 0) := m1 q
        rw [q', if_neg n1] at F
        rw [m1', sb_eq, if_neg n1] at hM
        exact ⟨_, dy, _, F, hM, inv_0 h⟩
      · have q' : gi dy (6 + 1) (6 * X + Y).toNat = 0 := by
          rcases hwall (6 * X + Y).toNat (by omega) with z | z
          · exact z
          · exact absurd z q
        have m0' : F_X10_isWall Z0.1 N 510 0 (iz X) (iz Y) (si dy 510 0 0) = some (0, si dy 510 0 0) := m0 q
        rw [q', if_pos rfl, who, sb_eq] at F
        rw [m0', sb_eq, if_pos rfl] at hM
        have := m_on42 N dy (si dy 510 0 0) 23 6 L W n X Y hV (s510 dy) (by omega) (by omega) v v2 n N 0 (by omega) (by omega) (fun j hj => absurd hj (by omega))
        exact ⟨iz v, dy, _, F, hM.trans this, inv_0 h⟩
    · have c' : ¬ (0 ≤ X ∧ X < L ∧ 0 ≤ Y ∧ Y < W) := c
      rw [wn c, sb_eq, if_pos rfl, who, sb_eq] at F
      rw [if_neg c', if_pos rfl] at hM
      have hv1 : v = -1 := by
        rcases v2 with z | ⟨i, hi, _, z1, z2, z3, _⟩
        · exact z.1
        · exfalso
          obtain ⟨_, _, p3⟩ := hpos 0 i (by omega) hi
          rcases p3 with z | z
          · exact z3 (by rw [← z1]; exact z.1)
          · rw [z1, z2] at z
            exact c z
      rw [hv1] at F
      exact ⟨-1, dy, _, F, hM, inv_0 h⟩
