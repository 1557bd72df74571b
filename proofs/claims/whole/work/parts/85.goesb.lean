/-! one who goes: what comes of it, the reference's side and the class's -/
theorem m_insG (N r L W : Nat) (m : DY) (X Y : Int) (r14 : r < 14) (L16 : L ≤ 16) (W6 : W ≤ 6) (g0 : gi m 531 (720 * r) = iz L) (g1 : gi m 531 (720 * r + 1) = iz W) (bX : -100 ≤ X ∧ X ≤ 100) (bY : -100 ≤ Y ∧ Y ≤ 100) : F_X10_isInside Z0.1 N 510 (iz r) (iz X) (iz Y) m = some (if 0 ≤ X ∧ X < L ∧ 0 ≤ Y ∧ Y < W then 1 else 0, m) := by
  have n1 : ¬ (1 : Int32) = 0 := by decide
  have s1 : iz (L : Int) - (1 : Int32) = iz ((L : Int) - 1) := iz_sub _ 1
  have s2 : iz (W : Int) - (1 : Int32) = iz ((W : Int) - 1) := iz_sub _ 1
  rw [F_X10_isInside_s, m_row0, m_row1, if_pos (ibr _ (by omega)), r_510_39, tnn _ (720 * r) rfl (by omega), g0, s1, m_in0 _ _ X _ _ (by omega) (by omega) (by omega) (by omega), sb_eq]
  by_cases q1 : 0 ≤ X ∧ X ≤ (L : Int) - 1
  · rw [if_pos q1, if_neg n1, if_pos (ibr _ (by omega)), tnn _ (720 * r + 1) rfl (by omega), g1, s2, m_in0 _ _ Y _ _ (by omega) (by omega) (by omega) (by omega), sb_eq]
    by_cases q2 : 0 ≤ Y ∧ Y ≤ (W : Int) - 1
    · rw [if_pos q2, if_neg n1, if_pos (by omega)]
    · rw [if_neg q2, if_pos rfl, if_neg (by omega)]
  · rw [if_neg q1, if_pos rfl, if_neg (by omega)]
theorem m_walG (N r : Nat) (m : DY) (X Y : Int) (r14 : r < 14) (hX : 0 ≤ X ∧ X < 16) (hY : 0 ≤ Y ∧ Y < 6) : F_X10_isWall Z0.1 N 510 (iz r) (iz X) (iz Y) m = some (if gi m 531 (720 * r + 256 + (6 * X + Y).toNat) = 1 then 1 else 0, m) := by
  obtain ⟨x, rfl⟩ : ∃ x : Nat, X = x := ⟨X.toNat, by omega⟩
  obtain ⟨y, rfl⟩ : ∃ y : Nat, Y = y := ⟨Y.toNat, by omega⟩
  have m0 : (720 : Int32) * iz (r : Int) + (256 : Int32) + (6 : Int32) * iz (x : Int) + iz (y : Int) = iz ((720 * r + 256 + (6 * x + y) : Nat) : Int) := by
    rw [show (720 : Int32) = iz 720 from rfl, show (256 : Int32) = iz 256 from rfl, l_6, iz_mul, iz_mul, iz_add, iz_add, iz_add]
    exact congrArg iz (by omega)
  rw [F_X10_isWall_s, m0, if_pos (ibr _ (by omega)), r_510_39, tnn _ (720 * r + 256 + (6 * x + y)) rfl (by omega), show (6 * (x : Int) + y).toNat = 6 * x + y by omega]
  by_cases q : gi m 531 (720 * r + 256 + (6 * x + y)) = 1
  · rw [if_pos q, if_pos q]
  · rw [if_neg q, if_neg q]
/-- after a way out: who came when, how many -/
def outD (m : DY) (r wi o : Nat) : DY := si (si (si (si m 531 (o + 14) (gi m 531 (720 * r + 3))) 531 (720 * r + 6) (gi m 531 (720 * r + 6) + 1)) 536 wi (-1)) 537 wi (-1)
theorem m_g246 (N r wi o : Nat) (m : DY) (X Y : Int32) (r14 : r < 14) (hwi : wi < 12) (ho : o + 20 < 10080) (ho2 : 720 * r + 7 < o) : F_X10_goes_246 Z0.1 N 510 (iz r) (iz wi) (iz o) X Y 0 m = some (outD m r wi o) ∧ F_X10_goes_246 Z0.1 N 510 (iz r) (iz wi) (iz o) X Y 1 m = some (si (si m 536 wi X) 537 wi Y) := by
  have b14 : iz (o : Int) + (14 : Int32) = iz ((o + 14 : Nat) : Int) := iz_add o 14
  have r6 : (720 : Int32) * iz (r : Int) + (6 : Int32) = iz ((720 * r + 6 : Nat) : Int) := m_row r 6
  have j14 := ibr (o + 14) (by omega)
  have j3 := ibr (720 * r + 3) (by omega)
  have j6 := ibr (720 * r + 6) (by omega)
  have e6 : gi (si m 531 (o + 14) (gi m 531 (720 * r + 3))) 531 (720 * r + 6) = gi m 531 (720 * r + 6) := by rw [gi_si_if, if_neg (by omega)]
  refine ⟨?_, ?_⟩
  · rw [F_X10_goes_246_s, if_pos rfl, m_row3, if_pos j3, b14, if_pos j14, bd_eq, r6, if_pos j6, if_pos j6, bd_eq, r_510_39, tnn _ (o + 14) rfl (by omega), tnn _ (720 * r + 3) rfl (by omega), tnn _ (720 * r + 6) rfl (by omega), e6, m_g289 N wi _ X Y 0 hwi, if_pos rfl]
    rfl
  · rw [F_X10_goes_246_s, if_neg (by decide : ¬ (1 : Int32) = 0), m_g289 N wi _ X Y 1 hwi, if_neg (by decide : ¬ (1 : Int32) = 0)]
/-- the class's half of what stays: the square that is aimed at -/
theorem c_g130 {g l w : Nat} (N i n am : Nat) (c : DY) (wy px py : Int) (ac hd : Int32) (hG : CVg g l w) (n12 : n ≤ 12) (hi : i < n) (g3 : gi c g 3 = iz n) (ham : am ≤ 2) (hwy : wy = 1 ∨ wy = -1) (h4 : gi c (g + 4) i = iz wy) (h8 : gi c (w + 8) i = ac) (hh : gi c (g + 8) i = hd) (n5 : ac ≠ 5) (haim : (if ac = 3 then hd else ac) = iz am) (h1 : gi c (w + 1) i = iz px) (h2 : gi c (w + 2) i = iz py) (hp : 0 ≤ px ∧ px ≤ 20) : F_X8_goes Z0.1 N w (iz i) c = F_X8_goes_130 Z0.1 N w (iz i) (iz wy) (if am = 0 then 1 else 0) (iz (px + dXI am wy)) (iz (py + dYI am wy)) c := by
  have ii : ib (iz (i : Int)) 12 := iz_ib (by omega)
  have i48 : ib (iz (i : Int)) 48 := iz_ib (by omega)
  have tt : (iz (i : Int)).toNatClampNeg = i := tnn _ _ rfl (by omega)
  have th : F_X8_isThere Z0.1 N w (iz i) c = some (1, c) := by
    rw [F_X8_isThere_s, cv_r0 hG, c_hasG _ _ g i n c (by omega) (by omega) g3 n12, sb_eq, if_pos (show 0 ≤ (i : Int) ∧ (i : Int) < n by omega), if_neg (by decide : ¬ (1 : Int32) = 0), if_pos i48, cv_w1 hG, tt, h1, if_neg (show ¬ iz px = -1 from iz_nei (b := -1) (by omega))]
  have h105 : ∀ (x4 x5 side : Int32), F_X8_goes_105 Z0.1 N w (iz i) (iz wy) x4 x5 side c = if x4 = 0 then F_X8_goes_130 Z0.1 N w (iz i) (iz wy) x4 x5 (iz py + side) c else F_X8_goes_130 Z0.1 N w (iz i) (iz wy) x4 x5 (iz py) c := fun x4 x5 side => by
    rw [F_X8_goes_105_s, if_pos i48, if_pos i48, cv_w2 hG, tt, h2]
  have h58 : F_X8_goes_58 Z0.1 N w (iz i) (iz wy) (iz am) c = F_X8_goes_130 Z0.1 N w (iz i) (iz wy) (if am = 0 then 1 else 0) (iz (px + dXI am wy)) (iz (py + dYI am wy)) c := by
    unfold dXI dYI
    have A : am = 0 ∨ am = 1 ∨ am = 2 := by omega
    rw [F_X8_goes_58_s]
    rcases A with rfl | rfl | rfl
    · rw [if_pos (by decide), F_X8_goes_68_s, if_neg (by decide : ¬ (1 : Int32) = 0), if_pos i48, F_X8_goes_92_s, if_neg (by decide), h105, if_neg (by decide : ¬ (1 : Int32) = 0), cv_w1 hG, tt, h1, iz_add, if_pos rfl, if_pos rfl, if_pos rfl, Int.add_zero]
    · rw [if_neg (by decide), F_X8_goes_68_s, if_pos rfl, if_pos i48, F_X8_goes_92_s, if_pos (by decide), h105, if_pos rfl, cv_w1 hG, tt, h1, iz_add, if_neg (by decide), if_neg (by decide), if_neg (by decide), if_pos rfl, Int.add_zero]
    · rw [if_neg (by decide), F_X8_goes_68_s, if_pos rfl, if_pos i48, F_X8_goes_92_s, if_neg (by decide), h105, if_pos rfl, cv_w1 hG, tt, h1, iz_neg, iz_add, if_neg (by decide), if_neg (by decide), if_neg (by decide), if_neg (by decide), Int.add_zero]
  rw [F_X8_goes_s]
  refine bnd th ?_
  show (if (1 : Int32) = 0 then _ else _) = _
  rw [if_neg (by decide : ¬ (1 : Int32) = 0), if_pos ii, cv_w8 hG, cv_r0 hG, cv_g4 hG, cv_g8 hG, tt]
  show (if gi c (w + 8) i = 5 then _ else if ib (iz (i : Int)) 12 then if ib (iz (i : Int)) 12 then (if gi c (w + 8) i = 3 then if ib (iz (i : Int)) 12 then F_X8_goes_58 Z0.1 N w (iz i) (gi c (g + 4) i) (gi c (g + 8) i) c else none else if ib (iz (i : Int)) 12 then F_X8_goes_58 Z0.1 N w (iz i) (gi c (g + 4) i) (gi c (w + 8) i) c else none) else none else none) = _
  rw [h8, if_neg n5, if_pos ii, if_pos ii, if_pos ii, if_pos ii, h4, hh]
  by_cases q : ac = 3
  · rw [if_pos q] at haim ⊢
    rw [haim]
    exact h58
  · rw [if_neg q] at haim ⊢
    rw [haim]
    exact h58
/-- arrived -/
def arrD (c : DY) (w i : Nat) : DY := si (si (si (si c (w + 1) i (-1)) (w + 2) i (-1)) (w + 3) i (gi c w 2)) w 5 (gi c w 5 + 1)
theorem c_out {g l w : Nat} (N i : Nat) (c : DY) (hG : CVg g l w) (hi : i < 12) : F_X8_arrive Z0.1 N w (iz i) c = some (arrD c w i) := by
  have ii : ib (iz (i : Int)) 12 := iz_ib (by omega)
  have i48 : ib (iz (i : Int)) 48 := iz_ib (by omega)
  have tt : (iz (i : Int)).toNatClampNeg = i := tnn _ _ rfl (by omega)
  have e2 : gi (si (si c (w + 1) i (-1)) (w + 2) i (-1)) w 2 = gi c w 2 := by rw [gi_si_if, if_neg (by omega), gi_si_if, if_neg (by omega)]
  have e5 : gi (si (si (si c (w + 1) i (-1)) (w + 2) i (-1)) (w + 3) i (gi c w 2)) w 5 = gi c w 5 := by rw [gi_si_if, if_neg (by omega), gi_si_if, if_neg (by omega), gi_si_if, if_neg (by omega)]
  rw [F_X8_arrive_s, if_pos i48, bd_eq, if_pos i48, bd_eq, if_pos ii, bd_eq, bd_eq, cv_w1 hG, cv_w2 hG, cv_w3 hG, tt, e2, e5]
  rfl
theorem c_201 {g l w : Nat} (N i : Nat) (c : DY) (hG : CVg g l w) (hi : i < 12) : F_X8_goes_201 Z0.1 N w (iz i) c = some (0, si c (w + 6) i (gi c (w + 6) i + 1)) := by
  have ii : ib (iz (i : Int)) 12 := iz_ib (by omega)
  rw [F_X8_goes_201_s, if_pos ii, if_pos ii, bd_eq, cv_w6 hG, tnn _ i rfl (by omega)]
theorem c_247 {g l w : Nat} (N i : Nat) (c : DY) (X Y : Int32) (hG : CVg g l w) (hi : i < 12) : F_X8_goes_247 Z0.1 N w (iz i) X Y c = some (1, si (si c (w + 1) i X) (w + 2) i Y) := by
  have i48 : ib (iz (i : Int)) 48 := iz_ib (by omega)
  rw [F_X8_goes_247_s, if_pos i48, bd_eq, if_pos i48, bd_eq, cv_w1 hG, cv_w2 hG, tnn _ i rfl (by omega)]
