/-! fits: what both sides look at -/
theorem c_whoB (N n : Nat) (c : DY) (X Y : Int32) (n12 : n ≤ 12) (g3 : gi c 95 3 = iz n) : ∀ q w k : Nat, w + q = n → q < k → ∃ v : Int32, F_X8_whoIsOn_2 Z0.1 N k 112 X Y (iz w) c = some (v, c) ∧ (v = -1 ↔ ¬ ∃ i : Nat, w ≤ i ∧ i < n ∧ gi c 113 i = X ∧ gi c 114 i = Y ∧ X ≠ -1) := by
  intro q
  induction q with
  | zero =>
    intro w k hq hk
    obtain ⟨k, rfl⟩ : ∃ j, k = j + 1 := ⟨k - 1, by omega⟩
    obtain rfl : w = n := by omega
    refine ⟨-1, ?_, ⟨fun _ ⟨i, h1, h2, _⟩ => by omega, fun _ => rfl⟩⟩
    rw [F_X8_whoIsOn_2_s, cv_r0 cvg_try, g3, if_pos (Int32.le_refl _)]
  | succ q ih =>
    intro w k hq hk
    obtain ⟨k, rfl⟩ : ∃ j, k = j + 1 := ⟨k - 1, by omega⟩
    have io : ib (iz (w : Int)) 48 := iz_ib (by omega)
    obtain ⟨v, v1, v2⟩ := ih (w + 1) k (by omega) (by omega)
    have st : ∀ R, (if gi c 113 w = X then (if gi c 114 w = Y then (if X = -1 then F_X8_whoIsOn_2 Z0.1 N k 112 X Y (iz ((w + 1 : Nat) : Int)) c else some (iz (w : Int), c)) else F_X8_whoIsOn_2 Z0.1 N k 112 X Y (iz ((w + 1 : Nat) : Int)) c) else F_X8_whoIsOn_2 Z0.1 N k 112 X Y (iz ((w + 1 : Nat) : Int)) c) = R → F_X8_whoIsOn_2 Z0.1 N (k + 1) 112 X Y (iz w) c = R := fun R hR => by
      rw [F_X8_whoIsOn_2_s, cv_r0 cvg_try, g3, if_neg (show ¬ iz (n : Int) ≤ iz (w : Int) from iz_nle (by omega)), if_pos io, if_pos io, cv_w1 cvg_try, cv_w2 cvg_try, tnn _ w rfl (by omega), show iz (w : Int) + (1 : Int32) = iz ((w + 1 : Nat) : Int) from iz_add w 1]
      exact hR
    by_cases z : gi c 113 w = X ∧ gi c 114 w = Y ∧ X ≠ -1
    · refine ⟨iz w, st _ (by rw [if_pos z.1, if_pos z.2.1, if_neg z.2.2]), ⟨fun y => ?_, fun y => absurd ⟨w, by omega, by omega, z⟩ y⟩⟩
      rw [l_m1] at y
      exact absurd y (iz_nei (by omega))
    · refine ⟨v, st _ ?_, v2.trans ⟨fun y ⟨i, i1, i2, i3⟩ => ?_, fun y ⟨i, i1, i2, i3⟩ => y ⟨i, by omega, i2, i3⟩⟩⟩
      · by_cases a : gi c 113 w = X
        · rw [if_pos a]
          by_cases b : gi c 114 w = Y
          · rw [if_pos b]
            by_cases e : X = -1
            · rw [if_pos e]; exact v1
            · exact absurd ⟨a, b, e⟩ z
          · rw [if_neg b]; exact v1
        · rw [if_neg a]; exact v1
      · by_cases q : i = w
        · rw [q] at i3
          exact z i3
        · exact y ⟨i, by omega, i2, i3⟩
theorem c_hasH (N f H : Nat) (c : DY) (f8 : f < 8) (H6 : H ≤ 6) (hH : gi c 36 f = iz H) (h : Nat) (h6 : h ≤ 6) : F_X1_has Z0.1 N 35 (iz f) (iz h) c = some (if h < H then 1 else 0, c) := by
  have i8 : ib (iz (f : Int)) 8 := iz_ib (by omega)
  rw [F_X1_has_s, if_neg (show ¬ iz (f : Int) < 0 from iz_nlt0 (by omega)), if_neg (show ¬ (8 : Int32) ≤ iz (f : Int) by rw [l_8]; exact iz_nle (by omega)), if_neg (show ¬ iz (h : Int) < 0 from iz_nlt0 (by omega)), if_pos i8, r_35_0, tnn _ f rfl (by omega), hH]
  by_cases z : h < H
  · rw [if_neg (show ¬ iz (H : Int) ≤ iz (h : Int) from iz_nle (by omega)), if_pos z]
  · rw [if_pos (show iz (H : Int) ≤ iz (h : Int) from iz_lei (by omega)), if_neg z]
theorem c_hasHat (N f H : Nat) (c : DY) (X Y : Int32) (f8 : f < 8) (H6 : H ≤ 6) (hH : gi c 36 f = iz H) : ∀ q h k : Nat, h + q = 6 → q < k → ∃ v : Int32, F_X1_hasHat_3 Z0.1 N k 35 (iz f) X Y (iz h) c = some (v, c) ∧ (v = 0 ∨ v = 1) ∧ (v = 1 ↔ ∃ i : Nat, h ≤ i ∧ i < H ∧ gi c 37 (6 * f + i) = X ∧ gi c 38 (6 * f + i) = Y) := by
  intro q
  induction q with
  | zero =>
    intro h k hq hk
    obtain ⟨k, rfl⟩ : ∃ j, k = j + 1 := ⟨k - 1, by omega⟩
    obtain rfl : h = 6 := by omega
    refine ⟨0, ?_, Or.inl rfl, ⟨fun y => absurd y (by decide), fun ⟨i, i1, i2, _⟩ => by omega⟩⟩
    rw [F_X1_hasHat_3_s, if_pos (by decide)]
  | succ q ih =>
    intro h k hq hk
    obtain ⟨k, rfl⟩ : ∃ j, k = j + 1 := ⟨k - 1, by omega⟩
    have hs := c_hasH N f H c f8 H6 hH h (by omega)
    have n6 : ¬ (6 : Int32) ≤ iz (h : Int) := by rw [l_6]; exact iz_nle (by omega)
    have e : iz (f : Int) * (6 : Int32) + iz (h : Int) = iz ((6 * f + h : Nat) : Int) := by
      rw [l_6, iz_mul, iz_add]
      exact congrArg iz (by omega)
    have i48 : ib (iz ((6 * f + h : Nat) : Int)) 48 := iz_ib (by omega)
    by_cases z : h < H
    · rw [if_pos z] at hs
      obtain ⟨v, v1, v2, v3⟩ := ih (h + 1) k (by omega) (by omega)
      have st : ∀ R, (if gi c 37 (6 * f + h) = X then (if gi c 38 (6 * f + h) = Y then some ((1 : Int32), c) else F_X1_hasHat_3 Z0.1 N k 35 (iz f) X Y (iz ((h + 1 : Nat) : Int)) c) else F_X1_hasHat_3 Z0.1 N k 35 (iz f) X Y (iz ((h + 1 : Nat) : Int)) c) = R → F_X1_hasHat_3 Z0.1 N (k + 1) 35 (iz f) X Y (iz h) c = R := fun R hR => by
        rw [F_X1_hasHat_3_s, if_neg n6]
        refine bnd hs ?_
        refine (if_neg (show ¬ (1 : Int32) = 0 by decide)).trans ?_
        rw [e, if_pos i48, if_pos i48, r_35_1, r_35_2, tnn _ (6 * f + h) rfl (by omega), show iz (h : Int) + (1 : Int32) = iz ((h + 1 : Nat) : Int) from iz_add h 1]
        exact hR
      by_cases y : gi c 37 (6 * f + h) = X ∧ gi c 38 (6 * f + h) = Y
      · exact ⟨1, st _ (by rw [if_pos y.1, if_pos y.2]), Or.inr rfl, ⟨fun _ => ⟨h, by omega, z, y⟩, fun _ => rfl⟩⟩
      · refine ⟨v, st _ ?_, v2, v3.trans ⟨fun ⟨i, i1, i2⟩ => ⟨i, by omega, i2⟩, fun ⟨i, i1, i2, i3⟩ => ?_⟩⟩
        · by_cases a : gi c 37 (6 * f + h) = X
          · rw [if_pos a, if_neg (fun b => y ⟨a, b⟩)]; exact v1
          · rw [if_neg a]; exact v1
        · by_cases q : i = h
          · rw [q] at i3
            exact absurd i3 y
          · exact ⟨i, by omega, i2, i3⟩
    · rw [if_neg z] at hs
      refine ⟨0, ?_, Or.inl rfl, ⟨fun y => absurd y (by decide), fun ⟨i, i1, i2, _⟩ => by omega⟩⟩
      rw [F_X1_hasHat_3_s, if_neg n6]
      exact bnd hs (if_pos rfl)
/-- a walker who is there has a hat -/
def WHT (c : DY) (f H i : Nat) : Prop := gi c 113 i ≠ -1 → ∃ h : Nat, h < H ∧ gi c 37 (6 * f + h) = gi c 113 i ∧ gi c 38 (6 * f + h) = gi c 114 i
/-- a hat has a walker -/
def HWK (c : DY) (f n h : Nat) : Prop := ∃ i : Nat, i < n ∧ gi c 113 i = gi c 37 (6 * f + h) ∧ gi c 114 i = gi c 38 (6 * f + h)
theorem c_thereT (N n : Nat) (c : DY) (n12 : n ≤ 12) (g3 : gi c 95 3 = iz n) (w : Nat) (hw : w < n) : F_X8_isThere Z0.1 N 112 (iz w) c = some (if gi c 113 w = -1 then 0 else 1, c) := by
  rw [F_X8_isThere_s, cv_r0 cvg_try, c_hasG _ _ 95 w n c (by omega) (by omega) g3 n12, sb_eq, if_pos (show 0 ≤ (w : Int) ∧ (w : Int) < n by omega), if_neg (by decide : ¬ (1 : Int32) = 0), if_pos (show ib (iz (w : Int)) 48 from iz_ib (by omega)), cv_w1 cvg_try, tnn _ w rfl (by omega), show (112 + 1 : Nat) = 113 from rfl]
  by_cases z : gi c 113 w = -1
  · rw [if_pos z, if_pos z]
  · rw [if_neg z, if_neg z]
theorem c_are63 (N f H n : Nat) (c : DY) (hN : 20 ≤ N) (f8 : f < 8) (H6 : H ≤ 6) (hH : gi c 36 f = iz H) (n12 : n ≤ 12) (g3 : gi c 95 3 = iz n) : ∀ q w k : Nat, w + q = n → q < k → ∃ v : Int32, F_X9_areHatsOfTrial_63 Z0.1 N k 1 (iz f) 35 (iz w) c = some (v, c) ∧ (v = 0 ∨ v = 1) ∧ (v = 1 ↔ ∀ i : Nat, w ≤ i → i < n → WHT c f H i) := by
  intro q
  induction q with
  | zero =>
    intro w k hq hk
    obtain ⟨k, rfl⟩ : ∃ j, k = j + 1 := ⟨k - 1, by omega⟩
    obtain rfl : w = n := by omega
    refine ⟨1, ?_, Or.inr rfl, ⟨fun _ i h1 h2 => by omega, fun _ => rfl⟩⟩
    rw [F_X9_areHatsOfTrial_63_s, r_1_4, g3, if_pos (Int32.le_refl _)]
  | succ q ih =>
    intro w k hq hk
    obtain ⟨k, rfl⟩ : ∃ j, k = j + 1 := ⟨k - 1, by omega⟩
    obtain ⟨v, v1, v2, v3⟩ := ih (w + 1) k (by omega) (by omega)
    have io : ib (iz (w : Int)) 48 := iz_ib (by omega)
    have th := c_thereT N n c n12 g3 w (by omega)
    have w1 : iz (w : Int) + (1 : Int32) = iz ((w + 1 : Nat) : Int) := iz_add w 1
    have n1 : ¬ (1 : Int32) = 0 := by decide
    have nx : WHT c f H w → (v = 1 ↔ ∀ i : Nat, w ≤ i → i < n → WHT c f H i) := fun hw => v3.trans ⟨fun y i h1 h2 => by
      by_cases q : i = w
      · rw [q]; exact hw
      · exact y i (by omega) h2, fun y i h1 h2 => y i (by omega) h2⟩
    by_cases z : gi c 113 w = -1
    · rw [if_pos z] at th
      refine ⟨v, ?_, v2, nx (fun y => absurd z y)⟩
      rw [F_X9_areHatsOfTrial_63_s, r_1_4, r_1_6, g3, if_neg (show ¬ iz (n : Int) ≤ iz (w : Int) from iz_nle (by omega)), w1]
      exact bnd th ((if_pos rfl).trans v1)
    · rw [if_neg z] at th
      obtain ⟨u, u1, u2, u3⟩ := c_hasHat N f H c (gi c 113 w) (gi c 114 w) f8 H6 hH 6 0 N (by omega) (by omega)
      have uu : F_X1_hasHat Z0.1 N 35 (iz f) (gi c 113 w) (gi c 114 w) c = some (u, c) := by rw [F_X1_hasHat_s]; exact u1
      have st : ∀ R, (if u = 0 then some ((0 : Int32), c) else F_X9_areHatsOfTrial_63 Z0.1 N k 1 (iz f) 35 (iz ((w + 1 : Nat) : Int)) c) = R → F_X9_areHatsOfTrial_63 Z0.1 N (k + 1) 1 (iz f) 35 (iz w) c = R := fun R hR => by
        rw [F_X9_areHatsOfTrial_63_s, r_1_4, r_1_6, g3, if_neg (show ¬ iz (n : Int) ≤ iz (w : Int) from iz_nle (by omega)), w1]
        refine bnd th ((if_neg n1).trans ?_)
        rw [if_pos io, if_pos io, cv_w1 cvg_try, cv_w2 cvg_try, tnn _ w rfl (by omega)]
        exact bnd uu hR
      have hh : u = 1 ↔ WHT c f H w := u3.trans ⟨fun ⟨i, _, i2, i3⟩ _ => ⟨i, i2, i3⟩, fun y => by
        obtain ⟨i, i2, i3⟩ := y z
        exact ⟨i, by omega, i2, i3⟩⟩
      rcases u2 with y | y
      · refine ⟨0, st _ (if_pos y), Or.inl rfl, ⟨fun q => absurd q (by decide), fun q => ?_⟩⟩
        have := hh.mpr (q w (by omega) (by omega))
        rw [y] at this
        exact absurd this (by decide)
      · exact ⟨v, st _ (by rw [if_neg (by rw [y]; decide)]; exact v1), v2, nx (hh.mp y)⟩
theorem c_are10 (N f H n : Nat) (c : DY) (hN : 20 ≤ N) (f8 : f < 8) (H6 : H ≤ 6) (hH : gi c 36 f = iz H) (hX : ∀ y : Nat, y < 48 → gi c 37 y ≠ -1) (n12 : n ≤ 12) (g3 : gi c 95 3 = iz n) : ∀ q h k : Nat, h + q = H → q < k → ∃ v : Int32, F_X9_areHatsOfTrial_10 Z0.1 N k 1 (iz f) 35 (iz h) c = some (v, c) ∧ (v = 0 ∨ v = 1) ∧ (v = 1 ↔ (∀ i : Nat, h ≤ i → i < H → HWK c f n i) ∧ ∀ i : Nat, i < n → WHT c f H i) := by
  have i8 : ib (iz (f : Int)) 8 := iz_ib (by omega)
  have n1 : ¬ (1 : Int32) = 0 := by decide
  intro q
  induction q with
  | zero =>
    intro h k hq hk
    obtain ⟨k, rfl⟩ : ∃ j, k = j + 1 := ⟨k - 1, by omega⟩
    obtain rfl : h = H := by omega
    obtain ⟨v, v1, v2, v3⟩ := c_are63 N f h n c hN f8 H6 hH n12 g3 n 0 N (by omega) (by omega)
    refine ⟨v, ?_, v2, v3.trans ⟨fun y => ⟨fun i h1 h2 => by omega, fun i hi => y i (by omega) hi⟩, fun y i _ hi => y.2 i hi⟩⟩
    rw [F_X9_areHatsOfTrial_10_s, if_pos i8, r_35_0, tnn _ f rfl (by omega), hH, if_pos (Int32.le_refl _)]
    exact v1
  | succ q ih =>
    intro h k hq hk
    obtain ⟨k, rfl⟩ : ∃ j, k = j + 1 := ⟨k - 1, by omega⟩
    obtain ⟨v, v1, v2, v3⟩ := ih (h + 1) k (by omega) (by omega)
    have e : iz (f : Int) * (6 : Int32) + iz (h : Int) = iz ((6 * f + h : Nat) : Int) := by
      rw [l_6, iz_mul, iz_add]
      exact congrArg iz (by omega)
    have i48 : ib (iz ((6 * f + h : Nat) : Int)) 48 := iz_ib (by omega)
    obtain ⟨u, u1, u2⟩ := c_whoB N n c (gi c 37 (6 * f + h)) (gi c 38 (6 * f + h)) n12 g3 n 0 N (by omega) (by omega)
    have uu : F_X8_whoIsOn Z0.1 N 112 (gi c 37 (6 * f + h)) (gi c 38 (6 * f + h)) c = some (u, c) := by rw [F_X8_whoIsOn_s]; exact u1
    have st : ∀ R, (if u = -1 then some ((0 : Int32), c) else F_X9_areHatsOfTrial_10 Z0.1 N k 1 (iz f) 35 (iz ((h + 1 : Nat) : Int)) c) = R → F_X9_areHatsOfTrial_10 Z0.1 N (k + 1) 1 (iz f) 35 (iz h) c = R := fun R hR => by
      rw [F_X9_areHatsOfTrial_10_s, if_pos i8, r_35_0, tnn _ f rfl (by omega), hH, if_neg (show ¬ iz (H : Int) ≤ iz (h : Int) from iz_nle (by omega)), e, if_pos i48, if_pos i48, r_1_6, r_35_1, r_35_2, tnn _ (6 * f + h) rfl (by omega), show iz (h : Int) + (1 : Int32) = iz ((h + 1 : Nat) : Int) from iz_add h 1]
      exact bnd uu hR
    have hx := hX (6 * f + h) (by omega)
    by_cases z : u = -1
    · refine ⟨0, st _ (if_pos z), Or.inl rfl, ⟨fun y => absurd y (by decide), fun y => ?_⟩⟩
      obtain ⟨i, i1, i2, i3⟩ := y.1 h (by omega) (by omega)
      exact absurd ⟨i, by omega, i1, i2, i3, hx⟩ (u2.mp z)
    · have hw : HWK c f n h := by
        by_cases q : HWK c f n h
        · exact q
        · exact absurd (u2.mpr (fun ⟨i, _, i2, i3, i4, _⟩ => q ⟨i, i2, i3, i4⟩)) z
      refine ⟨v, st _ (by rw [if_neg z]; exact v1), v2, v3.trans ⟨fun y => ⟨fun i h1 h2 => ?_, y.2⟩, fun y => ⟨fun i h1 h2 => y.1 i (by omega) h2, y.2⟩⟩⟩
      by_cases q : i = h
      · rw [q]; exact hw
      · exact y.1 i (by omega) h2
/-- the reference's -/
def PXY (c m : DY) (n : Nat) : Prop := ∀ i : Nat, i < n → gi m 531 (720 * 4 + 16 + 20 * i) = gi c 113 i ∧ gi m 531 (720 * 4 + 16 + 20 * i + 4) = gi c 114 i
def FXY (c m : DY) : Prop := (∀ x : Nat, x < 8 → gi m 525 x = gi c 36 x) ∧ ∀ x : Nat, x < 48 → gi m 526 x = gi c 37 x ∧ gi m 527 x = gi c 38 x
theorem m_trod (N n : Nat) (c m : DY) (X Y : Int32) (n12 : n ≤ 12) (g2 : gi m 531 2882 = iz n) (hp : PXY c m n) : ∀ q w k : Nat, w + q = n → q < k → ∃ v : Int32, F_X10_isTrodden_2 Z0.1 N k 510 X Y (iz w) m = some (v, m) ∧ (v = 0 ∨ v = 1) ∧ (v = 1 ↔ ∃ i : Nat, w ≤ i ∧ i < n ∧ gi c 113 i = X ∧ gi c 114 i = Y) := by
  have i2882 : ib (2882 : Int32) 10080 := by decide
  intro q
  induction q with
  | zero =>
    intro w k hq hk
    obtain ⟨k, rfl⟩ : ∃ j, k = j + 1 := ⟨k - 1, by omega⟩
    obtain rfl : w = n := by omega
    refine ⟨0, ?_, Or.inl rfl, ⟨fun y => absurd y (by decide), fun ⟨i, i1, i2, _⟩ => by omega⟩⟩
    rw [F_X10_isTrodden_2_s, if_pos i2882, r_510_39, show (2882 : Int32).toNatClampNeg = 2882 from rfl, g2, if_pos (Int32.le_refl _)]
  | succ q ih =>
    intro w k hq hk
    obtain ⟨k, rfl⟩ : ∃ j, k = j + 1 := ⟨k - 1, by omega⟩
    obtain ⟨v, v1, v2, v3⟩ := ih (w + 1) k (by omega) (by omega)
    obtain ⟨p1, p2⟩ := hp w (by omega)
    have st : ∀ R, (if gi c 113 w = X then (if gi c 114 w = Y then some ((1 : Int32), m) else F_X10_isTrodden_2 Z0.1 N k 510 X Y (iz ((w + 1 : Nat) : Int)) m) else F_X10_isTrodden_2 Z0.1 N k 510 X Y (iz ((w + 1 : Nat) : Int)) m) = R → F_X10_isTrodden_2 Z0.1 N (k + 1) 510 X Y (iz w) m = R := fun R hR => by
      rw [F_X10_isTrodden_2_s, if_pos i2882, r_510_39, show (2882 : Int32).toNatClampNeg = 2882 from rfl, g2, if_neg (show ¬ iz (n : Int) ≤ iz (w : Int) from iz_nle (by omega)), show iz (w : Int) + (1 : Int32) = iz ((w + 1 : Nat) : Int) from iz_add w 1]
      refine bnd (m_at _ _ 4 w m) ?_
      show (if ib (iz ((720 * 4 + 16 + 20 * w : Nat) : Int)) 10080 then _ else _) = _
      rw [if_pos (ibr _ (by omega)), tnn _ (720 * 4 + 16 + 20 * w) rfl (by omega), p1]
      by_cases a : gi c 113 w = X
      · rw [if_pos a] at hR ⊢
        refine bnd (m_at _ _ 4 w m) ?_
        show (if ib (iz ((720 * 4 + 16 + 20 * w : Nat) : Int) + (4 : Int32)) 10080 then _ else _) = _
        rw [show iz ((720 * 4 + 16 + 20 * w : Nat) : Int) + (4 : Int32) = iz ((720 * 4 + 16 + 20 * w + 4 : Nat) : Int) from iz_add _ 4, if_pos (ibr _ (by omega)), tnn _ (720 * 4 + 16 + 20 * w + 4) rfl (by omega), p2]
        exact hR
      · rw [if_neg a] at hR ⊢
        exact hR
    by_cases y : gi c 113 w = X ∧ gi c 114 w = Y
    · exact ⟨1, st _ (by rw [if_pos y.1, if_pos y.2]), Or.inr rfl, ⟨fun _ => ⟨w, by omega, by omega, y⟩, fun _ => rfl⟩⟩
    · refine ⟨v, st _ ?_, v2, v3.trans ⟨fun ⟨i, i1, i2⟩ => ⟨i, by omega, i2⟩, fun ⟨i, i1, i2, i3⟩ => ?_⟩⟩
      · by_cases a : gi c 113 w = X
        · rw [if_pos a, if_neg (fun b => y ⟨a, b⟩)]; exact v1
        · rw [if_neg a]; exact v1
      · by_cases q : i = w
        · rw [q] at i3
          exact absurd i3 y
        · exact ⟨i, by omega, i2, i3⟩
theorem m_hasHat (N f H : Nat) (c m : DY) (X Y : Int32) (f8 : f < 8) (H6 : H ≤ 6) (hH : gi c 36 f = iz H) (hF : FXY c m) : ∀ q h k : Nat, h + q = H → q < k → ∃ v : Int32, F_X10_hasHat_6 Z0.1 N k 510 (iz f) X Y (iz ((6 * f + h : Nat) : Int)) m = some (v, m) ∧ (v = 0 ∨ v = 1) ∧ (v = 1 ↔ ∃ i : Nat, h ≤ i ∧ i < H ∧ gi c 37 (6 * f + i) = X ∧ gi c 38 (6 * f + i) = Y) := by
  have i32 : ib (iz (f : Int)) 32 := iz_ib (by omega)
  have hm : gi m 525 f = iz H := (hF.1 f f8).trans hH
  have e : (6 : Int32) * iz (f : Int) + iz (H : Int) = iz ((6 * f + H : Nat) : Int) := by
    rw [l_6, iz_mul, iz_add]
    exact congrArg iz (by omega)
  intro q
  induction q with
  | zero =>
    intro h k hq hk
    obtain ⟨k, rfl⟩ : ∃ j, k = j + 1 := ⟨k - 1, by omega⟩
    obtain rfl : h = H := by omega
    refine ⟨0, ?_, Or.inl rfl, ⟨fun y => absurd y (by decide), fun ⟨i, i1, i2, _⟩ => by omega⟩⟩
    rw [F_X10_hasHat_6_s, if_pos i32, r_510_15, tnn _ f rfl (by omega), hm, e, if_pos (Int32.le_refl _)]
  | succ q ih =>
    intro h k hq hk
    obtain ⟨k, rfl⟩ : ∃ j, k = j + 1 := ⟨k - 1, by omega⟩
    obtain ⟨v, v1, v2, v3⟩ := ih (h + 1) k (by omega) (by omega)
    obtain ⟨p1, p2⟩ := hF.2 (6 * f + h) (by omega)
    have i192 : ib (iz ((6 * f + h : Nat) : Int)) 192 := iz_ib (by omega)
    have st : ∀ R, (if gi c 37 (6 * f + h) = X then (if gi c 38 (6 * f + h) = Y then some ((1 : Int32), m) else F_X10_hasHat_6 Z0.1 N k 510 (iz f) X Y (iz ((6 * f + (h + 1) : Nat) : Int)) m) else F_X10_hasHat_6 Z0.1 N k 510 (iz f) X Y (iz ((6 * f + (h + 1) : Nat) : Int)) m) = R → F_X10_hasHat_6 Z0.1 N (k + 1) 510 (iz f) X Y (iz ((6 * f + h : Nat) : Int)) m = R := fun R hR => by
      rw [F_X10_hasHat_6_s, if_pos i32, r_510_15, tnn _ f rfl (by omega), hm, e, if_neg (show ¬ iz ((6 * f + H : Nat) : Int) ≤ iz ((6 * f + h : Nat) : Int) from iz_nle (by omega)), if_pos i192, if_pos i192, r_510_16, r_510_17, tnn _ (6 * f + h) rfl (by omega), p1, p2, show iz ((6 * f + h : Nat) : Int) + (1 : Int32) = iz ((6 * f + (h + 1) : Nat) : Int) from iz_add _ 1]
      exact hR
    by_cases y : gi c 37 (6 * f + h) = X ∧ gi c 38 (6 * f + h) = Y
    · exact ⟨1, st _ (by rw [if_pos y.1, if_pos y.2]), Or.inr rfl, ⟨fun _ => ⟨h, by omega, by omega, y⟩, fun _ => rfl⟩⟩
    · refine ⟨v, st _ ?_, v2, v3.trans ⟨fun ⟨i, i1, i2⟩ => ⟨i, by omega, i2⟩, fun ⟨i, i1, i2, i3⟩ => ?_⟩⟩
      · by_cases a : gi c 37 (6 * f + h) = X
        · rw [if_pos a, if_neg (fun b => y ⟨a, b⟩)]; exact v1
        · rw [if_neg a]; exact v1
      · by_cases q : i = h
        · rw [q] at i3
          exact absurd i3 y
        · exact ⟨i, by omega, i2, i3⟩
theorem m_fn49 (N f H n : Nat) (c m : DY) (hN : 20 ≤ N) (f8 : f < 8) (H6 : H ≤ 6) (hH : gi c 36 f = iz H) (hF : FXY c m) (n12 : n ≤ 12) (g2 : gi m 531 2882 = iz n) (hp : PXY c m n) : ∀ q w k : Nat, w + q = n → q < k → ∃ v : Int32, F_X10_fitsNow_49 Z0.1 N k 510 (iz f) (iz w) m = some (v, m) ∧ (v = 0 ∨ v = 1) ∧ (v = 1 ↔ (∀ i : Nat, w ≤ i → i < n → WHT c f H i) ∧ 0 < H) := by
  have i2882 : ib (2882 : Int32) 10080 := by decide
  have i32 : ib (iz (f : Int)) 32 := iz_ib (by omega)
  have hm : gi m 525 f = iz H := (hF.1 f f8).trans hH
  have n1 : ¬ (1 : Int32) = 0 := by decide
  intro q
  induction q with
  | zero =>
    intro w k hq hk
    obtain ⟨k, rfl⟩ : ∃ j, k = j + 1 := ⟨k - 1, by omega⟩
    obtain rfl : w = n := by omega
    have st : ∀ R, (if iz (H : Int) ≤ 0 then some ((0 : Int32), m) else some (1, m)) = R → F_X10_fitsNow_49 Z0.1 N (k + 1) 510 (iz f) (iz w) m = R := fun R hR => by
      rw [F_X10_fitsNow_49_s, if_pos i2882, r_510_39, show (2882 : Int32).toNatClampNeg = 2882 from rfl, g2, if_pos (Int32.le_refl _), if_pos i32, r_510_15, tnn _ f rfl (by omega), hm]
      exact hR
    by_cases z : H = 0
    · exact ⟨0, st _ (if_pos (by rw [z]; decide)), Or.inl rfl, ⟨fun y => absurd y (by decide), fun y => by omega⟩⟩
    · exact ⟨1, st _ (if_neg (iz_nle (b := 0) (by omega))), Or.inr rfl, ⟨fun _ => ⟨fun i h1 h2 => by omega, by omega⟩, fun _ => rfl⟩⟩
  | succ q ih =>
    intro w k hq hk
    obtain ⟨k, rfl⟩ : ∃ j, k = j + 1 := ⟨k - 1, by omega⟩
    obtain ⟨v, v1, v2, v3⟩ := ih (w + 1) k (by omega) (by omega)
    obtain ⟨p1, p2⟩ := hp w (by omega)
    have w1 : iz (w : Int) + (1 : Int32) = iz ((w + 1 : Nat) : Int) := iz_add w 1
    have th : F_X10_isThere Z0.1 N 510 (4 : Int32) (iz w) m = some (if gi c 113 w = -1 then 0 else 1, m) := by
      rw [F_X10_isThere_s]
      refine bnd (m_at _ _ 4 w m) ?_
      show (if ib (iz ((720 * 4 + 16 + 20 * w : Nat) : Int)) 10080 then _ else _) = _
      rw [if_pos (ibr _ (by omega)), r_510_39, tnn _ (720 * 4 + 16 + 20 * w) rfl (by omega)]
      show (if gi m 531 (720 * 4 + 16 + 20 * w) = -1 then _ else _) = _
      rw [p1]
      by_cases z : gi c 113 w = -1
      · rw [if_pos z, if_pos z]
      · rw [if_neg z, if_neg z]
    have nx : WHT c f H w → (v = 1 ↔ (∀ i : Nat, w ≤ i → i < n → WHT c f H i) ∧ 0 < H) := fun hw => v3.trans ⟨fun y => ⟨fun i h1 h2 => by
      by_cases q : i = w
      · rw [q]; exact hw
      · exact y.1 i (by omega) h2, y.2⟩, fun y => ⟨fun i h1 h2 => y.1 i (by omega) h2, y.2⟩⟩
    by_cases z : gi c 113 w = -1
    · rw [if_pos z] at th
      refine ⟨v, ?_, v2, nx (fun y => absurd z y)⟩
      rw [F_X10_fitsNow_49_s, if_pos i2882, r_510_39, show (2882 : Int32).toNatClampNeg = 2882 from rfl, g2, if_neg (show ¬ iz (n : Int) ≤ iz (w : Int) from iz_nle (by omega)), w1]
      exact bnd th ((if_pos rfl).trans v1)
    · rw [if_neg z] at th
      obtain ⟨u, u1, u2, u3⟩ := m_hasHat N f H c m (gi c 113 w) (gi c 114 w) f8 H6 hH hF H 0 N (by omega) (by omega)
      have uu : F_X10_hasHat Z0.1 N 510 (iz f) (gi c 113 w) (gi c 114 w) m = some (u, m) := by
        rw [F_X10_hasHat_s, show (6 : Int32) * iz (f : Int) = iz ((6 * f + 0 : Nat) : Int) from iz_mul 6 f]
        exact u1
      have st : ∀ R, (if u = 0 then some ((0 : Int32), m) else F_X10_fitsNow_49 Z0.1 N k 510 (iz f) (iz ((w + 1 : Nat) : Int)) m) = R → F_X10_fitsNow_49 Z0.1 N (k + 1) 510 (iz f) (iz w) m = R := fun R hR => by
        rw [F_X10_fitsNow_49_s, if_pos i2882, r_510_39, show (2882 : Int32).toNatClampNeg = 2882 from rfl, g2, if_neg (show ¬ iz (n : Int) ≤ iz (w : Int) from iz_nle (by omega)), w1]
        refine bnd th ((if_neg n1).trans ?_)
        refine bnd (m_at _ _ 4 w m) ?_
        show (if ib (iz ((720 * 4 + 16 + 20 * w : Nat) : Int)) 10080 then _ else _) = _
        rw [if_pos (ibr _ (by omega))]
        refine bnd (m_at _ _ 4 w m) ?_
        show (if ib (iz ((720 * 4 + 16 + 20 * w : Nat) : Int) + (4 : Int32)) 10080 then _ else _) = _
        rw [show iz ((720 * 4 + 16 + 20 * w : Nat) : Int) + (4 : Int32) = iz ((720 * 4 + 16 + 20 * w + 4 : Nat) : Int) from iz_add _ 4, if_pos (ibr _ (by omega)), tnn _ (720 * 4 + 16 + 20 * w + 4) rfl (by omega), tnn _ (720 * 4 + 16 + 20 * w) rfl (by omega), p1, p2]
        exact bnd uu hR
      have hh : u = 1 ↔ WHT c f H w := u3.trans ⟨fun ⟨i, _, i2, i3⟩ _ => ⟨i, i2, i3⟩, fun y => by
        obtain ⟨i, i2, i3⟩ := y z
        exact ⟨i, by omega, i2, i3⟩⟩
      rcases u2 with y | y
      · refine ⟨0, st _ (if_pos y), Or.inl rfl, ⟨fun q => absurd q (by decide), fun q => ?_⟩⟩
        have := hh.mpr (q.1 w (by omega) (by omega))
        rw [y] at this
        exact absurd this (by decide)
      · exact ⟨v, st _ (by rw [if_neg (by rw [y]; decide)]; exact v1), v2, nx (hh.mp y)⟩
theorem m_fn5 (N f H n : Nat) (c m : DY) (hN : 20 ≤ N) (f8 : f < 8) (H6 : H ≤ 6) (hH : gi c 36 f = iz H) (hF : FXY c m) (n12 : n ≤ 12) (g2 : gi m 531 2882 = iz n) (hp : PXY c m n) : ∀ q h k : Nat, h + q = H → q < k → ∃ v : Int32, F_X10_fitsNow_5 Z0.1 N k 510 (iz f) (iz ((6 * f + h : Nat) : Int)) m = some (v, m) ∧ (v = 0 ∨ v = 1) ∧ (v = 1 ↔ ((∀ i : Nat, h ≤ i → i < H → HWK c f n i) ∧ ∀ i : Nat, i < n → WHT c f H i) ∧ 0 < H) := by
  have i32 : ib (iz (f : Int)) 32 := iz_ib (by omega)
  have hm : gi m 525 f = iz H := (hF.1 f f8).trans hH
  have n1 : ¬ (1 : Int32) = 0 := by decide
  have e : (6 : Int32) * iz (f : Int) + iz (H : Int) = iz ((6 * f + H : Nat) : Int) := by
    rw [l_6, iz_mul, iz_add]
    exact congrArg iz (by omega)
  intro q
  induction q with
  | zero =>
    intro h k hq hk
    obtain ⟨k, rfl⟩ : ∃ j, k = j + 1 := ⟨k - 1, by omega⟩
    obtain rfl : h = H := by omega
    obtain ⟨v, v1, v2, v3⟩ := m_fn49 N f h n c m hN f8 H6 hH hF n12 g2 hp n 0 N (by omega) (by omega)
    refine ⟨v, ?_, v2, v3.trans ⟨fun y => ⟨⟨fun i h1 h2 => by omega, fun i hi => y.1 i (by omega) hi⟩, y.2⟩, fun y => ⟨fun i _ hi => y.1.2 i hi, y.2⟩⟩⟩
    rw [F_X10_fitsNow_5_s, if_pos i32, r_510_15, tnn _ f rfl (by omega), hm, e, if_pos (Int32.le_refl _)]
    exact v1
  | succ q ih =>
    intro h k hq hk
    obtain ⟨k, rfl⟩ : ∃ j, k = j + 1 := ⟨k - 1, by omega⟩
    obtain ⟨v, v1, v2, v3⟩ := ih (h + 1) k (by omega) (by omega)
    obtain ⟨p1, p2⟩ := hF.2 (6 * f + h) (by omega)
    have i192 : ib (iz ((6 * f + h : Nat) : Int)) 192 := iz_ib (by omega)
    obtain ⟨u, u1, u2, u3⟩ := m_trod N n c m (gi c 37 (6 * f + h)) (gi c 38 (6 * f + h)) n12 g2 hp n 0 N (by omega) (by omega)
    have uu : F_X10_isTrodden Z0.1 N 510 (gi c 37 (6 * f + h)) (gi c 38 (6 * f + h)) m = some (u, m) := by rw [F_X10_isTrodden_s]; exact u1
    have st : ∀ R, (if u = 0 then some ((0 : Int32), m) else F_X10_fitsNow_5 Z0.1 N k 510 (iz f) (iz ((6 * f + (h + 1) : Nat) : Int)) m) = R → F_X10_fitsNow_5 Z0.1 N (k + 1) 510 (iz f) (iz ((6 * f + h : Nat) : Int)) m = R := fun R hR => by
      rw [F_X10_fitsNow_5_s, if_pos i32, r_510_15, tnn _ f rfl (by omega), hm, e, if_neg (show ¬ iz ((6 * f + H : Nat) : Int) ≤ iz ((6 * f + h : Nat) : Int) from iz_nle (by omega)), if_pos i192, if_pos i192, r_510_16, r_510_17, tnn _ (6 * f + h) rfl (by omega), p1, p2, show iz ((6 * f + h : Nat) : Int) + (1 : Int32) = iz ((6 * f + (h + 1) : Nat) : Int) from iz_add _ 1]
      exact bnd uu hR
    have hh : u = 1 ↔ HWK c f n h := u3.trans ⟨fun ⟨i, _, i2⟩ => ⟨i, i2⟩, fun ⟨i, i2⟩ => ⟨i, by omega, i2⟩⟩
    rcases u2 with y | y
    · refine ⟨0, st _ (if_pos y), Or.inl rfl, ⟨fun q => absurd q (by decide), fun q => ?_⟩⟩
      have := hh.mpr (q.1.1 h (by omega) (by omega))
      rw [y] at this
      exact absurd this (by decide)
    · refine ⟨v, st _ (by rw [if_neg (by rw [y]; decide)]; exact v1), v2, v3.trans ⟨fun q => ⟨⟨fun i h1 h2 => ?_, q.1.2⟩, q.2⟩, fun q => ⟨⟨fun i h1 h2 => q.1.1 i (by omega) h2, q.1.2⟩, q.2⟩⟩⟩
      by_cases w : i = h
      · rw [w]; exact hh.mp y
      · exact q.1.1 i (by omega) h2
