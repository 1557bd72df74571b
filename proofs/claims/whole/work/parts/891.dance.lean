/-! who danced -/
def abI (d : Int32) : Int32 := if 0 ≤ d then d else 0 - d
def dC1 (c : DY) (w a b : Nat) : Nat := if gi c (w + 2) a = -1 then 0 else if gi c (w + 2) a = gi c (w + 2) b then (if gi c (w + 2) a = gi c (w + 2) (12 + a) then 0 else if gi c (w + 2) (12 + a) = gi c (w + 2) (12 + b) then (if (2 : Int32) < abI (gi c (w + 1) (12 + a) - gi c (w + 1) (12 + b)) then 0 else 1) else 0) else 0
def dC2 (c : DY) (g w a b : Nat) : Nat := if gi c (g + 4) a = gi c (g + 4) b then 0 else dC1 c w a b
theorem c_danced {g l w : Nat} (N : Nat) (c : DY) (a b : Nat) (hG : CVg g l w) (ha : a < 12) (hb : b < 12) : F_X8_danced Z0.1 N w (iz a) (iz b) c = some (iz (dC1 c w a b : Nat), c) := by
  have a48 : ib (iz (a : Int)) 48 := iz_ib (by omega)
  have b48 : ib (iz (b : Int)) 48 := iz_ib (by omega)
  have a12 : (12 : Int32) + iz (a : Int) = iz ((12 + a : Nat) : Int) := (iz_add 12 a).trans rfl
  have b12 : (12 : Int32) + iz (b : Int) = iz ((12 + b : Nat) : Int) := (iz_add 12 b).trans rfl
  have i12 : ib (iz ((12 + a : Nat) : Int)) 48 := iz_ib (by omega)
  have j12 : ib (iz ((12 + b : Nat) : Int)) 48 := iz_ib (by omega)
  have z56 : ∀ y1 y2 : Int32, F_X8_danced_56 Z0.1 N w y1 y2 0 c = some (0, c) := fun y1 y2 => by
    rw [F_X8_danced_56_s, if_pos rfl]
  rw [F_X8_danced_s, a12, b12, if_pos a48, z56, if_pos a48, if_pos b48, if_pos a48, if_pos i12, cv_w2 hG, tnn _ a rfl (by omega), tnn _ b rfl (by omega), tnn _ (12 + a) rfl (by omega)]
  unfold dC1
  by_cases q1 : gi c (w + 2) a = -1
  · rw [if_pos q1, if_pos q1]; rfl
  rw [if_neg q1, if_neg q1]
  by_cases q2 : gi c (w + 2) a = gi c (w + 2) b
  · rw [if_pos q2, if_pos q2]
    by_cases q3 : gi c (w + 2) a = gi c (w + 2) (12 + a)
    · rw [if_pos q3, if_pos q3]; rfl
    rw [if_neg q3, if_neg q3, F_X8_danced_56_s, if_neg (by decide : ¬ (1 : Int32) = 0), if_pos i12, if_pos j12, if_pos i12, if_pos j12, cv_w2 hG, cv_w1 hG, tnn _ (12 + a) rfl (by omega), tnn _ (12 + b) rfl (by omega)]
    by_cases q4 : gi c (w + 2) (12 + a) = gi c (w + 2) (12 + b)
    · rw [if_pos q4, if_pos q4]
      show (if (2 : Int32) < abI (gi c (w + 1) (12 + a) - gi c (w + 1) (12 + b)) then _ else _) = _
      by_cases q5 : (2 : Int32) < abI (gi c (w + 1) (12 + a) - gi c (w + 1) (12 + b))
      · rw [if_pos q5, if_pos q5]; rfl
      · rw [if_neg q5, if_neg q5]; rfl
    · rw [if_neg q4, if_neg q4]; rfl
  · rw [if_neg q2, if_neg q2]; rfl
theorem c_dn19 {g l w : Nat} (N : Nat) (K) (c : DY) (n a : Nat) (hG : CVg g l w) (n12 : n ≤ 12) (han : a < n) (g3 : gi c g 3 = iz n) : ∀ (q b k x1 : Nat), b + q = n → q < k → F_X8_dancesNow_19 Z0.1 N K k w (iz ((x1 + S1 (fun y => if a < y then dC2 c g w a y else 0) b : Nat) : Int)) (iz a) (iz b) c = K w (iz ((x1 + S1 (fun y => if a < y then dC2 c g w a y else 0) n : Nat) : Int)) (iz ((a + 1 : Nat) : Int)) c ∨ b ≤ a := by
  intro q
  induction q with
  | zero =>
    intro b k x1 hq hk
    obtain ⟨k, rfl⟩ : ∃ j, k = j + 1 := ⟨k - 1, by omega⟩
    obtain rfl : b = n := by omega
    refine Or.inl ?_
    rw [F_X8_dancesNow_19_s, cv_r0 hG, g3, if_pos (Int32.le_refl _), show iz (a : Int) + (1 : Int32) = iz ((a + 1 : Nat) : Int) from iz_add a 1]
  | succ q ih =>
    intro b k x1 hq hk
    obtain ⟨k, rfl⟩ : ∃ j, k = j + 1 := ⟨k - 1, by omega⟩
    by_cases hab : b ≤ a
    · exact Or.inr hab
    refine Or.inl ?_
    have nx := (ih (b + 1) k x1 (by omega) (by omega)).resolve_right (by omega)
    have S : S1 (fun y => if a < y then dC2 c g w a y else 0) (b + 1) = S1 (fun y => if a < y then dC2 c g w a y else 0) b + dC2 c g w a b := by
      show S1 (fun y => if a < y then dC2 c g w a y else 0) b + (if a < b then dC2 c g w a b else 0) = _
      rw [if_pos (by omega)]
    rw [S] at nx
    generalize S1 (fun y => if a < y then dC2 c g w a y else 0) b = s at nx ⊢
    have b1 : iz (b : Int) + (1 : Int32) = iz ((b + 1 : Nat) : Int) := iz_add b 1
    rw [F_X8_dancesNow_19_s, cv_r0 hG, g3, if_neg (show ¬ iz (n : Int) ≤ iz (b : Int) from iz_nle (by omega)), if_pos (show ib (iz (a : Int)) 12 from iz_ib (by omega)), if_pos (show ib (iz (b : Int)) 12 from iz_ib (by omega)), cv_g4 hG, tnn _ a rfl (by omega), tnn _ b rfl (by omega), b1]
    unfold dC2 at nx
    by_cases q1 : gi c (g + 4) a = gi c (g + 4) b
    · rw [if_pos q1] at nx ⊢
      exact nx
    rw [if_neg q1] at nx ⊢
    refine bnd (c_danced N c a b hG (by omega) (by omega)) ?_
    show (if iz (dC1 c w a b : Nat) = 0 then F_X8_dancesNow_19 Z0.1 N K k w (iz ((x1 + s : Nat) : Int)) (iz a) (iz ((b + 1 : Nat) : Int)) c else F_X8_dancesNow_19 Z0.1 N K k w (iz ((x1 + s : Nat) : Int) + 1) (iz a) (iz ((b + 1 : Nat) : Int)) c) = _
    have B : dC1 c w a b = 0 ∨ dC1 c w a b = 1 := by
      unfold dC1
      repeat' split
      all_goals first | exact Or.inl rfl | exact Or.inr rfl
    rcases B with B | B
    · rw [B] at nx ⊢
      rw [if_pos (show iz ((0 : Nat) : Int) = 0 from rfl)]
      exact nx
    · rw [B] at nx ⊢
      rw [if_neg (show ¬ iz ((1 : Nat) : Int) = 0 by decide), show iz ((x1 + s : Nat) : Int) + 1 = iz ((x1 + (s + 1) : Nat) : Int) from iz_add _ 1]
      exact nx
/-- the class's count of dances -/
def dCN (c : DY) (g w n : Nat) : Nat := S1 (fun a => S1 (fun b => if a < b then dC2 c g w a b else 0) n) n
theorem c_dn4 {g l w : Nat} (N : Nat) (c : DY) (n : Nat) (hN : 20 ≤ N) (hG : CVg g l w) (n12 : n ≤ 12) (g3 : gi c g 3 = iz n) : ∀ (q a k : Nat), a + q = n → q < k → F_X8_dancesNow_4 Z0.1 N k w (iz (S1 (fun a => S1 (fun b => if a < b then dC2 c g w a b else 0) n) a : Nat)) (iz a) c = some (iz (dCN c g w n : Nat), c) := by
  intro q
  induction q with
  | zero =>
    intro a k hq hk
    obtain ⟨k, rfl⟩ : ∃ j, k = j + 1 := ⟨k - 1, by omega⟩
    obtain rfl : a = n := by omega
    rw [F_X8_dancesNow_4_s, cv_r0 hG, g3, if_pos (Int32.le_refl _)]
    rfl
  | succ q ih =>
    intro a k hq hk
    obtain ⟨k, rfl⟩ : ∃ j, k = j + 1 := ⟨k - 1, by omega⟩
    rw [F_X8_dancesNow_4_s, cv_r0 hG, g3, if_neg (show ¬ iz (n : Int) ≤ iz (a : Int) from iz_nle (by omega)), show iz (a : Int) + (1 : Int32) = iz ((a + 1 : Nat) : Int) from iz_add a 1]
    have y := (c_dn19 N (F_X8_dancesNow_4 Z0.1 N k) c n a hG n12 (by omega) g3 (n - (a + 1)) (a + 1) N (S1 (fun a => S1 (fun b => if a < b then dC2 c g w a b else 0) n) a) (by omega) (by omega)).resolve_right (by omega)
    rw [S1_zero (f := fun y => if a < y then dC2 c g w a y else 0) (a + 1) (fun i hi => if_neg (by omega)), Nat.add_zero] at y
    rw [y]
    exact ih (a + 1) k (by omega) (by omega)
theorem c_dances {g l w : Nat} (N : Nat) (c : DY) (n : Nat) (hN : 20 ≤ N) (hG : CVg g l w) (n12 : n ≤ 12) (g3 : gi c g 3 = iz n) : F_X8_dancesNow Z0.1 N w c = some (iz (dCN c g w n : Nat), c) := by
  rw [F_X8_dancesNow_s]
  exact c_dn4 N c n hN hG n12 g3 n 0 N (by omega) (by omega)
/-! the reference's -/
def dM (m : DY) (r i j : Nat) : Nat := if gi m 535 i = 0 then 0 else if gi m 535 j = 0 then 0 else if gi m 534 i = 0 then 0 else if gi m 534 j = 0 then 0 else if gi m 531 (720 * r + 16 + 20 * i + 8) = gi m 531 (720 * r + 16 + 20 * j + 8) then 0 else if gi m 531 (720 * r + 16 + 20 * i) - gi m 531 (720 * r + 16 + 20 * j) < -2 then 0 else if (2 : Int32) < gi m 531 (720 * r + 16 + 20 * i) - gi m 531 (720 * r + 16 + 20 * j) then 0 else if gi m 531 (720 * r + 16 + 20 * i + 4) = gi m 531 (720 * r + 16 + 20 * j + 4) then (if gi m 537 i = gi m 537 j then 1 else 0) else 0
theorem m_dance (N r i j : Nat) (m : DY) (r14 : r < 14) (hi : i < 12) (hj : j < 12) : F_X10_dance Z0.1 N 510 (iz r) (iz i) (iz j) m = some (iz (dM m r i j : Nat), m) := by
  have i12 : ib (iz (i : Int)) 12 := iz_ib (by omega)
  have j12 : ib (iz (j : Int)) 12 := iz_ib (by omega)
  have ti : (iz (i : Int)).toNatClampNeg = i := tnn _ i rfl (by omega)
  have tj : (iz (j : Int)).toNatClampNeg = j := tnn _ j rfl (by omega)
  have p : ∀ k y : Nat, k < 12 → y < 20 → ib (iz ((720 * r + 16 + 20 * k + y : Nat) : Int)) 10080 := fun k y _ _ => ibr _ (by omega)
  have t : ∀ k y : Nat, k < 12 → y < 20 → (iz ((720 * r + 16 + 20 * k + y : Nat) : Int)).toNatClampNeg = 720 * r + 16 + 20 * k + y := fun k y _ _ => tnn _ _ rfl (by omega)
  have e : ∀ k y : Nat, iz ((720 * r + 16 + 20 * k : Nat) : Int) + iz (y : Int) = iz ((720 * r + 16 + 20 * k + y : Nat) : Int) := fun k y => iz_add _ _
  rw [F_X10_dance_s]
  refine bnd (m_at _ _ r i m) ?_
  show ((F_X10_at Z0.1 N (iz r) (iz j) m).bind _) = _
  refine bnd (m_at _ _ r j m) ?_
  have e8 : ∀ k : Nat, iz ((720 * r + 16 + 20 * k : Nat) : Int) + (8 : Int32) = iz ((720 * r + 16 + 20 * k + 8 : Nat) : Int) := fun k => e k 8
  have e4 : ∀ k : Nat, iz ((720 * r + 16 + 20 * k : Nat) : Int) + (4 : Int32) = iz ((720 * r + 16 + 20 * k + 4 : Nat) : Int) := fun k => e k 4
  have p0 : ∀ k : Nat, k < 12 → ib (iz ((720 * r + 16 + 20 * k : Nat) : Int)) 10080 := fun k _ => ibr _ (by omega)
  have t0 : ∀ k : Nat, k < 12 → (iz ((720 * r + 16 + 20 * k : Nat) : Int)).toNatClampNeg = 720 * r + 16 + 20 * k := fun k _ => tnn _ _ rfl (by omega)
  rw [if_pos i12, if_pos j12, if_pos i12, if_pos j12, ti, tj, r_510_39, r_510_43, r_510_44, r_510_49]
  unfold dM
  by_cases q1 : gi m 535 i = 0
  · rw [if_pos q1, if_pos q1]
    rfl
  rw [if_neg q1, if_neg q1]
  by_cases q2 : gi m 535 j = 0
  · rw [if_pos q2, if_pos q2]
    rfl
  rw [if_neg q2, if_neg q2]
  by_cases q3 : gi m 534 i = 0
  · rw [if_pos q3, if_pos q3]
    rfl
  rw [if_neg q3, if_neg q3]
  by_cases q4 : gi m 534 j = 0
  · rw [if_pos q4, if_pos q4]
    rfl
  rw [if_neg q4, if_neg q4]
  show (if ib (iz ((720 * r + 16 + 20 * i : Nat) : Int) + (8 : Int32)) 10080 then if ib (iz ((720 * r + 16 + 20 * j : Nat) : Int) + (8 : Int32)) 10080 then (if gi m 531 (iz ((720 * r + 16 + 20 * i : Nat) : Int) + (8 : Int32)).toNatClampNeg = gi m 531 (iz ((720 * r + 16 + 20 * j : Nat) : Int) + (8 : Int32)).toNatClampNeg then _ else _) else _ else _) = _
  rw [e8, e8, if_pos (p i 8 hi (by omega)), if_pos (p j 8 hj (by omega)), t i 8 hi (by omega), t j 8 hj (by omega)]
  by_cases q5 : gi m 531 (720 * r + 16 + 20 * i + 8) = gi m 531 (720 * r + 16 + 20 * j + 8)
  · rw [if_pos q5, if_pos q5]
    rfl
  rw [if_neg q5, if_neg q5]
  show (if ib (iz ((720 * r + 16 + 20 * i : Nat) : Int)) 10080 then if ib (iz ((720 * r + 16 + 20 * j : Nat) : Int)) 10080 then _ else _ else _) = _
  rw [if_pos (p0 i hi), if_pos (p0 j hj)]
  refine bnd (m_in _ _ _ _ _ _) ?_
  show (if (if gi m 531 (iz ((720 * r + 16 + 20 * i : Nat) : Int)).toNatClampNeg - gi m 531 (iz ((720 * r + 16 + 20 * j : Nat) : Int)).toNatClampNeg < (-2 : Int32) then (0 : Int32) else if (2 : Int32) < gi m 531 (iz ((720 * r + 16 + 20 * i : Nat) : Int)).toNatClampNeg - gi m 531 (iz ((720 * r + 16 + 20 * j : Nat) : Int)).toNatClampNeg then 0 else 1) = 0 then _ else if ib (iz ((720 * r + 16 + 20 * i : Nat) : Int) + (4 : Int32)) 10080 then if ib (iz ((720 * r + 16 + 20 * j : Nat) : Int) + (4 : Int32)) 10080 then (if gi m 531 (iz ((720 * r + 16 + 20 * i : Nat) : Int) + (4 : Int32)).toNatClampNeg = gi m 531 (iz ((720 * r + 16 + 20 * j : Nat) : Int) + (4 : Int32)).toNatClampNeg then _ else _) else _ else _) = _
  rw [t0 i hi, t0 j hj]
  by_cases q6 : gi m 531 (720 * r + 16 + 20 * i) - gi m 531 (720 * r + 16 + 20 * j) < -2
  · rw [if_pos q6, if_pos q6, if_pos rfl]
    rfl
  rw [if_neg q6, if_neg q6]
  by_cases q7 : (2 : Int32) < gi m 531 (720 * r + 16 + 20 * i) - gi m 531 (720 * r + 16 + 20 * j)
  · rw [if_pos q7, if_pos q7, if_pos rfl]
    rfl
  rw [if_neg q7, if_neg q7, if_neg (by decide : ¬ (1 : Int32) = 0), e4, e4, if_pos (p i 4 hi (by omega)), if_pos (p j 4 hj (by omega)), t i 4 hi (by omega), t j 4 hj (by omega)]
  by_cases q8 : gi m 531 (720 * r + 16 + 20 * i + 4) = gi m 531 (720 * r + 16 + 20 * j + 4)
  · rw [if_pos q8, if_pos q8]
    show (if ib (iz (i : Int)) 12 then if ib (iz (j : Int)) 12 then (if gi m 537 i = gi m 537 j then _ else _) else _ else _) = _
    rw [if_pos i12, if_pos j12]
    by_cases q9 : gi m 537 i = gi m 537 j
    · rw [if_pos q9, if_pos q9]; rfl
    · rw [if_neg q9, if_neg q9]; rfl
  · rw [if_neg q8, if_neg q8]
    rfl
