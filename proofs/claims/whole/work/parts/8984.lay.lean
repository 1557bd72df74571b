/-! the reference lays a row: its walkers -/
theorem m_l247 (N : Nat) (K) (A b mi : Nat) (x1 x2 x3 x5 x6 x7 : Int32) (hA : A + 20 ≤ 10080) (hb : b + 8 ≤ 1152) (hm : mi < 12) : ∀ (q t k : Nat) (m : DY), t + q = 8 → 2 ≤ t → q < k → ∃ e : DY, F_X10_lay_247 Z0.1 N K k 510 x1 x2 x3 x5 x6 x7 (iz mi) (iz A) (iz b) (iz t) m = K 510 x1 x2 x3 x5 x6 x7 (iz ((mi + 1 : Nat) : Int)) e ∧ (∀ x y : Nat, ¬ (x = 531 ∧ A + 6 + t ≤ y ∧ y ≤ A + 14) → gi e x y = gi m x y) ∧ (∀ x y : Nat, gl e x y = gl m x y) ∧ (∀ y : Nat, t ≤ y → y < 8 → gi e 531 (A + 6 + y) = gi m 521 (b + y)) ∧ gi e 531 (A + 14) = -1 := by
  intro q
  induction q with
  | zero =>
    intro t k m hq ht hk
    obtain ⟨k, rfl⟩ : ∃ j, k = j + 1 := ⟨k - 1, by omega⟩
    obtain rfl : t = 8 := by omega
    have a14 : iz (A : Int) + (14 : Int32) = iz ((A + 14 : Nat) : Int) := iz_add _ 14
    refine ⟨si m 531 (A + 14) (-1), ?_, fun x y h => by rw [gi_si_if, if_neg (by omega)], fun _ _ => rfl, fun y h1 h2 => absurd h2 (by omega), by rw [gi_si_if, if_pos ⟨rfl, rfl⟩]⟩
    rw [F_X10_lay_247_s, if_pos (show (8 : Int32) ≤ iz ((8 : Nat) : Int) from Int32.le_refl _), a14, if_pos (ibr (A + 14) (by omega)), bd_eq, r_510_39, tnn _ (A + 14) rfl (by omega), show iz (mi : Int) + (1 : Int32) = iz ((mi + 1 : Nat) : Int) from iz_add mi 1]
  | succ q ih =>
    intro t k m hq ht hk
    obtain ⟨k, rfl⟩ : ∃ j, k = j + 1 := ⟨k - 1, by omega⟩
    have a8 : iz (A : Int) + (8 : Int32) = iz ((A + 8 : Nat) : Int) := iz_add _ 8
    have at8 : iz ((A + 8 : Nat) : Int) + iz (t : Int) = iz ((A + 8 + t : Nat) : Int) := iz_add _ _
    have am2 : iz ((A + 8 + t : Nat) : Int) - (2 : Int32) = iz ((A + 6 + t : Nat) : Int) := (iz_sub _ 2).trans (congrArg iz (by omega))
    have bt : iz (b : Int) + iz (t : Int) = iz ((b + t : Nat) : Int) := iz_add _ _
    have t1 : iz (t : Int) + (1 : Int32) = iz ((t + 1 : Nat) : Int) := iz_add t 1
    have l8 : (8 : Int32) = iz 8 := rfl
    obtain ⟨e, u1, u2, u3, u4, u5⟩ := ih (t + 1) k (si m 531 (A + 6 + t) (gi m 521 (b + t))) (by omega) (by omega) (by omega)
    refine ⟨e, ?_, fun x y h => ?_, u3, fun y h1 h2 => ?_, u5⟩
    · rw [F_X10_lay_247_s, if_neg (show ¬ (8 : Int32) ≤ iz (t : Int) by rw [l8]; exact iz_nle (by omega)), a8, at8, am2, bt, t1, if_pos (show ib (iz ((b + t : Nat) : Int)) 1152 from iz_ib (by omega)), if_pos (ibr (A + 6 + t) (by omega)), bd_eq, r_510_39, r_510_11, tnn _ (A + 6 + t) rfl (by omega), tnn _ (b + t) rfl (by omega)]
      exact u1
    · rw [u2 x y (by omega), gi_si_if, if_neg (by omega)]
    · by_cases z : y = t
      · subst z
        rw [u2 531 (A + 6 + y) (by omega), gi_si_if, if_pos ⟨rfl, rfl⟩]
      · rw [u4 y (by omega) h2, gi_si_if, if_neg (by omega)]
theorem m_l176 (N : Nat) (K) (A b mi : Nat) (x1 x2 x3 x5 x6 x7 x11 : Int32) (vx vy : Int32) (hA : A + 20 ≤ 10080) (hb : b + 8 ≤ 1152) : ∀ (q t k : Nat) (m : DY), t + q = 4 → q < k → (x11 = 0 ∧ gi m 521 b = vx ∧ gi m 521 (b + 1) = vy ∨ x11 ≠ 0 ∧ vx = -1 ∧ vy = -1) → ∃ e : DY, F_X10_lay_176 Z0.1 N K k 510 x1 x2 x3 x5 x6 x7 (iz mi) (iz A) (iz b) x11 (iz t) m = F_X10_lay_247 Z0.1 N K N 510 x1 x2 x3 x5 x6 x7 (iz mi) (iz A) (iz b) 2 e ∧ (∀ x y : Nat, ¬ (x = 531 ∧ A + t ≤ y ∧ y < A + 8) → gi e x y = gi m x y) ∧ (∀ x y : Nat, gl e x y = gl m x y) ∧ (∀ y : Nat, t ≤ y → y < 4 → gi e 531 (A + y) = vx ∧ gi e 531 (A + 4 + y) = vy) ∧ (∀ y : Nat, A + 4 ≤ y → y < A + 4 + t → gi e 531 y = gi m 531 y) := by
  intro q
  induction q with
  | zero =>
    intro t k m hq hk hx
    obtain ⟨k, rfl⟩ : ∃ j, k = j + 1 := ⟨k - 1, by omega⟩
    obtain rfl : t = 4 := by omega
    refine ⟨m, ?_, fun _ _ _ => rfl, fun _ _ => rfl, fun y h1 h2 => absurd h2 (by omega), fun _ _ _ => rfl⟩
    rw [F_X10_lay_176_s, if_pos (show (4 : Int32) ≤ iz ((4 : Nat) : Int) from Int32.le_refl _)]
  | succ q ih =>
    intro t k m hq hk hx
    obtain ⟨k, rfl⟩ : ∃ j, k = j + 1 := ⟨k - 1, by omega⟩
    have at0 : iz (A : Int) + iz (t : Int) = iz ((A + t : Nat) : Int) := iz_add _ _
    have a4 : iz (A : Int) + (4 : Int32) = iz ((A + 4 : Nat) : Int) := iz_add _ 4
    have at4 : iz ((A + 4 : Nat) : Int) + iz (t : Int) = iz ((A + 4 + t : Nat) : Int) := iz_add _ _
    have b1 : iz (b : Int) + (1 : Int32) = iz ((b + 1 : Nat) : Int) := iz_add _ 1
    have t1 : iz (t : Int) + (1 : Int32) = iz ((t + 1 : Nat) : Int) := iz_add t 1
    have l4 : (4 : Int32) = iz 4 := rfl
    obtain ⟨e, u1, u2, u3, u4, u5⟩ := ih (t + 1) k (si (si m 531 (A + t) vx) 531 (A + 4 + t) vy) (by omega) (by omega) (by
      rw [gi_si_if, if_neg (by omega), gi_si_if, if_neg (by omega), gi_si_if, if_neg (by omega), gi_si_if, if_neg (by omega)]
      exact hx)
    have nt : ¬ (4 : Int32) ≤ iz (t : Int) := by
      rw [l4]
      exact iz_nle (by omega)
    refine ⟨e, ?_, fun x y h => ?_, u3, fun y h1 h2 => ?_, fun y h1 h2 => ?_⟩
    · rw [F_X10_lay_176_s, if_neg nt, at0]
      have fin : F_X10_lay_237 Z0.1 N (F_X10_lay_176 Z0.1 N K k) 510 x1 x2 x3 x5 x6 x7 (iz mi) (iz A) (iz b) x11 (iz t) 531 (iz ((A + 4 + t : Nat) : Int)) vy (si m 531 (A + t) vx) = F_X10_lay_176 Z0.1 N K k 510 x1 x2 x3 x5 x6 x7 (iz mi) (iz A) (iz b) x11 (iz ((t + 1 : Nat) : Int)) (si (si m 531 (A + t) vx) 531 (A + 4 + t) vy) := by
        rw [F_X10_lay_237_s, if_pos (ibr (A + 4 + t) (by omega)), bd_eq, tnn _ (A + 4 + t) rfl (by omega), t1]
      have two : F_X10_lay_207 Z0.1 N (F_X10_lay_176 Z0.1 N K k) 510 x1 x2 x3 x5 x6 x7 (iz mi) (iz A) (iz b) x11 (iz t) 531 (iz ((A + t : Nat) : Int)) vx m = F_X10_lay_176 Z0.1 N K k 510 x1 x2 x3 x5 x6 x7 (iz mi) (iz A) (iz b) x11 (iz ((t + 1 : Nat) : Int)) (si (si m 531 (A + t) vx) 531 (A + 4 + t) vy) := by
        rw [F_X10_lay_207_s, if_pos (ibr (A + t) (by omega)), bd_eq, a4, at4, b1, r_510_39, r_510_11, tnn _ (A + t) rfl (by omega), tnn _ (b + 1) rfl (by omega)]
        rcases hx with ⟨z1, z2, z3⟩ | ⟨z1, z2, z3⟩
        · rw [if_pos z1, if_pos (show ib (iz ((b + 1 : Nat) : Int)) 1152 from iz_ib (by omega)), gi_si_if, if_neg (by omega), z3]
          exact fin
        · rw [if_neg z1, ← z3]
          exact fin
      rcases id hx with ⟨z1, z2, z3⟩ | ⟨z1, z2, z3⟩
      · rw [if_pos z1, if_pos (show ib (iz (b : Int)) 1152 from iz_ib (by omega)), r_510_39, r_510_11, tnn _ b rfl (by omega), z2]
        exact two.trans u1
      · rw [if_neg z1, r_510_39, ← z2]
        exact two.trans u1
    · rw [u2 x y (by omega), gi_si_if, if_neg (by omega), gi_si_if, if_neg (by omega)]
    · by_cases z : y = t
      · subst z
        refine ⟨?_, ?_⟩
        · rw [u2 531 (A + y) (by omega), gi_si_if, if_neg (by omega), gi_si_if, if_pos ⟨rfl, rfl⟩]
        · rw [u5 (A + 4 + y) (by omega) (by omega), gi_si_if, if_pos ⟨rfl, rfl⟩]
      · exact u4 y (by omega) h2
    · by_cases z : y = A + 4 + t
      · omega
      · rw [u5 y h1 (by omega), gi_si_if, if_neg (by omega), gi_si_if, if_neg (by omega)]
