/-! the reference lays a row: walls, rules, head -/
theorem m_l347 (N r lw : Nat) (r14 : r < 14) (l12 : lw < 12) : ∀ (p i k : Nat) (m : DY), i + p = 288 → p < k → ∃ e : DY, F_X10_lay_347 Z0.1 N k 510 (iz lw) (iz ((720 * r : Nat) : Int)) (iz i) m = some e ∧ (∀ x y : Nat, ¬ (x = 531 ∧ 720 * r + 352 + i ≤ y ∧ y < 720 * r + 640) → gi e x y = gi m x y) ∧ (∀ x y : Nat, gl e x y = gl m x y) ∧ ∀ j : Nat, i ≤ j → j < 288 → gi e 531 (720 * r + 352 + j) = gi m 524 (288 * lw + j) := by
  intro p
  induction p with
  | zero =>
    intro i k m hp hk
    obtain ⟨k, rfl⟩ : ∃ j, k = j + 1 := ⟨k - 1, by omega⟩
    obtain rfl : i = 288 := by omega
    refine ⟨m, ?_, fun _ _ _ => rfl, fun _ _ => rfl, fun j h1 h2 => absurd h2 (by omega)⟩
    rw [F_X10_lay_347_s, if_pos (show (288 : Int32) ≤ iz ((288 : Nat) : Int) from Int32.le_refl _)]
  | succ p ih =>
    intro i k m hp hk
    obtain ⟨k, rfl⟩ : ∃ j, k = j + 1 := ⟨k - 1, by omega⟩
    have a1 : iz (i : Int) + (1 : Int32) = iz ((i + 1 : Nat) : Int) := iz_add i 1
    have l288 : (288 : Int32) = iz 288 := rfl
    have e1 : (288 : Int32) * iz (lw : Int) + iz (i : Int) = iz ((288 * lw + i : Nat) : Int) := by
      rw [l288, iz_mul, iz_add]
      exact congrArg iz (by omega)
    have e2 : iz ((720 * r : Nat) : Int) + (352 : Int32) = iz ((720 * r + 352 : Nat) : Int) := iz_add _ 352
    have e3 : iz ((720 * r + 352 : Nat) : Int) + iz (i : Int) = iz ((720 * r + 352 + i : Nat) : Int) := iz_add _ _
    obtain ⟨e, u1, u2, u3, u4⟩ := ih (i + 1) k (si m 531 (720 * r + 352 + i) (gi m 524 (288 * lw + i))) (by omega) (by omega)
    refine ⟨e, ?_, fun x y h => ?_, u3, fun j h1 h2 => ?_⟩
    · rw [F_X10_lay_347_s, if_neg (show ¬ (288 : Int32) ≤ iz (i : Int) by rw [l288]; exact iz_nle (by omega)), e1, e2, e3, a1, if_pos (show ib (iz ((288 * lw + i : Nat) : Int)) 3456 from iz_ib (by omega)), if_pos (ibr (720 * r + 352 + i) (by omega)), bd_eq, r_510_39, r_510_14, tnn _ (720 * r + 352 + i) rfl (by omega), tnn _ (288 * lw + i) rfl (by omega)]
      exact u1
    · rw [u2 x y (by omega), gi_si_if, if_neg (by omega)]
    · by_cases z : j = i
      · subst z
        rw [u2 531 _ (by omega), gi_si_if, if_pos ⟨rfl, rfl⟩]
      · rw [u4 j (by omega) h2, gi_si_if, if_neg (by omega)]
theorem m_l305 (N r q lw : Nat) (hN : 300 ≤ N) (r14 : r < 14) (q12 : q < 12) (l12 : lw < 12) : ∀ (p i k : Nat) (m : DY), i + p = 96 → p < k → ∃ e : DY, F_X10_lay_305 Z0.1 N k 510 (iz q) (iz lw) (iz ((720 * r : Nat) : Int)) (iz i) m = some e ∧ (∀ x y : Nat, ¬ (x = 531 ∧ 720 * r + 256 + i ≤ y ∧ y < 720 * r + 640) → gi e x y = gi m x y) ∧ (∀ x y : Nat, gl e x y = gl m x y) ∧ (∀ j : Nat, i ≤ j → j < 96 → gi e 531 (720 * r + 256 + j) = gi m 520 (96 * q + j)) ∧ ∀ j : Nat, j < 288 → gi e 531 (720 * r + 352 + j) = gi m 524 (288 * lw + j) := by
  intro p
  induction p with
  | zero =>
    intro i k m hp hk
    obtain ⟨k, rfl⟩ : ∃ j, k = j + 1 := ⟨k - 1, by omega⟩
    obtain rfl : i = 96 := by omega
    obtain ⟨e, u1, u2, u3, u4⟩ := m_l347 N r lw r14 l12 288 0 N m (by omega) (by omega)
    refine ⟨e, ?_, fun x y h => u2 x y (by omega), u3, fun j h1 h2 => absurd h2 (by omega), fun j hj => u4 j (by omega) hj⟩
    rw [F_X10_lay_305_s, if_pos (show (96 : Int32) ≤ iz ((96 : Nat) : Int) from Int32.le_refl _)]
    exact u1
  | succ p ih =>
    intro i k m hp hk
    obtain ⟨k, rfl⟩ : ∃ j, k = j + 1 := ⟨k - 1, by omega⟩
    have a1 : iz (i : Int) + (1 : Int32) = iz ((i + 1 : Nat) : Int) := iz_add i 1
    have l96 : (96 : Int32) = iz 96 := rfl
    have e1 : (96 : Int32) * iz (q : Int) + iz (i : Int) = iz ((96 * q + i : Nat) : Int) := by
      rw [l96, iz_mul, iz_add]
      exact congrArg iz (by omega)
    have e2 : iz ((720 * r : Nat) : Int) + (256 : Int32) = iz ((720 * r + 256 : Nat) : Int) := iz_add _ 256
    have e3 : iz ((720 * r + 256 : Nat) : Int) + iz (i : Int) = iz ((720 * r + 256 + i : Nat) : Int) := iz_add _ _
    obtain ⟨e, u1, u2, u3, u4, u5⟩ := ih (i + 1) k (si m 531 (720 * r + 256 + i) (gi m 520 (96 * q + i))) (by omega) (by omega)
    refine ⟨e, ?_, fun x y h => ?_, u3, fun j h1 h2 => ?_, fun j hj => ?_⟩
    · rw [F_X10_lay_305_s, if_neg (show ¬ (96 : Int32) ≤ iz (i : Int) by rw [l96]; exact iz_nle (by omega)), e1, e2, e3, a1, if_pos (show ib (iz ((96 * q + i : Nat) : Int)) 1152 from iz_ib (by omega)), if_pos (ibr (720 * r + 256 + i) (by omega)), bd_eq, r_510_39, r_510_10, tnn _ (720 * r + 256 + i) rfl (by omega), tnn _ (96 * q + i) rfl (by omega)]
      exact u1
    · rw [u2 x y (by omega), gi_si_if, if_neg (by omega)]
    · by_cases z : j = i
      · subst z
        rw [u2 531 _ (by omega), gi_si_if, if_pos ⟨rfl, rfl⟩]
      · rw [u4 j (by omega) h2, gi_si_if, if_neg (by omega)]
    · rw [u5 j hj, gi_si_if, if_neg (by omega)]
/-- the head of a row -/
def hdM (m : DY) (r q lw : Nat) (seed : Int32) : DY := si (si (si (si (si (si m 531 (720 * r) (gi m 516 q)) 531 (720 * r + 1) (gi m 517 q)) 531 (720 * r + 2) (gi m 518 q)) 531 (720 * r + 4) seed) 531 (720 * r + 9) (gi m 523 lw)) 531 (720 * r + 10) 1
theorem gi_hdM (m : DY) (r q lw : Nat) (seed : Int32) (x y : Nat) : gi (hdM m r q lw seed) x y = if x = 531 ∧ y = 720 * r + 10 then 1 else if x = 531 ∧ y = 720 * r + 9 then gi m 523 lw else if x = 531 ∧ y = 720 * r + 4 then seed else if x = 531 ∧ y = 720 * r + 2 then gi m 518 q else if x = 531 ∧ y = 720 * r + 1 then gi m 517 q else if x = 531 ∧ y = 720 * r then gi m 516 q else gi m x y := by
  unfold hdM
  rw [gi_si_if, gi_si_if, gi_si_if, gi_si_if, gi_si_if, gi_si_if]
theorem m_l10 (N r q lw : Nat) (seed x5 x6 : Int32) (r14 : r < 14) (q12 : q < 12) (l12 : lw < 12) : ∀ (p i k : Nat) (m : DY), i + p = 720 → p < k → ∃ e : DY, F_X10_lay_10 Z0.1 N k 510 (iz r) (iz q) (iz lw) seed x5 x6 (iz ((720 * r : Nat) : Int)) (iz i) m = F_X10_lay_121 Z0.1 N N 510 (iz r) (iz q) (iz lw) x5 x6 (iz ((720 * r : Nat) : Int)) 0 (hdM e r q lw seed) ∧ (∀ x y : Nat, ¬ (x = 531 ∧ 720 * r + i ≤ y ∧ y < 720 * r + 720) → gi e x y = gi m x y) ∧ (∀ x y : Nat, gl e x y = gl m x y) ∧ ∀ j : Nat, i ≤ j → j < 720 → gi e 531 (720 * r + j) = 0 := by
  intro p
  induction p with
  | zero =>
    intro i k m hp hk
    obtain ⟨k, rfl⟩ : ∃ j, k = j + 1 := ⟨k - 1, by omega⟩
    obtain rfl : i = 720 := by omega
    refine ⟨m, ?_, fun _ _ _ => rfl, fun _ _ => rfl, fun j h1 h2 => absurd h2 (by omega)⟩
    have qi : ib (iz (q : Int)) 12 := iz_ib (by omega)
    have li : ib (iz (lw : Int)) 12 := iz_ib (by omega)
    have f : ∀ y : Nat, iz ((720 * r : Nat) : Int) + iz (y : Int) = iz ((720 * r + y : Nat) : Int) := fun y => iz_add _ _
    have f0 : iz ((720 * r : Nat) : Int) + (0 : Int32) = iz ((720 * r : Nat) : Int) := Int32.add_zero _
    have f1 : iz ((720 * r : Nat) : Int) + (1 : Int32) = iz ((720 * r + 1 : Nat) : Int) := f 1
    have f2 : iz ((720 * r : Nat) : Int) + (2 : Int32) = iz ((720 * r + 2 : Nat) : Int) := f 2
    have f4 : iz ((720 * r : Nat) : Int) + (4 : Int32) = iz ((720 * r + 4 : Nat) : Int) := f 4
    have f9 : iz ((720 * r : Nat) : Int) + (9 : Int32) = iz ((720 * r + 9 : Nat) : Int) := f 9
    have f10 : iz ((720 * r : Nat) : Int) + (10 : Int32) = iz ((720 * r + 10 : Nat) : Int) := f 10
    rw [F_X10_lay_10_s, if_pos (show (720 : Int32) ≤ iz ((720 : Nat) : Int) from Int32.le_refl _), f0, f1, f2, f4, f9, f10, if_pos qi, if_pos (ibr (720 * r) (by omega)), bd_eq, if_pos qi, if_pos (ibr (720 * r + 1) (by omega)), bd_eq, if_pos qi, if_pos (ibr (720 * r + 2) (by omega)), bd_eq, if_pos (ibr (720 * r + 4) (by omega)), bd_eq, if_pos li, if_pos (ibr (720 * r + 9) (by omega)), bd_eq, if_pos (ibr (720 * r + 10) (by omega)), bd_eq, r_510_39, r_510_6, r_510_7, r_510_8, r_510_13, tnn _ q rfl (by omega), tnn _ lw rfl (by omega), tnn _ (720 * r) rfl (by omega), tnn _ (720 * r + 1) rfl (by omega), tnn _ (720 * r + 2) rfl (by omega), tnn _ (720 * r + 4) rfl (by omega), tnn _ (720 * r + 9) rfl (by omega), tnn _ (720 * r + 10) rfl (by omega)]
    rfl
  | succ p ih =>
    intro i k m hp hk
    obtain ⟨k, rfl⟩ : ∃ j, k = j + 1 := ⟨k - 1, by omega⟩
    have a1 : iz (i : Int) + (1 : Int32) = iz ((i + 1 : Nat) : Int) := iz_add i 1
    have l720 : (720 : Int32) = iz 720 := rfl
    have e1 : iz ((720 * r : Nat) : Int) + iz (i : Int) = iz ((720 * r + i : Nat) : Int) := iz_add _ _
    obtain ⟨e, u1, u2, u3, u4⟩ := ih (i + 1) k (si m 531 (720 * r + i) 0) (by omega) (by omega)
    refine ⟨e, ?_, fun x y h => ?_, u3, fun j h1 h2 => ?_⟩
    · rw [F_X10_lay_10_s, if_neg (show ¬ (720 : Int32) ≤ iz (i : Int) by rw [l720]; exact iz_nle (by omega)), e1, a1, if_pos (ibr (720 * r + i) (by omega)), bd_eq, r_510_39, tnn _ (720 * r + i) rfl (by omega)]
      exact u1
    · rw [u2 x y (by omega), gi_si_if, if_neg (by omega)]
    · by_cases z : j = i
      · subst z
        rw [u2 531 _ (by omega), gi_si_if, if_pos ⟨rfl, rfl⟩]
      · exact u4 j (by omega) h2
