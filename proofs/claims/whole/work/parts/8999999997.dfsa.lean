/-! two: the reference's rows -/
theorem SR_row {c m e : DY} {w r r' L W : Nat} (h : SR c m w r L W) (hr' : r' < 14) (h2 : ∀ i : Nat, i < 720 → gi e 531 (720 * r' + i) = gi m 531 (720 * r + i)) (h45 : gi e 510 45 = 1) : SR c e w r' L W := by
  obtain ⟨hG, hw, r14, hR, _, hA⟩ := h
  obtain ⟨_, _, _, _, d5⟩ := cv_dj hG
  refine ⟨hG, hw, hr', ?_, h45, hA⟩
  have idc : ∀ x k : Nat, x < 510 → gi (mixD c (si e 531 (720 * r' + 5) (gi c w 4))) x k = gi (mixD c (si m 531 (720 * r + 5) (gi c w 4))) x k := fun x k q => by rw [mix_c _ _ _ _ q, mix_c _ _ _ _ q]
  have hp9 : ∀ p ∈ pC, p.1 ≤ 9 := by decide
  have hp6 : ∀ p ∈ lC, p.1 ≤ 6 := by decide
  have hwb : ∀ p ∈ wH, p.1 ≤ 11 := by decide
  refine RRx_gen hR ⟨fun y hy => idc _ _ (by omega), fun p hp k hk => idc _ _ (by have := hp9 p hp; omega)⟩ ⟨fun y hy => idc _ _ (by omega), fun p hp k hk => idc _ _ (by have := hp6 p hp; omega)⟩ ⟨fun y hy => idc _ _ (by omega), fun p hp k hk => idc _ _ (by have := hwb p hp; omega)⟩ (fun i hi _ h5 => ?_) ?_ ?_
  · rw [mix_m _ _ _ _ (by omega), mix_m _ _ _ _ (by omega), gi_si_if, if_neg (by omega), gi_si_if, if_neg (by omega)]
    exact h2 i hi
  · have := hR.2.2.2.2.2.2.1.2.1
    rw [mix_c _ _ _ _ (by omega), mix_m _ _ _ _ (by omega), gi_si_if, if_neg (by omega)] at this
    rw [mix_c _ _ _ _ (by omega), mix_m _ _ _ _ (by omega), gi_si_if, if_neg (by omega), h2 4 (by omega)]
    exact this
  · rw [mix_c _ _ _ _ (by omega), mix_m _ _ _ _ (by omega), gi_si_if, if_pos ⟨rfl, rfl⟩]
theorem m_over (N r : Nat) (hr : r + 1 < 14) : ∀ (q i k : Nat) (m : DY), i + q = 720 → q < k → ∃ m' : DY, F_X10_layOver_2 Z0.1 N k 510 (iz r) (iz ((r + 1 : Nat) : Int)) (iz i) m = some m' ∧ (∀ j : Nat, i ≤ j → j < 720 → gi m' 531 (720 * (r + 1) + j) = gi m 531 (720 * r + j)) ∧ (∀ x y : Nat, ¬ (x = 531 ∧ 720 * (r + 1) + i ≤ y ∧ y < 720 * (r + 1) + 720) → gi m' x y = gi m x y) ∧ ∀ x y : Nat, gl m' x y = gl m x y := by
  intro q
  induction q with
  | zero =>
    intro i k m hq hk
    obtain ⟨k, rfl⟩ : ∃ j, k = j + 1 := ⟨k - 1, by omega⟩
    obtain rfl : i = 720 := by omega
    exact ⟨m, by rw [F_X10_layOver_2_s, if_pos (by decide)], fun j h1 h2 => by omega, fun _ _ _ => rfl, fun _ _ => rfl⟩
  | succ q ih =>
    intro i k m hq hk
    obtain ⟨k, rfl⟩ : ∃ j, k = j + 1 := ⟨k - 1, by omega⟩
    obtain ⟨m', e1, e2, e3, e4⟩ := ih (i + 1) k (si m 531 (720 * (r + 1) + i) (gi m 531 (720 * r + i))) (by omega) (by omega)
    refine ⟨m', ?_, fun j h1 h2 => ?_, fun x y h => ?_, fun x y => e4 x y⟩
    · rw [F_X10_layOver_2_s, if_neg (show ¬ (720 : Int32) ≤ iz (i : Int) from iz_nle (a := 720) (by omega)), m_row, m_row, if_pos (ibr (720 * r + i) (by omega)), if_pos (ibr (720 * (r + 1) + i) (by omega)), bd_eq, r_510_39, tnn _ (720 * r + i) rfl (by omega), tnn _ (720 * (r + 1) + i) rfl (by omega), show iz (i : Int) + (1 : Int32) = iz ((i + 1 : Nat) : Int) from iz_add i 1]
      exact e1
    · by_cases z : j = i
      · rw [z, e3 531 _ (by omega), gi_si_if, if_pos ⟨rfl, rfl⟩]
      · rw [e2 j (by omega) h2, gi_si_if, if_neg (by omega)]
    · rw [e3 x y (by omega), gi_si_if, if_neg (by omega)]
theorem KQ_self (lg w : Nat) (c' : DY) : KQ lg c' c' w w := ⟨fun _ _ _ _ => rfl, rfl, fun _ _ _ _ => ⟨rfl, rfl⟩, fun _ _ => rfl, Or.inl fun _ _ => rfl⟩
theorem p4U (p a b : Nat) (hp : p ≤ 65536) (ha : a ≤ 1) (hb : b ≤ 1) : iz (p : Int) * (4 : Int32) / iz ((2 ^ (a + b) : Nat) : Int) = iz ((p * (4 / 2 ^ (a + b)) : Nat) : Int) := by
  have e : iz (p : Int) * (4 : Int32) = iz ((p * 4 : Nat) : Int) := iz_mul p 4
  rw [e]
  have D : ∀ (x u : Nat), x ≤ 262144 → 1 ≤ u → u ≤ 4 → iz (x : Int) / iz (u : Int) = iz ((x / u : Nat) : Int) := fun x u hx hu1 hu4 => by
    apply Int32.toInt_inj.mp
    have q1 : x / u ≤ x := Nat.div_le_self x u
    have t : (x : Int).tdiv (u : Int) = ((x / u : Nat) : Int) := Int.ofNat_tdiv x u
    generalize x / u = y at q1 t ⊢
    rw [Int32.toInt_div, iz_toInt (by omega) (by omega), iz_toInt (by omega) (by omega), iz_toInt (by omega) (by omega), t]
    exact Int.bmod_eq_of_le (by omega) (by omega)
  have A : a = 0 ∨ a = 1 := by omega
  have B : b = 0 ∨ b = 1 := by omega
  rcases A with rfl | rfl <;> rcases B with rfl | rfl
  · rw [D (p * 4) (2 ^ (0 + 0)) (by omega) (by decide) (by decide)]
    exact congrArg iz (by omega)
  · rw [D (p * 4) (2 ^ (0 + 1)) (by omega) (by decide) (by decide)]
    exact congrArg iz (by omega)
  · rw [D (p * 4) (2 ^ (1 + 0)) (by omega) (by decide) (by decide)]
    exact congrArg iz (by omega)
  · rw [D (p * 4) (2 ^ (1 + 1)) (by omega) (by decide) (by decide)]
    exact congrArg iz (by omega)
