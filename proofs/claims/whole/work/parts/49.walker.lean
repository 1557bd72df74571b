/-! walker -/
/-- the walkers of the passage at b and of the reference's passage q -/
def wksR (dy : DY) (b q n : Nat) : Prop := ∀ w : Nat, w < n → gi dy (b + 2) w = gi dy 521 (8 * (12 * q + w)) ∧ gi dy (b + 3) w = gi dy 521 (8 * (12 * q + w) + 1) ∧ (if gi dy (b + 4) w ≤ 0 then 0 else 1) = gi dy 521 (8 * (12 * q + w) + 2) ∧ gi dy (b + 5) w = gi dy 521 (8 * (12 * q + w) + 3) ∧ gi dy (b + 6) w = gi dy 521 (8 * (12 * q + w) + 4) ∧ gi dy (b + 7) w = gi dy 521 (8 * (12 * q + w) + 5) ∧ gi dy (b + 8) w = gi dy 521 (8 * (12 * q + w) + 6) ∧ gi dy (b + 9) w = gi dy 521 (8 * (12 * q + w) + 7)
theorem c_has (S : ST) (N b : Nat) (x : Int) (n : Nat) (dy : DY) (x1 : -2147483648 ≤ x) (x2 : x < 2147483648) (hn : gi dy b 3 = iz n) (h12 : n ≤ 12) : F_X4_has S N b (iz x) dy = some (if 0 ≤ x ∧ x < n then 1 else 0, dy) := by
  have k0 : iz x < 0 ↔ x < 0 := iz_lt (b := 0) x1 x2 (by omega) (by omega)
  have kp : iz n ≤ iz x ↔ (n : Int) ≤ x := iz_le (by omega) (by omega) x1 x2
  rw [F_X4_has_s, hn]
  by_cases ok : 0 ≤ x ∧ x < n
  · rw [if_pos ok, if_neg (fun q => by have := k0.mp q; omega), if_neg (fun q => by have := kp.mp q; omega)]
  · rw [if_neg ok]
    by_cases h0 : x < 0
    · rw [if_pos (k0.mpr h0)]
    · rw [if_neg (fun q => h0 (k0.mp q)), if_pos (kp.mpr (by omega))]
theorem m_inz (S : ST) (N : Nat) (x a b : Int) (dy : DY) (x1 : -2147483648 ≤ x) (x2 : x < 2147483648) (a1 : -2147483648 ≤ a) (a2 : a < 2147483648) (b1 : -2147483648 ≤ b) (b2 : b < 2147483648) : F_X10_in S N (iz x) (iz a) (iz b) dy = some (if a ≤ x ∧ x ≤ b then 1 else 0, dy) := by
  have k0 : iz x < iz a ↔ x < a := iz_lt x1 x2 a1 a2
  have kp : iz b < iz x ↔ b < x := iz_lt b1 b2 x1 x2
  rw [m_in]
  by_cases ok : a ≤ x ∧ x ≤ b
  · rw [if_pos ok, if_neg (fun q => by have := k0.mp q; omega), if_neg (fun q => by have := kp.mp q; omega)]
  · rw [if_neg ok]
    by_cases h0 : x < a
    · rw [if_pos (k0.mpr h0)]
    · rw [if_neg (fun q => h0 (k0.mp q)), if_pos (kp.mpr (by omega))]
theorem m_in0 (S : ST) (N : Nat) (x b : Int) (dy : DY) (x1 : -2147483648 ≤ x) (x2 : x < 2147483648) (b1 : -2147483648 ≤ b) (b2 : b < 2147483648) : F_X10_in S N (iz x) 0 (iz b) dy = some (if 0 ≤ x ∧ x ≤ b then 1 else 0, dy) := m_inz S N x 0 b dy x1 x2 (by omega) (by omega) b1 b2
theorem m_in07 (S : ST) (N : Nat) (x : Int) (dy : DY) (x1 : -2147483648 ≤ x) (x2 : x < 2147483648) : F_X10_in S N (iz x) 0 7 dy = some (if 0 ≤ x ∧ x ≤ 7 then 1 else 0, dy) := m_inz S N x 0 7 dy x1 x2 (by omega) (by omega) (by omega) (by omega)
theorem eq_walker (N : Nat) (x w y : Int32) (dy : DY) (hc : cntR dy 2 0) (ho : cntOk dy 2) (hl : ∀ k : Nat, k < 3 → gi dy (41 + 17 * k) 3 = gi dy 518 k ∧ ∃ n : Nat, gi dy (41 + 17 * k) 3 = iz n ∧ n ≤ 12 ∧ wksR dy (41 + 17 * k) k n) : ∃ r dy1 dy2, F_X9_walker Z0.1 N 1 x w y dy = some (r, dy1) ∧ F_X10_walker Z0.1 N 510 x w y dy1 = some (r, dy2) ∧ ∀ a k : Nat, ¬ (a = 510 ∧ k = 0) → gi dy2 a k = gi dy a k := by
  have fr : ∀ a k : Nat, ¬ (a = 510 ∧ k = 0) → gi (si dy 510 0 0) a k = gi dy a k := fun a k q => by rw [gi_si_if, if_neg q]
  obtain ⟨p, l, e1, p3, e2, l3⟩ := ho
  obtain ⟨z, rfl, z1, z2⟩ := iz_ex x
  obtain ⟨v, rfl, v1, v2⟩ := iz_ex w
  obtain ⟨u, rfl, u1, u2⟩ := iz_ex y
  have e3 : gi (si dy 510 0 0) 515 0 = iz p := by
    show gi dy 515 0 = iz p
    rw [← hc.1, e1]
  have hm := F_X10_walker_s Z0.1 N 510 (iz z) (iz v) (iz u) dy
  rw [bd_eq, m_isPas N z p _ z1 z2 e3 p3, sb_eq, r_510_8, r_510_11] at hm
  have hk := F_X9_walker_s Z0.1 N 1 (iz z) (iz v) (iz u) dy
  rw [r_1_0, c_pas N z p dy z1 z2 e1 p3, sb_eq] at hk
  unfold pasOf at hk
  have n1 : ¬ (1 : Int32) = 0 := by decide
  by_cases ok : 0 ≤ z ∧ z < p
  · rw [if_pos ok] at hk hm
    obtain ⟨k, rfl⟩ : ∃ k : Nat, z = k := ⟨z.toNat, by omega⟩
    have hk3 : k < 3 := by omega
    have tk : (iz (k : Int)).toNatClampNeg = k := by rw [iz_tn z1 z2]; rfl
    have ib1 : ib (iz (k : Int)) 12 := (ib_iz z1 z2).mpr ⟨by omega, by omega⟩
    obtain ⟨q0, n, q1, n12, q2⟩ := hl k hk3
    obtain ⟨g1, g2, g3, g4, g5, g6, g7, g8, g9⟩ := pb_of _ (pb_41 k hk3)
    rw [Int.toNat_natCast] at hk
    rw [if_neg (by omega : ¬ 41 + 17 * k = 0), if_pos (pb_s _ (pb_41 k hk3)), c_has Z0.1 N _ v n dy v1 v2 q1 n12, sb_eq, g2, g3, g4, g5, g6, g7, g8, g9] at hk
    have e4 : gi (si dy 510 0 0) 518 k - 1 = iz ((n : Int) - 1) := by
      show gi dy 518 k - 1 = _
      rw [← q0, q1]
      exact iz_sub n 1
    rw [if_neg n1, if_pos ib1, tk] at hm
    rw [e4, m_in0 Z0.1 N v ((n : Int) - 1) _ v1 v2 (by omega) (by omega), sb_eq] at hm
    by_cases okv : 0 ≤ v ∧ v < n
    · obtain ⟨a, rfl⟩ : ∃ a : Nat, v = a := ⟨v.toNat, by omega⟩
      have ta : (iz (a : Int)).toNatClampNeg = a := by rw [iz_tn v1 v2]; rfl
      have ib2 : ib (iz (a : Int)) 12 := (ib_iz v1 v2).mpr ⟨by omega, by omega⟩
      obtain ⟨f0, f1, f2, f3, f4, f5, f6, f7⟩ := q2 a (by omega)
      rw [if_pos okv, if_neg n1, ta] at hk
      rw [if_pos (by omega : (0 : Int) ≤ a ∧ (a : Int) ≤ (n : Int) - 1), if_neg n1, m_in07 Z0.1 N u _ u1 u2, sb_eq] at hm
      by_cases oku : 0 ≤ u ∧ u ≤ 7
      · have m : (8 : Int32) * ((12 : Int32) * iz (k : Int) + iz (a : Int)) + iz u = iz ((8 * (12 * k + a) : Nat) + u) := by
          rw [show (8 : Int32) = iz 8 from rfl, show (12 : Int32) = iz 12 from rfl, iz_mul, iz_add, iz_mul, iz_add]
          congr 1
        rw [if_pos oku, if_neg n1, m, if_pos ((ib_iz (by omega) (by omega)).mpr ⟨by omega, by omega⟩), iz_tn (by omega) (by omega)] at hm
        have hu : u = 0 ∨ u = 1 ∨ u = 2 ∨ u = 3 ∨ u = 4 ∨ u = 5 ∨ u = 6 ∨ u = 7 := by omega
        rcases hu with rfl | rfl | rfl | rfl | rfl | rfl | rfl | rfl
        · rw [if_pos (by decide), if_pos ib2] at hk
          exact ⟨_, _, si dy 510 0 0, hk, hm.trans (by rw [f0]; rfl), fr⟩
        · rw [if_neg (by decide), if_pos (by decide), if_pos ib2] at hk
          exact ⟨_, _, si dy 510 0 0, hk, hm.trans (by rw [f1]; rfl), fr⟩
        · rw [if_neg (by decide), if_neg (by decide), if_pos (by decide), if_pos ib2] at hk
          by_cases s0 : gi dy (41 + 17 * k + 4) a ≤ 0
          · rw [if_pos s0] at hk f2
            exact ⟨_, _, si dy 510 0 0, hk, hm.trans (congrArg some (Prod.ext (show gi dy 521 (8 * (12 * k + a) + 2) = 0 from f2.symm) rfl)), fr⟩
          · rw [if_neg s0] at hk f2
            exact ⟨_, _, si dy 510 0 0, hk, hm.trans (congrArg some (Prod.ext (show gi dy 521 (8 * (12 * k + a) + 2) = 1 from f2.symm) rfl)), fr⟩
        · rw [if_neg (by decide), if_neg (by decide), if_neg (by decide), if_pos (by decide), if_pos ib2] at hk
          exact ⟨_, _, si dy 510 0 0, hk, hm.trans (by rw [f3]; rfl), fr⟩
        · rw [if_neg (by decide), if_neg (by decide), if_neg (by decide), if_neg (by decide), if_pos (by decide), if_pos ib2] at hk
          exact ⟨_, _, si dy 510 0 0, hk, hm.trans (by rw [f4]; rfl), fr⟩
        · rw [if_neg (by decide), if_neg (by decide), if_neg (by decide), if_neg (by decide), if_neg (by decide), if_pos (by decide), if_pos ib2] at hk
          exact ⟨_, _, si dy 510 0 0, hk, hm.trans (by rw [f5]; rfl), fr⟩
        · rw [if_neg (by decide), if_neg (by decide), if_neg (by decide), if_neg (by decide), if_neg (by decide), if_neg (by decide), if_pos (by decide), if_pos ib2] at hk
          exact ⟨_, _, si dy 510 0 0, hk, hm.trans (by rw [f6]; rfl), fr⟩
        · rw [if_neg (by decide), if_neg (by decide), if_neg (by decide), if_neg (by decide), if_neg (by decide), if_neg (by decide), if_neg (by decide), if_pos (by decide), if_pos ib2] at hk
          exact ⟨_, _, si dy 510 0 0, hk, hm.trans (by rw [f7]; rfl), fr⟩
      · have hq : ∀ c : Int, 0 ≤ c → c ≤ 7 → ¬ iz u = iz c := fun c c0 c7 q => oku (by rw [iz_inj u1 u2 (by omega) (by omega)] at q; omega)
        rw [if_neg oku, if_pos rfl] at hm
        rw [if_neg (show ¬ iz u = (0 : Int32) from hq 0 (by omega) (by omega)), if_neg (show ¬ iz u = (1 : Int32) from hq 1 (by omega) (by omega)), if_neg (show ¬ iz u = (2 : Int32) from hq 2 (by omega) (by omega)), if_neg (show ¬ iz u = (3 : Int32) from hq 3 (by omega) (by omega)), if_neg (show ¬ iz u = (4 : Int32) from hq 4 (by omega) (by omega)), if_neg (show ¬ iz u = (5 : Int32) from hq 5 (by omega) (by omega)), if_neg (show ¬ iz u = (6 : Int32) from hq 6 (by omega) (by omega)), if_neg (show ¬ iz u = (7 : Int32) from hq 7 (by omega) (by omega))] at hk
        exact ⟨_, _, si dy 510 0 0, hk, hm, fr⟩
    · rw [if_neg okv, if_pos rfl] at hk
      rw [if_neg (by omega : ¬ (0 ≤ v ∧ v ≤ (n : Int) - 1)), if_pos rfl] at hm
      exact ⟨_, _, si dy 510 0 0, hk, hm, fr⟩
  · rw [if_neg ok] at hk hm
    rw [if_pos rfl] at hk hm
    exact ⟨_, _, _, hk, hm, fr⟩
