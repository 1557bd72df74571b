/-! fault, count -/
def faultR (dy : DY) (t j : Nat) : Prop := gi dy t 2 = gi dy 513 j ∧ gi dy t 3 = gi dy 514 j
def cntR (dy : DY) (t j : Nat) : Prop := gi dy t 5 = gi dy 515 j ∧ gi dy t 7 = gi dy 522 j
/-- the film's counts and places -/
def filmR (dy : DY) (f j : Nat) : Prop := (∀ x : Nat, x < 8 → gi dy (f + 1) x = gi dy 525 (8 * j + x)) ∧ ∀ x : Nat, x < 48 → gi dy (f + 2) x = gi dy 526 (48 * j + x) ∧ gi dy (f + 3) x = gi dy 527 (48 * j + x)
theorem eq_fault (N : Nat) (x : Int32) (dy : DY) (h : faultR dy 2 0) : ∃ r dy1 dy2, F_X9_fault Z0.1 N 1 x dy = some (r, dy1) ∧ F_X10_fault Z0.1 N 510 x dy1 = some (r, dy2) ∧ ∀ a k, ¬ (a = 510 ∧ k = 0) → gi dy2 a k = gi dy a k := by
  refine ⟨_, _, si dy 510 0 0, c_fault N x dy, ?_, fun a k q => by rw [gi_si_if, if_neg q]⟩
  rw [m_fault, h.1, h.2]
theorem r_2_12 : gr Z0.1 2 12 = 35 := (tb_of 2 (by decide)).2.2.2.2.2.2
theorem r_35_0 : gr Z0.1 35 0 = 36 := (fb_of 35 (by decide)).1
theorem eq_count (N : Nat) (x : Int32) (dy : DY) (h : cntR dy 2 0) (hf : filmR dy 35 0) : ∃ r dy1 dy2, F_X9_count Z0.1 N 1 x dy = some (r, dy1) ∧ F_X10_count Z0.1 N 510 x dy1 = some (r, dy2) ∧ ∀ a k, ¬ (a = 510 ∧ k = 0) → gi dy2 a k = gi dy a k := by
  have fr : ∀ a k, ¬ (a = 510 ∧ k = 0) → gi (si dy 510 0 0) a k = gi dy a k := fun a k q => by rw [gi_si_if, if_neg q]
  rw [F_X9_count_s, r_1_0, r_2_12, r_35_0]
  have hm := F_X10_count_s Z0.1 N 510 x dy
  rw [bd_eq, if_pos ib_0_4, if_pos ib_0_4, r_510_5, r_510_12, tn_0, m_in, sb_eq, r_510_15] at hm
  obtain ⟨z, rfl, z1, z2⟩ := iz_ex x
  by_cases h0 : iz z = 0
  · rw [if_pos h0] at hm ⊢
    exact ⟨_, _, _, rfl, by rw [hm, h.1]; rfl, fr⟩
  · rw [if_neg h0] at hm ⊢
    by_cases h1 : iz z = 1
    · rw [if_pos h1] at hm ⊢
      exact ⟨_, _, _, rfl, by rw [hm, h.2]; rfl, fr⟩
    · rw [if_neg h1] at hm ⊢
      have c2 : iz z < 2 ↔ z < 2 := iz_lt (b := 2) z1 z2 (by omega) (by omega)
      have c9 : 9 < iz z ↔ 9 < z := iz_lt (a := 9) (by omega) (by omega) z1 z2
      have c10 : 10 ≤ iz z ↔ 10 ≤ z := iz_le (a := 10) (by omega) (by omega) z1 z2
      by_cases h2 : z < 2
      · rw [if_pos (c2.mpr h2)] at hm ⊢
        exact ⟨_, _, _, rfl, by rw [hm]; rfl, fr⟩
      · rw [if_neg (fun q => h2 (c2.mp q))] at hm ⊢
        by_cases h9 : 9 < z
        · rw [if_pos (c9.mpr h9)] at hm
          rw [if_pos (c10.mpr (by omega))]
          exact ⟨_, _, _, rfl, by rw [hm]; rfl, fr⟩
        · rw [if_neg (fun q => h9 (c9.mp q))] at hm
          rw [if_neg (fun q => h9 (by have := c10.mp q; omega))]
          have e2 : iz z - 2 = iz (z - 2) := iz_sub z 2
          rw [e2, if_pos ((ib_iz (by omega) (by omega)).mpr ⟨by omega, by omega⟩)] at hm ⊢
          refine ⟨_, _, si dy 510 0 0, rfl, ?_, fr⟩
          rw [hm, iz_tn (by omega) (by omega)]
          have e3 := hf.1 (z - 2).toNat (by omega)
          rw [Nat.mul_zero, Nat.zero_add] at e3
          rw [if_neg (show ¬ ((1 : Int32), si dy 510 0 0).1 = 0 from (by decide : ¬ (1 : Int32) = 0)), e3]
          rfl
