/-! the small methods of the face -/
theorem tn_lit (n : Nat) (h : n < 2147483648) : (OfNat.ofNat n : Int32).toNatClampNeg = n := by
  rw [iz_lit, iz_tn (by omega) (by omega)]
  rfl
theorem tn_0 : (0 : Int32).toNatClampNeg = 0 := rfl
theorem ib_0_4 : ib (0 : Int32) 4 := by decide
theorem c_fault (N : Nat) (x : Int32) (dy : DY) : F_X9_fault Z0.1 N 1 x dy = some (if x = 0 then gi dy 2 2 else if x = 1 then gi dy 2 3 else -1, dy) := by
  rw [F_X9_fault_s, r_1_0]
  by_cases h0 : x = 0
  · rw [if_pos h0, if_pos h0]
  · rw [if_neg h0, if_neg h0]
    by_cases h1 : x = 1
    · rw [if_pos h1, if_pos h1]
    · rw [if_neg h1, if_neg h1]
theorem m_fault (N : Nat) (x : Int32) (dy : DY) : F_X10_fault Z0.1 N 510 x dy = some (if x = 0 then gi dy 513 0 else if x = 1 then gi dy 514 0 else -1, si dy 510 0 0) := by
  rw [F_X10_fault_s, bd_eq, if_pos ib_0_4, if_pos ib_0_4, r_510_3, r_510_4, tn_0]
  by_cases h0 : x = 0
  · rw [if_pos h0, if_pos h0]; rfl
  · rw [if_neg h0, if_neg h0]
    by_cases h1 : x = 1
    · rw [if_pos h1, if_pos h1]; rfl
    · rw [if_neg h1, if_neg h1]
theorem c_end (N : Nat) (x : Int32) (dy : DY) : F_X9_end Z0.1 N 1 x dy = some (if x < 0 then (-1, dy) else if x ≤ gi dy 2 1 then (x, si dy 2 1 x) else (-1, dy)) := by
  rw [F_X9_end_s, r_1_0]
  by_cases h0 : x < 0
  · rw [if_pos h0, if_pos h0]
  · rw [if_neg h0, if_neg h0]
    by_cases h1 : x ≤ gi dy 2 1
    · rw [if_pos h1, if_pos h1]; rfl
    · rw [if_neg h1, if_neg h1]
theorem m_in (S : ST) (N : Nat) (x a b : Int32) (dy : DY) : F_X10_in S N x a b dy = some (if x < a then 0 else if b < x then 0 else 1, dy) := by
  rw [F_X10_in_s]
  by_cases h0 : x < a
  · rw [if_pos h0, if_pos h0]
  · rw [if_neg h0, if_neg h0]
    by_cases h1 : b < x
    · rw [if_pos h1, if_pos h1]
    · rw [if_neg h1, if_neg h1]
theorem i32_nlt {a b : Int32} : ¬ a < b ↔ b ≤ a := Int32.not_lt
theorem m_end (N : Nat) (x : Int32) (dy : DY) : F_X10_end Z0.1 N 510 x dy = some (if x < 0 then (-1, si dy 510 0 0) else if x ≤ gi dy 512 0 then (x, si (si dy 510 0 0) 512 0 x) else (-1, si dy 510 0 0)) := by
  rw [F_X10_end_s, bd_eq, if_pos ib_0_4, m_in, sb_eq, r_510_2, tn_0]
  have e : gi (si dy 510 0 0) 512 0 = gi dy 512 0 := rfl
  by_cases h0 : x < 0
  · simp [h0]
  · by_cases h1 : x ≤ gi dy 512 0
    · have h2 : ¬ gi dy 512 0 < x := Int32.not_lt.mpr h1
      simp [h0, h1, h2, e, bd_eq]
    · have h2 : gi dy 512 0 < x := Int32.not_le.mp h1
      simp [h0, h1, h2, e]
/-- the tape of a Told and of the reference's slot -/
def tapeR (dy : DY) (t j : Nat) : Prop := gi dy t 1 = gi dy 512 j ∧ 0 ≤ (gi dy t 1).toInt ∧ (gi dy t 1).toInt ≤ 500 ∧ ∀ i : Nat, i < 500 → gi dy (t + 1) i = gi dy 511 (500 * j + i)
theorem eq_end (N : Nat) (x : Int32) (dy : DY) (h : tapeR dy 2 0) : ∃ r dy1 dy2, F_X9_end Z0.1 N 1 x dy = some (r, dy1) ∧ F_X10_end Z0.1 N 510 x dy1 = some (r, dy2) ∧ tapeR dy2 2 0 := by
  obtain ⟨h1, h2, h3, h4⟩ := h
  rw [c_end]
  by_cases c0 : x < 0
  · rw [if_pos c0]
    refine ⟨_, _, si dy 510 0 0, rfl, ?_, ?_⟩
    · rw [m_end, if_pos c0]
    · exact ⟨h1, h2, h3, h4⟩
  · rw [if_neg c0]
    by_cases c1 : x ≤ gi dy 2 1
    · rw [if_pos c1]
      have e : gi (si dy 2 1 x) 512 0 = gi dy 512 0 := rfl
      refine ⟨_, _, si (si (si dy 2 1 x) 510 0 0) 512 0 x, rfl, ?_, ?_⟩
      · rw [m_end, if_neg c0, e, ← h1, if_pos c1]
      · have b1 := Int32.le_iff_toInt_le.mp c1
        have b2 := Int32.le_iff_toInt_le.mp (Int32.not_lt.mp c0)
        simp only [Int32.toInt_zero] at b2
        refine ⟨rfl, b2, ?_, h4⟩
        show x.toInt ≤ 500
        omega
    · rw [if_neg c1]
      refine ⟨_, _, si dy 510 0 0, rfl, ?_, ?_⟩
      · rw [m_end, if_neg c0, ← h1, if_neg c1]
      · exact ⟨h1, h2, h3, h4⟩
