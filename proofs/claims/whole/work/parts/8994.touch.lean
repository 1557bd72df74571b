/-! touch: what both sides look at -/
theorem CV_cells {d e : DY} {g l w L W n : Nat} (h : CV d g l w L W n) (hc : ∀ x k : Nat, x < 510 → gi e x k = gi d x k) : CV e g l w L W n := by
  obtain ⟨hG, h2, h3, h4, h5, h6⟩ := h
  obtain ⟨_, _, d3, d4, d5⟩ := cv_dj hG
  have hx : ∀ t i : Nat, cx e w t i = cx d w t i := fun t i => by
    unfold cx
    rw [hc _ _ (by omega)]
  have hy : ∀ t i : Nat, cy e w t i = cy d w t i := fun t i => by
    unfold cy
    rw [hc _ _ (by omega)]
  have g0 : ∀ x i : Nat, x ≤ 9 → gi e (g + x) i = gi d (g + x) i := fun x i hx => hc _ _ (by omega)
  refine ⟨hG, h2, ?_, fun i hi => ?_, fun t i ht hi => ?_, fun i hi => ?_⟩
  · rw [hc g 0 (by omega), hc g 1 (by omega), hc g 3 (by omega)]
    exact h3
  · rw [g0 1 i (by omega)]
    exact h4 i hi
  · rw [hx, hy, hc (w + 1) _ (by omega), hc (w + 2) _ (by omega)]
    exact h5 t i ht hi
  · have := h6 i hi
    rw [g0 4 i (by omega), g0 5 i (by omega), g0 6 i (by omega), g0 7 i (by omega), g0 8 i (by omega), hc (w + 7) i (by omega)]
    exact this
theorem sq_one (a b : Int) : a * a + b * b = 1 ↔ a.natAbs + b.natAbs = 1 := by
  have nn : ∀ x y : Nat, x * x + y * y = 1 ↔ x + y = 1 := by
    intro x y
    have big : ∀ z : Nat, 4 ≤ (z + 1 + 1) * (z + 1 + 1) := fun z => Nat.mul_le_mul (show 2 ≤ z + 1 + 1 by omega) (show 2 ≤ z + 1 + 1 by omega)
    rcases x with _ | _ | x
    · rcases y with _ | _ | y
      · decide
      · decide
      · have := big y
        generalize (y + 1 + 1) * (y + 1 + 1) = v at this ⊢
        constructor <;> intro h <;> omega
    · rcases y with _ | _ | y
      · decide
      · decide
      · have := big y
        generalize (y + 1 + 1) * (y + 1 + 1) = v at this ⊢
        constructor <;> intro h <;> omega
    · have := big x
      generalize (x + 1 + 1) * (x + 1 + 1) = v at this ⊢
      generalize y * y = u
      constructor <;> intro h <;> omega
  have e1 : a * a = ((a.natAbs * a.natAbs : Nat) : Int) := (Int.natAbs_mul_self).symm
  have e2 : b * b = ((b.natAbs * b.natAbs : Nat) : Int) := (Int.natAbs_mul_self).symm
  rw [e1, e2]
  have := nn a.natAbs b.natAbs
  constructor
  · intro h
    exact this.mp (by omega)
  · intro h
    have := this.mpr h
    omega
theorem abI_nat {z : Int} (h : -1000 < z ∧ z < 1000) : abI (iz z) = iz (z.natAbs : Nat) := by
  unfold abI
  by_cases q : 0 ≤ z
  · rw [if_pos (show (0 : Int32) ≤ iz z by rw [l_0]; exact iz_lei (by omega))]
    exact congrArg iz (by omega)
  · rw [if_neg (show ¬ (0 : Int32) ≤ iz z by rw [l_0]; exact iz_nle (by omega)), l_0, iz_sub]
    exact congrArg iz (by omega)
