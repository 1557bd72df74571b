/-! THE MATHS: class and reference answer alike on every script -/
theorem maths (L : Nat) (hL : L ≤ 3584) (xs : Nat → Int32) : ∃ dyE : DY, F_law_18 Z0.1 4000 L xs 4000 1 510 0 Z0.2 = some dyE := sorry
