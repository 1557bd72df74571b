/-! THE MATHS: class and reference answer alike on every script -/
theorem maths (L : Nat) (hL : L ≤ 3584) (xs : Nat → Int32) : ∃ dyE : DY, F_law_18 Z0.1 400000 L xs 400000 1 510 0 Z0.2 = some dyE :=
  law_loop 400000 L xs (by omega) hL 400000 0 Z0.2 (by omega) (by omega) (by omega) inv_start
