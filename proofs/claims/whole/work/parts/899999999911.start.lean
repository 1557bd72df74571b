/-! the start -/
theorem z2_tape : ∀ i : Fin 500, gi Z0.2 3 i.1 = 0 ∧ gi Z0.2 511 i.1 = 0 := by decide +kernel
theorem z2_one : (gi Z0.2 2 1 = 0 ∧ gi Z0.2 512 0 = 0) ∧ gi Z0.2 2 2 = gi Z0.2 513 0 ∧ gi Z0.2 2 3 = gi Z0.2 514 0 ∧ (gi Z0.2 2 5 = 0 ∧ gi Z0.2 515 0 = 0) ∧ (gi Z0.2 2 7 = 0 ∧ gi Z0.2 522 0 = 0) ∧ gi Z0.2 2 11 = 0 ∧ gi Z0.2 531 10 = 0 := by decide +kernel
theorem z2_film : ∀ i : Fin 48, (i.1 < 8 → gi Z0.2 36 i.1 = 0 ∧ gi Z0.2 525 i.1 = 0) ∧ gi Z0.2 37 i.1 = gi Z0.2 526 i.1 ∧ gi Z0.2 38 i.1 = gi Z0.2 527 i.1 ∧ gi Z0.2 37 i.1 ≠ -1 := by decide +kernel
theorem z2_pas : ∀ k : Fin 3, (gi Z0.2 (41 + 17 * k.1) 0 = 0 ∧ gi Z0.2 (41 + 17 * k.1) 1 = 0 ∧ gi Z0.2 (41 + 17 * k.1) 2 = 0 ∧ gi Z0.2 (41 + 17 * k.1) 3 = 0) ∧ (gi Z0.2 516 k.1 = 0 ∧ gi Z0.2 517 k.1 = 0 ∧ gi Z0.2 518 k.1 = 0 ∧ gi Z0.2 519 k.1 = 0) ∧ gi Z0.2 (51 + 17 * k.1) 0 = 0 ∧ gi Z0.2 523 k.1 = 0 ∧ gi Z0.2 93 k.1 = 0 ∧ gi Z0.2 546 k.1 = 0 := by decide +kernel
theorem z2_wall : ∀ (k : Fin 3) (i : Fin 96), gi Z0.2 (41 + 17 * k.1 + 1) i.1 = 0 ∧ gi Z0.2 520 (96 * k.1 + i.1) = 0 := by decide +kernel
theorem inv_start : Inv Z0.2 := by
  obtain ⟨⟨a1, a2⟩, a3, a4, ⟨a5, a6⟩, ⟨a7, a8⟩, a9, a10⟩ := z2_one
  refine ⟨⟨⟨?_, ?_, ?_, fun i hi => ?_⟩, fun i hi => ?_, ⟨a3, a4⟩, ⟨?_, ?_⟩, ⟨0, 0, a5, by omega, a7, by omega⟩, ⟨fun i hi => ?_, fun i hi => ?_⟩, fun i hi => ?_, fun k hk => ?_, fun k hk => ?_, ?_, Or.inl a9, fun y hy => ?_⟩, fun k hk => ?_⟩
  · rw [a1, a2]
  · rw [a1]; decide
  · rw [a1]; decide
  · obtain ⟨b1, b2⟩ := z2_tape ⟨i, hi⟩
    rw [show 500 * 0 + i = i by omega]
    exact b1.trans b2.symm
  · obtain ⟨_, b2⟩ := z2_tape ⟨i, hi⟩
    rw [show 500 * 0 + i = i by omega, show gi Z0.2 511 i = 0 from b2]
    decide
  · rw [a5, a6]
  · rw [a7, a8]
  · obtain ⟨b1, b2⟩ := (z2_film ⟨i, by omega⟩).1 hi
    rw [show 8 * 0 + i = i by omega]
    exact b1.trans b2.symm
  · obtain ⟨_, b1, b2, _⟩ := z2_film ⟨i, hi⟩
    rw [show 48 * 0 + i = i by omega]
    exact ⟨b1, b2⟩
  · obtain ⟨b1, _⟩ := (z2_film ⟨i, by omega⟩).1 hi
    exact ⟨0, b1, by omega⟩
  · obtain ⟨⟨b0, b1, b2, b3⟩, ⟨d0, d1, d2, d3⟩, _⟩ := z2_pas ⟨k, hk⟩
    rw [show 2 + 39 + 17 * k = 41 + 17 * k by omega, show 3 * 0 + k = k by omega]
    refine ⟨0, 0, 0, by omega, ⟨b0, d0⟩, ⟨b1, d1⟩, b2.trans d3.symm, ⟨b3, d2⟩, fun i hi => ?_, fun i hi => by omega, fun i j hi => by omega, fun x y hx hy q => ?_⟩
    · obtain ⟨w1, w2⟩ := z2_wall ⟨k, hk⟩ ⟨i, hi⟩
      exact ⟨w1.trans w2.symm, Or.inl w1⟩
    · exact absurd (z2_wall ⟨k, hk⟩ ⟨6 * x + y, by omega⟩).1 q
  · obtain ⟨_, _, b0, b1, _⟩ := z2_pas ⟨k, hk⟩
    rw [show 2 + 49 + 17 * k = 51 + 17 * k by omega, show 3 * 0 + k = k by omega]
    exact ⟨0, by omega, b0, b1, fun r hr => by omega⟩
  · rw [show 720 * 0 + 10 = 10 by omega, a9, a10]
  · exact (z2_film ⟨y, hy⟩).2.2.2
  · obtain ⟨_, _, _, _, b0, b1⟩ := z2_pas ⟨k, hk⟩
    exact ⟨b0.trans b1.symm, Or.inl b0⟩
