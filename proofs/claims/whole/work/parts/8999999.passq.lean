/-! passage -/
theorem nr_rng {x : Int32} (h : nr 2 x = x) : -128 ≤ x.toInt ∧ x.toInt ≤ 127 := by
  have e : x.toInt8.toInt32 = x := h
  rw [← e, Int8.toInt_toInt32]
  have a := Int8.le_toInt x.toInt8
  have b := Int8.toInt_lt x.toInt8
  omega
theorem tape_Z {dy : DY} (h : Inv dy) : ∃ (sz : Nat) (Z : Nat → Int), sz ≤ 500 ∧ gi dy 2 1 = iz sz ∧ gi dy 512 0 = iz sz ∧ ∀ i : Nat, i < 500 → gi dy 3 i = iz (Z i) ∧ gi dy 511 i = iz (Z i) ∧ -128 ≤ Z i ∧ Z i ≤ 127 := by
  obtain ⟨⟨g1, g2, g3, g4⟩, g5, _⟩ := h.1
  refine ⟨(gi dy 2 1).toInt.toNat, fun i => (gi dy 3 i).toInt, by omega, ?_, ?_, fun i hi => ?_⟩
  · rw [show (((gi dy 2 1).toInt.toNat : Nat) : Int) = (gi dy 2 1).toInt by omega]
    exact (iz_self _).symm
  · rw [show (((gi dy 2 1).toInt.toNat : Nat) : Int) = (gi dy 2 1).toInt by omega]
    exact g1.symm.trans (iz_self _).symm
  · have a := g4 i hi
    have b := g5 i hi
    rw [show 500 * 0 + i = i by omega] at a b
    rw [show (2 + 1 : Nat) = 3 from rfl] at a
    exact ⟨(iz_self _).symm, by rw [← a]; exact (iz_self _).symm, nr_rng (by rw [a]; exact b)⟩
def mt (x : DY) (s : Int32) : DY := si (si (si (si (si (si x 510 19 s) 512 0 0) 513 0 0) 514 0 (-1)) 510 18 0) 510 25 0
theorem m_tape (N : Nat) (x : DY) (s : Int32) (h : gi x 512 0 = s) : F_X10_takeTape Z0.1 N 510 x = some (mt x s) := by
  have i4 : ib (0 : Int32) 4 := by decide
  have t0 : (0 : Int32).toNatClampNeg = 0 := rfl
  rw [F_X10_takeTape_s, if_pos i4, bd_eq, if_pos i4, bd_eq, if_pos i4, bd_eq, if_pos i4, bd_eq, bd_eq, bd_eq, r_510_2, r_510_3, r_510_4, t0, h]
  rfl
theorem gi_mt (x : DY) (s : Int32) : gi (mt x s) 510 19 = s ∧ gi (mt x s) 512 0 = 0 ∧ gi (mt x s) 513 0 = 0 ∧ gi (mt x s) 514 0 = -1 ∧ gi (mt x s) 510 18 = 0 ∧ gi (mt x s) 510 25 = 0 := by
  unfold mt
  refine ⟨?_, ?_, ?_, ?_, ?_, ?_⟩
  · rw [gi_si_if, if_neg (by omega), gi_si_if, if_neg (by omega), gi_si_if, if_neg (by omega), gi_si_if, if_neg (by omega), gi_si_if, if_neg (by omega), gi_si_if, if_pos ⟨rfl, rfl⟩]
  · rw [gi_si_if, if_neg (by omega), gi_si_if, if_neg (by omega), gi_si_if, if_neg (by omega), gi_si_if, if_neg (by omega), gi_si_if, if_pos ⟨rfl, rfl⟩]
  · rw [gi_si_if, if_neg (by omega), gi_si_if, if_neg (by omega), gi_si_if, if_neg (by omega), gi_si_if, if_pos ⟨rfl, rfl⟩]
  · rw [gi_si_if, if_neg (by omega), gi_si_if, if_neg (by omega), gi_si_if, if_pos ⟨rfl, rfl⟩]
  · rw [gi_si_if, if_neg (by omega), gi_si_if, if_pos ⟨rfl, rfl⟩]
  · rw [gi_si_if, if_pos ⟨rfl, rfl⟩]
theorem gi_mtn (x : DY) (s : Int32) (y k : Nat) (q : ¬ (y = 510 ∧ (k = 18 ∨ k = 19 ∨ k = 25) ∨ (y = 512 ∨ y = 513 ∨ y = 514) ∧ k = 0)) : gi (mt x s) y k = gi x y k := by
  unfold mt
  rw [gi_si_if, if_neg (by omega), gi_si_if, if_neg (by omega), gi_si_if, if_neg (by omega), gi_si_if, if_neg (by omega), gi_si_if, if_neg (by omega), gi_si_if, if_neg (by omega)]
def ct (x : DY) : DY := si (si (si x 2 1 0) 2 2 0) 2 3 (-1)
theorem gi_ct (x : DY) (y k : Nat) (q : ¬ (y = 2 ∧ (k = 1 ∨ k = 2 ∨ k = 3))) : gi (ct x) y k = gi x y k := by
  unfold ct
  rw [gi_si_if, if_neg (by omega), gi_si_if, if_neg (by omega), gi_si_if, if_neg (by omega)]
theorem gi_ct1 (x : DY) : gi (ct x) 2 1 = 0 ∧ gi (ct x) 2 2 = 0 ∧ gi (ct x) 2 3 = -1 := by
  unfold ct
  refine ⟨?_, ?_, ?_⟩
  · rw [gi_si_if, if_neg (by omega), gi_si_if, if_neg (by omega), gi_si_if, if_pos ⟨rfl, rfl⟩]
  · rw [gi_si_if, if_neg (by omega), gi_si_if, if_pos ⟨rfl, rfl⟩]
  · rw [gi_si_if, if_pos ⟨rfl, rfl⟩]
theorem c_tape (N : Nat) (x : DY) : F_X7_takeTape Z0.1 N 2 x = some (gi x 2 1, ct x) := by
  rw [F_X7_takeTape_s, bd_eq, bd_eq, bd_eq]
  rfl
/-- the place that a text gets: x names it, P are there -/
def slotP (x : Int) (P : Nat) : Int := if x = -1 then (if P < 3 then P else -2) else if 0 ≤ x ∧ x < P then x else -2
theorem slotP_b (x : Int) (P : Nat) (hP : P ≤ 3) : slotP x P = -2 ∨ ∃ p : Nat, p < 3 ∧ slotP x P = p ∧ (x = -1 ∧ p = P ∨ x = p ∧ p < P) := by
  unfold slotP
  by_cases a : x = -1
  · rw [if_pos a]
    by_cases b : P < 3
    · rw [if_pos b]; exact Or.inr ⟨P, b, rfl, Or.inl ⟨a, rfl⟩⟩
    · rw [if_neg b]; exact Or.inl rfl
  · rw [if_neg a]
    by_cases b : 0 ≤ x ∧ x < P
    · rw [if_pos b]; exact Or.inr ⟨x.toNat, by omega, by omega, Or.inr ⟨by omega, by omega⟩⟩
    · rw [if_neg b]; exact Or.inl rfl
theorem c_slot (N : Nat) (x : Int) (P : Nat) (d : DY) (x1 : -2147483648 ≤ x) (x2 : x < 2147483648) (hP : P ≤ 3) : F_X9_slotFor Z0.1 N (iz x) (iz P) d = some (iz (slotP x P), d) := by
  rw [F_X9_slotFor_s]
  unfold slotP
  by_cases a : x = -1
  · rw [if_pos (show iz x = (-1 : Int32) by rw [a]; rfl), if_pos a]
    by_cases b : P < 3
    · rw [if_neg (show ¬ (3 : Int32) ≤ iz (P : Int) from iz_nle (a := 3) (by omega)), if_pos b]
    · rw [if_pos (show (3 : Int32) ≤ iz (P : Int) from iz_lei (a := 3) (by omega)), if_neg b]
      rfl
  · rw [if_neg (show ¬ iz x = (-1 : Int32) from fun q => a (by
      have := congrArg Int32.toInt q
      rw [iz_toInt x1 x2] at this
      exact this)), if_neg a]
    by_cases b : x < 0
    · rw [if_pos (show iz x < 0 from iz_lti (b := 0) (by omega)), if_neg (by omega)]
      rfl
    · rw [if_neg (show ¬ iz x < 0 from iz_nlt (b := 0) (by omega))]
      by_cases c : (P : Int) ≤ x
      · rw [if_pos (show iz (P : Int) ≤ iz x from iz_lei (by omega)), if_neg (by omega)]
        rfl
      · rw [if_neg (show ¬ iz (P : Int) ≤ iz x from iz_nle (by omega)), if_pos (by omega)]
/-- the same of the reference's: b says whether it is there -/
theorem m_slot (x : Int) (P : Nat) (x1 : -2147483648 ≤ x) (x2 : x < 2147483648) (hP : P ≤ 3) {α : Type} (A B : α) : (if iz x = (-1 : Int32) then (if iz (P : Int) = (3 : Int32) then A else B) else if (if iz x < 0 then (0 : Int32) else if iz (P : Int) - (1 : Int32) < iz x then 0 else 1) = 0 then A else B) = if slotP x P = -2 then A else B := by
  unfold slotP
  by_cases a : x = -1
  · rw [if_pos (show iz x = (-1 : Int32) by rw [a]; rfl), if_pos a]
    by_cases b : P < 3
    · rw [if_neg (show ¬ iz (P : Int) = (3 : Int32) from iz_nei (b := 3) (by omega)), if_pos b, if_neg (by omega)]
    · rw [if_pos (show iz (P : Int) = (3 : Int32) by rw [show P = 3 by omega]; rfl), if_neg b, if_pos rfl]
  · rw [if_neg (show ¬ iz x = (-1 : Int32) from fun q => a (by
      have := congrArg Int32.toInt q
      rw [iz_toInt x1 x2] at this
      exact this)), if_neg a, show iz (P : Int) - (1 : Int32) = iz ((P : Int) - 1) from iz_sub _ 1]
    by_cases b : x < 0
    · rw [if_pos (show iz x < 0 from iz_lti (b := 0) (by omega)), if_pos rfl, if_neg (show ¬ (0 ≤ x ∧ x < (P : Int)) by omega), if_pos rfl]
    · rw [if_neg (show ¬ iz x < 0 from iz_nlt (b := 0) (by omega))]
      by_cases c : (P : Int) ≤ x
      · rw [if_pos (show iz ((P : Int) - 1) < iz x from iz_lti (by omega)), if_pos rfl, if_neg (show ¬ (0 ≤ x ∧ x < (P : Int)) by omega), if_pos rfl]
      · rw [if_neg (show ¬ iz ((P : Int) - 1) < iz x from iz_nlt (by omega)), if_neg (by decide), if_pos (show 0 ≤ x ∧ x < (P : Int) by omega), if_neg (by omega)]
