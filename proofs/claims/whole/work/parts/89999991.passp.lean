/-! passage: what is kept -/
theorem m_246 (N p n : Nat) (hp : p < 3) (hn : n ≤ 12) : ∀ (q j k : Nat) (m : DY), j + q = 8 * n → q < k → gi m 510 31 = iz n → ∃ m' : DY, F_X10_passage_246 Z0.1 N k 510 (iz p) (iz j) m = some (iz p, m') ∧ (∀ i : Nat, j ≤ i → i < 8 * n → gi m' 521 (96 * p + i) = gi m 529 i) ∧ ∀ x i : Nat, ¬ (x = 521 ∧ 96 * p + j ≤ i ∧ i < 96 * p + 8 * n) → gi m' x i = gi m x i := by
  intro q
  induction q with
  | zero =>
    intro j k m hq hk h31
    obtain ⟨k, rfl⟩ : ∃ i, k = i + 1 := ⟨k - 1, by omega⟩
    refine ⟨m, ?_, fun i h1 h2 => by omega, fun _ _ _ => rfl⟩
    rw [F_X10_passage_246_s, h31, show (8 : Int32) * iz (n : Int) = iz ((8 * n : Nat) : Int) from iz_mul 8 n, if_pos (show iz ((8 * n : Nat) : Int) ≤ iz (j : Int) from iz_lei (by omega))]
  | succ q ih =>
    intro j k m hq hk h31
    obtain ⟨k, rfl⟩ : ∃ i, k = i + 1 := ⟨k - 1, by omega⟩
    obtain ⟨m', e1, e2, e3⟩ := ih (j + 1) k (si m 521 (96 * p + j) (gi m 529 j)) (by omega) (by omega) (by rw [gi_si_if, if_neg (by omega)]; exact h31)
    refine ⟨m', ?_, fun i q1 q2 => ?_, fun x i q1 => ?_⟩
    · have e96 : (96 : Int32) * iz (p : Int) + iz (j : Int) = iz ((96 * p + j : Nat) : Int) := by rw [show (96 : Int32) * iz (p : Int) = iz ((96 * p : Nat) : Int) from iz_mul 96 p, iz_add]; rfl
      rw [F_X10_passage_246_s, h31, show (8 : Int32) * iz (n : Int) = iz ((8 * n : Nat) : Int) from iz_mul 8 n, if_neg (show ¬ iz ((8 * n : Nat) : Int) ≤ iz (j : Int) from iz_nle (by omega)), if_pos (show ib (iz (j : Int)) 104 from iz_ib (by omega)), e96, if_pos (show ib (iz ((96 * p + j : Nat) : Int)) 1152 from iz_ib (by omega)), bd_eq, r_510_11, r_510_34, tnn _ (96 * p + j) rfl (by omega), tnn _ j rfl (by omega), show iz (j : Int) + (1 : Int32) = iz ((j + 1 : Nat) : Int) from iz_add j 1]
      exact e1
    · by_cases y : i = j
      · rw [e3 521 _ (by omega), gi_si_if, if_pos ⟨rfl, by omega⟩, y]
      · rw [e2 i (by omega) q2, gi_si_if, if_neg (by omega)]
    · rw [e3 x i (by omega), gi_si_if, if_neg (by omega)]
theorem m_210 (N p : Nat) (hp : p < 3) : ∀ (q j k : Nat) (m : DY), j + q = 96 → q < k → ∃ m' : DY, F_X10_passage_210 Z0.1 N k 510 (iz p) (iz j) m = F_X10_passage_246 Z0.1 N N 510 (iz p) (iz ((0 : Nat) : Int)) m' ∧ (∀ i : Nat, j ≤ i → i < 96 → gi m' 520 (96 * p + i) = gi m 528 i) ∧ ∀ x i : Nat, ¬ (x = 520 ∧ 96 * p + j ≤ i ∧ i < 96 * p + 96) → gi m' x i = gi m x i := by
  intro q
  induction q with
  | zero =>
    intro j k m hq hk
    obtain ⟨k, rfl⟩ : ∃ i, k = i + 1 := ⟨k - 1, by omega⟩
    obtain rfl : j = 96 := by omega
    refine ⟨m, ?_, fun i h1 h2 => by omega, fun _ _ _ => rfl⟩
    rw [F_X10_passage_210_s, if_pos (by decide)]
    rfl
  | succ q ih =>
    intro j k m hq hk
    obtain ⟨k, rfl⟩ : ∃ i, k = i + 1 := ⟨k - 1, by omega⟩
    obtain ⟨m', e1, e2, e3⟩ := ih (j + 1) k (si m 520 (96 * p + j) (gi m 528 j)) (by omega) (by omega)
    refine ⟨m', ?_, fun i q1 q2 => ?_, fun x i q1 => ?_⟩
    · have e96 : (96 : Int32) * iz (p : Int) + iz (j : Int) = iz ((96 * p + j : Nat) : Int) := by rw [show (96 : Int32) * iz (p : Int) = iz ((96 * p : Nat) : Int) from iz_mul 96 p, iz_add]; rfl
      rw [F_X10_passage_210_s, if_neg (show ¬ (96 : Int32) ≤ iz (j : Int) from iz_nle (a := 96) (by omega)), if_pos (show ib (iz (j : Int)) 96 from iz_ib (by omega)), e96, if_pos (show ib (iz ((96 * p + j : Nat) : Int)) 1152 from iz_ib (by omega)), bd_eq, r_510_10, r_510_33, tnn _ (96 * p + j) rfl (by omega), tnn _ j rfl (by omega), show iz (j : Int) + (1 : Int32) = iz ((j + 1 : Nat) : Int) from iz_add j 1]
      exact e1
    · by_cases y : i = j
      · rw [e3 520 _ (by omega), gi_si_if, if_pos ⟨rfl, by omega⟩, y]
      · rw [e2 i (by omega) q2, gi_si_if, if_neg (by omega)]
    · rw [e3 x i (by omega), gi_si_if, if_neg (by omega)]
theorem m_161 (N p n : Nat) (hN : 900 ≤ N) (hp : p < 3) (hn : n ≤ 12) (u v : Int32) (m : DY) (h31 : gi m 510 31 = iz n) : ∃ m' : DY, F_X10_passage_161 Z0.1 N 510 (iz p) 515 0 u v m = some (iz p, m') ∧ gi m' 515 0 = u + v ∧ gi m' 516 p = gi m 510 29 ∧ gi m' 517 p = gi m 510 30 ∧ gi m' 518 p = gi m 510 31 ∧ gi m' 519 p = gi m 510 32 ∧ (∀ i : Nat, i < 96 → gi m' 520 (96 * p + i) = gi m 528 i) ∧ (∀ i : Nat, i < 8 * n → gi m' 521 (96 * p + i) = gi m 529 i) ∧ ∀ x i : Nat, ¬ (x = 515 ∧ i = 0) → ¬ (516 ≤ x ∧ x ≤ 519 ∧ i = p) → ¬ ((x = 520 ∨ x = 521) ∧ 96 * p ≤ i ∧ i < 96 * p + 96) → gi m' x i = gi m x i := by
  have i12 : ib (iz (p : Int)) 12 := iz_ib (by omega)
  have tp : (iz (p : Int)).toNatClampNeg = p := tnn _ p rfl (by omega)
  obtain ⟨m1, hm1⟩ : ∃ m1 : DY, m1 = si (si (si (si (si m 515 0 (u + v)) 516 p (gi m 510 29)) 517 p (gi m 510 30)) 518 p (gi m 510 31)) 519 p (gi m 510 32) := ⟨_, rfl⟩
  obtain ⟨m2, a1, a2, a3⟩ := m_210 N p hp 96 0 N m1 (by omega) (by omega)
  have o1 : ∀ x i : Nat, ¬ (x = 515 ∧ i = 0) → ¬ (516 ≤ x ∧ x ≤ 519 ∧ i = p) → gi m1 x i = gi m x i := fun x i q1 q2 => by
    rw [hm1, gi_si_if, if_neg (by omega), gi_si_if, if_neg (by omega), gi_si_if, if_neg (by omega), gi_si_if, if_neg (by omega), gi_si_if, if_neg (by omega)]
  obtain ⟨m3, b1, b2, b3⟩ := m_246 N p n hp hn (8 * n) 0 N m2 (by omega) (by omega) (by rw [a3 510 31 (by omega), o1 510 31 (by omega) (by omega)]; exact h31)
  have o3 : ∀ x i : Nat, x ≠ 520 → x ≠ 521 → gi m3 x i = gi m1 x i := fun x i q1 q2 => by rw [b3 x i (by omega), a3 x i (by omega)]
  refine ⟨m3, ?_, ?_, ?_, ?_, ?_, ?_, fun i hi => ?_, fun i hi => ?_, fun x i q1 q2 q3 => ?_⟩
  · rw [F_X10_passage_161_s, if_pos (by decide), bd_eq, if_pos i12, bd_eq, if_pos i12, bd_eq, if_pos i12, bd_eq, if_pos i12, bd_eq, r_510_6, r_510_7, r_510_8, r_510_9, tp, show (0 : Int32).toNatClampNeg = 0 from rfl]
    have e : si (si (si (si (si m 515 0 (u + v)) 516 p (gi (si m 515 0 (u + v)) 510 29)) 517 p (gi (si (si m 515 0 (u + v)) 516 p (gi (si m 515 0 (u + v)) 510 29)) 510 30)) 518 p (gi (si (si (si m 515 0 (u + v)) 516 p (gi (si m 515 0 (u + v)) 510 29)) 517 p (gi (si (si m 515 0 (u + v)) 516 p (gi (si m 515 0 (u + v)) 510 29)) 510 30)) 510 31)) 519 p (gi (si (si (si (si m 515 0 (u + v)) 516 p (gi (si m 515 0 (u + v)) 510 29)) 517 p (gi (si (si m 515 0 (u + v)) 516 p (gi (si m 515 0 (u + v)) 510 29)) 510 30)) 518 p (gi (si (si (si m 515 0 (u + v)) 516 p (gi (si m 515 0 (u + v)) 510 29)) 517 p (gi (si (si m 515 0 (u + v)) 516 p (gi (si m 515 0 (u + v)) 510 29)) 510 30)) 510 31)) 510 32) = m1 := by
      rw [hm1]
      simp only [gi_si_if, show ¬ (510 : Nat) = 515 by omega, show ¬ (510 : Nat) = 516 by omega, show ¬ (510 : Nat) = 517 by omega, show ¬ (510 : Nat) = 518 by omega, false_and, if_false]
    rw [e]
    exact a1.trans b1
  · rw [o3 515 0 (by omega) (by omega), hm1, gi_si_if, if_neg (by omega), gi_si_if, if_neg (by omega), gi_si_if, if_neg (by omega), gi_si_if, if_neg (by omega), gi_si_if, if_pos ⟨rfl, rfl⟩]
  · rw [o3 516 p (by omega) (by omega), hm1, gi_si_if, if_neg (by omega), gi_si_if, if_neg (by omega), gi_si_if, if_neg (by omega), gi_si_if, if_pos ⟨rfl, rfl⟩]
  · rw [o3 517 p (by omega) (by omega), hm1, gi_si_if, if_neg (by omega), gi_si_if, if_neg (by omega), gi_si_if, if_pos ⟨rfl, rfl⟩]
  · rw [o3 518 p (by omega) (by omega), hm1, gi_si_if, if_neg (by omega), gi_si_if, if_pos ⟨rfl, rfl⟩]
  · rw [o3 519 p (by omega) (by omega), hm1, gi_si_if, if_pos ⟨rfl, rfl⟩]
  · rw [b3 520 _ (by omega), a2 i (by omega) hi, o1 528 i (by omega) (by omega)]
  · rw [b2 i (by omega) hi, a3 529 i (by omega), o1 529 i (by omega) (by omega)]
  · rw [b3 x i (by omega), a3 x i (by omega), o1 x i q1 q2]
theorem PR_new {c m e : DY} {b q : Nat} (h : GRN c m) (hf : ∀ x : Nat, x < 4 → gi e b x = gi c 95 x) (h1 : ∀ i : Nat, i < 96 → gi e (b + 1) i = gi c 96 i) (h2 : ∀ x i : Nat, 2 ≤ x → x ≤ 9 → i < 12 → gi e (b + x) i = gi c (95 + x) i) (h6 : gi e 516 q = gi m 510 29) (h7 : gi e 517 q = gi m 510 30) (h8 : gi e 518 q = gi m 510 31) (h9 : gi e 519 q = gi m 510 32) (h20 : ∀ i : Nat, i < 96 → gi e 520 (96 * q + i) = gi m 528 i) (h21 : ∀ n i : Nat, n ≤ 12 → gi m 510 31 = iz n → i < 8 * n → gi e 521 (96 * q + i) = gi m 529 i) : PR e b q := by
  obtain ⟨L, W, n, k1, ⟨l1, l2⟩, ⟨w1, w2⟩, ⟨n1, n2⟩, k5, k6, k7, k8, k9⟩ := h
  refine ⟨L, W, n, k1, ⟨(hf 0 (by omega)).trans l1, h6.trans l2⟩, ⟨(hf 1 (by omega)).trans w1, h7.trans w2⟩, ?_, ⟨(hf 3 (by omega)).trans n1, h8.trans n2⟩, fun i hi => ?_, fun i hi => ?_, fun i j hi hj => ?_, fun x y hx hy => ?_⟩
  · rw [hf 2 (by omega), h9]; exact k5
  · rw [h1 i hi, h20 i hi]; exact k6 i hi
  · obtain ⟨⟨x, x1, x2, x3⟩, ⟨y, y1, y2, y3⟩, a, ⟨p, p0, p1, p2, p3⟩, ⟨l, l1, l2, l3⟩, ⟨s, s1, s2, s3⟩, ⟨d, d1, d2, d3⟩, f1, f2⟩ := k8 i hi
    have o : ∀ z : Nat, z < 8 → gi e 521 (8 * (12 * q + i) + z) = gi m 529 (8 * i + z) := fun z hz => by
      have := h21 n (8 * i + z) k1.2.2 n2 (by omega)
      rw [show 8 * (12 * q + i) + z = 96 * q + (8 * i + z) by omega]
      exact this
    have o0 := o 0 (by omega)
    rw [Nat.add_zero, Nat.add_zero] at o0
    have c : ∀ z : Nat, 2 ≤ z → z ≤ 9 → gi e (b + z) i = gi c (95 + z) i := fun z z1 z2 => h2 z i z1 z2 (by omega)
    refine ⟨⟨x, x1, (c 2 (by omega) (by omega)).trans x2, o0.trans x3⟩, ⟨y, y1, (c 3 (by omega) (by omega)).trans y2, (o 1 (by omega)).trans y3⟩, ⟨?_, ⟨p, p0, p1, (c 5 (by omega) (by omega)).trans p2, ?_⟩, ⟨l, l1, (c 6 (by omega) (by omega)).trans l2, ?_⟩, ⟨s, s1, (c 7 (by omega) (by omega)).trans s2, ?_⟩, d, d1, (c 8 (by omega) (by omega)).trans d2, ?_⟩, ?_, ?_⟩
    · rw [c 4 (by omega) (by omega), o 2 (by omega)]; exact a
    · rw [show 8 * (12 * q + i) + 2 + 1 = 8 * (12 * q + i) + 3 by omega, o 3 (by omega)]; exact p3
    · rw [show 8 * (12 * q + i) + 2 + 2 = 8 * (12 * q + i) + 4 by omega, o 4 (by omega)]; exact l3
    · rw [show 8 * (12 * q + i) + 2 + 3 = 8 * (12 * q + i) + 5 by omega, o 5 (by omega)]; exact s3
    · rw [show 8 * (12 * q + i) + 2 + 4 = 8 * (12 * q + i) + 6 by omega, o 6 (by omega)]; exact d3
    · rw [c 9 (by omega) (by omega), o 7 (by omega)]; exact f1
    · rw [c 9 (by omega) (by omega)]; exact f2
  · rw [h2 9 i (by omega) (by omega) (by omega), h2 9 j (by omega) (by omega) (by omega)]
    exact k9 i j hi hj
  · rw [h1 _ (by omega)]; exact k7 x y hx hy
