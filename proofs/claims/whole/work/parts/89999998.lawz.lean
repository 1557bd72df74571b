/-! law: what is kept, both sides -/
theorem m_126 (N p n : Nat) (hp : p < 3) (hn : n ≤ 16) : ∀ (q j k : Nat) (m : DY), j + q = 18 * n → q < k → gi m 510 36 = iz n → ∃ m' : DY, F_X10_law_126 Z0.1 N k 510 (iz p) (iz j) m = some (iz p, m') ∧ (∀ i : Nat, j ≤ i → i < 18 * n → gi m' 524 (288 * p + i) = gi m 530 i) ∧ ∀ x i : Nat, ¬ (x = 524 ∧ 288 * p + j ≤ i ∧ i < 288 * p + 18 * n) → gi m' x i = gi m x i := by
  intro q
  induction q with
  | zero =>
    intro j k m hq hk h36
    obtain ⟨k, rfl⟩ : ∃ i, k = i + 1 := ⟨k - 1, by omega⟩
    refine ⟨m, ?_, fun i h1 h2 => by omega, fun _ _ _ => rfl⟩
    rw [F_X10_law_126_s, h36, show (18 : Int32) * iz (n : Int) = iz ((18 * n : Nat) : Int) from iz_mul 18 n, if_pos (show iz ((18 * n : Nat) : Int) ≤ iz (j : Int) from iz_lei (by omega))]
  | succ q ih =>
    intro j k m hq hk h36
    obtain ⟨k, rfl⟩ : ∃ i, k = i + 1 := ⟨k - 1, by omega⟩
    obtain ⟨m', e1, e2, e3⟩ := ih (j + 1) k (si m 524 (288 * p + j) (gi m 530 j)) (by omega) (by omega) (by rw [gi_si_if, if_neg (by omega)]; exact h36)
    refine ⟨m', ?_, fun i q1 q2 => ?_, fun x i q1 => ?_⟩
    · have e96 : (288 : Int32) * iz (p : Int) + iz (j : Int) = iz ((288 * p + j : Nat) : Int) := by rw [show (288 : Int32) * iz (p : Int) = iz ((288 * p : Nat) : Int) from iz_mul 288 p, iz_add]; rfl
      rw [F_X10_law_126_s, h36, show (18 : Int32) * iz (n : Int) = iz ((18 * n : Nat) : Int) from iz_mul 18 n, if_neg (show ¬ iz ((18 * n : Nat) : Int) ≤ iz (j : Int) from iz_nle (by omega)), if_pos (show ib (iz (j : Int)) 306 from iz_ib (by omega)), e96, if_pos (show ib (iz ((288 * p + j : Nat) : Int)) 3456 from iz_ib (by omega)), bd_eq, r_510_14, r_510_38, tnn _ (288 * p + j) rfl (by omega), tnn _ j rfl (by omega), show iz (j : Int) + (1 : Int32) = iz ((j + 1 : Nat) : Int) from iz_add j 1]
      exact e1
    · by_cases y : i = j
      · rw [e3 524 _ (by omega), gi_si_if, if_pos ⟨rfl, by omega⟩, y]
      · rw [e2 i (by omega) q2, gi_si_if, if_neg (by omega)]
    · rw [e3 x i (by omega), gi_si_if, if_neg (by omega)]
theorem m_111 (N p n : Nat) (hN : 900 ≤ N) (hp : p < 3) (hn : n ≤ 16) (u v : Int32) (m : DY) (h36 : gi m 510 36 = iz n) : ∃ m' : DY, F_X10_law_111 Z0.1 N 510 (iz p) 522 0 u v m = some (iz p, m') ∧ gi m' 522 0 = u + v ∧ gi m' 523 p = iz n ∧ (∀ i : Nat, i < 18 * n → gi m' 524 (288 * p + i) = gi m 530 i) ∧ ∀ x i : Nat, ¬ (x = 522 ∧ i = 0) → ¬ (x = 523 ∧ i = p) → ¬ (x = 524 ∧ 288 * p ≤ i ∧ i < 288 * p + 288) → gi m' x i = gi m x i := by
  have i12 : ib (iz (p : Int)) 12 := iz_ib (by omega)
  have tp : (iz (p : Int)).toNatClampNeg = p := tnn _ p rfl (by omega)
  obtain ⟨m1, hm1⟩ : ∃ m1 : DY, m1 = si (si m 522 0 (u + v)) 523 p (iz n) := ⟨_, rfl⟩
  have o1 : ∀ x i : Nat, ¬ (x = 522 ∧ i = 0) → ¬ (x = 523 ∧ i = p) → gi m1 x i = gi m x i := fun x i q1 q2 => by
    rw [hm1, gi_si_if, if_neg (by omega), gi_si_if, if_neg (by omega)]
  obtain ⟨m3, b1, b2, b3⟩ := m_126 N p n hp hn (18 * n) 0 N m1 (by omega) (by omega) (by rw [o1 510 36 (by omega) (by omega)]; exact h36)
  refine ⟨m3, ?_, ?_, ?_, fun i hi => ?_, fun x i q1 q2 q3 => ?_⟩
  · rw [F_X10_law_111_s, if_pos (by decide), bd_eq, if_pos i12, bd_eq, r_510_13, tp, show (0 : Int32).toNatClampNeg = 0 from rfl, show gi (si m 522 0 (u + v)) 510 36 = iz n from by rw [gi_si_if, if_neg (by omega)]; exact h36, ← hm1]
    exact b1
  · rw [b3 522 0 (by omega), hm1, gi_si_if, if_neg (by omega), gi_si_if, if_pos ⟨rfl, rfl⟩]
  · rw [b3 523 p (by omega), hm1, gi_si_if, if_pos ⟨rfl, rfl⟩]
  · rw [b2 i (by omega) hi, o1 530 i (by omega) (by omega)]
  · rw [b3 x i (by omega), o1 x i q1 q2]
theorem LR_new {c m e : DY} {b o n : Nat} {rn : Int32} (hn : n ≤ 16) (h : LWQ c m n) (h0 : gi e b 0 = iz n) (hr : rn = iz n) (h1 : ∀ x r : Nat, 1 ≤ x → x ≤ 2 → r < 16 → gi e (b + x) r = gi c (105 + x) r) (h3 : ∀ x i : Nat, 3 ≤ x → x ≤ 6 → i < 64 → gi e (b + x) i = gi c (105 + x) i) (h4 : ∀ i : Nat, i < 18 * n → gi e 524 (o + i) = gi m 530 i) : LR e b rn 524 o := by
  refine ⟨n, hn, h0, hr, fun r hr' => ?_⟩
  obtain ⟨⟨d, d1, d2, d3⟩, t, t1, t2, t3, t4⟩ := h r hr'
  refine ⟨⟨d, d1, (h1 1 r (by omega) (by omega) (by omega)).trans d2, (h4 (18 * r) (by omega)).trans d3⟩, t, t1, (h1 2 r (by omega) (by omega) (by omega)).trans t2, ?_, fun k hk => ?_⟩
  · have := h4 (18 * r + 1) (by omega)
    rw [← Nat.add_assoc] at this
    exact this.trans t3
  · obtain ⟨wh, w1, w2, w3, w4, w5⟩ := t4 k hk
    have g : ∀ y : Nat, y < 4 → gi e 524 (o + 18 * r + 2 + 4 * k + y) = gi m 530 (18 * r + 2 + 4 * k + y) := fun y hy => by
      have := h4 (18 * r + 2 + 4 * k + y) (by omega)
      rw [show o + 18 * r + 2 + 4 * k + y = o + (18 * r + 2 + 4 * k + y) by omega]
      exact this
    have g0 := g 0 (by omega)
    rw [Nat.add_zero, Nat.add_zero] at g0
    unfold TR
    rw [h3 3 _ (by omega) (by omega) (by omega), h3 4 _ (by omega) (by omega) (by omega), h3 5 _ (by omega) (by omega) (by omega), h3 6 _ (by omega) (by omega) (by omega), g0, g 1 (by omega), g 2 (by omega), g 3 (by omega)]
    exact ⟨wh, w1, w2, w3, w4, w5⟩
theorem m_lawq (N : Nat) (x : Int) (P : Nat) (d : DY) (x1 : -2147483648 ≤ x) (x2 : x < 2147483648) (hP : P ≤ 3) (s : Int32) (h2 : gi d 512 0 = s) (h5 : gi d 522 0 = iz P) : F_X10_law Z0.1 N 510 (iz x) d = if slotP x P = -2 then some (-2, mt (si d 510 0 0) s) else F_X10_law_38 Z0.1 N 510 (iz x) (mt (si d 510 0 0) s) := by
  have i4 : ib (0 : Int32) 4 := by decide
  have e5 : gi (mt (si d 510 0 0) s) 522 0 = iz P := by rw [gi_mtn _ _ _ _ (by omega), gi_si_if, if_neg (by omega)]; exact h5
  have ip : F_X10_isLaw Z0.1 N 510 (iz x) (mt (si d 510 0 0) s) = some (if iz x < 0 then (0 : Int32) else if iz (P : Int) - (1 : Int32) < iz x then 0 else 1, mt (si d 510 0 0) s) := by
    rw [F_X10_isLaw_s, if_pos i4, r_510_12, show (0 : Int32).toNatClampNeg = 0 from rfl, e5]
    refine bnd (m_in _ _ _ _ _ _) ?_
    by_cases z : iz x < 0
    · rw [if_pos z]; exact if_pos (show zb (0 : Int32) by decide)
    · rw [if_neg z]
      by_cases w : iz (P : Int) - (1 : Int32) < iz x
      · rw [if_pos w]; exact if_pos (show zb (0 : Int32) by decide)
      · rw [if_neg w]; exact if_pos (show zb (1 : Int32) by decide)
  rw [← m_slot x P x1 x2 hP, F_X10_law_s, bd_eq, m_tape N (si d 510 0 0) s (by rw [gi_si_if, if_neg (by omega)]; exact h2), sb_eq, if_pos i4, r_510_12, show (0 : Int32).toNatClampNeg = 0 from rfl, e5, ip, sb_eq]
