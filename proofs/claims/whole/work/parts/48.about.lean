/-! about, rules: the passages and the laws by their numbers -/
def cntOk (dy : DY) (t : Nat) : Prop := ∃ p l : Nat, gi dy t 5 = iz p ∧ p ≤ 3 ∧ gi dy t 7 = iz l ∧ l ≤ 3
def pasOf (x : Int) (p : Nat) : Nat := if 0 ≤ x ∧ x < p then 41 + 17 * x.toNat else 0
def lawOf (x : Int) (p : Nat) : Nat := if 0 ≤ x ∧ x < p then 51 + 17 * x.toNat else 0
theorem r_2_4 : gr Z0.1 2 4 = 4 := (tb_of 2 (by decide)).2.1
theorem r_2_6 : gr Z0.1 2 6 = 5 := (tb_of 2 (by decide)).2.2.1
theorem r_4_k (k : Nat) (h : k < 3) : gr Z0.1 4 k = 41 + 17 * k := by
  have e := tb_pas 2 (by decide)
  rcases k with _ | _ | _ | k
  · exact e.1
  · exact e.2.1
  · exact e.2.2
  · omega
theorem r_5_k (k : Nat) (h : k < 3) : gr Z0.1 5 k = 51 + 17 * k := by
  have e := tb_lws 2 (by decide)
  rcases k with _ | _ | _ | k
  · exact e.1
  · exact e.2.1
  · exact e.2.2
  · omega
theorem c_pas (N : Nat) (x : Int) (p : Nat) (dy : DY) (x1 : -2147483648 ≤ x) (x2 : x < 2147483648) (hp : gi dy 2 5 = iz p) (p3 : p ≤ 3) : F_X7_passageOf Z0.1 N 2 (iz x) dy = some (pasOf x p, dy) := by
  have k0 : iz x < 0 ↔ x < 0 := iz_lt (b := 0) x1 x2 (by omega) (by omega)
  have kp : iz p ≤ iz x ↔ (p : Int) ≤ x := iz_le (by omega) (by omega) x1 x2
  have k3 : 3 ≤ iz x ↔ 3 ≤ x := iz_le (a := 3) (by omega) (by omega) x1 x2
  rw [F_X7_passageOf_s, hp]
  unfold pasOf
  by_cases ok : 0 ≤ x ∧ x < p
  · rw [if_neg (fun q => by have := k0.mp q; omega), if_neg (fun q => by have := kp.mp q; omega), if_neg (fun q => by have := k3.mp q; omega), if_pos ((ib_iz x1 x2).mpr ⟨by omega, by omega⟩), if_pos ok, iz_tn x1 x2, r_2_4, r_4_k _ (by omega)]
  · rw [if_neg ok]
    by_cases h0 : x < 0
    · rw [if_pos (k0.mpr h0)]
    · rw [if_neg (fun q => h0 (k0.mp q)), if_pos (kp.mpr (by omega))]
theorem c_law (N : Nat) (x : Int) (p : Nat) (dy : DY) (x1 : -2147483648 ≤ x) (x2 : x < 2147483648) (hp : gi dy 2 7 = iz p) (p3 : p ≤ 3) : F_X7_lawOf Z0.1 N 2 (iz x) dy = some (lawOf x p, dy) := by
  have k0 : iz x < 0 ↔ x < 0 := iz_lt (b := 0) x1 x2 (by omega) (by omega)
  have kp : iz p ≤ iz x ↔ (p : Int) ≤ x := iz_le (by omega) (by omega) x1 x2
  have k3 : 3 ≤ iz x ↔ 3 ≤ x := iz_le (a := 3) (by omega) (by omega) x1 x2
  rw [F_X7_lawOf_s, hp]
  unfold lawOf
  by_cases ok : 0 ≤ x ∧ x < p
  · rw [if_neg (fun q => by have := k0.mp q; omega), if_neg (fun q => by have := kp.mp q; omega), if_neg (fun q => by have := k3.mp q; omega), if_pos ((ib_iz x1 x2).mpr ⟨by omega, by omega⟩), if_pos ok, iz_tn x1 x2, r_2_6, r_5_k _ (by omega)]
  · rw [if_neg ok]
    by_cases h0 : x < 0
    · rw [if_pos (k0.mpr h0)]
    · rw [if_neg (fun q => h0 (k0.mp q)), if_pos (kp.mpr (by omega))]
theorem m_isPas (N : Nat) (x : Int) (p : Nat) (dy : DY) (x1 : -2147483648 ≤ x) (x2 : x < 2147483648) (hp : gi dy 515 0 = iz p) (p3 : p ≤ 3) : F_X10_isPassage Z0.1 N 510 (iz x) dy = some (if 0 ≤ x ∧ x < p then 1 else 0, dy) := by
  have k0 : iz x < 0 ↔ x < 0 := iz_lt (b := 0) x1 x2 (by omega) (by omega)
  have kp : iz ((p : Int) - 1) < iz x ↔ (p : Int) - 1 < x := iz_lt (by omega) (by omega) x1 x2
  rw [F_X10_isPassage_s, if_pos ib_0_4, r_510_5, tn_0, hp, show iz (p : Int) - 1 = iz ((p : Int) - 1) from iz_sub p 1, m_in, sb_eq]
  have hv : (if iz x < 0 then (0 : Int32) else if iz ((p : Int) - 1) < iz x then 0 else 1) = if 0 ≤ x ∧ x < p then 1 else 0 := by
    by_cases ok : 0 ≤ x ∧ x < p
    · rw [if_pos ok, if_neg (fun q => by have := k0.mp q; omega), if_neg (fun q => by have := kp.mp q; omega)]
    · rw [if_neg ok]
      by_cases h0 : x < 0
      · rw [if_pos (k0.mpr h0)]
      · rw [if_neg (fun q => h0 (k0.mp q)), if_pos (kp.mpr (by omega))]
  rw [hv]
  by_cases ok : 0 ≤ x ∧ x < p
  · rw [if_pos ok, if_pos (show zb ((1 : Int32), dy).1 from Or.inr rfl)]
  · rw [if_neg ok, if_pos (show zb ((0 : Int32), dy).1 from Or.inl rfl)]
theorem m_isLaw (N : Nat) (x : Int) (p : Nat) (dy : DY) (x1 : -2147483648 ≤ x) (x2 : x < 2147483648) (hp : gi dy 522 0 = iz p) (p3 : p ≤ 3) : F_X10_isLaw Z0.1 N 510 (iz x) dy = some (if 0 ≤ x ∧ x < p then 1 else 0, dy) := by
  have k0 : iz x < 0 ↔ x < 0 := iz_lt (b := 0) x1 x2 (by omega) (by omega)
  have kp : iz ((p : Int) - 1) < iz x ↔ (p : Int) - 1 < x := iz_lt (by omega) (by omega) x1 x2
  rw [F_X10_isLaw_s, if_pos ib_0_4, r_510_12, tn_0, hp, show iz (p : Int) - 1 = iz ((p : Int) - 1) from iz_sub p 1, m_in, sb_eq]
  have hv : (if iz x < 0 then (0 : Int32) else if iz ((p : Int) - 1) < iz x then 0 else 1) = if 0 ≤ x ∧ x < p then 1 else 0 := by
    by_cases ok : 0 ≤ x ∧ x < p
    · rw [if_pos ok, if_neg (fun q => by have := k0.mp q; omega), if_neg (fun q => by have := kp.mp q; omega)]
    · rw [if_neg ok]
      by_cases h0 : x < 0
      · rw [if_pos (k0.mpr h0)]
      · rw [if_neg (fun q => h0 (k0.mp q)), if_pos (kp.mpr (by omega))]
  rw [hv]
  by_cases ok : 0 ≤ x ∧ x < p
  · rw [if_pos ok, if_pos (show zb ((1 : Int32), dy).1 from Or.inr rfl)]
  · rw [if_neg ok, if_pos (show zb ((0 : Int32), dy).1 from Or.inl rfl)]
theorem eq_rules (N : Nat) (x : Int32) (dy : DY) (hc : cntR dy 2 0) (ho : cntOk dy 2) (hl : ∀ k : Nat, k < 3 → gi dy (51 + 17 * k) 0 = gi dy 523 k) : ∃ r dy1 dy2, F_X9_rules Z0.1 N 1 x dy = some (r, dy1) ∧ F_X10_rules Z0.1 N 510 x dy1 = some (r, dy2) ∧ ∀ a k : Nat, ¬ (a = 510 ∧ k = 0) → gi dy2 a k = gi dy a k := by
  have fr : ∀ a k : Nat, ¬ (a = 510 ∧ k = 0) → gi (si dy 510 0 0) a k = gi dy a k := fun a k q => by rw [gi_si_if, if_neg q]
  obtain ⟨p, l, e1, p3, e2, l3⟩ := ho
  obtain ⟨z, rfl, z1, z2⟩ := iz_ex x
  have e3 : gi (si dy 510 0 0) 522 0 = iz l := by
    show gi dy 522 0 = iz l
    rw [← hc.2, e2]
  have hm := F_X10_rules_s Z0.1 N 510 (iz z) dy
  rw [bd_eq, m_isLaw N z l _ z1 z2 e3 l3, sb_eq, r_510_13] at hm
  have hk := F_X9_rules_s Z0.1 N 1 (iz z) dy
  rw [r_1_0, c_law N z l dy z1 z2 e2 l3, sb_eq] at hk
  unfold lawOf at hk
  by_cases ok : 0 ≤ z ∧ z < l
  · have hb : 51 + 17 * z.toNat ∈ LB := by
      have : z.toNat < 3 := by omega
      rcases h : z.toNat with _ | _ | _ | k
      · decide
      · decide
      · decide
      · omega
    rw [if_pos ok] at hk hm
    rw [if_neg (by omega : ¬ 51 + 17 * z.toNat = 0), if_pos (lb_s _ hb)] at hk
    rw [if_neg (by decide : ¬ (1 : Int32) = 0), if_pos ((ib_iz z1 z2).mpr ⟨by omega, by omega⟩), iz_tn z1 z2] at hm
    refine ⟨_, _, si dy 510 0 0, hk, ?_, fr⟩
    rw [hm]
    show some (gi dy 523 z.toNat, si dy 510 0 0) = _
    rw [← hl z.toNat (by omega)]
  · rw [if_neg ok] at hk hm
    rw [if_pos rfl] at hk hm
    exact ⟨_, _, _, hk, hm, fr⟩
theorem pb_41 (k : Nat) (h : k < 3) : 41 + 17 * k ∈ PB := by
  rcases k with _ | _ | _ | k
  · decide
  · decide
  · decide
  · omega
theorem eq_about (N : Nat) (x w : Int32) (dy : DY) (hc : cntR dy 2 0) (ho : cntOk dy 2) (hl : ∀ k : Nat, k < 3 → gi dy (41 + 17 * k) 0 = gi dy 516 k ∧ gi dy (41 + 17 * k) 1 = gi dy 517 k ∧ gi dy (41 + 17 * k) 3 = gi dy 518 k ∧ gi dy (41 + 17 * k) 2 = gi dy 519 k) : ∃ r dy1 dy2, F_X9_about Z0.1 N 1 x w dy = some (r, dy1) ∧ F_X10_about Z0.1 N 510 x w dy1 = some (r, dy2) ∧ ∀ a k : Nat, ¬ (a = 510 ∧ k = 0) → gi dy2 a k = gi dy a k := by
  have fr : ∀ a k : Nat, ¬ (a = 510 ∧ k = 0) → gi (si dy 510 0 0) a k = gi dy a k := fun a k q => by rw [gi_si_if, if_neg q]
  obtain ⟨p, l, e1, p3, e2, l3⟩ := ho
  obtain ⟨z, rfl, z1, z2⟩ := iz_ex x
  have e3 : gi (si dy 510 0 0) 515 0 = iz p := by
    show gi dy 515 0 = iz p
    rw [← hc.1, e1]
  have hm := F_X10_about_s Z0.1 N 510 (iz z) w dy
  rw [bd_eq, m_isPas N z p _ z1 z2 e3 p3, sb_eq, r_510_6, r_510_7, r_510_8, r_510_9] at hm
  have hk := F_X9_about_s Z0.1 N 1 (iz z) w dy
  rw [r_1_0, c_pas N z p dy z1 z2 e1 p3, sb_eq] at hk
  unfold pasOf at hk
  by_cases ok : 0 ≤ z ∧ z < p
  · rw [if_pos ok] at hk hm
    have ib1 : ib (iz z) 12 := (ib_iz z1 z2).mpr ⟨by omega, by omega⟩
    obtain ⟨q0, q1, q2, q3⟩ := hl z.toNat (by omega)
    rw [if_neg (by omega : ¬ 41 + 17 * z.toNat = 0), if_pos (pb_s _ (pb_41 z.toNat (by omega)))] at hk
    rw [if_neg (by decide : ¬ (1 : Int32) = 0), iz_tn z1 z2] at hm
    by_cases w0 : w = 0
    · rw [if_pos w0] at hk hm
      rw [if_pos ib1] at hm
      exact ⟨_, _, si dy 510 0 0, hk, by rw [hm]; show some (gi dy 516 z.toNat, si dy 510 0 0) = _; rw [← q0], fr⟩
    · rw [if_neg w0] at hk hm
      by_cases w1 : w = 1
      · rw [if_pos w1] at hk hm
        rw [if_pos ib1] at hm
        exact ⟨_, _, si dy 510 0 0, hk, by rw [hm]; show some (gi dy 517 z.toNat, si dy 510 0 0) = _; rw [← q1], fr⟩
      · rw [if_neg w1] at hk hm
        by_cases w2 : w = 2
        · rw [if_pos w2] at hk hm
          rw [if_pos ib1] at hm
          exact ⟨_, _, si dy 510 0 0, hk, by rw [hm]; show some (gi dy 518 z.toNat, si dy 510 0 0) = _; rw [← q2], fr⟩
        · rw [if_neg w2] at hk hm
          by_cases w3 : w = 3
          · rw [if_pos w3] at hk hm
            rw [if_pos ib1] at hm
            exact ⟨_, _, si dy 510 0 0, hk, by rw [hm]; show some (gi dy 519 z.toNat, si dy 510 0 0) = _; rw [← q3], fr⟩
          · rw [if_neg w3] at hk hm
            exact ⟨_, _, _, hk, hm, fr⟩
  · rw [if_neg ok] at hk hm
    rw [if_pos rfl] at hk hm
    exact ⟨_, _, _, hk, hm, fr⟩
