/-! trials: what both sides ask first -/
theorem cvg_try : CVg 95 105 112 := ⟨by decide, by decide, by decide, r_112_0, r_112_1, by decide, by decide⟩
/-- the trial's ground and law are copies -/
def CPD (k j : Nat) (d e : DY) : Prop := blk pF pC (41 + 17 * k) 95 d e ∧ blk lF lC (51 + 17 * j) 105 d e ∧ (∀ x i : Nat, (x < 95 ∨ 111 < x) → gi e x i = gi d x i) ∧ ∀ x i : Nat, gl e x i = gl d x i
theorem lb_k : ∀ j : Nat, j < 3 → 51 + 17 * j ∈ LB := by
  intro j hj
  have : j = 0 ∨ j = 1 ∨ j = 2 := by omega
  rcases this with rfl | rfl | rfl <;> decide
theorem pb_k : ∀ j : Nat, j < 3 → 41 + 17 * j ∈ PB := by
  intro j hj
  have : j = 0 ∨ j = 1 ∨ j = 2 := by omega
  rcases this with rfl | rfl | rfl <;> decide
theorem c_prep (N : Nat) (x y : Int) (p l : Nat) (dy : DY) (x1 : -2147483648 ≤ x) (x2 : x < 2147483648) (y1 : -2147483648 ≤ y) (y2 : y < 2147483648) (e1 : gi dy 2 5 = iz p) (p3 : p ≤ 3) (e2 : gi dy 2 7 = iz l) (l3 : l ≤ 3) : ((0 ≤ x ∧ x < p) ∧ (0 ≤ y ∧ y < l) → ∃ e : DY, F_X9_prepare Z0.1 N 1 (iz x) (iz y) dy = some (1, e) ∧ CPD x.toNat y.toNat dy e) ∧ (¬ ((0 ≤ x ∧ x < p) ∧ (0 ≤ y ∧ y < l)) → F_X9_prepare Z0.1 N 1 (iz x) (iz y) dy = some (0, dy)) := by
  have F := F_X9_prepare_s Z0.1 N 1 (iz x) (iz y) dy
  rw [r_1_0, c_pas N x p dy x1 x2 e1 p3, sb_eq, c_law N y l dy y1 y2 e2 l3, sb_eq, sb_eq, r_1_4, r_1_5] at F
  refine ⟨fun ⟨okP, okL⟩ => ?_, fun no => ?_⟩
  · have k3 : x.toNat < 3 := by omega
    have j3 : y.toNat < 3 := by omega
    have pk : pasOf x p = 41 + 17 * x.toNat := if_pos okP
    have lj : lawOf y l = 51 + 17 * y.toNat := if_pos okL
    generalize x.toNat = k at *
    generalize y.toNat = j at *
    obtain ⟨d1, E1, B1, F1⟩ := c_pcopy N (41 + 17 * k) 95 dy (pb_k k k3) (by decide) (by omega)
    obtain ⟨d2, E2, B2, F2⟩ := c_lcopy N (51 + 17 * j) 105 d1 (lb_k j j3) (by decide) (by omega)
    rw [pk, if_neg (by omega : ¬ 41 + 17 * k = 0), if_pos (pb_s _ (pb_k k k3)), lj, if_neg (by omega : ¬ 51 + 17 * j = 0), if_pos (lb_s _ (lb_k j j3))] at F
    have hp9 : ∀ p ∈ pC, p.1 ≤ 9 := by decide
    have hp6 : ∀ p ∈ lC, p.1 ≤ 6 := by decide
    refine ⟨d2, F.trans (bnd E1 (bnd E2 rfl)), ⟨fun f hf => ?_, fun p hp i hi => ?_⟩, ⟨fun f hf => ?_, fun p hp i hi => ?_⟩, fun x i hx => ?_, fun x i => ?_⟩
    · rw [F2.1 95 f (by omega)]
      exact B1.1 f hf
    · have := hp9 p hp
      rw [F2.1 _ i (by omega)]
      exact B1.2 p hp i hi
    · exact (B2.1 f hf).trans (F1.1 _ _ (by omega))
    · have := hp6 p hp
      exact (B2.2 p hp i hi).trans (F1.1 _ _ (by omega))
    · rw [F2.1 x i (by omega), F1.1 x i (by omega)]
    · rw [F2.2, F1.2]
  · by_cases okP : 0 ≤ x ∧ x < p
    · have okL : ¬ (0 ≤ y ∧ y < l) := fun z => no ⟨okP, z⟩
      have pk : pasOf x p = 41 + 17 * x.toNat := if_pos okP
      have lj : lawOf y l = 0 := if_neg okL
      rw [pk, if_neg (by omega : ¬ 41 + 17 * x.toNat = 0), if_pos (pb_s _ (pb_k _ (by omega))), lj, if_pos rfl] at F
      exact F
    · have pk : pasOf x p = 0 := if_neg okP
      rw [pk, if_pos rfl] at F
      by_cases okL : 0 ≤ y ∧ y < l
      · have lj : lawOf y l = 51 + 17 * y.toNat := if_pos okL
        rw [lj, if_neg (by omega : ¬ 51 + 17 * y.toNat = 0), if_pos (lb_s _ (lb_k _ (by omega)))] at F
        exact F
      · have lj : lawOf y l = 0 := if_neg okL
        rw [lj, if_pos rfl] at F
        exact F
theorem c_time (S : ST) (N : Nat) (n : Int) (mx : Nat) (dy : DY) (n1 : -2147483648 ≤ n) (n2 : n < 2147483648) (hm : mx < 2147483648) : F_X9_isTime S N (iz n) (iz mx) dy = some (if 1 ≤ n ∧ n ≤ mx then 1 else 0, dy) := by
  have l1 : (1 : Int32) = iz 1 := rfl
  rw [F_X9_isTime_s, l1]
  by_cases a : 1 ≤ n
  · rw [if_neg (show ¬ iz n < iz 1 from iz_nlt (by omega))]
    by_cases b : n ≤ mx
    · rw [if_neg (show ¬ iz (mx : Int) < iz n from iz_nlt (by omega)), if_pos ⟨a, b⟩]
    · rw [if_pos (show iz (mx : Int) < iz n from iz_lti (by omega)), if_neg (fun z => b z.2)]
  · rw [if_pos (show iz n < iz 1 from iz_lti (by omega)), if_neg (fun z => a z.1)]
theorem m_tried (N : Nat) (x y n : Int) (p l mx : Nat) (dy : DY) (x1 : -2147483648 ≤ x) (x2 : x < 2147483648) (y1 : -2147483648 ≤ y) (y2 : y < 2147483648) (n1 : -2147483648 ≤ n) (n2 : n < 2147483648) (hm : mx < 2147483648) (e1 : gi dy 515 0 = iz p) (p3 : p ≤ 3) (e2 : gi dy 522 0 = iz l) (l3 : l ≤ 3) : F_X10_isTried Z0.1 N 510 (iz x) (iz y) (iz n) (iz mx) dy = some (if ((0 ≤ x ∧ x < p) ∧ (0 ≤ y ∧ y < l)) ∧ (1 ≤ n ∧ n ≤ mx) then 1 else 0, dy) := by
  have l1 : (1 : Int32) = iz 1 := rfl
  have n1' : ¬ (1 : Int32) = 0 := by decide
  rw [F_X10_isTried_s, m_isPas N x p dy x1 x2 e1 p3, sb_eq]
  by_cases a : 0 ≤ x ∧ x < p
  · rw [if_pos a, if_neg n1', m_isLaw N y l dy y1 y2 e2 l3, sb_eq]
    by_cases b : 0 ≤ y ∧ y < l
    · rw [if_pos b, if_neg n1', m_in, sb_eq]
      by_cases c : 1 ≤ n
      · rw [if_neg (show ¬ iz n < (1 : Int32) by rw [l1]; exact iz_nlt (by omega))]
        by_cases d : n ≤ mx
        · rw [if_neg (show ¬ iz (mx : Int) < iz n from iz_nlt (by omega)), if_neg n1', if_pos ⟨⟨a, b⟩, c, d⟩]
        · rw [if_pos (show iz (mx : Int) < iz n from iz_lti (by omega)), if_pos rfl, if_neg (fun z => d z.2.2)]
      · rw [if_pos (show iz n < (1 : Int32) by rw [l1]; exact iz_lti (by omega)), if_pos rfl, if_neg (fun z => c z.2.1)]
    · rw [if_neg b, if_pos rfl, if_neg (fun z => b z.1.2)]
  · rw [if_neg a, if_pos rfl, if_neg (fun z => a z.1.1)]
