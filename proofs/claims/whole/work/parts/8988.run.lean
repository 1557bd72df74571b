/-! run -/
theorem eq_run (N : Nat) (a b s : Int32) (dy : DY) (hN : 900 ≤ N) (h : Inv dy) : ∃ r dy1 dy2, F_X9_run Z0.1 N 1 a b s dy = some (r, dy1) ∧ F_X10_run Z0.1 N 510 a b s dy1 = some (r, dy2) ∧ Inv dy2 := by
  obtain ⟨x, rfl, x1, x2⟩ := iz_ex a
  obtain ⟨y, rfl, y1, y2⟩ := iz_ex b
  obtain ⟨_, _, _, ⟨cn1, cn2⟩, ⟨p, l, e1, p3, e2, l3⟩, _, _, hPR, hLR, _⟩ := id h.1
  have F := F_X9_run_s Z0.1 N 1 (iz x) (iz y) s dy
  rw [r_1_0, c_pas N x p dy x1 x2 e1 p3, sb_eq, c_law N y l dy y1 y2 e2 l3, sb_eq, sb_eq] at F
  have n1 : ¬ (1 : Int32) = 0 := by decide
  have hM : ∀ d : DY, gi d 515 0 = iz p → gi d 522 0 = iz l → F_X10_run Z0.1 N 510 (iz x) (iz y) s d = (if (if 0 ≤ x ∧ x < p then (1 : Int32) else 0) = 0 then some (0, si d 510 0 0) else if (if 0 ≤ y ∧ y < l then (1 : Int32) else 0) = 0 then some (0, si d 510 0 0) else (F_X10_lay Z0.1 N 510 0 (iz x) (iz y) s 12 (-1) (si d 510 0 0)).bind fun u6 => some (1, u6)) := fun d h1 h2 => by
    rw [F_X10_run_s, bd_eq, m_isPas N x p _ x1 x2 (by rw [gi_si_if, if_neg (by omega)]; exact h1) p3, sb_eq, m_isLaw N y l _ y1 y2 (by rw [gi_si_if, if_neg (by omega)]; exact h2) l3, sb_eq]
  have hM0 := hM dy (cn1.symm.trans e1) (cn2.symm.trans e2)
  have lw0 : ∀ j : Nat, j < 3 → 51 + 17 * j ∈ LB := by
    intro j hj
    have : j = 0 ∨ j = 1 ∨ j = 2 := by omega
    rcases this with rfl | rfl | rfl <;> decide
  have ps0 : ∀ j : Nat, j < 3 → 41 + 17 * j ∈ PB := by
    intro j hj
    have : j = 0 ∨ j = 1 ∨ j = 2 := by omega
    rcases this with rfl | rfl | rfl <;> decide
  by_cases okP : 0 ≤ x ∧ x < p
  · by_cases okL : 0 ≤ y ∧ y < l
    · obtain ⟨k, rfl⟩ : ∃ k : Nat, x = k := ⟨x.toNat, by omega⟩
      obtain ⟨j, rfl⟩ : ∃ j : Nat, y = j := ⟨y.toNat, by omega⟩
      have k3 : k < 3 := by omega
      have j3 : j < 3 := by omega
      have pk : pasOf (k : Int) p = 41 + 17 * k := by
        unfold pasOf
        rw [if_pos okP]
        rfl
      have lj : lawOf (j : Int) l = 51 + 17 * j := by
        unfold lawOf
        rw [if_pos okL]
        rfl
      obtain ⟨d1, E1, B1, F1⟩ := c_pcopy N (41 + 17 * k) 6 dy (ps0 k k3) (by decide) (by omega)
      obtain ⟨d2, E2, B2, F2⟩ := c_lcopy N (51 + 17 * j) 16 d1 (lw0 j j3) (by decide) (by omega)
      have hP := hPR k k3
      obtain ⟨L, W, n, ⟨_, _, n12⟩, _, _, _, ⟨kn, kn'⟩, _, kw, _⟩ := id hP
      have pb : ∀ x i : Nat, x ≤ 9 → 2 ≤ x → i < 12 → gi d2 (6 + x) i = gi dy (41 + 17 * k + x) i := fun x i h1 h2 h3 => by
        rw [F2.1 _ _ (by omega)]
        exact B1.2 (x, 12) (pC_in x (by omega) h2) i h3
      obtain ⟨d3, E3, B3, O3⟩ := c_begin (g := 6) (l := 16) (w := 23) N d2 n s (by omega) cvg_run n12 (by
        rw [F2.1 6 3 (by omega)]
        exact (B1.1 3 (by decide)).trans kn) (fun o ho => by
        obtain ⟨_, _, ⟨_, _, _, ⟨v, v9, v2, _⟩, _⟩, _⟩ := kw o ho
        exact ⟨v, v9, (pb 7 o (by omega) (by omega) (by omega)).trans v2⟩)
      obtain ⟨bb1, bb2, bb3, bb4, bb5, bb6⟩ := B3
      obtain ⟨D, hD⟩ : ∃ D : DY, D = si (si d3 2 11 1) 510 0 0 := ⟨_, rfl⟩
      have D0 : ∀ x i : Nat, ¬ (x = 2 ∧ i = 11) → ¬ (x = 510 ∧ i = 0) → gi D x i = gi d3 x i := fun x i h1 h2 => by
        rw [hD, gi_si_if, if_neg h2, gi_si_if, if_neg h1]
      have D1 : ∀ x i : Nat, x < 6 ∨ 34 < x → ¬ (x = 2 ∧ i = 11) → ¬ (x = 510 ∧ i = 0) → gi D x i = gi dy x i := fun x i h0 h1 h2 => by
        rw [D0 x i h1 h2, bb5 x i (by omega), F2.1 x i (by omega), F1.1 x i (by omega)]
      have F' : F_X9_run Z0.1 N 1 (iz (k : Int)) (iz (j : Int)) s dy = some (1, si d3 2 11 1) := by
        rw [pk, if_neg (by omega : ¬ 41 + 17 * k = 0), if_pos (pb_s _ (ps0 k k3)), lj, if_neg (by omega : ¬ 51 + 17 * j = 0), if_pos (lb_s _ (lw0 j j3)), tb2.1, tb2.2.1, tb2.2.2] at F
        exact F.trans (bnd E1 (bnd E2 (bnd E3 rfl)))
      have hP' : PR D (41 + 17 * k) k := by
        have hp9 : ∀ p ∈ pC, p.1 ≤ 9 := by decide
        have hq : PR dy (41 + 17 * k) k := by
          rw [show 41 + 17 * k = 2 + 39 + 17 * k by omega, show k = 3 * 0 + k by omega]
          rw [show 2 + 39 + 17 * (3 * 0 + k) = 2 + 39 + 17 * k by omega]
          exact hP
        exact PR_of hq ⟨fun f hf => D1 _ _ (by omega) (by omega) (by omega), fun p hp' i hi => D1 _ _ (by omega) (by omega) (by have := hp9 p hp'; omega)⟩ (D1 _ _ (by omega) (by omega) (by omega)) (D1 _ _ (by omega) (by omega) (by omega)) (D1 _ _ (by omega) (by omega) (by omega)) (D1 _ _ (by omega) (by omega) (by omega)) (fun i hi => D1 _ _ (by omega) (by omega) (by omega)) (fun i hi => D1 _ _ (by omega) (by omega) (by omega))
      have hL' : LR D (51 + 17 * j) (gi D 523 j) 524 (288 * j) := by
        have hq : LR dy (51 + 17 * j) (gi dy 523 j) 524 (288 * j) := by
          have := hLR j j3
          rw [show 2 + 49 + 17 * j = 51 + 17 * j by omega, show 3 * 0 + j = j by omega] at this
          exact this
        have hp6 : ∀ p ∈ lC, p.1 ≤ 6 := by decide
        exact LR_of hq ⟨fun f hf => D1 _ _ (by omega) (by omega) (by omega), fun p hp' i hi => D1 _ _ (by omega) (by omega) (by have := hp6 p hp'; omega)⟩ (D1 _ _ (by omega) (by omega) (by omega)) (fun i hi => D1 _ _ (by omega) (by omega) (by omega))
      obtain ⟨e, E4, A4⟩ := m_lay N 0 k j n s 12 (-1) D hN (by omega) (by omega) (by omega) n12 (by
        rw [D1 518 k (by omega) (by omega) (by omega)]
        rw [show 3 * 0 + k = k by omega] at kn'
        exact kn')
      have ef : ∀ x i : Nat, ¬ (x = 531 ∧ i < 720) → gi e x i = gi D x i := fun x i hx => A4.1 x i (by omega)
      have e3 : ∀ x i : Nat, x < 510 → x ≠ 2 → gi e x i = gi d3 x i := fun x i h1 h2 => by
        rw [ef x i (by omega), D0 x i (by omega) (by omega)]
      have m1 : F_X10_run Z0.1 N 510 (iz (k : Int)) (iz (j : Int)) s (si d3 2 11 1) = some (1, e) := by
        have D2 : ∀ x i : Nat, 34 < x → gi (si d3 2 11 1) x i = gi dy x i := fun x i h0 => by
          rw [gi_si_if, if_neg (by omega), bb5 x i (by omega), F2.1 x i (by omega), F1.1 x i (by omega)]
        rw [hM (si d3 2 11 1) (by rw [D2 515 0 (by omega)]; exact cn1.symm.trans e1) (by rw [D2 522 0 (by omega)]; exact cn2.symm.trans e2), if_pos okP, if_pos okL, if_neg n1, if_neg n1, ← hD]
        exact bnd E4 rfl
      have g11 : gi e 2 11 = 1 := by rw [ef 2 11 (by omega), hD, gi_si_if, if_neg (by omega), gi_si_if, if_pos ⟨rfl, rfl⟩]
      have hh : ∀ i : Nat, hsI e 6 i = hsI d3 6 i := fun i => by
        unfold hsI
        rw [e3 _ _ (by omega) (by omega)]
      obtain ⟨od, o1, o2, o3⟩ := O3
      have hR : ∃ L W : Nat, RRx e 6 16 23 0 id L W n n := by
        refine RRx_lay cvg_run (51 + 17 * j) hP' hL' ⟨?_, n12⟩ ⟨fun f hf => ?_, fun p hp' i hi => ?_⟩ ⟨fun f hf => ?_, fun p hp' i hi => ?_⟩ (seed := s) ⟨?_, fun t i ht hi => ?_, fun i hi => ?_, fun i hi => ?_, fun _ _ _ => rfl, fun _ _ => rfl⟩ ⟨od, fun p hp => ?_, fun p q hpq hq => ?_, o3⟩ A4 (fun i hi z => ?_)
        · rw [D1 _ _ (by omega) (by omega) (by omega)]
          exact kn
        · rw [e3 6 f (by omega) (by omega), bb5 6 f (by omega), F2.1 6 f (by omega), D1 _ _ (by omega) (by omega) (by omega)]
          exact B1.1 f hf
        · have hp9 : ∀ p ∈ pC, p.1 ≤ 9 := by decide
          have := hp9 p hp'
          rw [e3 _ _ (by omega) (by omega), bb5 _ _ (by omega), F2.1 _ _ (by omega), D1 _ _ (by omega) (by omega) (by omega)]
          exact B1.2 p hp' i hi
        · rw [e3 16 f (by omega) (by omega), bb5 16 f (by omega), D1 _ _ (by omega) (by omega) (by omega)]
          exact (B2.1 f hf).trans (F1.1 _ _ (by omega))
        · have hp6 : ∀ p ∈ lC, p.1 ≤ 6 := by decide
          have := hp6 p hp'
          rw [e3 _ _ (by omega) (by omega), bb5 _ _ (by omega), D1 _ _ (by omega) (by omega) (by omega)]
          exact (B2.2 p hp' i hi).trans (F1.1 _ _ (by omega))
        · rw [e3 23 3 (by omega) (by omega), e3 23 2 (by omega) (by omega), e3 23 4 (by omega) (by omega), e3 23 5 (by omega) (by omega), e3 23 6 (by omega) (by omega), e3 23 7 (by omega) (by omega)]
          exact bb1
        · rw [e3 (23 + 1) _ (by omega) (by omega), e3 (23 + 2) _ (by omega) (by omega), e3 (6 + 2) i (by omega) (by omega), e3 (6 + 3) i (by omega) (by omega), bb5 (6 + 2) i (by omega), bb5 (6 + 3) i (by omega)]
          exact bb2 t i ht hi
        · rw [e3 (23 + 3) _ (by omega) (by omega), e3 (23 + 4) _ (by omega) (by omega), e3 (23 + 5) _ (by omega) (by omega), e3 (23 + 6) _ (by omega) (by omega), e3 (23 + 7) _ (by omega) (by omega)]
          exact bb3 i hi
        · rw [e3 _ _ (by omega) (by omega)]
          exact bb4 i hi
        · rw [e3 _ _ (by omega) (by omega)]
          exact o1 p hp
        · unfold bef
          rw [hh, hh]
          exact o2 p q hpq hq
        · rcases z with z | z
          · exact iz_nle (a := 12) (b := i) (by omega) z
          · rw [l_m1] at z
            exact iz_nei (by omega) z
      refine ⟨1, _, e, F', m1, Inv_run h (fun x i hx => ?_) (fun x i hx => ?_) (g11.trans A4.2.2.1.2.2.2.2.2.symm) (Or.inr ⟨g11, ?_⟩)⟩
      · rw [ef x i (by omega), D1 x i (by omega) (by omega) (by omega)]
      · rw [ef x i (by omega), D1 x i (by omega) (by omega) (by omega)]
      · obtain ⟨L', W', hR⟩ := hR
        exact ⟨L', W', n, hR⟩
    · have lj : lawOf y l = 0 := if_neg okL
      have pk : pasOf x p = 41 + 17 * x.toNat := if_pos okP
      rw [pk, if_neg (by omega : ¬ 41 + 17 * x.toNat = 0), if_pos (pb_s _ (ps0 _ (by omega))), lj, if_pos rfl] at F
      rw [if_pos okP, if_neg n1, if_neg okL, if_pos rfl] at hM0
      exact ⟨0, dy, _, F, hM0, inv_0 h⟩
  · have pk : pasOf x p = 0 := if_neg okP
    rw [if_neg okP, if_pos rfl] at hM0
    rw [pk, if_pos rfl] at F
    by_cases okL : 0 ≤ y ∧ y < l
    · have lj : lawOf y l = 51 + 17 * y.toNat := if_pos okL
      rw [lj, if_neg (by omega : ¬ 51 + 17 * y.toNat = 0), if_pos (lb_s _ (lw0 _ (by omega)))] at F
      exact ⟨0, dy, _, F, hM0, inv_0 h⟩
    · have lj : lawOf y l = 0 := if_neg okL
      rw [lj, if_pos rfl] at F
      exact ⟨0, dy, _, F, hM0, inv_0 h⟩
