/-! state, ran, door, on -/
theorem eq_state (N : Nat) (a : Int32) (dy : DY) (hN : 40 ≤ N) (h : Inv dy) : ∃ r dy1 dy2, F_X9_state Z0.1 N 1 a dy = some (r, dy1) ∧ F_X10_state Z0.1 N 510 a dy1 = some (r, dy2) ∧ Inv dy2 := by
  have F := F_X9_state_s Z0.1 N 1 a dy
  rw [r_1_0, tb2.2.2] at F
  have hM := F_X10_state_s Z0.1 N 510 a dy
  rw [bd_eq, if_pos (by decide), r_510_39, show (10 : Int32).toNatClampNeg = 10 from rfl, s510] at hM
  rcases runOf h with ⟨w0, w1⟩ | ⟨w0, w1, L, W, n, hR⟩
  · rw [w0, if_pos (by decide)] at F
    rw [w1, if_pos rfl] at hM
    exact ⟨-1, dy, si dy 510 0 0, F, hM, inv_0 h⟩
  · rw [w0, if_neg (by decide)] at F
    rw [w1, if_neg (by decide)] at hM
    have hv := RRx_CV cvg_run hR
    have hV := RRx_MV cvg_run (by omega) hR
    obtain ⟨_, _, _, _, _, _, ⟨q2, q3, q4, q5, q6, q7⟩, _⟩ := id hR
    have q2' : gi dy 531 3 = gi dy 23 2 := q2.symm
    have q4' : gi dy 531 5 = gi dy 23 4 := q4.symm
    have q5' : gi dy 531 6 = gi dy 23 5 := q5.symm
    have q6' : gi dy 531 8 = gi dy 23 6 := q6.symm
    have q7' : gi dy 531 7 = gi dy 23 7 := q7.symm
    by_cases c0 : a = 0
    · rw [if_pos c0] at F
      rw [if_pos c0, if_pos (by decide), show (3 : Int32).toNatClampNeg = 3 from rfl, s510, q2'] at hM
      exact ⟨_, dy, _, F, hM, inv_0 h⟩
    · rw [if_neg c0] at F hM
      by_cases c1 : a = 1
      · rw [if_pos c1] at F
        rw [if_pos c1, if_pos (by decide), show (6 : Int32).toNatClampNeg = 6 from rfl, s510, q5'] at hM
        exact ⟨_, dy, _, F, hM, inv_0 h⟩
      · rw [if_neg c1] at F hM
        by_cases c2 : a = 2
        · rw [if_pos c2] at F
          rw [if_pos c2, if_pos (by decide), show (7 : Int32).toNatClampNeg = 7 from rfl, s510, q7'] at hM
          by_cases z : gi dy 23 7 < 10
          · rw [if_pos z] at F hM
            exact ⟨_, dy, _, F, hM, inv_0 h⟩
          · rw [if_neg z] at F hM
            exact ⟨_, dy, _, F, hM, inv_0 h⟩
        · rw [if_neg c2] at F hM
          by_cases c3 : a = 3
          · rw [if_pos c3] at F
            rw [if_pos c3, if_pos (by decide), show (8 : Int32).toNatClampNeg = 8 from rfl, s510, q6'] at hM
            exact ⟨_, dy, _, F, hM, inv_0 h⟩
          · rw [if_neg c3] at F hM
            have W6 := hv.2.1.2.1
            by_cases c4 : a = 4
            · rw [if_pos c4] at F hM
              have l1 := c_lanes6 N dy 6 16 23 L W n (by omega) hv W N 0 (by omega) (by omega)
              have l2 := m_lanes10 N dy (si dy 510 0 0) 6 23 L W n 0 (by omega) hV (s510 dy) W N 0 (by omega) (by omega)
              rw [if_pos rfl] at l2
              refine ⟨(itr (lnf dy 6 23 n) W (0, 0, 0)).1, dy, si dy 510 0 0, ?_, ?_, inv_0 h⟩
              · rw [F]
                exact bnd (show F_X8_lanes Z0.1 N 23 dy = _ from by rw [F_X8_lanes_s]; exact l1) rfl
              · rw [hM]
                exact bnd (show F_X10_lanes Z0.1 N 510 0 (si dy 510 0 0) = _ from by rw [F_X10_lanes_s]; exact l2) rfl
            · rw [if_neg c4] at F hM
              by_cases c5 : a = 5
              · rw [if_pos c5] at F hM
                have l1 := c_mixed4 N dy 6 16 23 L W n (by omega) hv W N 0 (by omega) (by omega)
                have l2 := m_lanes10 N dy (si dy 510 0 0) 6 23 L W n 1 (by omega) hV (s510 dy) W N 0 (by omega) (by omega)
                rw [if_neg (by decide)] at l2
                refine ⟨(itr (lnf dy 6 23 n) W (0, 0, 0)).2.1, dy, si dy 510 0 0, ?_, ?_, inv_0 h⟩
                · rw [F]
                  exact bnd (show F_X8_mixedRows Z0.1 N 23 dy = _ from by rw [F_X8_mixedRows_s]; exact l1) rfl
                · rw [hM]
                  exact bnd (show F_X10_lanes Z0.1 N 510 1 (si dy 510 0 0) = _ from by rw [F_X10_lanes_s]; exact l2) rfl
              · rw [if_neg c5] at F hM
                by_cases c6 : a = 6
                · rw [if_pos c6] at F
                  rw [if_pos c6, if_pos (by decide), show (5 : Int32).toNatClampNeg = 5 from rfl, s510, q4'] at hM
                  exact ⟨_, dy, _, F, hM, inv_0 h⟩
                · rw [if_neg c6] at F hM
                  exact ⟨_, dy, _, F, hM, inv_0 h⟩
theorem eq_ran (N : Nat) (a b : Int32) (dy : DY) (h : Inv dy) : ∃ r dy1 dy2, F_X9_ran Z0.1 N 1 a b dy = some (r, dy1) ∧ F_X10_ran Z0.1 N 510 a b dy1 = some (r, dy2) ∧ Inv dy2 := by
  obtain ⟨x, rfl, x1, x2⟩ := iz_ex a
  have n1 : ¬ (1 : Int32) = 0 := by decide
  have F := F_X9_ran_s Z0.1 N 1 (iz x) b dy
  rw [r_1_0, tb2.2.2, tb2.1] at F
  have hM := F_X10_ran_s Z0.1 N 510 (iz x) b dy
  rw [bd_eq] at hM
  rcases runOf h with ⟨w0, w1⟩ | ⟨w0, w1, L, W, n, hR⟩
  · rw [w0, if_pos (by decide)] at F
    rw [m_runner0 N _ (iz x) (by rw [s510]; exact w1), sb_eq, if_pos rfl] at hM
    exact ⟨-2, dy, si dy 510 0 0, F, hM, inv_0 h⟩
  · have hv := RRx_CV cvg_run hR
    have hV := RRx_MV cvg_run (by omega) hR
    have n12 := hv.2.1.2.2
    have e3 := hv.2.2.1.2.2
    have h2 : gi (si dy 510 0 0) 531 2 = iz n := by rw [s510]; exact hV.2.1.2.2
    rw [w0, if_neg (by decide), c_hasG _ _ 6 x n dy x1 x2 e3 n12, sb_eq] at F
    rw [m_runner N _ n x n12 h2 x1 x2, s510, w1, sb_eq] at hM
    by_cases c : 0 ≤ x ∧ x < n
    · obtain ⟨i, rfl⟩ : ∃ i : Nat, x = i := ⟨x.toNat, by omega⟩
      have hi : i < n := by omega
      rw [if_pos c, if_neg n1, cv_w1 cvg_run, cv_w2 cvg_run, cv_w3 cvg_run, cv_w4 cvg_run, cv_w5 cvg_run, cv_w6 cvg_run, cv_w7 cvg_run, tnn _ i rfl (by omega)] at F
      have at0 : F_X10_at Z0.1 N 0 (iz (i : Int)) (si dy 510 0 0) = some (iz ((720 * 0 + 16 + 20 * i : Nat) : Int), si dy 510 0 0) := m_at Z0.1 N 0 i _
      rw [if_pos (show (1 : Int32) = 1 ∧ 0 ≤ (i : Int) ∧ (i : Int) < n from ⟨rfl, c⟩), if_neg n1, at0, sb_eq] at hM
      have i48 : ib (iz (i : Int)) 48 := iz_ib (by omega)
      have i12 : ib (iz (i : Int)) 12 := iz_ib (by omega)
      obtain ⟨_, _, _, _, _, hpos, _⟩ := id hV
      obtain ⟨p1, p2, _⟩ := hpos 0 i (by omega) hi
      obtain ⟨_, _, _, _, hposC, _⟩ := id hv
      obtain ⟨u1, u2, _⟩ := hposC 0 i (by omega) hi
      rw [Nat.mul_zero, Nat.zero_add] at u1 u2
      have p1' : gi dy 531 (720 * 0 + 16 + 20 * i) = gi dy (23 + 1) i := by rw [u1]; exact p1
      have p2' : gi dy 531 (720 * 0 + 16 + 20 * i + 4) = gi dy (23 + 2) i := by rw [u2]; exact p2
      obtain ⟨_, f18, _, _, f3, f4, f5, f6⟩ := RRx_one hR i hi
      have f3' : gi dy 531 (720 * 0 + 16 + 20 * i + 14) = gi dy (23 + 3) i := f3.symm
      have f4' : gi dy 531 (720 * 0 + 16 + 20 * i + 15) = gi dy (23 + 4) i := f4.symm
      have f5' : gi dy 531 (720 * 0 + 16 + 20 * i + 16) = gi dy (23 + 5) i := f5.symm
      have f6' : gi dy 531 (720 * 0 + 16 + 20 * i + 17) = gi dy (23 + 6) i := f6.symm
      have f18' : gi dy 531 (720 * 0 + 16 + 20 * i + 18) = gi dy (23 + 7) i := f18
      have rd : ∀ (k : Nat) (kk : Int32) (v : Int32) (R : Option (Int32 × DY)), kk = iz k → k < 30 → gi dy 531 (720 * 0 + 16 + 20 * i + k) = v → (if ib (iz ((720 * 0 + 16 + 20 * i : Nat) : Int) + kk) 10080 then some (gi (si dy 510 0 0) (gr Z0.1 510 39) (iz ((720 * 0 + 16 + 20 * i : Nat) : Int) + kk).toNatClampNeg, si dy 510 0 0) else none) = some (v, si dy 510 0 0) := fun k kk v R hkk hk hv' => by
        rw [hkk, show iz ((720 * 0 + 16 + 20 * i : Nat) : Int) + iz (k : Int) = iz ((720 * 0 + 16 + 20 * i + k : Nat) : Int) from iz_add _ _, if_pos (ibr _ (by omega)), r_510_39, tnn _ (720 * 0 + 16 + 20 * i + k) rfl (by omega), s510, hv']
      by_cases c0 : b = 0
      · rw [if_pos c0, if_pos i48] at F
        rw [if_pos c0] at hM
        refine ⟨_, dy, _, F, hM.trans ?_, inv_0 h⟩
        show (if ib (iz ((720 * 0 + 16 + 20 * i : Nat) : Int)) 10080 then some (gi (si dy 510 0 0) (gr Z0.1 510 39) (iz ((720 * 0 + 16 + 20 * i : Nat) : Int)).toNatClampNeg, si dy 510 0 0) else none) = _
        rw [if_pos (ibr _ (by omega)), r_510_39, tnn _ (720 * 0 + 16 + 20 * i) rfl (by omega), s510, p1']
      · rw [if_neg c0] at F hM
        by_cases c1 : b = 1
        · rw [if_pos c1, if_pos i48] at F
          rw [if_pos c1] at hM
          exact ⟨_, dy, _, F, hM.trans (rd 4 4 _ none rfl (by omega) p2'), inv_0 h⟩
        · rw [if_neg c1] at F hM
          by_cases c2 : b = 2
          · rw [if_pos c2, if_pos i12] at F
            rw [if_pos c2] at hM
            exact ⟨_, dy, _, F, hM.trans (rd 14 14 _ none rfl (by omega) f3'), inv_0 h⟩
          · rw [if_neg c2] at F hM
            by_cases c3 : b = 3
            · rw [if_pos c3, if_pos i12] at F
              rw [if_pos c3] at hM
              exact ⟨_, dy, _, F, hM.trans (rd 15 15 _ none rfl (by omega) f4'), inv_0 h⟩
            · rw [if_neg c3] at F hM
              by_cases c4 : b = 4
              · rw [if_pos c4, if_pos i12] at F
                rw [if_pos c4] at hM
                exact ⟨_, dy, _, F, hM.trans (rd 16 16 _ none rfl (by omega) f5'), inv_0 h⟩
              · rw [if_neg c4] at F hM
                by_cases c5 : b = 5
                · rw [if_pos c5, if_pos i12] at F
                  rw [if_pos c5] at hM
                  exact ⟨_, dy, _, F, hM.trans (rd 17 17 _ none rfl (by omega) f6'), inv_0 h⟩
                · rw [if_neg c5] at F hM
                  by_cases c6 : b = 6
                  · rw [if_pos c6, if_pos i12] at F
                    rw [if_pos c6] at hM
                    exact ⟨_, dy, _, F, hM.trans (rd 18 18 _ none rfl (by omega) f18'), inv_0 h⟩
                  · rw [if_neg c6] at F hM
                    exact ⟨_, dy, _, F, hM, inv_0 h⟩
    · rw [if_neg c, if_pos rfl] at F
      rw [if_neg (show ¬ ((1 : Int32) = 1 ∧ 0 ≤ x ∧ x < n) from fun z => c z.2), if_pos rfl] at hM
      exact ⟨_, dy, _, F, hM, inv_0 h⟩
theorem eq_door (N : Nat) (a b : Int32) (dy : DY) (h : Inv dy) : ∃ r dy1 dy2, F_X9_door Z0.1 N 1 a b dy = some (r, dy1) ∧ F_X10_door Z0.1 N 510 a b dy1 = some (r, dy2) ∧ Inv dy2 := by
  obtain ⟨x, rfl, x1, x2⟩ := iz_ex a
  obtain ⟨y, rfl, y1, y2⟩ := iz_ex b
  have n1 : ¬ (1 : Int32) = 0 := by decide
  have F := F_X9_door_s Z0.1 N 1 (iz x) (iz y) dy
  rw [r_1_0, tb2.2.2, tb2.1] at F
  have hM := F_X10_door_s Z0.1 N 510 (iz x) (iz y) dy
  rw [bd_eq, if_pos (by decide), r_510_39, show (10 : Int32).toNatClampNeg = 10 from rfl, s510] at hM
  rcases runOf h with ⟨w0, w1⟩ | ⟨w0, w1, L, W, n, hR⟩
  · rw [w0, if_pos (by decide)] at F
    rw [w1, if_pos rfl] at hM
    exact ⟨-1, dy, si dy 510 0 0, F, hM, inv_0 h⟩
  · have hv := RRx_CV cvg_run hR
    obtain ⟨⟨L16, _⟩, ⟨l1, l2⟩, _, _, _, _, _, _, _, _, hdoor, _⟩ := id hR
    have l2' : gi dy 531 0 = iz L := l2
    have s2 : iz (L : Int) - (2 : Int32) = iz ((L : Int) - 2) := iz_sub _ 2
    rw [w0, if_neg (by decide), l1, s2] at F
    rw [w1, if_neg (by decide), if_pos (by decide), show (0 : Int32).toNatClampNeg = 0 from rfl, s510, l2', s2, m_in0 _ _ x _ _ x1 x2 (by omega) (by omega), sb_eq] at hM
    by_cases c : 0 ≤ x ∧ x ≤ (L : Int) - 2
    · obtain ⟨i, rfl⟩ : ∃ i : Nat, x = i := ⟨x.toNat, by omega⟩
      obtain ⟨d0, d1, d2, _, _⟩ := hdoor i (by omega)
      rw [if_neg (iz_nlt0 (by omega)), if_neg (show ¬ iz ((L : Int) - 2) < iz (i : Int) from iz_nlt (by omega))] at F
      rw [if_pos c, if_neg n1] at hM
      by_cases cy' : 0 ≤ y ∧ y ≤ 2
      · obtain ⟨j, rfl⟩ : ∃ j : Nat, y = j := ⟨y.toNat, by omega⟩
        rw [if_neg (iz_nlt0 (by omega)), if_pos (show iz (j : Int) ≤ 2 from iz_lei (b := 2) (by omega)), F_X8_doorOf_s, if_neg (iz_nlt0 (by omega)), if_neg (show ¬ (15 : Int32) ≤ iz (i : Int) from iz_nle (a := 15) (by omega)), if_neg (iz_nlt0 (by omega)), if_neg (show ¬ (2 : Int32) < iz (j : Int) from iz_nlt (a := 2) (by omega)), F_X8_doorOf_24_s, if_neg n1, show iz (i : Int) * (5 : Int32) + iz (j : Int) = iz ((5 * i + j : Nat) : Int) from by rw [l_5, iz_mul, iz_add]; exact congrArg iz (by omega), if_pos (show ib (iz ((5 * i + j : Nat) : Int)) 75 from iz_ib (by omega)), cv_w11 cvg_run, tnn _ (5 * i + j) rfl (by omega), sb_eq] at F
        have rd : ∀ (k : Nat) (kk : Int32) (v : Int32), kk = iz k → k < 5 → gi dy 531 (640 + 5 * i + k) = v → (if ib ((640 : Int32) + (5 : Int32) * iz (i : Int) + kk) 10080 then some (gi (si dy 510 0 0) 531 ((640 : Int32) + (5 : Int32) * iz (i : Int) + kk).toNatClampNeg, si dy 510 0 0) else none) = some (v, si dy 510 0 0) := fun k kk v hkk hk hv' => by
          rw [hkk, show (640 : Int32) + (5 : Int32) * iz (i : Int) + iz (k : Int) = iz ((640 + 5 * i + k : Nat) : Int) from by rw [show (640 : Int32) = iz 640 from rfl, l_5, iz_mul, iz_add, iz_add]; rfl, if_pos (ibr _ (by omega)), tnn _ (640 + 5 * i + k) rfl (by omega), s510, hv']
        have e0 : gi dy 531 (640 + 5 * i + 3) = gi dy (23 + 11) (5 * i) := by
          have := d0
          rw [show 720 * 0 + 640 + 5 * i + 3 = 640 + 5 * i + 3 by omega] at this
          exact this.symm
        have e1 : gi dy 531 (640 + 5 * i + 2) = gi dy (23 + 11) (5 * i + 1) := by
          have := d1
          rw [show 720 * 0 + 640 + 5 * i + 2 = 640 + 5 * i + 2 by omega] at this
          exact this.symm
        have e2 : gi dy 531 (640 + 5 * i + 4) = gi dy (23 + 11) (5 * i + 2) := by
          have := d2
          rw [show 720 * 0 + 640 + 5 * i + 4 = 640 + 5 * i + 4 by omega] at this
          exact this.symm
        have J : j = 0 ∨ j = 1 ∨ j = 2 := by omega
        rcases J with rfl | rfl | rfl
        · rw [if_pos (by decide)] at hM
          exact ⟨_, dy, _, F, hM.trans (rd 3 3 _ rfl (by omega) e0), inv_0 h⟩
        · rw [if_neg (by decide), if_pos (by decide)] at hM
          exact ⟨_, dy, _, F, hM.trans (rd 2 2 _ rfl (by omega) e1), inv_0 h⟩
        · rw [if_neg (by decide), if_neg (by decide), if_pos (by decide)] at hM
          exact ⟨_, dy, _, F, hM.trans (rd 4 4 _ rfl (by omega) e2), inv_0 h⟩
      · rw [if_neg (show ¬ iz y = 0 from iz_nei (b := 0) (by omega)), if_neg (show ¬ iz y = 1 from iz_nei (b := 1) (by omega)), if_neg (show ¬ iz y = 2 from iz_nei (b := 2) (by omega))] at hM
        refine ⟨-1, dy, _, ?_, hM, inv_0 h⟩
        rw [F]
        by_cases z : y < 0
        · rw [if_pos (iz_lt0 (by omega))]
        · rw [if_neg (iz_nlt0 (by omega)), if_neg (show ¬ iz y ≤ 2 from iz_nle (b := 2) (by omega))]
    · rw [if_neg c, if_pos rfl] at hM
      refine ⟨-1, dy, _, ?_, hM, inv_0 h⟩
      rw [F]
      by_cases z : x < 0
      · rw [if_pos (iz_lt0 (by omega))]
      · rw [if_neg (iz_nlt0 (by omega)), if_pos (show iz ((L : Int) - 2) < iz x from iz_lti (by omega))]
