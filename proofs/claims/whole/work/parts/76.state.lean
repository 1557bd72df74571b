/-! ran, state, door -/
def wrf (d : DY) (g w : Nat) (y : Int) (c i : Nat) : Nat := if cx d w 0 i ≠ -1 ∧ cy d w 0 i = y then (if gi d (g + 4) i = 1 then c ||| 1 else c ||| 2) else c
def wrow (d : DY) (g w n : Nat) (y : Int) : Nat := itr (wrf d g w y) n 0
def ccI (c : Nat) : Int32 := if c = 0 then 0 else if c = 1 then 1 else if c = 2 then -1 else 2
theorem or_lt4 : ∀ c : Nat, c < 4 → c ||| 1 < 4 ∧ c ||| 2 < 4 := by decide
theorem wrow_lt (d : DY) (g w : Nat) (y : Int) : ∀ n : Nat, itr (wrf d g w y) n 0 < 4
  | 0 => show (0 : Nat) < 4 by omega
  | n + 1 => by
    have ih := wrow_lt d g w y n
    show wrf d g w y (itr (wrf d g w y) n 0) n < 4
    revert ih
    generalize itr (wrf d g w y) n 0 = c
    intro ih
    unfold wrf
    by_cases q : cx d w 0 n ≠ -1 ∧ cy d w 0 n = y
    · rw [if_pos q]
      by_cases z : gi d (g + 4) n = 1
      · rw [if_pos z]; exact (or_lt4 c ih).1
      · rw [if_neg z]; exact (or_lt4 c ih).2
    · rw [if_neg q]; exact ih
theorem cc_e : ∀ c : Nat, c < 4 → (if ccI c = 0 then (1 : Int32) else if ccI c = 1 then (1 : Int32) else 2) = ccI (c ||| 1) := by decide
theorem cc_w : ∀ c : Nat, c < 4 → (if ccI c = 0 then (-1 : Int32) else if ccI c = -1 then (-1 : Int32) else 2) = ccI (c ||| 2) := by decide
theorem c_wrow (N : Nat) (d : DY) (g l w L W n : Nat) (y : Int) (hv : CV d g l w L W n) (hy : 0 ≤ y ∧ y ≤ 20) : ∀ r k o : Nat, o + r = n → r < k → F_X8_wayOfRow_4 Z0.1 N k w (iz y) (ccI (itr (wrf d g w y) o 0)) (iz o) d = some (ccI (wrow d g w n y), d) := by
  obtain ⟨hG, ⟨L16, W6, n12⟩, ⟨e0, e1, e3⟩, _, hpos, hwk⟩ := hv
  intro r
  induction r with
  | zero =>
    intro k o ho hk
    obtain ⟨k, rfl⟩ : ∃ j, k = j + 1 := ⟨k - 1, by omega⟩
    obtain rfl : o = n := by omega
    rw [F_X8_wayOfRow_4_s, cv_r0 hG, e3, if_pos (Int32.le_refl _)]
    rfl
  | succ r ih =>
    intro k o ho hk
    obtain ⟨k, rfl⟩ : ∃ j, k = j + 1 := ⟨k - 1, by omega⟩
    have ih' := ih k (o + 1) (by omega) (by omega)
    have hb := wrow_lt d g w y o
    have it : itr (wrf d g w y) (o + 1) 0 = wrf d g w y (itr (wrf d g w y) o 0) o := rfl
    rw [it] at ih'
    revert ih' hb
    generalize itr (wrf d g w y) o 0 = c
    intro ih' hb
    obtain ⟨p1, p2, p3⟩ := hpos 0 o (by omega) (by omega)
    rw [Nat.mul_zero, Nat.zero_add] at p1 p2
    unfold inS at p3
    have io : ib (iz (o : Int)) 48 := iz_ib (by omega)
    have io2 : ib (iz (o : Int)) 12 := iz_ib (by omega)
    have a1 : iz (o : Int) + (1 : Int32) = iz ((o + 1 : Nat) : Int) := iz_add o 1
    rw [F_X8_wayOfRow_4_s, cv_r0 hG, e3, if_neg (show ¬ iz (n : Int) ≤ iz (o : Int) from iz_nle (by omega)), if_pos io, if_pos io, cv_w1 hG, cv_w2 hG, cv_g4 hG, tnn _ o rfl (by omega), p1, p2, a1]
    unfold wrf at ih'
    by_cases q1 : cx d w 0 o = -1
    · rw [if_neg (show ¬ (cx d w 0 o ≠ -1 ∧ cy d w 0 o = y) from fun z => z.1 q1)] at ih'
      rw [if_pos (show iz (cx d w 0 o) = -1 from by rw [q1]; rfl)]
      exact ih'
    · rw [if_neg (show ¬ iz (cx d w 0 o) = -1 from iz_nei (b := -1) (by omega))]
      by_cases q2 : cy d w 0 o = y
      · rw [if_pos (show cx d w 0 o ≠ -1 ∧ cy d w 0 o = y from ⟨q1, q2⟩)] at ih'
        rw [if_pos (show iz (cy d w 0 o) = iz y from by rw [q2]), if_pos io2]
        have h52 : F_X8_wayOfRow_52 Z0.1 N (F_X8_wayOfRow_4 Z0.1 N k) w (iz y) (iz o) d = F_X8_wayOfRow_4 Z0.1 N k w (iz y) (gi d (g + 4) o) (iz ((o + 1 : Nat) : Int)) d := by
          rw [F_X8_wayOfRow_52_s, if_pos io2, cv_r0 hG, cv_g4 hG, tnn _ o rfl (by omega), a1]
        rw [h52]
        rcases (hwk o (by omega)).1 with z | z
        · rw [z, if_pos rfl, ← cc_e c hb] at ih'
          rw [z]
          by_cases u1 : ccI c = 0
          · rw [if_pos u1] at ih' ⊢
            exact ih'
          · rw [if_neg u1] at ih' ⊢
            by_cases u2 : ccI c = 1
            · rw [if_pos u2] at ih' ⊢
              exact ih'
            · rw [if_neg u2] at ih' ⊢
              exact ih'
        · rw [z, if_neg (by decide), ← cc_w c hb] at ih'
          rw [z]
          by_cases u1 : ccI c = 0
          · rw [if_pos u1] at ih' ⊢
            exact ih'
          · rw [if_neg u1] at ih' ⊢
            by_cases u2 : ccI c = -1
            · rw [if_pos u2] at ih' ⊢
              exact ih'
            · rw [if_neg u2] at ih' ⊢
              exact ih'
      · rw [if_neg (show ¬ (cx d w 0 o ≠ -1 ∧ cy d w 0 o = y) from fun z => q2 z.2)] at ih'
        rw [if_neg (show ¬ iz (cy d w 0 o) = iz y from iz_nei (by omega))]
        exact ih'
theorem or_iz : ∀ c : Nat, c < 4 → iz (c : Int) ||| 1 = iz ((c ||| 1 : Nat) : Int) ∧ iz (c : Int) ||| 2 = iz ((c ||| 2 : Nat) : Int) ∧ iz (c : Int) ||| 0 = iz (c : Int) := by decide
theorem m_wrow (N : Nat) (d0 d : DY) (g w L W n : Nat) (y : Int) (hv : MV d0 g w 0 id L W n n) (hy : 0 ≤ y ∧ y ≤ 20) (hk : ∀ k : Nat, gi d 531 k = gi d0 531 k) : ∀ r k o : Nat, o + r = n → r < k → F_X10_waysOn_4 Z0.1 N k 510 (iz y) (iz ((itr (wrf d0 g w y) o 0 : Nat) : Int)) (iz o) d = some (iz ((wrow d0 g w n y : Nat) : Int), d) := by
  obtain ⟨⟨r14, L16, W6, n12, M12⟩, ⟨e0, e1, e3⟩, _, ⟨hι, hmono⟩, _, hpos, hwk⟩ := hv
  have e3' : gi d 531 2 = iz n := by rw [hk]; exact e3
  have t2 : (2 : Int32).toNatClampNeg = 2 := rfl
  intro r
  induction r with
  | zero =>
    intro k o ho hk'
    obtain ⟨k, rfl⟩ : ∃ j, k = j + 1 := ⟨k - 1, by omega⟩
    obtain rfl : o = n := by omega
    rw [F_X10_waysOn_4_s, if_pos (by decide), r_510_39, t2, e3', if_pos (Int32.le_refl _)]
    rfl
  | succ r ih =>
    intro k o ho hk'
    obtain ⟨k, rfl⟩ : ∃ j, k = j + 1 := ⟨k - 1, by omega⟩
    have ih' := ih k (o + 1) (by omega) (by omega)
    have hb := wrow_lt d0 g w y o
    have it : itr (wrf d0 g w y) (o + 1) 0 = wrf d0 g w y (itr (wrf d0 g w y) o 0) o := rfl
    rw [it] at ih'
    revert ih' hb
    generalize itr (wrf d0 g w y) o 0 = c
    intro ih' hb
    obtain ⟨b1, b2, b3⟩ := or_iz c hb
    obtain ⟨p1, p2, p3⟩ := hpos 0 o (by omega) (by omega)
    unfold inS at p3
    have p1' : gi d 531 (720 * 0 + 16 + 20 * o) = iz (cx d0 w 0 o) := by rw [hk]; exact p1
    have p2' : gi d 531 (720 * 0 + 16 + 20 * o + 4) = iz (cy d0 w 0 o) := by rw [hk]; exact p2
    have a1 : iz (o : Int) + (1 : Int32) = iz ((o + 1 : Nat) : Int) := iz_add o 1
    have a4 : iz ((720 * 0 + 16 + 20 * o : Nat) : Int) + (4 : Int32) = iz ((720 * 0 + 16 + 20 * o + 4 : Nat) : Int) := iz_add _ 4
    have a8 : iz ((720 * 0 + 16 + 20 * o : Nat) : Int) + (8 : Int32) = iz ((720 * 0 + 16 + 20 * o + 8 : Nat) : Int) := iz_add _ 8
    rw [F_X10_waysOn_4_s, if_pos (by decide), r_510_39, t2, e3', if_neg (show ¬ iz (n : Int) ≤ iz (o : Int) from iz_nle (by omega)), a1]
    refine bnd (m_at Z0.1 N 0 o d) ?_
    show (if ib (iz ((720 * 0 + 16 + 20 * o : Nat) : Int)) 10080 then (if gi d 531 (iz ((720 * 0 + 16 + 20 * o : Nat) : Int)).toNatClampNeg = -1 then F_X10_waysOn_4 Z0.1 N k 510 (iz y) (iz (c : Int) ||| 0) (iz ((o + 1 : Nat) : Int)) d else if ib (iz ((720 * 0 + 16 + 20 * o : Nat) : Int) + (4 : Int32)) 10080 then (if gi d 531 (iz ((720 * 0 + 16 + 20 * o : Nat) : Int) + (4 : Int32)).toNatClampNeg = iz y then if ib (iz ((720 * 0 + 16 + 20 * o : Nat) : Int) + (8 : Int32)) 10080 then (if gi d 531 (iz ((720 * 0 + 16 + 20 * o : Nat) : Int) + (8 : Int32)).toNatClampNeg = 1 then F_X10_waysOn_4 Z0.1 N k 510 (iz y) (iz (c : Int) ||| 1) (iz ((o + 1 : Nat) : Int)) d else F_X10_waysOn_4 Z0.1 N k 510 (iz y) (iz (c : Int) ||| 2) (iz ((o + 1 : Nat) : Int)) d) else none else F_X10_waysOn_4 Z0.1 N k 510 (iz y) (iz (c : Int) ||| 0) (iz ((o + 1 : Nat) : Int)) d) else none) else none) = _
    rw [if_pos (ibr _ (by omega)), tnn _ (720 * 0 + 16 + 20 * o) rfl (by omega), p1', a4, a8, if_pos (ibr _ (by omega)), tnn _ (720 * 0 + 16 + 20 * o + 4) rfl (by omega), p2', if_pos (ibr _ (by omega)), tnn _ (720 * 0 + 16 + 20 * o + 8) rfl (by omega), hk, b1, b2, b3]
    unfold wrf at ih'
    by_cases q1 : cx d0 w 0 o = -1
    · rw [if_neg (show ¬ (cx d0 w 0 o ≠ -1 ∧ cy d0 w 0 o = y) from fun z => z.1 q1)] at ih'
      rw [if_pos (show iz (cx d0 w 0 o) = -1 from by rw [q1]; rfl)]
      exact ih'
    · rw [if_neg (show ¬ iz (cx d0 w 0 o) = -1 from iz_nei (b := -1) (by omega))]
      by_cases q2 : cy d0 w 0 o = y
      · rw [if_pos (show cx d0 w 0 o ≠ -1 ∧ cy d0 w 0 o = y from ⟨q1, q2⟩)] at ih'
        rw [if_pos (show iz (cy d0 w 0 o) = iz y from by rw [q2])]
        rcases (hwk o (by omega)).1 with ⟨z, z'⟩ | ⟨z, z'⟩
        · rw [z, if_pos rfl] at ih'
          rw [show gi d0 531 (720 * 0 + 16 + 20 * o + 8) = 1 from z', if_pos rfl]
          exact ih'
        · rw [z, if_neg (by decide)] at ih'
          rw [show gi d0 531 (720 * 0 + 16 + 20 * o + 8) = 0 from z', if_neg (by decide)]
          exact ih'
      · rw [if_neg (show ¬ (cx d0 w 0 o ≠ -1 ∧ cy d0 w 0 o = y) from fun z => q2 z.2)] at ih'
        rw [if_neg (show ¬ iz (cy d0 w 0 o) = iz y from iz_nei (by omega))]
        exact ih'
/-- lanes, mixed rows, the latest lane's way -/
def lnf (d : DY) (g w n : Nat) (s : Int32 × Int32 × Nat) (y : Nat) : Int32 × Int32 × Nat := if wrow d g w n y = 1 ∨ wrow d g w n y = 2 then (if wrow d g w n y = s.2.2 then (s.1, s.2.1, s.2.2) else (s.1 + 1, s.2.1, wrow d g w n y)) else if wrow d g w n y = 3 then (s.1, s.2.1 + 1, s.2.2) else s
theorem lnf_b (d : DY) (g w n : Nat) : ∀ y : Nat, (itr (lnf d g w n) y (0, 0, 0)).2.2 < 3
  | 0 => show (0 : Nat) < 3 by omega
  | y + 1 => by
    have ih := lnf_b d g w n y
    show (lnf d g w n (itr (lnf d g w n) y (0, 0, 0)) y).2.2 < 3
    revert ih
    generalize itr (lnf d g w n) y (0, 0, 0) = s
    intro ih
    unfold lnf
    by_cases q : wrow d g w n y = 1 ∨ wrow d g w n y = 2
    · rw [if_pos q]
      by_cases z : wrow d g w n y = s.2.2
      · rw [if_pos z]; exact ih
      · rw [if_neg z]
        show wrow d g w n y < 3
        omega
    · rw [if_neg q]
      by_cases z : wrow d g w n y = 3
      · rw [if_pos z]; exact ih
      · rw [if_neg z]; exact ih
theorem cc_0 : ∀ c : Nat, c < 4 → (ccI c = 0 ↔ c = 0) ∧ (ccI c = 2 ↔ c = 3) ∧ ∀ e : Nat, e < 3 → (ccI c = ccI e ↔ c = e) := by decide
theorem c_lanes6 (N : Nat) (d : DY) (g l w L W n : Nat) (hN : 20 ≤ N) (hv : CV d g l w L W n) : ∀ r k y : Nat, y + r = W → r < k → F_X8_lanes_6 Z0.1 N k w (itr (lnf d g w n) y (0, 0, 0)).1 (ccI (itr (lnf d g w n) y (0, 0, 0)).2.2) (iz y) d = some ((itr (lnf d g w n) W (0, 0, 0)).1, d) := by
  have hv' := hv
  obtain ⟨hG, ⟨L16, W6, n12⟩, ⟨e0, e1, e3⟩, _⟩ := hv'
  intro r
  induction r with
  | zero =>
    intro k y hy hk
    obtain ⟨k, rfl⟩ : ∃ j, k = j + 1 := ⟨k - 1, by omega⟩
    obtain rfl : y = W := by omega
    rw [F_X8_lanes_6_s, cv_r0 hG, e1, if_pos (Int32.le_refl _)]
  | succ r ih =>
    intro k y hy hk
    obtain ⟨k, rfl⟩ : ∃ j, k = j + 1 := ⟨k - 1, by omega⟩
    have ih' := ih k (y + 1) (by omega) (by omega)
    have it : itr (lnf d g w n) (y + 1) (0, 0, 0) = lnf d g w n (itr (lnf d g w n) y (0, 0, 0)) y := rfl
    have hb := lnf_b d g w n y
    rw [it] at ih'
    revert ih' hb
    generalize itr (lnf d g w n) y (0, 0, 0) = s
    intro ih' hb
    have hw := c_wrow N d g l w L W n y hv (by omega) n N 0 (by omega) (by omega)
    have hc := wrow_lt d g w y n
    obtain ⟨c0, c2, ce⟩ := cc_0 (wrow d g w n y) hc
    rw [F_X8_lanes_6_s, cv_r0 hG, e1, if_neg (show ¬ iz (W : Int) ≤ iz (y : Int) from iz_nle (by omega)), show iz (y : Int) + (1 : Int32) = iz ((y + 1 : Nat) : Int) from iz_add y 1]
    refine bnd (show F_X8_wayOfRow Z0.1 N w (iz y) d = some (ccI (wrow d g w n y), d) from by rw [F_X8_wayOfRow_s]; exact hw) ?_
    show (if ccI (wrow d g w n y) = 0 then F_X8_lanes_6 Z0.1 N k w s.1 (ccI s.2.2) (iz ((y + 1 : Nat) : Int)) d else (if ccI (wrow d g w n y) = 2 then F_X8_lanes_6 Z0.1 N k w s.1 (ccI s.2.2) (iz ((y + 1 : Nat) : Int)) d else (if ccI (wrow d g w n y) = ccI s.2.2 then F_X8_lanes_6 Z0.1 N k w s.1 (ccI s.2.2) (iz ((y + 1 : Nat) : Int)) d else F_X8_lanes_6 Z0.1 N k w (s.1 + 1) (ccI (wrow d g w n y)) (iz ((y + 1 : Nat) : Int)) d))) = _
    have hc4 : wrow d g w n y < 4 := hc
    unfold lnf at ih'
    by_cases q0 : wrow d g w n y = 0
    · rw [if_neg (show ¬ (wrow d g w n y = 1 ∨ wrow d g w n y = 2) by omega), if_neg (show ¬ wrow d g w n y = 3 by omega)] at ih'
      rw [if_pos (c0.mpr q0)]
      exact ih'
    · rw [if_neg (fun z => q0 (c0.mp z))]
      by_cases q3 : wrow d g w n y = 3
      · rw [if_neg (show ¬ (wrow d g w n y = 1 ∨ wrow d g w n y = 2) by omega), if_pos q3] at ih'
        rw [if_pos (c2.mpr q3)]
        exact ih'
      · rw [if_neg (fun z => q3 (c2.mp z))]
        rw [if_pos (show (wrow d g w n y = 1 ∨ wrow d g w n y = 2) by omega)] at ih'
        by_cases qe : wrow d g w n y = s.2.2
        · rw [if_pos qe] at ih'
          rw [if_pos ((ce s.2.2 hb).mpr qe)]
          exact ih'
        · rw [if_neg qe] at ih'
          rw [if_neg (fun z => qe ((ce s.2.2 hb).mp z))]
          exact ih'
theorem c_mixed4 (N : Nat) (d : DY) (g l w L W n : Nat) (hN : 20 ≤ N) (hv : CV d g l w L W n) : ∀ r k y : Nat, y + r = W → r < k → F_X8_mixedRows_4 Z0.1 N k w (itr (lnf d g w n) y (0, 0, 0)).2.1 (iz y) d = some ((itr (lnf d g w n) W (0, 0, 0)).2.1, d) := by
  have hv' := hv
  obtain ⟨hG, ⟨L16, W6, n12⟩, ⟨e0, e1, e3⟩, _⟩ := hv'
  intro r
  induction r with
  | zero =>
    intro k y hy hk
    obtain ⟨k, rfl⟩ : ∃ j, k = j + 1 := ⟨k - 1, by omega⟩
    obtain rfl : y = W := by omega
    rw [F_X8_mixedRows_4_s, cv_r0 hG, e1, if_pos (Int32.le_refl _)]
  | succ r ih =>
    intro k y hy hk
    obtain ⟨k, rfl⟩ : ∃ j, k = j + 1 := ⟨k - 1, by omega⟩
    have ih' := ih k (y + 1) (by omega) (by omega)
    have it : itr (lnf d g w n) (y + 1) (0, 0, 0) = lnf d g w n (itr (lnf d g w n) y (0, 0, 0)) y := rfl
    rw [it] at ih'
    revert ih'
    generalize itr (lnf d g w n) y (0, 0, 0) = s
    intro ih'
    have hw := c_wrow N d g l w L W n y hv (by omega) n N 0 (by omega) (by omega)
    have hc := wrow_lt d g w y n
    obtain ⟨c0, c2, ce⟩ := cc_0 (wrow d g w n y) hc
    have z0 : s.2.1 + (0 : Int32) = s.2.1 := Int32.add_zero _
    rw [F_X8_mixedRows_4_s, cv_r0 hG, e1, if_neg (show ¬ iz (W : Int) ≤ iz (y : Int) from iz_nle (by omega)), show iz (y : Int) + (1 : Int32) = iz ((y + 1 : Nat) : Int) from iz_add y 1, z0]
    refine bnd (show F_X8_wayOfRow Z0.1 N w (iz y) d = some (ccI (wrow d g w n y), d) from by rw [F_X8_wayOfRow_s]; exact hw) ?_
    show (if ccI (wrow d g w n y) = 2 then F_X8_mixedRows_4 Z0.1 N k w (s.2.1 + 1) (iz ((y + 1 : Nat) : Int)) d else F_X8_mixedRows_4 Z0.1 N k w s.2.1 (iz ((y + 1 : Nat) : Int)) d) = _
    unfold lnf at ih'
    by_cases q3 : wrow d g w n y = 3
    · rw [if_neg (show ¬ (wrow d g w n y = 1 ∨ wrow d g w n y = 2) by omega), if_pos q3] at ih'
      rw [if_pos (c2.mpr q3)]
      exact ih'
    · rw [if_neg (fun z => q3 (c2.mp z))]
      by_cases q12 : wrow d g w n y = 1 ∨ wrow d g w n y = 2
      · rw [if_pos q12] at ih'
        by_cases qe : wrow d g w n y = s.2.2
        · rw [if_pos qe] at ih'; exact ih'
        · rw [if_neg qe] at ih'; exact ih'
      · rw [if_neg q12, if_neg q3] at ih'
        exact ih'
theorem m_lanes10 (N : Nat) (d0 d : DY) (g w L W n : Nat) (x1 : Int32) (hN : 20 ≤ N) (hv : MV d0 g w 0 id L W n n) (hk : ∀ k : Nat, gi d 531 k = gi d0 531 k) : ∀ r k y : Nat, y + r = W → r < k → F_X10_lanes_10 Z0.1 N k 510 x1 (itr (lnf d0 g w n) y (0, 0, 0)).1 (itr (lnf d0 g w n) y (0, 0, 0)).2.1 (iz ((itr (lnf d0 g w n) y (0, 0, 0)).2.2 : Nat)) (iz y) d = some (if x1 = 0 then (itr (lnf d0 g w n) W (0, 0, 0)).1 else (itr (lnf d0 g w n) W (0, 0, 0)).2.1, d) := by
  have hv' := hv
  obtain ⟨⟨r14, L16, W6, n12, M12⟩, ⟨e0, e1, e3⟩, _⟩ := hv'
  have e1' : gi d 531 1 = iz W := by rw [hk]; exact e1
  have t1 : (1 : Int32).toNatClampNeg = 1 := rfl
  intro r
  induction r with
  | zero =>
    intro k y hy hk'
    obtain ⟨k, rfl⟩ : ∃ j, k = j + 1 := ⟨k - 1, by omega⟩
    obtain rfl : y = W := by omega
    rw [F_X10_lanes_10_s, if_pos (by decide), r_510_39, t1, e1', if_pos (Int32.le_refl _)]
    by_cases z : x1 = 0
    · rw [if_pos z, if_pos z]
    · rw [if_neg z, if_neg z]
  | succ r ih =>
    intro k y hy hk'
    obtain ⟨k, rfl⟩ : ∃ j, k = j + 1 := ⟨k - 1, by omega⟩
    have ih' := ih k (y + 1) (by omega) (by omega)
    have it : itr (lnf d0 g w n) (y + 1) (0, 0, 0) = lnf d0 g w n (itr (lnf d0 g w n) y (0, 0, 0)) y := rfl
    have hb := lnf_b d0 g w n y
    rw [it] at ih'
    revert ih' hb
    generalize itr (lnf d0 g w n) y (0, 0, 0) = s
    intro ih' hb
    have hw := m_wrow N d0 d g w L W n y hv (by omega) hk n N 0 (by omega) (by omega)
    have hc : wrow d0 g w n y < 4 := wrow_lt d0 g w y n
    have a1 : iz (y : Int) + (1 : Int32) = iz ((y + 1 : Nat) : Int) := iz_add y 1
    have z0 : ∀ x : Int32, x + (0 : Int32) = x := fun x => Int32.add_zero x
    have h55 : ∀ b : Int32, F_X10_lanes_55 Z0.1 N (F_X10_lanes_10 Z0.1 N k) 510 x1 s.1 b (iz (s.2.2 : Nat)) (iz y) (iz (wrow d0 g w n y : Nat)) d = if wrow d0 g w n y = s.2.2 then F_X10_lanes_10 Z0.1 N k 510 x1 s.1 b (iz (s.2.2 : Nat)) (iz ((y + 1 : Nat) : Int)) d else F_X10_lanes_10 Z0.1 N k 510 x1 (s.1 + 1) b (iz (wrow d0 g w n y : Nat)) (iz ((y + 1 : Nat) : Int)) d := fun b => by
      rw [F_X10_lanes_55_s, a1, z0]
      by_cases q : wrow d0 g w n y = s.2.2
      · rw [if_pos (by rw [q]), if_pos q, q]
      · rw [if_neg (show ¬ iz (wrow d0 g w n y : Nat) = iz (s.2.2 : Nat) from iz_nei (by omega)), if_neg q]
    rw [F_X10_lanes_10_s, if_pos (by decide), r_510_39, t1, e1', if_neg (show ¬ iz (W : Int) ≤ iz (y : Int) from iz_nle (by omega))]
    refine bnd (show F_X10_waysOn Z0.1 N 510 (iz y) d = some (iz ((wrow d0 g w n y : Nat) : Int), d) from by rw [F_X10_waysOn_s]; exact hw) ?_
    show (if iz (wrow d0 g w n y : Nat) = 3 then F_X10_lanes_41 Z0.1 N (F_X10_lanes_10 Z0.1 N k) 510 x1 s.1 (iz (s.2.2 : Nat)) (iz y) (iz (wrow d0 g w n y : Nat)) s.2.1 1 d else F_X10_lanes_41 Z0.1 N (F_X10_lanes_10 Z0.1 N k) 510 x1 s.1 (iz (s.2.2 : Nat)) (iz y) (iz (wrow d0 g w n y : Nat)) s.2.1 0 d) = _
    rw [F_X10_lanes_41_s, F_X10_lanes_41_s, a1, h55, h55, z0]
    unfold lnf at ih'
    by_cases q3 : wrow d0 g w n y = 3
    · rw [if_neg (show ¬ (wrow d0 g w n y = 1 ∨ wrow d0 g w n y = 2) by omega), if_pos q3] at ih'
      rw [if_pos (show iz (wrow d0 g w n y : Nat) = 3 from by rw [q3]; rfl), if_neg (show ¬ iz (wrow d0 g w n y : Nat) = 1 from iz_nei (b := 1) (by omega)), if_neg (show ¬ iz (wrow d0 g w n y : Nat) = 2 from iz_nei (b := 2) (by omega))]
      exact ih'
    · rw [if_neg (show ¬ iz (wrow d0 g w n y : Nat) = 3 from iz_nei (b := 3) (by omega))]
      by_cases q1 : wrow d0 g w n y = 1
      · rw [if_pos (Or.inl q1)] at ih'
        rw [if_pos (show iz (wrow d0 g w n y : Nat) = 1 from by rw [q1]; rfl)]
        by_cases qe : wrow d0 g w n y = s.2.2
        · rw [if_pos qe] at ih' ⊢; exact ih'
        · rw [if_neg qe] at ih' ⊢; exact ih'
      · rw [if_neg (show ¬ iz (wrow d0 g w n y : Nat) = 1 from iz_nei (b := 1) (by omega))]
        by_cases q2 : wrow d0 g w n y = 2
        · rw [if_pos (Or.inr q2)] at ih'
          rw [if_pos (show iz (wrow d0 g w n y : Nat) = 2 from by rw [q2]; rfl)]
          by_cases qe : wrow d0 g w n y = s.2.2
          · rw [if_pos qe] at ih' ⊢; exact ih'
          · rw [if_neg qe] at ih' ⊢; exact ih'
        · rw [if_neg (show ¬ (wrow d0 g w n y = 1 ∨ wrow d0 g w n y = 2) by omega), if_neg q3] at ih'
          rw [if_neg (show ¬ iz (wrow d0 g w n y : Nat) = 2 from iz_nei (b := 2) (by omega))]
          exact ih'
