/-! finds, does, ran -/
theorem runOf {dy : DY} (h : Inv dy) : (gi dy 2 11 = 0 ∧ gi dy 531 10 = 0) ∨ (gi dy 2 11 = 1 ∧ gi dy 531 10 = 1 ∧ ∃ L W n : Nat, RRx dy 6 16 23 0 id L W n n) := by
  obtain ⟨_, _, _, _, _, _, _, _, _, h10, h11, _⟩ := h.1
  have h10' : gi dy 2 11 = gi dy 531 10 := h10
  rcases h11 with z | ⟨z, k⟩
  · exact Or.inl ⟨z, h10'.symm.trans z⟩
  · exact Or.inr ⟨z, h10'.symm.trans z, k⟩
theorem lkC_start (w : Nat) (d : DY) : lkC w d d d := ⟨fun _ _ _ _ => rfl, fun _ _ _ _ => rfl, fun _ _ => rfl⟩
theorem lkM_start {w : Nat} {d e : DY} (hw : w + 10 < 510) (h : lkC w d d e) : lkM d (si e 510 0 0) (si e 510 0 0) :=
  ⟨fun x k h0 h1 h2 => by rw [gi_si_if, if_neg (by omega)]; exact h.2.1 x k (by omega) (by omega), fun _ _ _ _ _ => rfl, fun _ _ => rfl⟩
theorem inv_look {dy e d : DY} (h : Inv dy) (hc : lkC 23 dy dy e) (hm : lkM dy (si e 510 0 0) d) : Inv d :=
  Inv_keep h (fun x k q => by
    rw [hm.2.1 x k (by omega) (by omega) (by omega), gi_si_if, if_neg (by omega)]
    exact hc.2.1 x k (by omega) (by omega)) (fun x k q => hm.1 x k (by omega) (by omega) (by omega))
theorem inv_0 {dy : DY} (h : Inv dy) : Inv (si dy 510 0 0) := Inv_keep h (fun x k q => by rw [gi_si_if, if_neg (by omega)]) (fun x k q => by rw [gi_si_if, if_neg (by omega)])
theorem m_runner0 (N : Nat) (d : DY) (x : Int32) (h : gi d 531 10 = 0) : F_X10_isRunner Z0.1 N 510 x d = some (0, d) := by
  rw [F_X10_isRunner_s, if_pos (by decide), r_510_39, show (10 : Int32).toNatClampNeg = 10 from rfl, h, if_neg (by decide)]
theorem s510 (d : DY) (k : Nat) : gi (si d 510 0 0) 531 k = gi d 531 k := by rw [gi_si_if, if_neg (by omega)]
theorem eq_finds (N : Nat) (a b : Int32) (dy : DY) (hN : 40 ≤ N) (h : Inv dy) : ∃ r dy1 dy2, F_X9_finds Z0.1 N 1 a b dy = some (r, dy1) ∧ F_X10_finds Z0.1 N 510 a b dy1 = some (r, dy2) ∧ Inv dy2 := by
  obtain ⟨x, rfl, x1, x2⟩ := iz_ex a
  obtain ⟨y, rfl, y1, y2⟩ := iz_ex b
  have n1 : ¬ (1 : Int32) = 0 := by decide
  have F := F_X9_finds_s Z0.1 N 1 (iz x) (iz y) dy
  rw [r_1_0, tb2.2.2, cv_w10 cvg_run] at F
  rcases runOf h with ⟨w0, w1⟩ | ⟨w0, w1, L, W, n, hR⟩
  · rw [w0, if_pos (by decide)] at F
    refine ⟨-2, dy, si dy 510 0 0, F, ?_, inv_0 h⟩
    rw [F_X10_finds_s, bd_eq]
    refine bnd (m_runner0 N (si dy 510 0 0) (iz x) (by rw [s510]; exact w1)) ?_
    rfl
  · rw [w0, if_neg (by decide)] at F
    have hv := RRx_CV cvg_run hR
    have hM := RRx_MV cvg_run (by omega) hR
    have n12 := hv.2.1.2.2
    have h2 : gi dy 531 2 = iz n := hM.2.1.2.2
    obtain ⟨t1, t0⟩ := c_there N dy 6 16 23 L W n x hv x1 x2
    have mi10 : ∀ e : DY, F_X10_in Z0.1 N (iz y) 0 10 e = some (if 0 ≤ y ∧ y ≤ 10 then 1 else 0, e) := fun e => m_inz _ _ y 0 10 e y1 y2 (by omega) (by omega) (by omega) (by omega)
    have mr : ∀ e : DY, (∀ k, gi e 531 k = gi dy 531 k) → F_X10_isRunner Z0.1 N 510 (iz x) e = some (if 0 ≤ x ∧ x < n then 1 else 0, e) := fun e he => by
      rw [m_runner N e n x n12 (by rw [he]; exact h2) x1 x2, he, w1]
      by_cases q : 0 ≤ x ∧ x < n
      · rw [if_pos ⟨rfl, q⟩, if_pos q]
      · rw [if_neg (fun z => q z.2), if_neg q]
    by_cases c : 0 ≤ x ∧ x < n ∧ cx dy 23 0 x.toNat ≠ -1
    · obtain ⟨i, rfl⟩ : ∃ i : Nat, x = i := ⟨x.toNat, by omega⟩
      rw [Int.toNat_natCast] at c
      have hi : i < n := by omega
      have hp := cx_b hv i hi c.2.2
      rw [t1 (by rw [Int.toNat_natCast]; exact c), sb_eq, if_neg n1] at F
      have th := m_thereR N dy (si dy 510 0 0) 6 23 0 id L W n n i hM hi (fun k => s510 dy k)
      by_cases q : 0 ≤ y ∧ y ≤ 10
      · obtain ⟨wh, rfl⟩ : ∃ wh : Nat, y = wh := ⟨y.toNat, by omega⟩
        obtain ⟨e, k1, k2, k3⟩ := c_look N dy dy 6 16 23 L W n i (by omega) hv hi hp (lkC_start 23 dy)
        have hk0 := lkM_start (w := 23) (by omega) k1
        obtain ⟨e2, u1, u2, u3⟩ := m_look N dy (si e 510 0 0) 6 23 0 id L W n n i (by omega) hM hi hk0
        obtain ⟨f1, f2, f3, _⟩ := RRx_one hR i hi
        obtain ⟨e3, v1, _, v3⟩ := m_found N dy e2 6 23 0 id L W n n i _ hN hM hi u1 u3 hp f1 f2 f3 k3 wh (by omega)
        have he : ∀ k, gi (si e 510 0 0) 531 k = gi dy 531 k := fun k => hk0.1 531 k (by decide) (by decide) (by decide)
        refine ⟨gi e 33 wh, e, e3, ?_, ?_, inv_look h k1 v1⟩
        · rw [F, if_neg (iz_nlt0 (by omega)), if_pos (show iz (wh : Int) < 11 from iz_lti (b := 11) (by omega))]
          refine bnd k2 ?_
          rw [if_pos (show ib (iz (wh : Int)) 11 from iz_ib (by omega)), tnn _ wh rfl (by omega)]
        · rw [F_X10_finds_s, bd_eq]
          refine bnd (mr _ he) ?_
          rw [if_pos (show 0 ≤ (i : Int) ∧ (i : Int) < n by omega), if_neg n1]
          refine bnd (m_thereR N dy (si e 510 0 0) 6 23 0 id L W n n i hM hi he) ?_
          rw [if_neg c.2.2, if_neg n1]
          refine bnd (mi10 _) ?_
          rw [if_pos q, if_neg n1]
          refine bnd u2 ?_
          exact bnd v3 rfl
      · refine ⟨-2, dy, si dy 510 0 0, ?_, ?_, inv_0 h⟩
        · rw [F]
          by_cases q0 : y < 0
          · rw [if_pos (iz_lt0 (by omega))]
          · rw [if_neg (iz_nlt0 (by omega)), if_neg (show ¬ iz y < 11 from iz_nlt (b := 11) (by omega))]
        · rw [F_X10_finds_s, bd_eq]
          refine bnd (mr _ (s510 dy)) ?_
          rw [if_pos (show 0 ≤ (i : Int) ∧ (i : Int) < n by omega), if_neg n1]
          refine bnd th ?_
          rw [if_neg c.2.2, if_neg n1]
          refine bnd (mi10 _) ?_
          rw [if_neg q, if_pos rfl]
    · rw [t0 c, sb_eq, if_pos rfl] at F
      refine ⟨-2, dy, si dy 510 0 0, F, ?_, inv_0 h⟩
      rw [F_X10_finds_s, bd_eq]
      refine bnd (mr _ (s510 dy)) ?_
      by_cases q : 0 ≤ x ∧ x < n
      · obtain ⟨i, rfl⟩ : ∃ i : Nat, x = i := ⟨x.toNat, by omega⟩
        rw [Int.toNat_natCast] at c
        have cz : cx dy 23 0 i = -1 := by
          by_cases z : cx dy 23 0 i = -1
          · exact z
          · exact absurd ⟨q.1, q.2, z⟩ c
        rw [if_pos q, if_neg n1]
        refine bnd (m_thereR N dy (si dy 510 0 0) 6 23 0 id L W n n i hM (by omega) (fun k => s510 dy k)) ?_
        rw [if_pos cz, if_pos rfl]
      · rw [if_neg q, if_pos rfl]
theorem eq_does (N : Nat) (a : Int32) (dy : DY) (hN : 40 ≤ N) (h : Inv dy) : ∃ r dy1 dy2, F_X9_does Z0.1 N 1 a dy = some (r, dy1) ∧ F_X10_does Z0.1 N 510 a dy1 = some (r, dy2) ∧ Inv dy2 := by
  obtain ⟨x, rfl, x1, x2⟩ := iz_ex a
  have n1 : ¬ (1 : Int32) = 0 := by decide
  have F := F_X9_does_s Z0.1 N 1 (iz x) dy
  have F0 : ∀ e : DY, F_X9_does_29 Z0.1 N 1 (iz x) 0 e = some (-1, e) := fun e => by rw [F_X9_does_29_s, if_pos rfl]
  rw [r_1_0, tb2.2.2, F0] at F
  rcases runOf h with ⟨w0, w1⟩ | ⟨w0, w1, L, W, n, hR⟩
  · rw [w0, if_pos (by decide)] at F
    refine ⟨-1, dy, si dy 510 0 0, F, ?_, inv_0 h⟩
    rw [F_X10_does_s, bd_eq]
    refine bnd (m_runner0 N (si dy 510 0 0) (iz x) (by rw [s510]; exact w1)) ?_
    rfl
  · rw [w0, if_neg (by decide)] at F
    have hv := RRx_CV cvg_run hR
    have hM := RRx_MV cvg_run (by omega) hR
    have n12 := hv.2.1.2.2
    have h2 : gi dy 531 2 = iz n := hM.2.1.2.2
    obtain ⟨t1, t0⟩ := c_there N dy 6 16 23 L W n x hv x1 x2
    have mr : ∀ e : DY, (∀ k, gi e 531 k = gi dy 531 k) → F_X10_isRunner Z0.1 N 510 (iz x) e = some (if 0 ≤ x ∧ x < n then 1 else 0, e) := fun e he => by
      rw [m_runner N e n x n12 (by rw [he]; exact h2) x1 x2, he, w1]
      by_cases q : 0 ≤ x ∧ x < n
      · rw [if_pos ⟨rfl, q⟩, if_pos q]
      · rw [if_neg (fun z => q z.2), if_neg q]
    by_cases c : 0 ≤ x ∧ x < n ∧ cx dy 23 0 x.toNat ≠ -1
    · obtain ⟨i, rfl⟩ : ∃ i : Nat, x = i := ⟨x.toNat, by omega⟩
      rw [Int.toNat_natCast] at c
      have hi : i < n := by omega
      have hp := cx_b hv i hi c.2.2
      rw [t1 (by rw [Int.toNat_natCast]; exact c), sb_eq, if_neg n1] at F
      obtain ⟨_, _, _, _, _, hL, ⟨q2, _⟩, _⟩ := id hR
      obtain ⟨R, R16, r1, r2, r3⟩ := id hL
      obtain ⟨x', e, k1, k2, k3⟩ := c_deed N dy dy 6 16 23 L W n R i _ _ _ hN hv hL r1 R16 hi hp (lkC_start 23 dy)
      have hk0 := lkM_start (w := 23) (by omega) k1
      have he : ∀ k, gi (si e 510 0 0) 531 k = gi dy 531 k := fun k => hk0.1 531 k (by decide) (by decide) (by decide)
      obtain ⟨f1, f2, f3, _⟩ := RRx_one hR i hi
      obtain ⟨e2, u1, u2⟩ := m_act N dy (si e 510 0 0) 6 16 23 0 id L W n n R i x' hN hM hL r1 R16 hi hp f1 q2.symm f2 f3 hk0 k3
      refine ⟨x', e, e2, ?_, ?_, inv_look h k1 u1⟩
      · rw [F, F_X9_does_29_s, if_neg n1, r_1_0, tb2.2.2]
        exact bnd k2 rfl
      · rw [F_X10_does_s, bd_eq]
        refine bnd (mr _ he) ?_
        rw [if_pos (show 0 ≤ (i : Int) ∧ (i : Int) < n by omega), if_neg n1]
        refine bnd (m_thereR N dy (si e 510 0 0) 6 23 0 id L W n n i hM hi he) ?_
        rw [if_neg c.2.2, if_neg n1]
        exact bnd u2 rfl
    · rw [t0 c, sb_eq, if_pos rfl, F0] at F
      refine ⟨-1, dy, si dy 510 0 0, F, ?_, inv_0 h⟩
      rw [F_X10_does_s, bd_eq]
      refine bnd (mr _ (s510 dy)) ?_
      by_cases q : 0 ≤ x ∧ x < n
      · obtain ⟨i, rfl⟩ : ∃ i : Nat, x = i := ⟨x.toNat, by omega⟩
        rw [Int.toNat_natCast] at c
        have cz : cx dy 23 0 i = -1 := by
          by_cases z : cx dy 23 0 i = -1
          · exact z
          · exact absurd ⟨q.1, q.2, z⟩ c
        rw [if_pos q, if_neg n1]
        refine bnd (m_thereR N dy (si dy 510 0 0) 6 23 0 id L W n n i hM (by omega) (fun k => s510 dy k)) ?_
        rw [if_pos cz, if_pos rfl]
      · rw [if_neg q, if_pos rfl]
