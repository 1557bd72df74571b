/-! go -/
theorem RRx_cells {d e : DY} {g l w r : Nat} {ι : Nat → Nat} {L W n M : Nat} (hG : CVg g l w) (h : RRx d g l w r ι L W n M) (hc : ∀ x k : Nat, x < 510 ∨ x = 531 → gi e x k = gi d x k) : RRx e g l w r ι L W n M := by
  obtain ⟨_, _, _, _, d5⟩ := cv_dj hG
  have k7 := h.2.2.2.2.2.2.1
  refine RRx_seed hG h (fun x k x1 _ _ _ => hc x k (by omega)) (fun i _ _ _ => hc _ _ (by omega)) ?_ ?_
  · rw [hc _ _ (by omega), hc _ _ (by omega)]; exact k7.2.1
  · rw [hc _ _ (by omega), hc _ _ (by omega)]; exact k7.2.2.1
theorem eq_go (N : Nat) (a : Int32) (dy : DY) (hN : 400 ≤ N) (h : Inv dy) : ∃ r dy1 dy2, F_X9_go Z0.1 N 1 a dy = some (r, dy1) ∧ F_X10_go Z0.1 N 510 a dy1 = some (r, dy2) ∧ Inv dy2 := by
  obtain ⟨x, rfl, x1, x2⟩ := iz_ex a
  have n1 : ¬ (1 : Int32) = 0 := by decide
  have F := F_X9_go_s Z0.1 N 1 (iz x) dy
  rw [r_1_0] at F
  have hM : ∀ d : DY, F_X10_go Z0.1 N 510 (iz x) d = (if gi (si d 510 0 0) 531 10 = 0 then some (-1, si d 510 0 0) else if (if iz x < 0 then (0 : Int32) else if (200 : Int32) < iz x then 0 else 1) = 0 then some (-1, si d 510 0 0) else F_X10_go_37 Z0.1 N N 510 (iz x) 0 0 (si (si d 510 0 0) 510 45 0)) := fun d => by
    rw [F_X10_go_s, bd_eq, if_pos (show ib (10 : Int32) 10080 by decide), r_510_39, m_in, sb_eq, bd_eq]
    rfl
  rcases runOf h with ⟨w0, w1⟩ | ⟨w0, w1, L, W, n, hR⟩
  · rw [w0, if_pos (by decide)] at F
    refine ⟨-1, dy, si dy 510 0 0, F, (hM dy).trans ?_, inv_0 h⟩
    rw [s510, w1, if_pos rfl]
  · rw [w0, if_neg (by decide)] at F
    by_cases c1 : x < 0
    · have q : iz x < 0 := iz_lt0 ⟨c1, x1⟩
      rw [if_pos q] at F
      refine ⟨-1, dy, si dy 510 0 0, F, (hM dy).trans ?_, inv_0 h⟩
      rw [s510, w1, if_neg n1, if_pos q, if_pos rfl]
    have q1 : ¬ iz x < 0 := iz_nlt0 ⟨by omega, x2⟩
    rw [if_neg q1] at F
    have l200 : (200 : Int32) = iz 200 := rfl
    by_cases c2 : 200 < x
    · rw [if_neg (show ¬ iz x ≤ 200 by rw [l200]; exact iz_nle (by omega))] at F
      refine ⟨-1, dy, si dy 510 0 0, F, (hM dy).trans ?_, inv_0 h⟩
      rw [s510, w1, if_neg n1, if_neg q1, if_pos (show (200 : Int32) < iz x by rw [l200]; exact iz_lti (by omega)), if_pos rfl]
    obtain ⟨t, rfl⟩ : ∃ t : Nat, x = t := ⟨x.toNat, by omega⟩
    rw [if_pos (show iz (t : Int) ≤ 200 by rw [l200]; exact iz_lei (by omega))] at F
    have go : ∀ d : DY, (∀ y k : Nat, y ≤ 22 ∨ (34 < y ∧ y ≠ 510) → gi d y k = gi dy y k) → RRx (mixD dy (si (si d 510 0 0) 510 45 0)) 6 16 23 0 id L W n n := fun d hd => RRx_cells cvg_run hR (fun y k hy => by
      by_cases z : y < 510
      · rw [mix_c _ _ _ _ z]
      · rw [mix_m _ _ _ _ (by omega), gi_si_if, if_neg (by omega), gi_si_if, if_neg (by omega), hd y k (by omega)])
    obtain ⟨s', c', m', u1, u2, u3, u4, u5⟩ := go_loop N t L W n hN (by omega) t 0 N N 0 dy (si (si dy 510 0 0) 510 45 0) (by omega) (by omega) (by omega) (go dy (fun _ _ _ => rfl)) (by rw [gi_si_if, if_pos ⟨rfl, rfl⟩])
    have cc : ∀ y k : Nat, y ≤ 22 ∨ 34 < y → gi c' y k = gi dy y k := fun y k hy => u4.1 y k (by omega) (by omega)
    obtain ⟨s2, c2, m2, v1, v2, v3, v4, v5⟩ := go_loop N t L W n hN (by omega) t 0 N N 0 dy (si (si c' 510 0 0) 510 45 0) (by omega) (by omega) (by omega) (go c' (fun y k hy => cc y k (by omega))) (by rw [gi_si_if, if_pos ⟨rfl, rfl⟩])
    obtain ⟨rfl, rfl⟩ := Prod.mk.inj (Option.some.inj (v1.symm.trans u1))
    have mm : ∀ y k : Nat, (y < 532 ∨ 537 < y) → y ≠ 510 → ¬ (y = 531 ∧ k < 720 ∧ k ≠ 10) → gi m2 y k = gi c2 y k := fun y k h1 h2 h3 => by
      rw [v5.1 y k (by omega) (by omega) (by omega), gi_si_if, if_neg (by omega), gi_si_if, if_neg (by omega)]
    have e11 : gi m2 2 11 = 1 := by rw [mm 2 11 (by omega) (by omega) (by omega), cc 2 11 (by omega), w0]
    refine ⟨s2, c2, m2, F.trans v1, (hM c2).trans ?_, Inv_run h (fun y k hy => by rw [mm y k (by omega) (by omega) (by omega), cc y k (by omega)]) (fun y k hy => by rw [mm y k (by omega) (by omega) (by omega), cc y k (by omega)]) ?_ (Or.inr ⟨e11, L, W, n, RRx_cells cvg_run v3 (fun y k hy => ?_)⟩)⟩
    · rw [s510, cc 531 10 (by omega), w1, if_neg n1, if_neg q1, if_neg (show ¬ (200 : Int32) < iz (t : Int) by rw [l200]; exact iz_nlt (by omega)), if_neg n1]
      exact v2
    · rw [e11, mm 531 10 (by omega) (by omega) (by omega), cc 531 10 (by omega), w1]
    · by_cases z : y < 510
      · rw [mix_c _ _ _ _ z]
        exact mm y k (by omega) (by omega) (by omega)
      · rw [mix_m _ _ _ _ (by omega)]
