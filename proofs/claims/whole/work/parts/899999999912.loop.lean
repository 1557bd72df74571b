/-! the law's loop -/
theorem law_loop (N L : Nat) (xs : Nat → Int32) (hN : 200000 ≤ N) (hL : L ≤ 3584) : ∀ (k i : Nat) (dy : DY), L < i + k → i ≤ L + 7 → k ≠ 0 → Inv dy → ∃ dyE : DY, F_law_18 Z0.1 N L xs k 1 510 (iz i) dy = some dyE := by
  intro k
  induction k with
  | zero =>
    intro i dy hk hi h0 h
    exact absurd rfl h0
  | succ k ih =>
    intro i dy hk hi h0 h
    have eL : Int32.ofNat L - (7 : Int32) = iz ((L : Int) - 7) := by
      rw [show Int32.ofNat L = iz (L : Int) from rfl]
      exact iz_sub _ 7
    have F := F_law_18_s Z0.1 N L xs k 1 510 (iz i) dy
    rw [eL] at F
    by_cases e : (L : Int) - 7 < i
    · rw [if_pos (show iz ((L : Int) - 7) < iz (i : Int) from iz_lti (by omega))] at F
      exact ⟨dy, F⟩
    have B : ∀ j : Nat, j ≤ 6 → ib (iz (i : Int) + iz (j : Int)) L := fun j hj => by
      rw [show iz (i : Int) + iz (j : Int) = iz ((i + j : Nat) : Int) from iz_add _ _]
      exact iz_ib (by omega)
    have nx : iz (i : Int) + (7 : Int32) = iz ((i + 7 : Nat) : Int) := iz_add _ 7
    rw [if_neg (show ¬ iz ((L : Int) - 7) < iz (i : Int) from iz_nlt (by omega)), if_pos (show ib (iz (i : Int)) L from iz_ib (by omega)), nx] at F
    have b1 : ib (iz (i : Int) + (1 : Int32)) L := B 1 (by omega)
    have b2 : ib (iz (i : Int) + (2 : Int32)) L := B 2 (by omega)
    have b3 : ib (iz (i : Int) + (3 : Int32)) L := B 3 (by omega)
    have b4 : ib (iz (i : Int) + (4 : Int32)) L := B 4 (by omega)
    have b5 : ib (iz (i : Int) + (5 : Int32)) L := B 5 (by omega)
    have b6 : ib (iz (i : Int) + (6 : Int32)) L := B 6 (by omega)
    have go : ∀ d : DY, Inv d → ∃ dyE : DY, F_law_18 Z0.1 N L xs k 1 510 (iz ((i + 7 : Nat) : Int)) d = some dyE := fun d hd => ih (i + 7) d (by omega) (by omega) (by omega) hd
    generalize xs (iz (i : Int)).toNatClampNeg &&& (63 : Int32) = op at F
    by_cases h0 : op = (0 : Int32)
    · obtain ⟨r, d1, d2, e1, e2, hI⟩ := iq_feed N (by omega) (xs (iz (i : Int) + (1 : Int32)).toNatClampNeg) (xs (iz (i : Int) + (2 : Int32)).toNatClampNeg) (xs (iz (i : Int) + (3 : Int32)).toNatClampNeg) (xs (iz (i : Int) + (4 : Int32)).toNatClampNeg) (xs (iz (i : Int) + (5 : Int32)).toNatClampNeg) dy h
      obtain ⟨dyE, hE⟩ := go d2 hI
      rw [if_pos h0, if_pos b1, if_pos b2, if_pos b3, if_pos b4, if_pos b5, e1, sb_eq, if_pos b1, if_pos b2, if_pos b3, if_pos b4, if_pos b5, e2, sb_eq, if_pos rfl] at F
      exact ⟨dyE, F.trans hE⟩
    rw [if_neg h0] at F
    by_cases h1 : op = (1 : Int32)
    · obtain ⟨r, d1, d2, e1, e2, hI⟩ := iq_end N (xs (iz (i : Int) + (1 : Int32)).toNatClampNeg) dy h
      obtain ⟨dyE, hE⟩ := go d2 hI
      rw [if_pos h1, if_pos b1, e1, sb_eq, if_pos b1, e2, sb_eq, if_pos rfl] at F
      exact ⟨dyE, F.trans hE⟩
    rw [if_neg h1] at F
    by_cases h2 : op = (2 : Int32)
    · obtain ⟨r, d1, d2, e1, e2, hI⟩ := eq_passage N (xs (iz (i : Int) + (1 : Int32)).toNatClampNeg) dy (by omega) h
      obtain ⟨dyE, hE⟩ := go d2 hI
      rw [if_pos h2, if_pos b1, e1, sb_eq, if_pos b1, e2, sb_eq, if_pos rfl] at F
      exact ⟨dyE, F.trans hE⟩
    rw [if_neg h2] at F
    by_cases h3 : op = (3 : Int32)
    · obtain ⟨r, d1, d2, e1, e2, hI⟩ := eq_law N (xs (iz (i : Int) + (1 : Int32)).toNatClampNeg) dy (by omega) h
      obtain ⟨dyE, hE⟩ := go d2 hI
      rw [if_pos h3, if_pos b1, e1, sb_eq, if_pos b1, e2, sb_eq, if_pos rfl] at F
      exact ⟨dyE, F.trans hE⟩
    rw [if_neg h3] at F
    by_cases h4 : op = (4 : Int32)
    · obtain ⟨r, d1, d2, e1, e2, hI⟩ := iq_fault N (xs (iz (i : Int) + (1 : Int32)).toNatClampNeg) dy h
      obtain ⟨dyE, hE⟩ := go d2 hI
      rw [if_pos h4, if_pos b1, e1, sb_eq, if_pos b1, e2, sb_eq, if_pos rfl] at F
      exact ⟨dyE, F.trans hE⟩
    rw [if_neg h4] at F
    by_cases h5 : op = (5 : Int32)
    · obtain ⟨r, d1, d2, e1, e2, hI⟩ := iq_about N (xs (iz (i : Int) + (1 : Int32)).toNatClampNeg) (xs (iz (i : Int) + (2 : Int32)).toNatClampNeg) dy h
      obtain ⟨dyE, hE⟩ := go d2 hI
      rw [if_pos h5, if_pos b1, if_pos b2, e1, sb_eq, if_pos b1, if_pos b2, e2, sb_eq, if_pos rfl] at F
      exact ⟨dyE, F.trans hE⟩
    rw [if_neg h5] at F
    by_cases h6 : op = (6 : Int32)
    · obtain ⟨r, d1, d2, e1, e2, hI⟩ := iq_walker N (xs (iz (i : Int) + (1 : Int32)).toNatClampNeg) (xs (iz (i : Int) + (2 : Int32)).toNatClampNeg) (xs (iz (i : Int) + (3 : Int32)).toNatClampNeg) dy h
      obtain ⟨dyE, hE⟩ := go d2 hI
      rw [if_pos h6, if_pos b1, if_pos b2, if_pos b3, e1, sb_eq, if_pos b1, if_pos b2, if_pos b3, e2, sb_eq, if_pos rfl] at F
      exact ⟨dyE, F.trans hE⟩
    rw [if_neg h6] at F
    by_cases h7 : op = (7 : Int32)
    · obtain ⟨r, d1, d2, e1, e2, hI⟩ := iq_rules N (xs (iz (i : Int) + (1 : Int32)).toNatClampNeg) dy h
      obtain ⟨dyE, hE⟩ := go d2 hI
      rw [if_pos h7, if_pos b1, e1, sb_eq, if_pos b1, e2, sb_eq, if_pos rfl] at F
      exact ⟨dyE, F.trans hE⟩
    rw [if_neg h7] at F
    by_cases h8 : op = (8 : Int32)
    · obtain ⟨r, d1, d2, e1, e2, hI⟩ := eq_run N (xs (iz (i : Int) + (1 : Int32)).toNatClampNeg) (xs (iz (i : Int) + (2 : Int32)).toNatClampNeg) (xs (iz (i : Int) + (3 : Int32)).toNatClampNeg) dy (by omega) h
      obtain ⟨dyE, hE⟩ := go d2 hI
      rw [if_pos h8, if_pos b1, if_pos b2, if_pos b3, e1, sb_eq, if_pos b1, if_pos b2, if_pos b3, e2, sb_eq, if_pos rfl] at F
      exact ⟨dyE, F.trans hE⟩
    rw [if_neg h8] at F
    by_cases h9 : op = (9 : Int32)
    · obtain ⟨r, d1, d2, e1, e2, hI⟩ := eq_go N (xs (iz (i : Int) + (1 : Int32)).toNatClampNeg) dy (by omega) h
      obtain ⟨dyE, hE⟩ := go d2 hI
      rw [if_pos h9, if_pos b1, e1, sb_eq, if_pos b1, e2, sb_eq, if_pos rfl] at F
      exact ⟨dyE, F.trans hE⟩
    rw [if_neg h9] at F
    by_cases h10 : op = (10 : Int32)
    · obtain ⟨r, d1, d2, e1, e2, hI⟩ := eq_ran N (xs (iz (i : Int) + (1 : Int32)).toNatClampNeg) (xs (iz (i : Int) + (2 : Int32)).toNatClampNeg) dy h
      obtain ⟨dyE, hE⟩ := go d2 hI
      rw [if_pos h10, if_pos b1, if_pos b2, e1, sb_eq, if_pos b1, if_pos b2, e2, sb_eq, if_pos rfl] at F
      exact ⟨dyE, F.trans hE⟩
    rw [if_neg h10] at F
    by_cases h11 : op = (11 : Int32)
    · obtain ⟨r, d1, d2, e1, e2, hI⟩ := eq_finds N (xs (iz (i : Int) + (1 : Int32)).toNatClampNeg) (xs (iz (i : Int) + (2 : Int32)).toNatClampNeg) dy (by omega) h
      obtain ⟨dyE, hE⟩ := go d2 hI
      rw [if_pos h11, if_pos b1, if_pos b2, e1, sb_eq, if_pos b1, if_pos b2, e2, sb_eq, if_pos rfl] at F
      exact ⟨dyE, F.trans hE⟩
    rw [if_neg h11] at F
    by_cases h12 : op = (12 : Int32)
    · obtain ⟨r, d1, d2, e1, e2, hI⟩ := eq_does N (xs (iz (i : Int) + (1 : Int32)).toNatClampNeg) dy (by omega) h
      obtain ⟨dyE, hE⟩ := go d2 hI
      rw [if_pos h12, if_pos b1, e1, sb_eq, if_pos b1, e2, sb_eq, if_pos rfl] at F
      exact ⟨dyE, F.trans hE⟩
    rw [if_neg h12] at F
    by_cases h13 : op = (13 : Int32)
    · obtain ⟨r, d1, d2, e1, e2, hI⟩ := eq_on N (xs (iz (i : Int) + (1 : Int32)).toNatClampNeg) (xs (iz (i : Int) + (2 : Int32)).toNatClampNeg) dy (by omega) h
      obtain ⟨dyE, hE⟩ := go d2 hI
      rw [if_pos h13, if_pos b1, if_pos b2, e1, sb_eq, if_pos b1, if_pos b2, e2, sb_eq, if_pos rfl] at F
      exact ⟨dyE, F.trans hE⟩
    rw [if_neg h13] at F
    by_cases h14 : op = (14 : Int32)
    · obtain ⟨r, d1, d2, e1, e2, hI⟩ := eq_state N (xs (iz (i : Int) + (1 : Int32)).toNatClampNeg) dy (by omega) h
      obtain ⟨dyE, hE⟩ := go d2 hI
      rw [if_pos h14, if_pos b1, e1, sb_eq, if_pos b1, e2, sb_eq, if_pos rfl] at F
      exact ⟨dyE, F.trans hE⟩
    rw [if_neg h14] at F
    by_cases h15 : op = (15 : Int32)
    · obtain ⟨r, d1, d2, e1, e2, hI⟩ := eq_door N (xs (iz (i : Int) + (1 : Int32)).toNatClampNeg) (xs (iz (i : Int) + (2 : Int32)).toNatClampNeg) dy h
      obtain ⟨dyE, hE⟩ := go d2 hI
      rw [if_pos h15, if_pos b1, if_pos b2, e1, sb_eq, if_pos b1, if_pos b2, e2, sb_eq, if_pos rfl] at F
      exact ⟨dyE, F.trans hE⟩
    rw [if_neg h15] at F
    by_cases h16 : op = (16 : Int32)
    · obtain ⟨r, d1, d2, e1, e2, hI⟩ := eq_two N (xs (iz (i : Int) + (1 : Int32)).toNatClampNeg) (xs (iz (i : Int) + (2 : Int32)).toNatClampNeg) (xs (iz (i : Int) + (3 : Int32)).toNatClampNeg) (xs (iz (i : Int) + (4 : Int32)).toNatClampNeg) dy (by omega) h
      obtain ⟨dyE, hE⟩ := go d2 hI
      rw [if_pos h16, if_pos b1, if_pos b2, if_pos b3, if_pos b4, e1, sb_eq, if_pos b1, if_pos b2, if_pos b3, if_pos b4, e2, sb_eq, if_pos rfl] at F
      exact ⟨dyE, F.trans hE⟩
    rw [if_neg h16] at F
    by_cases h17 : op = (17 : Int32)
    · obtain ⟨r, d1, d2, e1, e2, hI⟩ := eq_fullest N (xs (iz (i : Int) + (1 : Int32)).toNatClampNeg) (xs (iz (i : Int) + (2 : Int32)).toNatClampNeg) (xs (iz (i : Int) + (3 : Int32)).toNatClampNeg) (xs (iz (i : Int) + (4 : Int32)).toNatClampNeg) dy (by omega) h
      obtain ⟨dyE, hE⟩ := go d2 hI
      rw [if_pos h17, if_pos b1, if_pos b2, if_pos b3, if_pos b4, e1, sb_eq, if_pos b1, if_pos b2, if_pos b3, if_pos b4, e2, sb_eq, if_pos rfl] at F
      exact ⟨dyE, F.trans hE⟩
    rw [if_neg h17] at F
    by_cases h18 : op = (18 : Int32)
    · obtain ⟨r, d1, d2, e1, e2, hI⟩ := eq_pillar N (xs (iz (i : Int) + (1 : Int32)).toNatClampNeg) (xs (iz (i : Int) + (2 : Int32)).toNatClampNeg) (xs (iz (i : Int) + (3 : Int32)).toNatClampNeg) (xs (iz (i : Int) + (4 : Int32)).toNatClampNeg) dy (by omega) h
      obtain ⟨dyE, hE⟩ := go d2 hI
      rw [if_pos h18, if_pos b1, if_pos b2, if_pos b3, if_pos b4, e1, sb_eq, if_pos b1, if_pos b2, if_pos b3, if_pos b4, e2, sb_eq, if_pos rfl] at F
      exact ⟨dyE, F.trans hE⟩
    rw [if_neg h18] at F
    by_cases h19 : op = (19 : Int32)
    · obtain ⟨r, d1, d2, e1, e2, hI⟩ := eq_cost N (xs (iz (i : Int) + (1 : Int32)).toNatClampNeg) (xs (iz (i : Int) + (2 : Int32)).toNatClampNeg) (xs (iz (i : Int) + (3 : Int32)).toNatClampNeg) (xs (iz (i : Int) + (4 : Int32)).toNatClampNeg) (xs (iz (i : Int) + (5 : Int32)).toNatClampNeg) dy (by omega) h
      obtain ⟨dyE, hE⟩ := go d2 hI
      rw [if_pos h19, if_pos b1, if_pos b2, if_pos b3, if_pos b4, if_pos b5, e1, sb_eq, if_pos b1, if_pos b2, if_pos b3, if_pos b4, if_pos b5, e2, sb_eq, if_pos rfl] at F
      exact ⟨dyE, F.trans hE⟩
    rw [if_neg h19] at F
    by_cases h20 : op = (20 : Int32)
    · obtain ⟨r, d1, d2, e1, e2, hI⟩ := eq_better N (xs (iz (i : Int) + (1 : Int32)).toNatClampNeg) (xs (iz (i : Int) + (2 : Int32)).toNatClampNeg) (xs (iz (i : Int) + (3 : Int32)).toNatClampNeg) dy (by omega) h
      obtain ⟨dyE, hE⟩ := go d2 hI
      rw [if_pos h20, if_pos b1, if_pos b2, if_pos b3, e1, sb_eq, if_pos b1, if_pos b2, if_pos b3, e2, sb_eq, if_pos rfl] at F
      exact ⟨dyE, F.trans hE⟩
    rw [if_neg h20] at F
    by_cases h21 : op = (21 : Int32)
    · obtain ⟨r, d1, d2, e1, e2, hI⟩ := eq_flow N (xs (iz (i : Int) + (1 : Int32)).toNatClampNeg) (xs (iz (i : Int) + (2 : Int32)).toNatClampNeg) (xs (iz (i : Int) + (3 : Int32)).toNatClampNeg) (xs (iz (i : Int) + (4 : Int32)).toNatClampNeg) dy (by omega) h
      obtain ⟨dyE, hE⟩ := go d2 hI
      rw [if_pos h21, if_pos b1, if_pos b2, if_pos b3, if_pos b4, e1, sb_eq, if_pos b1, if_pos b2, if_pos b3, if_pos b4, e2, sb_eq, if_pos rfl] at F
      exact ⟨dyE, F.trans hE⟩
    rw [if_neg h21] at F
    by_cases h22 : op = (22 : Int32)
    · obtain ⟨r, d1, d2, e1, e2, hI⟩ := eq_touch N (xs (iz (i : Int) + (1 : Int32)).toNatClampNeg) (xs (iz (i : Int) + (2 : Int32)).toNatClampNeg) (xs (iz (i : Int) + (3 : Int32)).toNatClampNeg) (xs (iz (i : Int) + (4 : Int32)).toNatClampNeg) (xs (iz (i : Int) + (5 : Int32)).toNatClampNeg) (xs (iz (i : Int) + (6 : Int32)).toNatClampNeg) dy (by omega) h
      obtain ⟨dyE, hE⟩ := go d2 hI
      rw [if_pos h22, if_pos b1, if_pos b2, if_pos b3, if_pos b4, if_pos b5, if_pos b6, e1, sb_eq, if_pos b1, if_pos b2, if_pos b3, if_pos b4, if_pos b5, if_pos b6, e2, sb_eq, if_pos rfl] at F
      exact ⟨dyE, F.trans hE⟩
    rw [if_neg h22] at F
    by_cases h23 : op = (23 : Int32)
    · obtain ⟨r, d1, d2, e1, e2, hI⟩ := eq_slack N (xs (iz (i : Int) + (1 : Int32)).toNatClampNeg) (xs (iz (i : Int) + (2 : Int32)).toNatClampNeg) (xs (iz (i : Int) + (3 : Int32)).toNatClampNeg) (xs (iz (i : Int) + (4 : Int32)).toNatClampNeg) (xs (iz (i : Int) + (5 : Int32)).toNatClampNeg) dy (by omega) h
      obtain ⟨dyE, hE⟩ := go d2 hI
      rw [if_pos h23, if_pos b1, if_pos b2, if_pos b3, if_pos b4, if_pos b5, e1, sb_eq, if_pos b1, if_pos b2, if_pos b3, if_pos b4, if_pos b5, e2, sb_eq, if_pos rfl] at F
      exact ⟨dyE, F.trans hE⟩
    rw [if_neg h23] at F
    by_cases h24 : op = (24 : Int32)
    · obtain ⟨r, d1, d2, e1, e2, hI⟩ := eq_opened N (xs (iz (i : Int) + (1 : Int32)).toNatClampNeg) (xs (iz (i : Int) + (2 : Int32)).toNatClampNeg) (xs (iz (i : Int) + (3 : Int32)).toNatClampNeg) (xs (iz (i : Int) + (4 : Int32)).toNatClampNeg) dy (by omega) h
      obtain ⟨dyE, hE⟩ := go d2 hI
      rw [if_pos h24, if_pos b1, if_pos b2, if_pos b3, if_pos b4, e1, sb_eq, if_pos b1, if_pos b2, if_pos b3, if_pos b4, e2, sb_eq, if_pos rfl] at F
      exact ⟨dyE, F.trans hE⟩
    rw [if_neg h24] at F
    by_cases h25 : op = (25 : Int32)
    · obtain ⟨r, d1, d2, e1, e2, hI⟩ := eq_fits N (xs (iz (i : Int) + (1 : Int32)).toNatClampNeg) (xs (iz (i : Int) + (2 : Int32)).toNatClampNeg) (xs (iz (i : Int) + (3 : Int32)).toNatClampNeg) dy (by omega) h
      obtain ⟨dyE, hE⟩ := go d2 hI
      rw [if_pos h25, if_pos b1, if_pos b2, if_pos b3, e1, sb_eq, if_pos b1, if_pos b2, if_pos b3, e2, sb_eq, if_pos rfl] at F
      exact ⟨dyE, F.trans hE⟩
    rw [if_neg h25] at F
    by_cases h26 : op = (26 : Int32)
    · obtain ⟨r, d1, d2, e1, e2, hI⟩ := iq_hat N (xs (iz (i : Int) + (1 : Int32)).toNatClampNeg) (xs (iz (i : Int) + (2 : Int32)).toNatClampNeg) (xs (iz (i : Int) + (3 : Int32)).toNatClampNeg) dy h
      obtain ⟨dyE, hE⟩ := go d2 hI
      rw [if_pos h26, if_pos b1, if_pos b2, if_pos b3, e1, sb_eq, if_pos b1, if_pos b2, if_pos b3, e2, sb_eq, if_pos rfl] at F
      exact ⟨dyE, F.trans hE⟩
    rw [if_neg h26] at F
    by_cases h27 : op = (27 : Int32)
    · obtain ⟨r, d1, d2, e1, e2, hI⟩ := iq_dark N  dy (by omega) h
      obtain ⟨dyE, hE⟩ := go d2 hI
      rw [if_pos h27, e1, sb_eq, e2, sb_eq, if_pos rfl] at F
      exact ⟨dyE, F.trans hE⟩
    rw [if_neg h27] at F
    by_cases h28 : op = (28 : Int32)
    · obtain ⟨r, d1, d2, e1, e2, hI⟩ := iq_match N (xs (iz (i : Int) + (1 : Int32)).toNatClampNeg) (xs (iz (i : Int) + (2 : Int32)).toNatClampNeg) (xs (iz (i : Int) + (3 : Int32)).toNatClampNeg) dy (by omega) h
      obtain ⟨dyE, hE⟩ := go d2 hI
      rw [if_pos h28, if_pos b1, if_pos b2, if_pos b3, e1, sb_eq, if_pos b1, if_pos b2, if_pos b3, e2, sb_eq, if_pos rfl] at F
      exact ⟨dyE, F.trans hE⟩
    rw [if_neg h28] at F
    by_cases h29 : op = (29 : Int32)
    · obtain ⟨r, d1, d2, e1, e2, hI⟩ := iq_worth N (xs (iz (i : Int) + (1 : Int32)).toNatClampNeg) (xs (iz (i : Int) + (2 : Int32)).toNatClampNeg) dy (by omega) h
      obtain ⟨dyE, hE⟩ := go d2 hI
      rw [if_pos h29, if_pos b1, if_pos b2, e1, sb_eq, if_pos b1, if_pos b2, e2, sb_eq, if_pos rfl] at F
      exact ⟨dyE, F.trans hE⟩
    rw [if_neg h29] at F
    by_cases h30 : op = (30 : Int32)
    · obtain ⟨r, d1, d2, e1, e2, hI⟩ := iq_track N (xs (iz (i : Int) + (1 : Int32)).toNatClampNeg) (xs (iz (i : Int) + (2 : Int32)).toNatClampNeg) (xs (iz (i : Int) + (3 : Int32)).toNatClampNeg) (xs (iz (i : Int) + (4 : Int32)).toNatClampNeg) dy (by omega) h
      obtain ⟨dyE, hE⟩ := go d2 hI
      rw [if_pos h30, if_pos b1, if_pos b2, if_pos b3, if_pos b4, e1, sb_eq, if_pos b1, if_pos b2, if_pos b3, if_pos b4, e2, sb_eq, if_pos rfl] at F
      exact ⟨dyE, F.trans hE⟩
    rw [if_neg h30] at F
    by_cases h31 : op = (31 : Int32)
    · obtain ⟨r, d1, d2, e1, e2, hI⟩ := iq_habit N (xs (iz (i : Int) + (1 : Int32)).toNatClampNeg) (xs (iz (i : Int) + (2 : Int32)).toNatClampNeg) (xs (iz (i : Int) + (3 : Int32)).toNatClampNeg) (xs (iz (i : Int) + (4 : Int32)).toNatClampNeg) (xs (iz (i : Int) + (5 : Int32)).toNatClampNeg) (xs (iz (i : Int) + (6 : Int32)).toNatClampNeg) dy (by omega) h
      obtain ⟨dyE, hE⟩ := go d2 hI
      rw [if_pos h31, if_pos b1, if_pos b2, if_pos b3, if_pos b4, if_pos b5, if_pos b6, e1, sb_eq, if_pos b1, if_pos b2, if_pos b3, if_pos b4, if_pos b5, if_pos b6, e2, sb_eq, if_pos ((lg0 _ _).mpr rfl)] at F
      exact ⟨dyE, F.trans hE⟩
    rw [if_neg h31] at F
    by_cases h32 : op = (32 : Int32)
    · obtain ⟨r, d1, d2, e1, e2, hI⟩ := iq_count N (xs (iz (i : Int) + (1 : Int32)).toNatClampNeg) dy h
      obtain ⟨dyE, hE⟩ := go d2 hI
      rw [if_pos h32, if_pos b1, e1, sb_eq, if_pos b1, e2, sb_eq, if_pos rfl] at F
      exact ⟨dyE, F.trans hE⟩
    rw [if_neg h32] at F
    by_cases h33 : op = (33 : Int32)
    · obtain ⟨r, d1, d2, e1, e2, hI⟩ := eq_image N (xs (iz (i : Int) + (1 : Int32)).toNatClampNeg) dy (by omega) h
      obtain ⟨dyE, hE⟩ := go d2 hI
      rw [if_pos h33, if_pos b1, e1, sb_eq, if_pos b1, e2, sb_eq, if_pos rfl] at F
      exact ⟨dyE, F.trans hE⟩
    rw [if_neg h33] at F
    by_cases h34 : op = (34 : Int32)
    · obtain ⟨r, d1, d2, e1, e2, hI⟩ := eq_again N (xs (iz (i : Int) + (1 : Int32)).toNatClampNeg) dy (by omega) h
      obtain ⟨dyE, hE⟩ := go d2 hI
      rw [if_pos h34, if_pos b1, e1, sb_eq, if_pos b1, e2, sb_eq, if_pos rfl] at F
      exact ⟨dyE, F.trans hE⟩
    rw [if_neg h34] at F
    obtain ⟨dyE, hE⟩ := go dy h
    exact ⟨dyE, F.trans hE⟩
