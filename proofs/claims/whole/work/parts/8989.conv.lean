/-! the older methods: what they leave -/
theorem Inv_part {d e : DY} (h : Inv d) (hT : tapeR e 2 0) (hB : ∀ i : Nat, i < 500 → nr 2 (gi e 511 (500 * 0 + i)) = gi e 511 (500 * 0 + i)) (hF : filmR e (2 + 33) 0) (hK : filmOk e (2 + 33)) (hX : ∀ y : Nat, y < 48 → gi e (2 + 33 + 2) y ≠ -1) (hc : ∀ x k : Nat, (x = 2 ∧ k ≠ 1) ∨ (6 ≤ x ∧ x ≤ 34 ∧ x ≠ 33 ∧ ¬ (x = 23 ∧ k = 8)) ∨ (41 ≤ x ∧ x ≤ 91) ∨ (240 ≤ x ∧ x ≤ 509) ∨ x = 93 → gi e x k = gi d x k) (hm : ∀ x k : Nat, (513 ≤ x ∧ x ≤ 524) ∨ (x = 511 ∧ 500 ≤ k) ∨ (x = 512 ∧ 1 ≤ k) ∨ (x = 525 ∧ 8 ≤ k) ∨ ((x = 526 ∨ x = 527) ∧ 48 ≤ k) ∨ (x = 531 ∧ k < 2880) ∨ x = 546 → gi e x k = gi d x k) : Inv e := by
  have r511 : rsz 511 = 500 := rfl
  have r512 : rsz 512 = 1 := rfl
  have r525 : rsz 525 = 8 := rfl
  have r526 : rsz 526 = 48 := rfl
  have r527 : rsz 527 = 48 := rfl
  have r531 : rsz 531 = 720 := rfl
  have sl : ∀ j : Nat, j < 3 → slot d e (j + 1) (j + 1) := fun j hj x hx i hi => by
    have hb := rC_in x hx
    refine hm _ _ ?_
    by_cases q1 : x = 511
    · subst q1; rw [r511] at hi ⊢; omega
    by_cases q2 : x = 512
    · subst q2; rw [r512] at hi ⊢; omega
    by_cases q3 : x = 525
    · subst q3; rw [r525] at hi ⊢; omega
    by_cases q4 : x = 526
    · subst q4; rw [r526] at hi ⊢; omega
    by_cases q5 : x = 527
    · subst q5; rw [r527] at hi ⊢; omega
    by_cases q6 : x = 531
    · subst q6; rw [r531] at hi ⊢; omega
    have : ∀ x ∈ rCells, x ≠ 531 → x ≤ 527 := by decide
    have := this x hx q6
    omega
  have hp9 : ∀ p ∈ pC, p.1 ≤ 9 := by decide
  have hp6 : ∀ p ∈ lC, p.1 ≤ 6 := by decide
  have hw : ∀ p ∈ wC, 1 ≤ p.1 ∧ p.1 ≤ 11 ∧ p.1 ≠ 10 := by decide
  have hwF : ∀ f ∈ wF, f ≠ 8 := by decide
  refine ⟨?_, fun k hk => ?_⟩
  · obtain ⟨_, _, ⟨g6, g7⟩, ⟨g8, g9⟩, g10, _, _, g14, g15, g16, g17, _⟩ := h.1
    have m : ∀ x k : Nat, 513 ≤ x → x ≤ 524 → gi e x k = gi d x k := fun x k a b => hm x k (Or.inl ⟨a, b⟩)
    have m531 : ∀ k : Nat, k < 720 → gi e 531 (720 * 0 + k) = gi d 531 (720 * 0 + k) := fun k hk => hm _ _ (by omega)
    refine ⟨hT, hB, ⟨?_, ?_⟩, ⟨?_, ?_⟩, ?_, hF, hK, fun k hk => ?_, fun k hk => ?_, ?_, ?_, hX⟩
    · rw [hc 2 2 (by omega), m 513 _ (by omega) (by omega)]; exact g6
    · rw [hc 2 3 (by omega), m 514 _ (by omega) (by omega)]; exact g7
    · rw [hc 2 5 (by omega), m 515 _ (by omega) (by omega)]; exact g8
    · rw [hc 2 7 (by omega), m 522 _ (by omega) (by omega)]; exact g9
    · unfold cntOk
      rw [hc 2 5 (by omega), hc 2 7 (by omega)]
      exact g10
    · exact PR_of (g14 k hk) ⟨fun f hf => hc _ f (by omega), fun p hp' i hi => hc _ i (by have := hp9 p hp'; omega)⟩ (m 516 _ (by omega) (by omega)) (m 517 _ (by omega) (by omega)) (m 518 _ (by omega) (by omega)) (m 519 _ (by omega) (by omega)) (fun i hi => m 520 _ (by omega) (by omega)) (fun i hi => m 521 _ (by omega) (by omega))
    · exact LR_of (g15 k hk) ⟨fun f hf => hc _ f (by omega), fun p hp' i hi => hc _ i (by have := hp6 p hp'; omega)⟩ (m 523 _ (by omega) (by omega)) (fun i hi => m 524 _ (by omega) (by omega))
    · rw [hc 2 11 (by omega), m531 10 (by omega)]; exact g16
    · rw [hc 2 11 (by omega)]
      rcases g17 with z | ⟨z, L, W, n, k⟩
      · exact Or.inl z
      · refine Or.inr ⟨z, L, W, n, RRx_of k ⟨fun f hf => hc _ f (by omega), fun p hp' i hi => hc _ i (by have := hp9 p hp'; omega)⟩ ⟨fun f hf => hc _ f (by omega), fun p hp' i hi => hc _ i (by have := hp6 p hp'; omega)⟩ ⟨fun f hf => hc _ f (by have := hwF f hf; omega), fun p hp' i hi => hc _ i (by have := hw p hp'; omega)⟩ m531⟩
  · obtain ⟨k1, k2⟩ := h.2 k hk
    rw [hc 93 k (by omega), hm 546 k (by omega)]
    refine ⟨k1, ?_⟩
    rcases k2 with z | ⟨z1, z2⟩
    · exact Or.inl z
    · exact Or.inr ⟨z1, TRel_of z2 (told_id d e _ (fun x i q1 q2 _ _ _ _ => hc x i (by omega))) (sl k (by omega))⟩
theorem inv_fr {d e : DY} (h : Inv d) (hf : ∀ a k : Nat, ¬ (a = 510 ∧ k = 0) → gi e a k = gi d a k) : Inv e := Inv_keep h (fun x k q => hf x k (by omega)) (fun x k q => hf x k (by omega))
theorem inv_stM {d e : DY} (h : Inv d) (hs : stM d e) : Inv e := Inv_keep h (fun x k q => hs.1 x k (by omega) (by omega) (by omega) (by omega) (by omega)) (fun x k q => hs.1 x k (by omega) (by omega) (by omega) (by omega) (by omega))
theorem iq_fault (N : Nat) (x : Int32) (dy : DY) (h : Inv dy) : ∃ r dy1 dy2, F_X9_fault Z0.1 N 1 x dy = some (r, dy1) ∧ F_X10_fault Z0.1 N 510 x dy1 = some (r, dy2) ∧ Inv dy2 := by
  obtain ⟨r, d1, d2, a, b, c⟩ := eq_fault N x dy h.1.2.2.1
  exact ⟨r, d1, d2, a, b, inv_fr h c⟩
theorem iq_count (N : Nat) (x : Int32) (dy : DY) (h : Inv dy) : ∃ r dy1 dy2, F_X9_count Z0.1 N 1 x dy = some (r, dy1) ∧ F_X10_count Z0.1 N 510 x dy1 = some (r, dy2) ∧ Inv dy2 := by
  obtain ⟨r, d1, d2, a, b, c⟩ := eq_count N x dy h.1.2.2.2.1 h.1.2.2.2.2.2.1
  exact ⟨r, d1, d2, a, b, inv_fr h c⟩
theorem iq_worth (N : Nat) (a b : Int32) (dy : DY) (hN : 65 ≤ N) (h : Inv dy) : ∃ r dy1 dy2, F_X9_worth Z0.1 N 1 a b dy = some (r, dy1) ∧ F_X10_worth Z0.1 N 510 a b dy1 = some (r, dy2) ∧ Inv dy2 := by
  obtain ⟨r, d1, d2, u, v, c⟩ := eq_worth N a b dy hN h.1.2.2.2.2.2.1 h.1.2.2.2.2.2.2.1
  exact ⟨r, d1, d2, u, v, inv_stM h c⟩
theorem iq_match (N : Nat) (a b c : Int32) (dy : DY) (hN : 65 ≤ N) (h : Inv dy) : ∃ r dy1 dy2, F_X9_match Z0.1 N 1 a b c dy = some (r, dy1) ∧ F_X10_match Z0.1 N 510 a b c dy1 = some (r, dy2) ∧ Inv dy2 := by
  obtain ⟨r, d1, d2, u, v, s⟩ := eq_match N a b c dy hN h.1.2.2.2.2.2.1 h.1.2.2.2.2.2.2.1
  exact ⟨r, d1, d2, u, v, inv_stM h s⟩
theorem iq_track (N : Nat) (a b c d : Int32) (dy : DY) (hN : 65 ≤ N) (h : Inv dy) : ∃ r dy1 dy2, F_X9_track Z0.1 N 1 a b c d dy = some (r, dy1) ∧ F_X10_track Z0.1 N 510 a b c d dy1 = some (r, dy2) ∧ Inv dy2 := by
  obtain ⟨r, d1, d2, u, v, s⟩ := eq_track N a b c d dy hN h.1.2.2.2.2.2.1 h.1.2.2.2.2.2.2.1
  exact ⟨r, d1, d2, u, v, inv_stM h s⟩
theorem iq_habit (N : Nat) (a b c d e f : Int32) (dy : DY) (hN : 10 ≤ N) (h : Inv dy) : ∃ r dy1 dy2, F_X9_habit Z0.1 N 1 a b c d e f dy = some (r, dy1) ∧ F_X10_habit Z0.1 N 510 a b c d e f dy1 = some (r, dy2) ∧ Inv dy2 := by
  obtain ⟨r, d1, d2, u, v, s, _⟩ := eq_habit N a b c d e f dy hN
  exact ⟨r, d1, d2, u, v, inv_fr h s⟩
theorem hat_col (N : Nat) (a b c : Int32) (dy d1 d2 : DY) (r : Int32) (h1 : filmR dy 35 0) (h2 : filmOk dy 35) (hX : ∀ y : Nat, y < 48 → gi dy (2 + 33 + 2) y ≠ -1) (u : F_X9_hat Z0.1 N 1 a b c dy = some (r, d1)) (v : F_X10_hat Z0.1 N 510 a b c d1 = some (r, d2)) : ∀ y : Nat, y < 48 → gi d2 (2 + 33 + 2) y ≠ -1 := by
  have hX : ∀ y : Nat, y < 48 → gi dy 37 y ≠ -1 := hX
  show ∀ y : Nat, y < 48 → gi d2 37 y ≠ -1
  by_cases no : b < 0 ∨ 100 ≤ b ∨ c < 0 ∨ 100 ≤ c ∨ a < 0 ∨ 8 ≤ a
  · have e1 := (Prod.mk.inj (Option.some.inj (u.symm.trans (c_hat_no N a b c dy no)))).2
    subst e1
    have l99 : ∀ x : Int32, 100 ≤ x → 99 < x := fun x hx => by
      obtain ⟨z, rfl, z1, z2⟩ := iz_ex x
      have := (iz_le (a := 100) (by omega) (by omega) z1 z2).mp hx
      exact iz_lti (a := 99) (by omega)
    have l7 : ∀ x : Int32, 8 ≤ x → 7 < x := fun x hx => by
      obtain ⟨z, rfl, z1, z2⟩ := iz_ex x
      have := (iz_le (a := 8) (by omega) (by omega) z1 z2).mp hx
      exact iz_lti (a := 7) (by omega)
    have e2 := (Prod.mk.inj (Option.some.inj (v.symm.trans (m_hat_no N a b c d1 (by
      rcases no with z | z | z | z | z | z
      · exact Or.inl z
      · exact Or.inr (Or.inl (l99 _ z))
      · exact Or.inr (Or.inr (Or.inl z))
      · exact Or.inr (Or.inr (Or.inr (Or.inl (l99 _ z))))
      · exact Or.inr (Or.inr (Or.inr (Or.inr (Or.inl z))))
      · exact Or.inr (Or.inr (Or.inr (Or.inr (Or.inr (l7 _ z)))))))))).2
    subst e2
    intro y hy
    rw [gi_si_if, if_neg (by omega)]
    exact hX y hy
  · simp only [not_or] at no
    obtain ⟨n0, n1, n2, n3, n4, n5⟩ := no
    obtain ⟨z, rfl, z1, z2⟩ := iz_ex a
    have z0 : 0 ≤ z := by
      rcases Int.lt_or_le z 0 with q | q
      · exact absurd (iz_lt0 ⟨q, z1⟩) n4
      · exact q
    have z8 : z < 8 := by
      rcases Int.lt_or_le z 8 with q | q
      · exact q
      · exact absurd (iz_lei (a := 8) (by omega)) n5
    obtain ⟨k, rfl⟩ : ∃ k : Nat, z = k := ⟨z.toNat, by omega⟩
    have n1' : ¬ 99 < b := fun q => by
      obtain ⟨w, rfl, w1, w2⟩ := iz_ex b
      have := (iz_lt (a := 99) (by omega) (by omega) w1 w2).mp q
      exact n1 (iz_lei (a := 100) (by omega))
    have n3' : ¬ 99 < c := fun q => by
      obtain ⟨w, rfl, w1, w2⟩ := iz_ex c
      have := (iz_lt (a := 99) (by omega) (by omega) w1 w2).mp q
      exact n3 (iz_lei (a := 100) (by omega))
    obtain ⟨hh, hk, h6⟩ := h2 k (by omega)
    have bn : b ≠ -1 := fun q => n0 (by rw [q]; decide)
    have hc := c_hat_yes N (iz k) b c dy n0 n1 n2 n3 n4 n5
    rw [c_add N k hh b c dy (by omega) hk h6, sb_eq] at hc
    have e1 := (Prod.mk.inj (Option.some.inj (u.symm.trans hc))).2
    have c37 : ∀ y : Nat, y < 48 → gi d1 37 y ≠ -1 := fun y hy => by
      rw [e1]
      by_cases e6 : hh = 6
      · rw [if_pos e6]; exact hX y hy
      · rw [if_neg e6]
        unfold hatC
        rw [gi_si_if, if_neg (by omega), gi_si_if, if_neg (by omega), gi_si_if]
        by_cases q : y = 6 * k + hh
        · rw [if_pos ⟨rfl, q⟩]; exact bn
        · rw [if_neg (fun w => q w.2)]; exact hX y hy
    have h525 : ∀ x : Nat, gi d1 525 x = gi dy 525 x := fun x => by
      rw [e1]
      by_cases e6 : hh = 6
      · rw [if_pos e6]
      · rw [if_neg e6]
        unfold hatC
        rw [gi_si_if, if_neg (by omega), gi_si_if, if_neg (by omega), gi_si_if, if_neg (by omega)]
    have k0 : gi d1 525 k = iz hh := by
      have := h1.1 k (by omega)
      rw [Nat.mul_zero, Nat.zero_add] at this
      rw [h525, ← this]; exact hk
    have hm := m_hat_yes N k hh b c d1 n0 n1' n2 n3' (by omega) k0 h6
    have e2 : d2 = (if hh = 6 then ((-1 : Int32), si d1 510 0 0) else (iz hh, hatM (si d1 510 0 0) k hh b c)).2 := congrArg Prod.snd (Option.some.inj (v.symm.trans hm))
    intro y hy
    rw [e2]
    by_cases e6 : hh = 6
    · rw [if_pos e6]
      show gi (si d1 510 0 0) 37 y ≠ -1
      rw [gi_si_if, if_neg (by omega)]
      exact c37 y hy
    · rw [if_neg e6]
      show gi (hatM (si d1 510 0 0) k hh b c) 37 y ≠ -1
      unfold hatM
      rw [gi_si_if, if_neg (by omega), gi_si_if, if_neg (by omega), gi_si_if, if_neg (by omega), gi_si_if, if_neg (by omega)]
      exact c37 y hy
theorem iq_hat (N : Nat) (a b c : Int32) (dy : DY) (h : Inv dy) : ∃ r dy1 dy2, F_X9_hat Z0.1 N 1 a b c dy = some (r, dy1) ∧ F_X10_hat Z0.1 N 510 a b c dy1 = some (r, dy2) ∧ Inv dy2 := by
  obtain ⟨⟨t1, t2, t3, t4⟩, tb, _, _, _, f1, f2, _, _, _, _, f3⟩ := h.1
  obtain ⟨r, d1, d2, u, v, g1, g2, s⟩ := eq_hat N a b c dy f1 f2
  have s' : ∀ x k : Nat, (x < 36 ∨ (38 < x ∧ x < 510) ∨ (510 < x ∧ (x < 525 ∨ 527 < x))) → gi d2 x k = gi dy x k := fun x k hx => s x k (by omega) (by omega) (by omega) (by omega) (by omega) (by omega) (by omega)
  refine ⟨r, d1, d2, u, v, Inv_part h ⟨?_, ?_, ?_, fun i hi => ?_⟩ (fun i hi => ?_) g1 g2 (hat_col N a b c dy d1 d2 r f1 f2 f3 u v) (fun x k hx => s' x k (by omega)) (fun x k hx => s x k (by omega) (by omega) (by omega) (by omega) (by omega) (by omega) (by omega))⟩
  · rw [s' 2 1 (by omega), s' 512 0 (by omega)]; exact t1
  · rw [s' 2 1 (by omega)]; exact t2
  · rw [s' 2 1 (by omega)]; exact t3
  · rw [s' (2 + 1) i (by omega), s' 511 _ (by omega)]; exact t4 i hi
  · rw [s' 511 _ (by omega)]; exact tb i hi
theorem iq_dark (N : Nat) (dy : DY) (hN : 9 ≤ N) (h : Inv dy) : ∃ r dy1 dy2, F_X9_dark Z0.1 N 1 dy = some (r, dy1) ∧ F_X10_dark Z0.1 N 510 dy1 = some (r, dy2) ∧ Inv dy2 := by
  obtain ⟨⟨t1, t2, t3, t4⟩, tb, _, _, _, f1, f2, _, _, _, _, f3⟩ := h.1
  obtain ⟨r, d1, d2, u, v, g1, g2, s⟩ := eq_dark N dy hN f1 f2
  have s' : ∀ x k : Nat, (x < 36 ∨ (38 < x ∧ x < 510) ∨ (510 < x ∧ (x < 525 ∨ 527 < x))) → gi d2 x k = gi dy x k := fun x k hx => s x k (by omega) (by omega) (by omega)
  refine ⟨r, d1, d2, u, v, Inv_part h ⟨?_, ?_, ?_, fun i hi => ?_⟩ (fun i hi => ?_) g1 g2 (fun y hy => by rw [s (2 + 33 + 2) y (by omega) (by omega) (by omega)]; exact f3 y hy) (fun x k hx => s' x k (by omega)) (fun x k hx => s x k (by omega) (by omega) (by omega))⟩
  · rw [s' 2 1 (by omega), s' 512 0 (by omega)]; exact t1
  · rw [s' 2 1 (by omega)]; exact t2
  · rw [s' 2 1 (by omega)]; exact t3
  · rw [s' (2 + 1) i (by omega), s' 511 _ (by omega)]; exact t4 i hi
  · rw [s' 511 _ (by omega)]; exact tb i hi
