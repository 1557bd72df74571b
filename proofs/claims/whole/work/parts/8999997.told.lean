/-! reading: what is told thereby -/
theorem Inv_read {d e : DY} (h : Inv d) (t1 : gi e 2 1 = 0) (t2 : gi e 512 0 = 0) (f1 : gi e 2 2 = gi e 513 0) (f2 : gi e 2 3 = gi e 514 0) (cR : cntR e 2 0) (cO : cntOk e 2) (hP : ∀ k : Nat, k < 3 → PR e (2 + 39 + 17 * k) (3 * 0 + k)) (hL : ∀ k : Nat, k < 3 → LR e (2 + 49 + 17 * k) (gi e 523 (3 * 0 + k)) 524 (288 * (3 * 0 + k))) (hc : ∀ x k : Nat, (x = 2 ∧ k = 11) ∨ (3 ≤ x ∧ x ≤ 40 ∧ x ≠ 33 ∧ x ≠ 39 ∧ x ≠ 40 ∧ ¬ (x = 23 ∧ k = 8)) ∨ (240 ≤ x ∧ x ≤ 509) ∨ x = 93 → gi e x k = gi d x k) (hm : ∀ x k : Nat, x = 511 ∨ ((x = 512 ∨ x = 513 ∨ x = 514 ∨ x = 515 ∨ x = 522) ∧ 1 ≤ k) ∨ ((x = 516 ∨ x = 517 ∨ x = 518 ∨ x = 519 ∨ x = 523) ∧ 3 ≤ k) ∨ ((x = 520 ∨ x = 521) ∧ 288 ≤ k) ∨ (x = 524 ∧ 864 ≤ k) ∨ (525 ≤ x ∧ x ≤ 527) ∨ (x = 531 ∧ k < 2880) ∨ x = 546 → gi e x k = gi d x k) : Inv e := by
  have sl : ∀ j : Nat, j < 3 → slot d e (j + 1) (j + 1) := fun j hj x hx i hi => by
    refine hm _ _ ?_
    have hb : x = 511 ∨ x = 512 ∨ x = 513 ∨ x = 514 ∨ x = 515 ∨ x = 516 ∨ x = 517 ∨ x = 518 ∨ x = 519 ∨ x = 520 ∨ x = 521 ∨ x = 522 ∨ x = 523 ∨ x = 524 ∨ x = 525 ∨ x = 526 ∨ x = 527 ∨ x = 531 := by
      have : ∀ x ∈ rCells, x = 511 ∨ x = 512 ∨ x = 513 ∨ x = 514 ∨ x = 515 ∨ x = 516 ∨ x = 517 ∨ x = 518 ∨ x = 519 ∨ x = 520 ∨ x = 521 ∨ x = 522 ∨ x = 523 ∨ x = 524 ∨ x = 525 ∨ x = 526 ∨ x = 527 ∨ x = 531 := by decide
      exact this x hx
    have s1 : ∀ y : Nat, y = 512 ∨ y = 513 ∨ y = 514 ∨ y = 515 ∨ y = 522 → rsz y = 1 := by
      intro y hy
      rcases hy with rfl | rfl | rfl | rfl | rfl <;> rfl
    have s3 : ∀ y : Nat, y = 516 ∨ y = 517 ∨ y = 518 ∨ y = 519 ∨ y = 523 → rsz y = 3 := by
      intro y hy
      rcases hy with rfl | rfl | rfl | rfl | rfl <;> rfl
    have s2 : ∀ y : Nat, y = 520 ∨ y = 521 → rsz y = 288 := by
      intro y hy
      rcases hy with rfl | rfl <;> rfl
    by_cases q1 : x = 512 ∨ x = 513 ∨ x = 514 ∨ x = 515 ∨ x = 522
    · rw [s1 x q1] at hi ⊢; omega
    by_cases q2 : x = 516 ∨ x = 517 ∨ x = 518 ∨ x = 519 ∨ x = 523
    · rw [s3 x q2] at hi ⊢; omega
    by_cases q3 : x = 520 ∨ x = 521
    · rw [s2 x q3] at hi ⊢; omega
    by_cases q4 : x = 524
    · rw [q4, show rsz 524 = 864 from rfl] at hi ⊢; omega
    by_cases q5 : x = 531
    · rw [q5, show rsz 531 = 720 from rfl] at hi ⊢; omega
    · omega
  have hp9 : ∀ p ∈ pC, p.1 ≤ 9 := by decide
  have hp6 : ∀ p ∈ lC, p.1 ≤ 6 := by decide
  have hw : ∀ p ∈ wC, 1 ≤ p.1 ∧ p.1 ≤ 11 ∧ p.1 ≠ 10 := by decide
  have hwF : ∀ f ∈ wF, f ≠ 8 := by decide
  refine ⟨?_, fun k hk => ?_⟩
  · obtain ⟨⟨_, _, _, g4⟩, g5, _, _, _, ⟨g11, g12⟩, g13, _, _, g16, g17, g18⟩ := h.1
    have m531 : ∀ k : Nat, k < 720 → gi e 531 (720 * 0 + k) = gi d 531 (720 * 0 + k) := fun k hk => hm _ _ (by omega)
    refine ⟨⟨by rw [t1, t2], by rw [t1]; decide, by rw [t1]; decide, fun i hi => ?_⟩, fun i hi => ?_, ⟨f1, f2⟩, cR, cO, ⟨fun i hi => ?_, fun i hi => ?_⟩, fun i hi => ?_, hP, hL, ?_, ?_, fun y hy => ?_⟩
    · rw [hc (2 + 1) i (by omega), hm 511 _ (by omega)]; exact g4 i hi
    · rw [hm 511 _ (by omega)]; exact g5 i hi
    · rw [hc (2 + 33 + 1) i (by omega), hm 525 _ (by omega)]; exact g11 i hi
    · rw [hc (2 + 33 + 2) i (by omega), hc (2 + 33 + 3) i (by omega), hm 526 _ (by omega), hm 527 _ (by omega)]; exact g12 i hi
    · rw [hc (2 + 33 + 1) i (by omega)]; exact g13 i hi
    · rw [hc 2 11 (by omega), m531 10 (by omega)]; exact g16
    · rw [hc 2 11 (by omega)]
      rcases g17 with z | ⟨z, L, W, n, k⟩
      · exact Or.inl z
      · refine Or.inr ⟨z, L, W, n, RRx_of k ⟨fun f hf => hc _ f (by omega), fun p hp' i hi => hc _ i (by have := hp9 p hp'; omega)⟩ ⟨fun f hf => hc _ f (by omega), fun p hp' i hi => hc _ i (by have := hp6 p hp'; omega)⟩ ⟨fun f hf => hc _ f (by have := hwF f hf; omega), fun p hp' i hi => hc _ i (by have := hw p hp'; omega)⟩ m531⟩
    · rw [hc (2 + 33 + 2) y (by omega)]; exact g18 y hy
  · obtain ⟨k1, k2⟩ := h.2 k hk
    rw [hc 93 k (by omega), hm 546 k (by omega)]
    refine ⟨k1, ?_⟩
    rcases k2 with z | ⟨z1, z2⟩
    · exact Or.inl z
    · exact Or.inr ⟨z1, TRel_of z2 (told_id d e _ (fun x i q1 q2 _ _ _ _ => hc x i (by omega))) (sl k (by omega))⟩
/-- is all well? -/
theorem good_both (N : Nat) {c m : DY} {v : Int32} (h : ENDS c m v) : F_X10_isGood Z0.1 N 510 v m = some (if gi c 94 6 = 0 then 1 else 0, si (si m 513 0 (gi c 94 6)) 514 0 (gi c 94 7)) := by
  have i4 : ib (0 : Int32) 4 := by decide
  have t0 : (0 : Int32).toNatClampNeg = 0 := rfl
  have g49 : ∀ (x : Int32) (d : DY), gi d 513 0 = gi c 94 6 → F_X10_isGood_49 Z0.1 N 510 (gr Z0.1 510 4) 0 x d = some (if gi c 94 6 = 0 then 1 else 0, si d 514 0 x) := fun x d hd => by
    rw [F_X10_isGood_49_s, if_pos i4, bd_eq, if_pos i4, r_510_3, r_510_4, t0, show gi (si d 514 0 x) 513 0 = gi c 94 6 from by rw [gi_si_if, if_neg (by omega)]; exact hd]
    by_cases z : gi c 94 6 = 0
    · rw [if_pos z, if_pos z]
    · rw [if_neg z, if_neg z]
  rcases h with ⟨rfl, w, b1, b2, b3, b4⟩ | ⟨rfl, f⟩
  · rw [F_X10_isGood_s, if_pos rfl, F_X10_isGood_17_s, if_pos i4, bd_eq, if_pos rfl, r_510_3, t0, g49 _ _ (by rw [gi_si_if, if_pos ⟨rfl, rfl⟩, b1])]
    rw [show gi (si m 513 0 1) 510 24 = iz w from by rw [gi_si_if, if_neg (by omega)]; exact b3, b1, b2]
  · rw [F_X10_isGood_s, if_neg (by decide), F_X10_isGood_17_s, if_pos i4, bd_eq, if_neg (by decide), r_510_3, t0]
    rcases f with ⟨a1, a2, a3⟩ | ⟨F, p, f1, f2, f3, f4, f5, f6⟩
    · rw [show gi (si m 513 0 (gi m 510 25)) 510 25 = 0 from by rw [gi_si_if, if_neg (by omega)]; exact a3, if_pos (by decide), g49 _ _ (by rw [gi_si_if, if_pos ⟨rfl, rfl⟩, a3, a1]), a3, a1, a2]
    · rw [show gi (si m 513 0 (gi m 510 25)) 510 25 = iz F from by rw [gi_si_if, if_neg (by omega)]; exact f5, if_neg (show ¬ iz (F : Int) ≤ 0 from iz_nle (b := 0) (by omega)), g49 _ _ (by rw [gi_si_if, if_pos ⟨rfl, rfl⟩, f5, f3]), show gi (si m 513 0 (gi m 510 25)) 510 26 = iz p from by rw [gi_si_if, if_neg (by omega)]; exact f6, f5, f3, f4]
/-- the tape taken, the first token -/
theorem first_both (N sz : Nat) (Z : Nat → Int) (c m : DY) (hN : 900 ≤ N) (h5 : sz ≤ 500) (a1 : gi c 94 1 = iz sz) (a2 : gi m 510 19 = iz sz) (b1 : BYT c Z) (b2 : BYM m Z) (d1 : gi c 94 4 = 0) (d2 : gi m 510 18 = 0) : ∃ (f : Nat) (c' m' : DY), F_X6_step Z0.1 N 94 c = some c' ∧ F_X10_token Z0.1 N 510 m = some m' ∧ TKS c' m' Z sz f ∧ frX c c' ∧ frY m m' := by
  obtain ⟨c', u1, u2, u3, u4, u5, u6⟩ := c_step N sz Z (by omega) h5 sz 0 N c (by omega) (by omega) a1 d1 b1
  obtain ⟨m', f', v0, v1, v2, v3, v4, v5, v6, v7, v8⟩ := m_tok N sz Z (by omega) h5 sz 0 N m (by omega) (by omega) a2 d2 b2
  subst v0
  have rb := rn_b Z isSp sz 0
  exact ⟨_, c', m', u1, v1, ⟨⟨h5, by omega⟩, ⟨(u6.1 94 1 (by omega)).trans a1, (v8.1 510 19 (by omega)).trans a2⟩, ⟨BYT_fr b1 u6, BYM_fr b2 v8⟩, ⟨u2, v2⟩, ⟨u4, v4⟩, ⟨u3, v3⟩, fun z => ⟨u5 z, v5 z⟩, v6, v7⟩, u6, v8⟩
