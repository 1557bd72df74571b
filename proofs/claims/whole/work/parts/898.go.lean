/-! the RUN goes on -/
theorem frCT_tr {w : Nat} {a b c : DY} (h : frCT w a b) (k : frCT w b c) : frCT w a c := ⟨fun x y p q => (k.1 x y p q).trans (h.1 x y p q), fun x y => (k.2 x y).trans (h.2 x y)⟩
theorem frMT_tr {r : Nat} {a b c : DY} (h : frMT r a b) (k : frMT r b c) : frMT r a c := ⟨fun x y p q s => (k.1 x y p q s).trans (h.1 x y p q s), fun x y => (k.2 x y).trans (h.2 x y)⟩
theorem go_loop (N a L W n : Nat) (hN : 400 ≤ N) (ha : a ≤ 200) : ∀ (q t kC kM : Nat) (s : Int32) (c m : DY), t + q = a → q < kC → q < kM → RRx (mixD c m) 6 16 23 0 id L W n n → gi m 510 45 = 0 → ∃ (s' : Int32) (c' m' : DY), F_X9_go_27 Z0.1 N kC 1 (iz a) s (iz t) c = some (s', c') ∧ F_X10_go_37 Z0.1 N kM 510 (iz a) s (iz t) m = some (s', m') ∧ RRx (mixD c' m') 6 16 23 0 id L W n n ∧ frCT 23 c c' ∧ frMT 0 m m' := by
  intro q
  induction q with
  | zero =>
    intro t kC kM s c m hq hC hM hR h45
    obtain ⟨kC, rfl⟩ : ∃ j, kC = j + 1 := ⟨kC - 1, by omega⟩
    obtain ⟨kM, rfl⟩ : ∃ j, kM = j + 1 := ⟨kM - 1, by omega⟩
    obtain rfl : t = a := by omega
    refine ⟨s, c, m, ?_, ?_, hR, ⟨fun _ _ _ _ => rfl, fun _ _ => rfl⟩, ⟨fun _ _ _ _ _ => rfl, fun _ _ => rfl⟩⟩
    · rw [F_X9_go_27_s, if_pos (Int32.le_refl _)]
    · rw [F_X10_go_37_s, if_pos (Int32.le_refl _)]
  | succ q ih =>
    intro t kC kM s c m hq hC hM hR h45
    obtain ⟨kC, rfl⟩ : ∃ j, kC = j + 1 := ⟨kC - 1, by omega⟩
    obtain ⟨kM, rfl⟩ : ∃ j, kM = j + 1 := ⟨kM - 1, by omega⟩
    obtain ⟨s1, c1, m1, u1, u2, u3, u4, u5⟩ := tenth_both N c m (by omega) cvg_run (by omega) hR h45
    obtain ⟨s', c', m', v1, v2, v3, v4, v5⟩ := ih (t + 1) kC kM (s + iz s1) c1 m1 (by omega) (by omega) (by omega) u3 (by rw [u5.1 510 45 (by omega) (by omega) (by omega)]; exact h45)
    have t1 : iz (t : Int) + (1 : Int32) = iz ((t + 1 : Nat) : Int) := iz_add t 1
    have nt : ¬ iz (a : Int) ≤ iz (t : Int) := iz_nle (by omega)
    refine ⟨s', c', m', ?_, ?_, v3, frCT_tr u4 v4, frMT_tr u5 v5⟩
    · rw [F_X9_go_27_s, if_neg nt, r_1_0, tb2.2.2, t1]
      exact bnd u1 v1
    · rw [F_X10_go_37_s, if_neg nt, t1]
      exact bnd u2 v2
/-- the RUN may be another -/
theorem Inv_run {d e : DY} (h : Inv d) (hc : ∀ x k : Nat, (2 ≤ x ∧ x ≤ 3 ∧ ¬ (x = 2 ∧ k = 11)) ∨ (35 ≤ x ∧ x ≤ 38) ∨ (41 ≤ x ∧ x ≤ 91) ∨ (240 ≤ x ∧ x ≤ 509) ∨ x = 93 → gi e x k = gi d x k) (hm : ∀ x k : Nat, (511 ≤ x ∧ x ≤ 527) ∨ (x = 531 ∧ 720 ≤ k ∧ k < 2880) ∨ x = 546 → gi e x k = gi d x k) (r1 : gi e 2 11 = gi e 531 10) (r2 : gi e 2 11 = 0 ∨ gi e 2 11 = 1 ∧ RRn e 6 16 23 0) : Inv e := by
  have sl : ∀ j : Nat, j < 3 → slot d e (j + 1) (j + 1) := fun j hj x hx i hi => by
    have hb := rC_in x hx
    refine hm _ _ ?_
    by_cases q : x = 531
    · subst q
      have : rsz 531 = 720 := rfl
      rw [this] at hi ⊢
      exact Or.inr (Or.inl ⟨rfl, by omega⟩)
    · have : ∀ x ∈ rCells, x ≠ 531 → x ≤ 527 := by decide
      have := this x hx q
      omega
  refine ⟨?_, fun k hk => ?_⟩
  · obtain ⟨⟨g1, g2, g3, g4⟩, g5, ⟨g6, g7⟩, ⟨g8, g9⟩, g10, ⟨g11, g12⟩, g13, g14, g15, _, _, g18⟩ := h.1
    have m : ∀ x k : Nat, 511 ≤ x → x ≤ 527 → gi e x k = gi d x k := fun x k a b => hm x k (Or.inl ⟨a, b⟩)
    refine ⟨⟨?_, ?_, ?_, fun i hi => ?_⟩, fun i hi => ?_, ⟨?_, ?_⟩, ⟨?_, ?_⟩, ?_, ⟨fun i hi => ?_, fun i hi => ?_⟩, fun i hi => ?_, fun k hk => ?_, fun k hk => ?_, r1, r2, fun y hy => by rw [hc (2 + 33 + 2) y (by omega)]; exact g18 y hy⟩
    · rw [hc 2 1 (by omega), m 512 _ (by omega) (by omega)]; exact g1
    · rw [hc 2 1 (by omega)]; exact g2
    · rw [hc 2 1 (by omega)]; exact g3
    · rw [hc (2 + 1) i (by omega), m 511 _ (by omega) (by omega)]; exact g4 i hi
    · rw [m 511 _ (by omega) (by omega)]; exact g5 i hi
    · rw [hc 2 2 (by omega), m 513 _ (by omega) (by omega)]; exact g6
    · rw [hc 2 3 (by omega), m 514 _ (by omega) (by omega)]; exact g7
    · rw [hc 2 5 (by omega), m 515 _ (by omega) (by omega)]; exact g8
    · rw [hc 2 7 (by omega), m 522 _ (by omega) (by omega)]; exact g9
    · unfold cntOk
      rw [hc 2 5 (by omega), hc 2 7 (by omega)]
      exact g10
    · rw [hc (2 + 33 + 1) i (by omega), m 525 _ (by omega) (by omega)]; exact g11 i hi
    · rw [hc (2 + 33 + 2) i (by omega), hc (2 + 33 + 3) i (by omega), m 526 _ (by omega) (by omega), m 527 _ (by omega) (by omega)]; exact g12 i hi
    · rw [hc (2 + 33 + 1) i (by omega)]; exact g13 i hi
    · have hp : ∀ p ∈ pC, p.1 ≤ 9 := by decide
      exact PR_of (g14 k hk) ⟨fun f hf => hc _ f (by omega), fun p hp' i hi => hc _ i (by have := hp p hp'; omega)⟩ (m 516 _ (by omega) (by omega)) (m 517 _ (by omega) (by omega)) (m 518 _ (by omega) (by omega)) (m 519 _ (by omega) (by omega)) (fun i hi => m 520 _ (by omega) (by omega)) (fun i hi => m 521 _ (by omega) (by omega))
    · have hl : ∀ p ∈ lC, p.1 ≤ 6 := by decide
      exact LR_of (g15 k hk) ⟨fun f hf => hc _ f (by omega), fun p hp' i hi => hc _ i (by have := hl p hp'; omega)⟩ (m 523 _ (by omega) (by omega)) (fun i hi => m 524 _ (by omega) (by omega))
  · obtain ⟨k1, k2⟩ := h.2 k hk
    rw [hc 93 k (by omega), hm 546 k (by omega)]
    refine ⟨k1, ?_⟩
    rcases k2 with z | ⟨z1, z2⟩
    · exact Or.inl z
    · exact Or.inr ⟨z1, TRel_of z2 (told_id d e _ (fun x i q1 q2 _ _ _ _ => hc x i (by omega))) (sl k (by omega))⟩
