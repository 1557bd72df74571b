/-! feed upon Inv -/
theorem iq_feed (N : Nat) (hN : 5 ≤ N) (a b c d e : Int32) (dy : DY) (h : Inv dy) : ∃ r dy1 dy2, F_X9_feed Z0.1 N 1 a b c d e dy = some (r, dy1) ∧ F_X10_feed Z0.1 N 510 a b c d e dy1 = some (r, dy2) ∧ Inv dy2 := by
  obtain ⟨⟨t1, t2, t3, t4⟩, tb, _, _, _, f1, f2, _, _, _, _, f3⟩ := h.1
  obtain ⟨r, d1, d2, u, v, tp, fr⟩ := eq_feed N hN a b c d e dy h.1.1
  obtain ⟨z, hz, z1, z2⟩ := iz_ex (gi dy 2 1)
  rw [hz, iz_toInt z1 z2] at t2 t3
  obtain ⟨nb, rfl⟩ : ∃ nb : Nat, z = nb := ⟨z.toNat, by omega⟩
  have hn : nb ≤ 500 := by omega
  have uc := u.symm.trans (c_feed N hN a b c d e dy nb hz hn)
  by_cases hf : nb + 20 ≤ 500
  · rw [if_pos hf] at uc
    have e1 : d1 = fd5C a b c d e nb dy := (Prod.mk.inj (Option.some.inj uc)).2
    have o1 : ∀ x k : Nat, x ≠ 2 → x ≠ 3 → gi d1 x k = gi dy x k := fun x k q1 q2 => by
      rw [e1]
      exact fd5C_o a b c d e nb dy x k q1 q2
    have vm := v.symm.trans (m_feed N hN a b c d e d1 nb (by rw [o1 512 0 (by omega) (by omega), ← t1, hz]) hn)
    rw [if_pos hf] at vm
    have e2 : d2 = fd5M a b c d e nb (si d1 510 0 0) := (Prod.mk.inj (Option.some.inj vm)).2
    have B := BT_5 a b c d e nb (si d1 510 0 0) hf
    rw [← e2] at B
    have s511 : ∀ k : Nat, gi (si d1 510 0 0) 511 k = gi dy 511 k := fun k => by rw [gi_si_if, if_neg (by omega), o1 511 k (by omega) (by omega)]
    refine ⟨r, d1, d2, u, v, Inv_part h tp (fun i hi => ?_) ⟨fun i hi => ?_, fun i hi => ?_⟩ (fun i hi => ?_) (fun y hy => by rw [fr (2 + 33 + 2) y (by omega) (by omega) (by omega) (by omega) (by omega)]; exact f3 y hy) (fun x k hx => ?_) (fun x k hx => ?_)⟩
    · rw [Nat.mul_zero, Nat.zero_add]
      refine B.1 (fun j hj => ?_) i hi
      have := tb j hj
      rw [Nat.mul_zero, Nat.zero_add] at this
      rw [s511]
      exact this
    · rw [fr (2 + 33 + 1) i (by omega) (by omega) (by omega) (by omega) (by omega), fr 525 _ (by omega) (by omega) (by omega) (by omega) (by omega)]; exact f1.1 i hi
    · rw [fr (2 + 33 + 2) i (by omega) (by omega) (by omega) (by omega) (by omega), fr (2 + 33 + 3) i (by omega) (by omega) (by omega) (by omega) (by omega), fr 526 _ (by omega) (by omega) (by omega) (by omega) (by omega), fr 527 _ (by omega) (by omega) (by omega) (by omega) (by omega)]; exact f1.2 i hi
    · rw [fr (2 + 33 + 1) i (by omega) (by omega) (by omega) (by omega) (by omega)]; exact f2 i hi
    · exact fr x k (by omega) (by omega) (by omega) (by omega) (by omega)
    · by_cases q : x = 511
      · subst q
        rw [B.2 k (by omega), s511]
      · exact fr x k (by omega) q (by omega) (by omega) (by omega)
  · rw [if_neg hf] at uc
    have e1 : d1 = dy := (Prod.mk.inj (Option.some.inj uc)).2
    subst e1
    have vm := v.symm.trans (m_feed N hN a b c d e d1 nb (by rw [← t1, hz]) hn)
    rw [if_neg hf] at vm
    have e2 : d2 = si d1 510 0 0 := (Prod.mk.inj (Option.some.inj vm)).2
    exact ⟨r, d1, d2, u, v, by rw [e2]; exact inv_0 h⟩
